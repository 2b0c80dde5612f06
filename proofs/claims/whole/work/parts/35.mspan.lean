/-! ===== the model reads: spans ===== -/
theorem hself (c : RS) (ws : List (List Nat)) (h : nWo (rCur c) = ws) : rCur c = nsWo (rCur c) (wApp ws []) := by
  show rCur c = nsWo (rCur c) ws
  conv => rhs; rw [← h]
  rfl
set_option maxRecDepth 100000 in
set_option maxHeartbeats 4000000 in
theorem cX9_span_ (E : GE) (k : Nat) (tp : List Nat) (a : Nat) (s : RS) (M : Mem) (hP : Ps M tp a) (hC : Cn tp a s) (hk : k < 25) (u : RS) (hPC : PC s u) (hpt : mPt M k (rCur u)) (hcnt : aI M 129 k = 0) (hfst : a < tp.length ∧ (tp.getD a 0 = 91 ∨ tp.getD a 0 = 123)) : Sp E mX9_span 2 0 0 [.ref 121, .int (nI k)] SH M (pM M tp k (gCore tp k u)) := by
  refine sp_of vX9_span.1 rfl (Nat.le_of_ble_eq_true rfl) ?_
  have hb := tp_lt hP.2.1
  have h240 := hP.2.1.2.1
  have hG := hP.1
  have hkin : vp_in (nI k) 25 := vp_in_nI hk (by decide)
  have hkcl : (nI k).toNatClampNeg = k := nI_clamp (by omega)
  obtain ⟨hpc, hf0, hfk, hfw, hfd⟩ := hPC
  have hvx : hv tp a = nI (tp.getD a 0) := if_pos hfst.1
  have J21 : ∀ x : Int32, x = (if tp.getD a 0 = 123 then (1 : Int32) else 0) → Wp (xM E mX9_span 2 0 0 SH.length (pM M tp k (gCore tp k u))) 0 0 21 [(0, .ref 121), (1, .int (nI k))] [.int x] SH (sA M 123 k 2) := by
    intro x hx
    have J36 : Wp (xM E mX9_span 2 0 0 SH.length (pM M tp k (gCore tp k u))) 0 0 36 [(2, .int x), (0, .ref 121), (1, .int (nI k))] [.int x, .int (nI k), .ref 127] SH (sA M 123 k 2) := by
      have e23 : fI (sA (sA M 123 k 2) 127 k x) 121 23 + 1 = nI (a + 1) := at_inc hP
      have hC1 : Cn tp (a + 1) (rWord (rNd u (nsDe (nsCo (rCur u) 2) x)) 0 10) := Cn_step hC hfst.1 (by
        rw [hpc _ (Or.inr ⟨by omega, by omega⟩)]
        unfold rCore
        rw [if_neg (by omega), if_neg (by omega), if_pos hfst.2, hx])
      obtain ⟨M1, hM1⟩ : ∃ M1, M1 = sI (sA (sA M 123 k 2) 127 k x) 121 23 (nI (a + 1)) := ⟨_, rfl⟩
      have hF1 : mPF M M1 := by rw [hM1]; exact ((Fr.rf.sA (by simp)).sA (by simp)).sI (by simp)
      have hN1 : NF k M M1 := by rw [hM1]; exact ((NF.rf.sA (by unfold inK; omega)).sA (by unfold inK; omega)).sI
      have hP1 : Ps M1 tp (a + 1) := hP.fr hF1 (by rw [hM1]; rfl) hfst.1
      have hpt1 : mPt M1 k (rCur u) := by
        rw [hM1]
        refine ⟨?_, ?_, ?_, ?_⟩
        · rw [aI_sI, aI_sA, if_neg (by omega), aI_sA, if_neg (by omega)]; exact hpt.1
        · rw [aI_sI, aI_sA, if_neg (by omega), aI_sA, if_neg (by omega)]; exact hpt.2.1
        · rw [aI_sI, aI_sA, if_neg (by omega), aI_sA, if_neg (by omega)]; exact hpt.2.2.1
        · rw [aI_sI, aI_sA, if_neg (by omega), aI_sA, if_neg (by omega)]; exact hpt.2.2.2
      have f123 : aI M1 123 k = 2 := by rw [hM1, aI_sI, aI_sA, if_neg (by omega), aI_sA, if_pos ⟨rfl, rfl⟩]
      have f127 : aI M1 127 k = x := by rw [hM1, aI_sI, aI_sA, if_pos ⟨rfl, rfl⟩]
      have hmw1 : mW M1 k [] := ⟨by rw [hM1, aI_sI, aI_sA, if_neg (by omega), aI_sA, if_neg (by omega)]; exact hcnt, fun j hj => absurd hj (Nat.not_lt_zero j)⟩
      have h24 : fI M1 121 24 = fI M 121 24 := by rw [hM1]; rfl
      have h3 : fI M1 121 3 = fI M 121 3 := by rw [hM1]; rfl
      have hcur1 : rCur (rWord (rNd u (nsDe (nsCo (rCur u) 2) x)) 0 10) = nsDe (nsCo (rCur u) 2) x := rCur_nd u _
      have hnw1 : nWo (rCur (rWord (rNd u (nsDe (nsCo (rCur u) 2) x)) 0 10)) = [] := by rw [hcur1]; exact hfw
      obtain ⟨c1, hc1⟩ : ∃ c1, c1 = rWord (rNd u (nsDe (nsCo (rCur u) 2) x)) 0 10 := ⟨_, rfl⟩
      have hst1 : qSt c1 = 10 := by rw [hc1]; rfl
      have hSF1 : SF u c1 := by rw [hc1]; exact (SF_nd _ _).tr (SF_word _ _ _)
      have hwo1 : wOk c1 := by rw [hc1]; exact wOk_word 0 10 (by decide) (by have : nWo (rCur (rNd u (nsDe (nsCo (rCur u) 2) x))) = [] := hnw1; rw [this]; rfl)
      have hsg1 : qSg c1 = 0 := by rw [hc1]; rfl
      have hqw1 : qWn c1 = 0 := by rw [hc1]; rfl
      rw [← hc1] at hC1 hcur1 hnw1
      have hlet : ∀ (c : RS), qSt c = 10 → qSg c = 0 → (∀ b, isLt b → dl c b = some (rGo (rSign c b) 11)) ∧ (∀ b, ¬ isLt b → dl c b = none) ∧ ¬ rWhole c := fun c h1 h2 => ⟨fun b hbl => by rw [dln h1]; exact if_pos ⟨by rw [h2]; decide, hbl⟩, fun b hbl => by rw [dln h1]; exact if_neg (fun h => hbl h.2), nwh (by rw [h1]; decide)⟩
      refine wp_iastore dX9_span_36 rfl hkin ?_
      refine wp_aload_n dX9_span_37 rfl ?_
      refine wp_dup dX9_span_38 rfl ?_
      refine wp_getI dX9_span_39 fl_X9_124 rfl rfl ?_
      refine wp_iconst (v := 1) dX9_span_42 rfl ?_
      refine wp_iadd dX9_span_43 ?_
      refine wp_putI dX9_span_44 fl_X9_124 rfl rfl (fun _ _ _ h => by cases h; rfl) rfl rfl ?_
      rw [hkcl, e23, ← hM1]
      refine wp_aload_n dX9_span_47 rfl ?_
      refine wp_iload_n dX9_span_48 rfl ?_
      refine wp_cV1p dX9_span_49 ml_X9_154 vX9_letters ⟨8, (RX9, TX9, 39), rfl, rfl, rfl⟩ (cX9_letters_ E k tp (a + 1) c1 M1 hP1 hC1 hk c1 11 [] (Or.inr rfl) (by decide) (fun j hj => absurd hj (Nat.not_lt_zero j)) hmw1 (hlet c1 hst1 hsg1).1 (fun _ h => (hlet c1 hst1 hsg1).2.1 _ h) (hlet c1 hst1 hsg1).2.2 (hself c1 [] hnw1) hsg1 hqw1 hwo1 SF.rf) (Nat.le_of_ble_eq_true rfl) (Nat.le_of_ble_eq_true rfl) (Nat.le_of_ble_eq_true rfl) (Nat.le_refl _) (Nat.le_refl _) (fun v sh1 M1 hq => ?_)
      obtain ⟨rfl, hF3, hN3, hq⟩ := hq
      rcases hq with ⟨rfl, hbd⟩ | ⟨rfl, g24, g3, a2, s2, hP3, hC3, hst3, hsg3, hqw3, hSF3, hnl3, hpp3, w, hwn, hw88, hwl, hcur3, hmw3⟩
      · refine wp_if_ne (tgt := 57) dX9_span_52 (by decide) (fun c => absurd rfl c) (fun c => ?_)
        refine wp_iconst (v := 0) dX9_span_55 rfl ?_
        refine wp_ireturn dX9_span_56 rfl rfl (Nat.zero_le _) (Nat.zero_le _) ?_
        exact ⟨rfl, hF1.tr hF3, hN1.tr hN3, Or.inl ⟨rfl, hbd⟩⟩
      · refine wp_if_ne (tgt := 57) dX9_span_52 (by decide) (fun c52 => ?_) (fun c52 => absurd c52 (by decide))
        refine wp_iconst (v := 0) dX9_span_57 rfl ?_
        refine wp_istore_n dX9_span_58 (Nat.le_of_ble_eq_true rfl) ?_
        have hcur4 : rCur s2 = nsWo (nsDe (nsCo (rCur u) 2) x) [w] := by rw [hcur3, hcur1]; rfl
        have hpt4 := mPt_p hpt1 hpp3
        have e123 := (hpp3 123 (by decide) (by decide)).trans f123
        have e127 := (hpp3 127 (by decide) (by decide)).trans f127
        have hF4 := hF1.tr hF3
        have hN4 := hN1.tr hN3
        have hwn0 : qWn s2 = 0 := hqw3
        refine wp_iload_n dX9_span_59 rfl ?_
        refine wp_iconst (v := 2) dX9_span_60 rfl ?_
        refine wp_icmp_ge (tgt := 94) dX9_span_61 (by decide) (fun c61 => absurd c61 (by decide)) (fun c61 => ?_)
        refine wp_aload_n dX9_span_64 rfl ?_
        refine wp_cV0i dX9_span_65 ml_X9_134 vX9_here ⟨8, (RX9, TX9, 39), rfl, rfl, rfl⟩ (cX9_hereN E _ tp a2 hP3) (Nat.le_of_ble_eq_true rfl) (Nat.le_of_ble_eq_true rfl) (Nat.le_of_ble_eq_true rfl) ?_
        refine wp_bipush (v := 46) dX9_span_68 (by decide) ?_
        refine wp_icmp_eq (tgt := 78) dX9_span_70 (by decide) (fun c70 => ?_) (fun c70 => ?_)
        · refine wp_aload_n dX9_span_78 rfl ?_
          refine wp_dup dX9_span_79 rfl ?_
          refine wp_getI dX9_span_80 fl_X9_124 rfl rfl ?_
          refine wp_iconst (v := 1) dX9_span_83 rfl ?_
          refine wp_iadd dX9_span_84 ?_
          refine wp_putI dX9_span_85 fl_X9_124 rfl rfl (fun _ _ _ h => by cases h; rfl) rfl rfl ?_
          refine wp_iinc dX9_span_88 rfl (i_pos1 _) (Nat.le_of_ble_eq_true rfl) ?_
          refine wp_goto (tgt := 59) dX9_span_91 (by decide) ?_
          have d1 := (hv_is (c := 46) (hb a2) (by decide)).mp c70
          rw [at_inc hP3]
          have hP5 := Ps_at hP3 d1.1
          have hC5 : Cn tp (a2 + 1) (rGo s2 12) := Cn_step hC3 d1.1 (by rw [dln hst3, d1.2]; show rSpan s2 46 = _; unfold rSpan; rw [if_pos ⟨hwn0, rfl⟩])
          refine wp_iload_n dX9_span_59 rfl ?_
          refine wp_iconst (v := 2) dX9_span_60 rfl ?_
          refine wp_icmp_ge (tgt := 94) dX9_span_61 (by decide) (fun cb61 => absurd cb61 (by decide)) (fun cb61 => ?_)
          refine wp_aload_n dX9_span_64 rfl ?_
          refine wp_cV0i dX9_span_65 ml_X9_134 vX9_here ⟨8, (RX9, TX9, 39), rfl, rfl, rfl⟩ (cX9_hereN E _ tp _ hP5) (Nat.le_of_ble_eq_true rfl) (Nat.le_of_ble_eq_true rfl) (Nat.le_of_ble_eq_true rfl) ?_
          refine wp_bipush (v := 46) dX9_span_68 (by decide) ?_
          refine wp_icmp_eq (tgt := 78) dX9_span_70 (by decide) (fun cb70 => ?_) (fun cb70 => ?_)
          · refine wp_aload_n dX9_span_78 rfl ?_
            refine wp_dup dX9_span_79 rfl ?_
            refine wp_getI dX9_span_80 fl_X9_124 rfl rfl ?_
            refine wp_iconst (v := 1) dX9_span_83 rfl ?_
            refine wp_iadd dX9_span_84 ?_
            refine wp_putI dX9_span_85 fl_X9_124 rfl rfl (fun _ _ _ h => by cases h; rfl) rfl rfl ?_
            refine wp_iinc dX9_span_88 rfl (i_pos1 _) (Nat.le_of_ble_eq_true rfl) ?_
            refine wp_goto (tgt := 59) dX9_span_91 (by decide) ?_
            have d2 := (hv_is (c := 46) (hb (a2 + 1)) (by decide)).mp cb70
            rw [at_inc hP5]
            have hP6 := Ps_at hP5 d2.1
            have hC6 : Cn tp (a2 + 1 + 1) (rWord (rGo s2 12) 1 10) := Cn_step hC5 d2.1 (by rw [d2.2]; rfl)
            have hwo6 : wOk (rWord (rGo s2 12) 1 10) := wOk_word 1 10 (by decide) (by have : nWo (rCur (rGo s2 12)) = [w] := congrArg nWo hcur4; rw [this]; rfl)
            have hl6 := hlet (rWord (rGo s2 12) 1 10) rfl rfl
            refine wp_iload_n dX9_span_59 rfl ?_
            refine wp_iconst (v := 2) dX9_span_60 rfl ?_
            refine wp_icmp_ge (tgt := 94) dX9_span_61 (by decide) (fun cc61 => ?_) (fun cc61 => absurd (by decide) cc61)
            refine wp_aload_n dX9_span_94 rfl ?_
            refine wp_iload_n dX9_span_95 rfl ?_
            refine wp_cV1p dX9_span_96 ml_X9_154 vX9_letters ⟨8, (RX9, TX9, 39), rfl, rfl, rfl⟩ (cX9_letters_ E k tp (a2 + 1 + 1) (rWord (rGo s2 12) 1 10) _ hP6 hC6 hk (rWord (rGo s2 12) 1 10) 11 [w] (Or.inr rfl) (show 1 ≤ 4 by decide) (fun j hj => by rw [show j = 0 from Nat.lt_one_iff.mp hj]; exact hw88) hmw3 hl6.1 (fun _ h => hl6.2.1 _ h) hl6.2.2 (hself _ [w] (congrArg nWo hcur4)) rfl rfl hwo6 SF.rf) (Nat.le_of_ble_eq_true rfl) (Nat.le_of_ble_eq_true rfl) (Nat.le_of_ble_eq_true rfl) (Nat.le_refl _) (Nat.le_refl _) (fun v sh1 M1 hq => ?_)
            obtain ⟨rfl, hF7, hN7, hq⟩ := hq
            rcases hq with ⟨rfl, hbd⟩ | ⟨rfl, k24, k3, a5, s5, hP7, hC7, hst7, hsg7, hqw7, hSF7, hnl7, hpp7, w2, hwn7, hw887, hwl7, hcur7, hmw7⟩
            · refine wp_if_ne (tgt := 104) dX9_span_99 (by decide) (fun c => absurd rfl c) (fun c => ?_)
              refine wp_iconst (v := 0) dX9_span_102 rfl ?_
              refine wp_ireturn dX9_span_103 rfl rfl (Nat.zero_le _) (Nat.zero_le _) ?_
              exact ⟨rfl, ((hF4.sI (by simp)).sI (by simp)).tr hF7, ((hN4.sI).sI).tr hN7, Or.inl ⟨rfl, hbd⟩⟩
            · refine wp_if_ne (tgt := 104) dX9_span_99 (by decide) (fun cc99 => ?_) (fun cc99 => absurd cc99 (by decide))
              have hF8 := ((hF4.sI (p := 121) (f := 23) (x := nI (a2 + 1)) (by simp)).sI (p := 121) (f := 23) (x := nI (a2 + 1 + 1)) (by simp)).tr hF7
              have hN8 := ((hN4.sI (p := 121) (f := 23) (x := nI (a2 + 1))).sI (p := 121) (f := 23) (x := nI (a2 + 1 + 1))).tr hN7
              have hcur8 : rCur s5 = nsWo (nsDe (nsCo (rCur u) 2) x) ([w] ++ [w2]) := by
                rw [hcur7]
                have : rCur (rWord (rGo s2 12) 1 10) = nsWo (nsDe (nsCo (rCur u) 2) x) [w] := hcur4
                rw [this]; rfl
              have hde8 : nDe (rCur s5) = x := by rw [hcur8]; rfl
              have hmn8 := mN_of (mPt_p (M := sI (sI _ 121 23 (nI (a2 + 1))) 121 23 (nI (a2 + 1 + 1))) hpt4 hpp7) ((hpp7 123 (by decide) (by decide)).trans e123) ((hpp7 127 (by decide) (by decide)).trans e127) hmw7 (by decide)
              have hSF8 : SF u s5 := ((hSF1.tr hSF3).tr ((SF_go s2 12).tr (SF_word _ 1 10))).tr hSF7
              have hcl : ∀ y : Int32, y = nI (if tp.getD a 0 = 123 then 125 else 93) → Wp (xM E mX9_span 2 0 0 SH.length (pM M tp k (gCore tp k u))) 0 0 119 [(3, .int 2), (2, .int x), (0, .ref 121), (1, .int (nI k))] [.int y, .int (hv tp a5)] SH M1 := by
                intro y hy
                have hbr : (if nDe (rCur s5) = 1 then 125 else 93) = (if tp.getD a 0 = 123 then 125 else 93) := by
                  rw [hde8, hx]
                  by_cases e : tp.getD a 0 = 123
                  · rw [if_pos e, if_pos e, if_pos rfl]
                  · rw [if_neg e, if_neg e, if_neg (by decide)]
                subst hy
                refine wp_icmp_eq (tgt := 127) dX9_span_119 (by decide) (fun c119 => ?_) (fun c119 => ?_)
                · refine wp_aload_n dX9_span_127 rfl ?_
                  refine wp_dup dX9_span_128 rfl ?_
                  refine wp_getI dX9_span_129 fl_X9_124 rfl rfl ?_
                  refine wp_iconst (v := 1) dX9_span_132 rfl ?_
                  refine wp_iadd dX9_span_133 ?_
                  refine wp_putI dX9_span_134 fl_X9_124 rfl rfl (fun _ _ _ h => by cases h; rfl) rfl rfl ?_
                  refine wp_iconst (v := 1) dX9_span_137 rfl ?_
                  refine wp_ireturn dX9_span_138 rfl rfl (Nat.zero_le _) (Nat.zero_le _) ?_
                  have d3 := (hv_is (hb a5) (by split <;> decide)).mp c119
                  rw [at_inc hP7]
                  have hC9 : Cn tp (a5 + 1) (rGo s5 15) := Cn_step hC7 d3.1 (by
                    rw [dln hst7]
                    show rSpan s5 _ = _
                    unfold rSpan
                    rw [if_neg (fun h => by rw [hqw7] at h; exact absurd h.1 (Nat.succ_ne_zero 0)), if_pos ⟨hqw7, by rw [d3.2, hbr]⟩])
                  refine ⟨rfl, hF8.sI (by simp), hN8.sI, Or.inr ⟨rfl, (k24.trans g24).trans h24, (k3.trans g3).trans h3, a5 + 1, rGo s5 15, Ps_at hP7 d3.1, hC9, eOk_15 rfl, hSF8.tr (SF_go _ _), ?_⟩⟩
                  show mNode 123 _ k (rCur s5)
                  rw [hcur8]
                  exact hmn8
                · refine wp_aload_n dX9_span_122 rfl ?_
                  refine wp_cV0i dX9_span_123 ml_X9_142 vX9_fails ⟨8, (RX9, TX9, 39), rfl, rfl, rfl⟩ (cX9_fails_ E _) (Nat.le_of_ble_eq_true rfl) (Nat.le_of_ble_eq_true rfl) (Nat.le_of_ble_eq_true rfl) ?_
                  refine wp_ireturn dX9_span_126 rfl rfl (Nat.zero_le _) (Nat.zero_le _) ?_
                  refine pM_bad hF8 hN8 hP7 hC7 (fun q => ?_) (fun _ => nwh (by rw [hst7]; decide))
                  rw [dln hst7]
                  show rSpan s5 _ = none
                  unfold rSpan
                  rw [if_neg (fun h => by rw [hqw7] at h; exact absurd h.1 (Nat.succ_ne_zero 0)), if_neg (fun h => c119 ((hv_is (hb a5) (by split <;> decide)).mpr ⟨q, by rw [h.2, hbr]⟩))]
                  exact if_neg (fun h => hnl7 q h.2)
              refine wp_aload_n dX9_span_104 rfl ?_
              refine wp_cV0i dX9_span_105 ml_X9_134 vX9_here ⟨8, (RX9, TX9, 39), rfl, rfl, rfl⟩ (cX9_hereN E _ tp a5 hP7) (Nat.le_of_ble_eq_true rfl) (Nat.le_of_ble_eq_true rfl) (Nat.le_of_ble_eq_true rfl) ?_
              refine wp_iload_n dX9_span_108 rfl ?_
              refine wp_if_eq (tgt := 117) dX9_span_109 (by decide) (fun c109 => ?_) (fun c109 => ?_)
              · refine wp_bipush (v := 93) dX9_span_117 (by decide) ?_
                have e : ¬ tp.getD a 0 = 123 := fun e => by rw [hx, if_pos e] at c109; exact absurd c109 (by decide)
                exact wp_lv (hcl 93 (by rw [if_neg e]; rfl)) (by repeat (first | exact trivial | refine ⟨rfl, ?_⟩))
              · refine wp_bipush (v := 125) dX9_span_112 (by decide) ?_
                refine wp_goto (tgt := 119) dX9_span_114 (by decide) ?_
                have e : tp.getD a 0 = 123 := Decidable.byContradiction fun e => c109 (by rw [hx, if_neg e])
                exact wp_lv (hcl 125 (by rw [if_pos e]; rfl)) (by repeat (first | exact trivial | refine ⟨rfl, ?_⟩))
          · refine wp_aload_n dX9_span_73 rfl ?_
            refine wp_cV0i dX9_span_74 ml_X9_142 vX9_fails ⟨8, (RX9, TX9, 39), rfl, rfl, rfl⟩ (cX9_fails_ E _) (Nat.le_of_ble_eq_true rfl) (Nat.le_of_ble_eq_true rfl) (Nat.le_of_ble_eq_true rfl) ?_
            refine wp_ireturn dX9_span_77 rfl rfl (Nat.zero_le _) (Nat.zero_le _) ?_
            refine pM_bad (hF4.sI (by simp)) hN4.sI hP5 hC5 (fun q => ?_) (fun _ => nwh (show ¬ (12 = 0 ∨ dnSt 12) by decide))
            exact if_neg (fun h => cb70 ((hv_is (hb _) (by decide)).mpr ⟨q, h⟩))
        · refine wp_aload_n dX9_span_73 rfl ?_
          refine wp_cV0i dX9_span_74 ml_X9_142 vX9_fails ⟨8, (RX9, TX9, 39), rfl, rfl, rfl⟩ (cX9_fails_ E _) (Nat.le_of_ble_eq_true rfl) (Nat.le_of_ble_eq_true rfl) (Nat.le_of_ble_eq_true rfl) ?_
          refine wp_ireturn dX9_span_77 rfl rfl (Nat.zero_le _) (Nat.zero_le _) ?_
          refine pM_bad hF4 hN4 hP3 hC3 (fun q => ?_) (fun _ => nwh (by rw [hst3]; decide))
          rw [dln hst3]
          show rSpan s2 _ = none
          unfold rSpan
          rw [if_neg (fun h => c70 ((hv_is (hb a2) (by decide)).mpr ⟨q, h.2⟩)), if_neg (fun h => by rw [hwn0] at h; exact absurd h.1 (by decide))]
          exact if_neg (fun h => hnl3 q h.2)
    refine wp_istore_n dX9_span_21 (Nat.le_of_ble_eq_true rfl) ?_
    refine wp_aload_n dX9_span_22 rfl ?_
    refine wp_getR dX9_span_23 fl_X9_29 rfl rfl (hG 8) ?_
    refine wp_iload_n dX9_span_26 rfl ?_
    refine wp_iload_n dX9_span_27 rfl ?_
    refine wp_if_eq (tgt := 35) dX9_span_28 (by decide) (fun c28 => ?_) (fun c28 => ?_)
    · refine wp_iconst (v := 0) dX9_span_35 rfl ?_
      have e : x = 0 := c28
      subst e
      exact wp_lv J36 (by repeat (first | exact trivial | refine ⟨rfl, ?_⟩))
    · refine wp_iconst (v := 1) dX9_span_31 rfl ?_
      refine wp_goto (tgt := 36) dX9_span_32 (by decide) ?_
      have e : x = 1 := by
        rw [hx] at c28 ⊢
        by_cases q : tp.getD a 0 = 123
        · rw [if_pos q]
        · rw [if_neg q] at c28; exact absurd rfl c28
      subst e
      exact wp_lv J36 (by repeat (first | exact trivial | refine ⟨rfl, ?_⟩))
  refine wp_aload_n dX9_span_0 rfl ?_
  refine wp_getR dX9_span_1 fl_X9_17 rfl rfl (hG 4) ?_
  refine wp_iload_n dX9_span_4 rfl ?_
  refine wp_iconst (v := 2) dX9_span_5 rfl ?_
  refine wp_iastore dX9_span_6 rfl hkin ?_
  rw [hkcl]
  refine wp_aload_n dX9_span_7 rfl ?_
  refine wp_cV0i dX9_span_8 ml_X9_134 vX9_here ⟨8, (RX9, TX9, 39), rfl, rfl, rfl⟩ (cX9_hereN E _ tp a (hP.fr (M1 := sA M 123 k 2) (Fr.rf.sA (by simp)) hP.2.2.1 hP.2.2.2)) (Nat.le_of_ble_eq_true rfl) (Nat.le_of_ble_eq_true rfl) (Nat.le_of_ble_eq_true rfl) ?_
  refine wp_bipush (v := 123) dX9_span_11 (by decide) ?_
  refine wp_icmp_ne (tgt := 20) dX9_span_13 (by decide) (fun c13 => ?_) (fun c13 => ?_)
  · refine wp_iconst (v := 0) dX9_span_20 rfl ?_
    have e : ¬ tp.getD a 0 = 123 := fun e => c13 (by rw [hvx, e]; rfl)
    exact wp_lv (J21 0 (by rw [if_neg e])) (by repeat (first | exact trivial | refine ⟨rfl, ?_⟩))
  · refine wp_iconst (v := 1) dX9_span_16 rfl ?_
    refine wp_goto (tgt := 21) dX9_span_17 (by decide) ?_
    have e : tp.getD a 0 = 123 := ((hv_is (c := 123) (hb a) (by decide)).mp c13).2
    exact wp_lv (J21 1 (by rw [if_pos e])) (by repeat (first | exact trivial | refine ⟨rfl, ?_⟩))
