/-! ===== the model reads: a core ===== -/
abbrev gCo (tp : List Nat) (k a : Nat) (u : RS) : Mem → Nat → RS → Prop := fun M1 a1 s1 => mNode 123 M1 k (rCur s1) ∧ (((a < tp.length ∧ tp.getD a 0 = 40) ∧ s1 = rOpen u) ∨ (¬ (a < tp.length ∧ tp.getD a 0 = 40) ∧ dnSt (qSt s1) ∧ (a1 < tp.length → tp.getD a1 0 = 32 ∨ tp.getD a1 0 = 41) ∧ SF u s1))
theorem mN_open {M : Mem} {k : Nat} {x : ND} (hpt : mPt M k x) (h0 : aI M 123 k = 3) (h4 : aI M 127 k = -1) (h6 : aI M 129 k = 0) (hw : nWo x = []) (hki : nKi x = 0) : mNode 123 M k (nsDe (nsCo x 3) (-1)) := by
  refine ⟨h0, hpt.1, hpt.2.1, hpt.2.2.1, h4, hpt.2.2.2, ?_, fun j hj => ?_⟩
  · rw [if_pos (show nCo (nsDe (nsCo x 3) (-1)) = 3 from rfl), show nKi (nsDe (nsCo x 3) (-1)) = nKi x from rfl, hki]; exact h6
  · have : nWo (nsDe (nsCo x 3) (-1)) = [] := hw
    rw [this] at hj
    exact absurd hj (Nat.not_lt_zero j)
set_option maxRecDepth 100000 in
set_option maxHeartbeats 4000000 in
theorem cX9_core_ (E : GE) (k : Nat) (tp : List Nat) (a : Nat) (s : RS) (M : Mem) (hP : Ps M tp a) (hC : Cn tp a s) (hk : k < 25) (u : RS) (hPC : PC s u) (hpt : mPt M k (rCur u)) (h123 : aI M 123 k = 3) (h127 : aI M 127 k = -1) (h129 : aI M 129 k = 0) (hbd : a < tp.length → ¬ rCan0 u (tp.getD a 0) → dl s (tp.getD a 0) = none) (hen : ¬ a < tp.length → ¬ rWhole s) (hcol : hCol tp a u) (hmany : fI M 121 3 = nI (qCn u)) (hcn : qCn u ≤ 25) (hdp : qDep u ≤ 5) : Sp E mX9_core 3 0 0 [.ref 121, .int (nI k), .int (nI (qDep u))] SH M (pM M tp k (gCo tp k a u)) := by
  refine sp_of vX9_core.1 rfl (Nat.le_of_ble_eq_true rfl) ?_
  have hb := tp_lt hP.2.1
  have h240 := hP.2.1.2.1
  have hG := hP.1
  have hJb : ∀ M1 : Mem, mPF M M1 → NF k M M1 → Bad M1 tp → Wp (xM E mX9_core 3 0 0 SH.length (pM M tp k (gCo tp k a u))) 0 0 134 [(3, .int (hv tp a)), (0, .ref 121), (1, .int (nI k)), (2, .int (nI (qDep u)))] [.int 0] SH M1 := by
    intro M1 hF hN hbd1
    refine wp_istore dX9_core_134 (Nat.le_of_ble_eq_true rfl) ?_
    refine wp_iload dX9_core_136 rfl ?_
    refine wp_if_eq (tgt := 153) dX9_core_138 (by decide) (fun c138 => ?_) (fun c138 => absurd rfl c138)
    refine wp_iconst (v := 0) dX9_core_153 rfl ?_
    refine wp_ireturn dX9_core_154 rfl rfl (Nat.zero_le _) (Nat.zero_le _) ?_
    exact ⟨rfl, hF, hN, Or.inl ⟨rfl, hbd1⟩⟩
  have hJg : ∀ (M1 : Mem) (a1 : Nat) (s1 : RS), ¬ (a < tp.length ∧ tp.getD a 0 = 40) → mPF M M1 → NF k M M1 → fI M1 121 24 = fI M 121 24 → fI M1 121 3 = fI M 121 3 → Ps M1 tp a1 → Cn tp a1 s1 → gCore tp k u M1 a1 s1 → Wp (xM E mX9_core 3 0 0 SH.length (pM M tp k (gCo tp k a u))) 0 0 134 [(3, .int (hv tp a)), (0, .ref 121), (1, .int (nI k)), (2, .int (nI (qDep u)))] [.int 1] SH M1 := by
    intro M1 a1 s1 h40 hF hN h24 h3 hP1 hC1 hg
    obtain ⟨⟨e1, e2, e3⟩, hSF1, hmn1⟩ := hg
    refine wp_istore dX9_core_134 (Nat.le_of_ble_eq_true rfl) ?_
    refine wp_iload dX9_core_136 rfl ?_
    refine wp_if_eq (tgt := 153) dX9_core_138 (by decide) (fun c138 => absurd c138 (by decide)) (fun c138 => ?_)
    refine wp_aload_n dX9_core_141 rfl ?_
    refine wp_iload_n dX9_core_142 rfl ?_
    refine wp_cV1p dX9_core_143 ml_X9_170 vX9_ends ⟨8, (RX9, TX9, 39), rfl, rfl, rfl⟩ (cX9_ends_ E k tp a1 s1 M1 hP1 hC1 hk e1 e2 e3) (Nat.le_of_ble_eq_true rfl) (Nat.le_of_ble_eq_true rfl) (Nat.le_of_ble_eq_true rfl) (Nat.le_refl _) (Nat.le_refl _) (fun v sh1 M1 hq => ?_)
    obtain ⟨rfl, hF2, hN2, hq⟩ := hq
    rcases hq with ⟨rfl, hbd1⟩ | ⟨rfl, g24, g3, a2, s2, hP2, hC2, hdn, hnx, hSF2, hmn2, -⟩
    · refine wp_if_eq (tgt := 153) dX9_core_146 (by decide) (fun c => ?_) (fun c => absurd rfl c)
      refine wp_iconst (v := 0) dX9_core_153 rfl ?_
      refine wp_ireturn dX9_core_154 rfl rfl (Nat.zero_le _) (Nat.zero_le _) ?_
      exact ⟨rfl, hF.tr hF2, hN.tr hN2, Or.inl ⟨rfl, hbd1⟩⟩
    · refine wp_if_eq (tgt := 153) dX9_core_146 (by decide) (fun c146 => absurd c146 (by decide)) (fun c146 => ?_)
      refine wp_iconst (v := 1) dX9_core_149 rfl ?_
      refine wp_goto (tgt := 154) dX9_core_150 (by decide) ?_
      refine wp_ireturn dX9_core_154 rfl rfl (Nat.zero_le _) (Nat.zero_le _) ?_
      exact ⟨rfl, hF.tr hF2, hN.tr hN2, Or.inr ⟨rfl, g24.trans h24, g3.trans h3, a2, s2, hP2, hC2, hmn2 hmn1, Or.inr ⟨h40, hdn, hnx, hSF1.tr hSF2⟩⟩⟩
  have J29 : a < tp.length ∧ tp.getD a 0 = 40 → ¬ (qDep u < 5 ∧ qCn u < 25) → Wp (xM E mX9_core 3 0 0 SH.length (pM M tp k (gCo tp k a u))) 0 0 29 [(3, .int (hv tp a)), (0, .ref 121), (1, .int (nI k)), (2, .int (nI (qDep u)))] [] SH M := by
    intro h40 hno
    have hna : dl s (tp.getD a 0) = none := hbd h40.1 (fun h => by
      rcases h with h | h
      · exact hno ⟨h.2.1, by omega⟩
      · exact h.1 h40.2)
    refine wp_iconst (v := 0) dX9_core_29 rfl ?_
    refine wp_istore dX9_core_30 (Nat.le_of_ble_eq_true rfl) ?_
    refine wp_aload_n dX9_core_32 rfl ?_
    refine wp_dup dX9_core_33 rfl ?_
    refine wp_getI dX9_core_34 fl_X9_124 rfl rfl ?_
    refine wp_iload dX9_core_37 rfl ?_
    refine wp_if_eq (tgt := 46) dX9_core_39 (by decide) (fun c39 => ?_) (fun c39 => absurd rfl c39)
    refine wp_iconst (v := 0) dX9_core_46 rfl ?_
    refine wp_iadd dX9_core_47 ?_
    refine wp_putI dX9_core_48 fl_X9_124 rfl rfl (fun _ _ _ h => by cases h; rfl) rfl rfl ?_
    refine wp_iload dX9_core_51 rfl ?_
    refine wp_if_ne (tgt := 63) dX9_core_53 (by decide) (fun c53 => absurd rfl c53) (fun c53 => ?_)
    refine wp_aload_n dX9_core_56 rfl ?_
    refine wp_cV0i dX9_core_57 ml_X9_142 vX9_fails ⟨8, (RX9, TX9, 39), rfl, rfl, rfl⟩ (cX9_fails_ E _) (Nat.le_of_ble_eq_true rfl) (Nat.le_of_ble_eq_true rfl) (Nat.le_of_ble_eq_true rfl) ?_
    refine wp_if_eq (tgt := 67) dX9_core_60 (by decide) (fun c60 => ?_) (fun c60 => absurd rfl c60)
    refine wp_iconst (v := 0) dX9_core_67 rfl ?_
    refine wp_ireturn dX9_core_68 rfl rfl (Nat.zero_le _) (Nat.zero_le _) ?_
    have hF1 : mPF M (sI M 121 23 (fI M 121 23 + 0)) := Fr.rf.sI (by simp)
    refine pM_bad hF1 NF.rf.sI (hP.fr hF1 (by show fI M 121 23 + 0 = _; rw [Int32.add_zero]; exact hP.2.2.1) hP.2.2.2) hC (fun _ => hna) (fun q => absurd h40.1 q)
  have J25 : a < tp.length ∧ tp.getD a 0 = 40 → (qDep u < 5 ∧ qCn u < 25) → Wp (xM E mX9_core 3 0 0 SH.length (pM M tp k (gCo tp k a u))) 0 0 25 [(3, .int (hv tp a)), (0, .ref 121), (1, .int (nI k)), (2, .int (nI (qDep u)))] [] SH M := by
    intro h40 hno
    have hC1 : Cn tp (a + 1) (rOpen u) := Cn_step hC h40.1 (by
      rw [h40.2, hPC.1 40 (Or.inl ⟨rfl, hno.1, hno.2⟩)]; rfl)
    refine wp_iconst (v := 1) dX9_core_25 rfl ?_
    refine wp_goto (tgt := 30) dX9_core_26 (by decide) ?_
    refine wp_istore dX9_core_30 (Nat.le_of_ble_eq_true rfl) ?_
    refine wp_aload_n dX9_core_32 rfl ?_
    refine wp_dup dX9_core_33 rfl ?_
    refine wp_getI dX9_core_34 fl_X9_124 rfl rfl ?_
    refine wp_iload dX9_core_37 rfl ?_
    refine wp_if_eq (tgt := 46) dX9_core_39 (by decide) (fun c39 => absurd c39 (by decide)) (fun c39 => ?_)
    refine wp_iconst (v := 1) dX9_core_42 rfl ?_
    refine wp_goto (tgt := 47) dX9_core_43 (by decide) ?_
    refine wp_iadd dX9_core_47 ?_
    refine wp_putI dX9_core_48 fl_X9_124 rfl rfl (fun _ _ _ h => by cases h; rfl) rfl rfl ?_
    refine wp_iload dX9_core_51 rfl ?_
    refine wp_if_ne (tgt := 63) dX9_core_53 (by decide) (fun c53 => ?_) (fun c53 => absurd c53 (by decide))
    refine wp_iconst (v := 1) dX9_core_63 rfl ?_
    refine wp_goto (tgt := 68) dX9_core_64 (by decide) ?_
    refine wp_ireturn dX9_core_68 rfl rfl (Nat.zero_le _) (Nat.zero_le _) ?_
    rw [at_inc hP]
    have hF1 : mPF M (sI M 121 23 (nI (a + 1))) := Fr.rf.sI (by simp)
    have hcur : rCur (rOpen u) = nsDe (nsCo (rCur u) 3) (-1) := va_up_self _ _ _
    exact ⟨rfl, hF1, NF.rf.sI, Or.inr ⟨rfl, rfl, rfl, a + 1, rOpen u, Ps_at hP h40.1, hC1, by rw [hcur]; exact mN_open (M := sI M 121 23 (nI (a + 1))) hpt h123 h127 h129 hPC.2.2.2.1 hPC.2.2.1, Or.inl ⟨h40, rfl⟩⟩⟩
  have J88 : ¬ (a < tp.length ∧ tp.getD a 0 = 40) → (a < tp.length ∧ isSg (tp.getD a 0)) → Wp (xM E mX9_core 3 0 0 SH.length (pM M tp k (gCo tp k a u))) 0 0 88 [(3, .int (hv tp a)), (0, .ref 121), (1, .int (nI k)), (2, .int (nI (qDep u)))] [] SH M := by
    intro h40 hsg
    refine wp_aload_n dX9_core_88 rfl ?_
    refine wp_iload_n dX9_core_89 rfl ?_
    refine wp_cV1p dX9_core_90 ml_X9_161 vX9_word ⟨8, (RX9, TX9, 39), rfl, rfl, rfl⟩ (cX9_word_k E k tp a s M hP hC hk u hPC hpt hsg hcol) (Nat.le_of_ble_eq_true rfl) (Nat.le_of_ble_eq_true rfl) (Nat.le_of_ble_eq_true rfl) (Nat.le_refl _) (Nat.le_refl _) (fun v sh1 M1 hq => ?_)
    obtain ⟨rfl, hF1, hN1, hq⟩ := hq
    rcases hq with ⟨rfl, hbd1⟩ | ⟨rfl, g24, g3, a1, s1, hP1, hC1, hg1⟩
    · refine wp_goto (tgt := 134) dX9_core_93 (by decide) ?_
      exact wp_lv (hJb _ hF1 hN1 hbd1) (by repeat (first | exact trivial | refine ⟨rfl, ?_⟩))
    · refine wp_goto (tgt := 134) dX9_core_93 (by decide) ?_
      exact wp_lv (hJg _ a1 s1 h40 hF1 hN1 g24 g3 hP1 hC1 hg1) (by repeat (first | exact trivial | refine ⟨rfl, ?_⟩))
  have J122 : ¬ (a < tp.length ∧ tp.getD a 0 = 40) → (a < tp.length ∧ (tp.getD a 0 = 91 ∨ tp.getD a 0 = 123)) → Wp (xM E mX9_core 3 0 0 SH.length (pM M tp k (gCo tp k a u))) 0 0 122 [(3, .int (hv tp a)), (0, .ref 121), (1, .int (nI k)), (2, .int (nI (qDep u)))] [] SH M := by
    intro h40 hsg
    refine wp_aload_n dX9_core_122 rfl ?_
    refine wp_iload_n dX9_core_123 rfl ?_
    refine wp_cV1p dX9_core_124 ml_X9_167 vX9_span ⟨8, (RX9, TX9, 39), rfl, rfl, rfl⟩ (cX9_span_ E k tp a s M hP hC hk u hPC hpt h129 hsg) (Nat.le_of_ble_eq_true rfl) (Nat.le_of_ble_eq_true rfl) (Nat.le_of_ble_eq_true rfl) (Nat.le_refl _) (Nat.le_refl _) (fun v sh1 M1 hq => ?_)
    obtain ⟨rfl, hF1, hN1, hq⟩ := hq
    rcases hq with ⟨rfl, hbd1⟩ | ⟨rfl, g24, g3, a1, s1, hP1, hC1, hg1⟩
    · refine wp_goto (tgt := 134) dX9_core_127 (by decide) ?_
      exact wp_lv (hJb _ hF1 hN1 hbd1) (by repeat (first | exact trivial | refine ⟨rfl, ?_⟩))
    · refine wp_goto (tgt := 134) dX9_core_127 (by decide) ?_
      exact wp_lv (hJg _ a1 s1 h40 hF1 hN1 g24 g3 hP1 hC1 hg1) (by repeat (first | exact trivial | refine ⟨rfl, ?_⟩))
  refine wp_aload_n dX9_core_0 rfl ?_
  refine wp_cV0i dX9_core_1 ml_X9_134 vX9_here ⟨8, (RX9, TX9, 39), rfl, rfl, rfl⟩ (cX9_hereN E M tp a hP) (Nat.le_of_ble_eq_true rfl) (Nat.le_of_ble_eq_true rfl) (Nat.le_of_ble_eq_true rfl) ?_
  refine wp_istore_n dX9_core_4 (Nat.le_of_ble_eq_true rfl) ?_
  refine wp_iload_n dX9_core_5 rfl ?_
  refine wp_bipush (v := 40) dX9_core_6 (by decide) ?_
  refine wp_icmp_ne (tgt := 69) dX9_core_8 (by decide) (fun c8 => ?_) (fun c8 => ?_)
  · have h40 : ¬ (a < tp.length ∧ tp.getD a 0 = 40) := fun h => c8 ((hv_is (hb a) (by decide)).mpr h)
    refine wp_iload_n dX9_core_69 rfl ?_
    refine wp_cS1i dX9_core_70 ml_X9_138 sX9_isLetter (cX9_isLetter_ E _ _ _) (Nat.le_of_ble_eq_true rfl) (Nat.le_of_ble_eq_true rfl) (Nat.le_of_ble_eq_true rfl) ?_
    refine wp_if_ne (tgt := 88) dX9_core_73 (by decide) (fun c73 => ?_) (fun c73 => ?_)
    · exact wp_lv (J88 h40 ((hv_sg (hb a)).mp (Or.inl (b2i_ne.mp c73)))) (by repeat (first | exact trivial | refine ⟨rfl, ?_⟩))
    · refine wp_iload_n dX9_core_76 rfl ?_
      refine wp_bipush (v := 63) dX9_core_77 (by decide) ?_
      refine wp_icmp_eq (tgt := 88) dX9_core_79 (by decide) (fun c79 => ?_) (fun c79 => ?_)
      · exact wp_lv (J88 h40 ((hv_sg (hb a)).mp (Or.inr (Or.inl c79)))) (by repeat (first | exact trivial | refine ⟨rfl, ?_⟩))
      · refine wp_iload_n dX9_core_82 rfl ?_
        refine wp_bipush (v := 42) dX9_core_83 (by decide) ?_
        refine wp_icmp_ne (tgt := 96) dX9_core_85 (by decide) (fun c85 => ?_) (fun c85 => ?_)
        · refine wp_iload_n dX9_core_96 rfl ?_
          refine wp_bipush (v := 34) dX9_core_97 (by decide) ?_
          refine wp_icmp_ne (tgt := 110) dX9_core_99 (by decide) (fun c99 => ?_) (fun c99 => ?_)
          · refine wp_iload_n dX9_core_110 rfl ?_
            refine wp_bipush (v := 91) dX9_core_111 (by decide) ?_
            refine wp_icmp_eq (tgt := 122) dX9_core_113 (by decide) (fun c113 => ?_) (fun c113 => ?_)
            · have q := (hv_is (c := 91) (hb a) (by decide)).mp c113
              exact wp_lv (J122 h40 ⟨q.1, Or.inl q.2⟩) (by repeat (first | exact trivial | refine ⟨rfl, ?_⟩))
            · refine wp_iload_n dX9_core_116 rfl ?_
              refine wp_bipush (v := 123) dX9_core_117 (by decide) ?_
              refine wp_icmp_ne (tgt := 130) dX9_core_119 (by decide) (fun c119 => ?_) (fun c119 => ?_)
              · refine wp_aload_n dX9_core_130 rfl ?_
                refine wp_cV0i dX9_core_131 ml_X9_142 vX9_fails ⟨8, (RX9, TX9, 39), rfl, rfl, rfl⟩ (cX9_fails_ E M) (Nat.le_of_ble_eq_true rfl) (Nat.le_of_ble_eq_true rfl) (Nat.le_of_ble_eq_true rfl) ?_
                have hnc : a < tp.length → ¬ rCan0 u (tp.getD a 0) := fun hl h => by
                  rcases h with h | ⟨-, h | h | h | h⟩
                  · exact h40 ⟨hl, h.1⟩
                  · rcases (hv_sg (hb a)).mpr ⟨hl, h⟩ with h | h | h
                    · exact b2i_e0.mp c73 h
                    · exact c79 h
                    · exact c85 h
                  · exact c99 ((hv_is (hb a) (by decide)).mpr ⟨hl, h⟩)
                  · exact c113 ((hv_is (hb a) (by decide)).mpr ⟨hl, h⟩)
                  · exact c119 ((hv_is (hb a) (by decide)).mpr ⟨hl, h⟩)
                exact wp_lv (hJb _ (Fr.rf.sI (by simp)) NF.rf.sI (Bad_of hP hC (fun q => hbd q (hnc q)) hen)) (by repeat (first | exact trivial | refine ⟨rfl, ?_⟩))
              · have q := (hv_is (c := 123) (hb a) (by decide)).mp c119
                exact wp_lv (J122 h40 ⟨q.1, Or.inr q.2⟩) (by repeat (first | exact trivial | refine ⟨rfl, ?_⟩))
          · refine wp_aload_n dX9_core_102 rfl ?_
            refine wp_iload_n dX9_core_103 rfl ?_
            refine wp_cV1p dX9_core_104 ml_X9_164 vX9_quote ⟨8, (RX9, TX9, 39), rfl, rfl, rfl⟩ (cX9_quote_ E k tp a s M hP hC hk u hPC hpt h129 ((hv_is (hb a) (by decide)).mp c99)) (Nat.le_of_ble_eq_true rfl) (Nat.le_of_ble_eq_true rfl) (Nat.le_of_ble_eq_true rfl) (Nat.le_refl _) (Nat.le_refl _) (fun v sh1 M1 hq => ?_)
            obtain ⟨rfl, hF1, hN1, hq⟩ := hq
            rcases hq with ⟨rfl, hbd1⟩ | ⟨rfl, g24, g3, a1, s1, hP1, hC1, hg1⟩
            · refine wp_goto (tgt := 134) dX9_core_107 (by decide) ?_
              exact wp_lv (hJb _ hF1 hN1 hbd1) (by repeat (first | exact trivial | refine ⟨rfl, ?_⟩))
            · refine wp_goto (tgt := 134) dX9_core_107 (by decide) ?_
              exact wp_lv (hJg _ a1 s1 h40 hF1 hN1 g24 g3 hP1 hC1 hg1) (by repeat (first | exact trivial | refine ⟨rfl, ?_⟩))
        · exact wp_lv (J88 h40 ((hv_sg (hb a)).mp (Or.inr (Or.inr c85)))) (by repeat (first | exact trivial | refine ⟨rfl, ?_⟩))
  · have h40 := (hv_is (c := 40) (hb a) (by decide)).mp c8
    refine wp_iload_n dX9_core_11 rfl ?_
    refine wp_iconst (v := 5) dX9_core_12 rfl ?_
    refine wp_icmp_ge (tgt := 29) dX9_core_13 (by decide) (fun c13 => ?_) (fun c13 => ?_)
    · exact wp_lv (J29 h40 (fun h => nI_ge h.1 (by omega) c13)) (by repeat (first | exact trivial | refine ⟨rfl, ?_⟩))
    · refine wp_aload_n dX9_core_16 rfl ?_
      refine wp_getI dX9_core_17 fl_X9_131 rfl rfl ?_
      refine wp_bipush (v := 25) dX9_core_20 (by decide) ?_
      refine wp_icmp_ge (tgt := 29) dX9_core_22 (by decide) (fun c22 => ?_) (fun c22 => ?_)
      · exact wp_lv (J29 h40 (fun h => nI_ge h.2 (by omega) (by rw [← hmany]; exact c22))) (by repeat (first | exact trivial | refine ⟨rfl, ?_⟩))
      · refine wp_lv (J25 h40 ⟨?_, ?_⟩) (by repeat (first | exact trivial | refine ⟨rfl, ?_⟩))
        · exact Nat.lt_of_not_le fun h => c13 (nI_le h (by omega))
        · exact Nat.lt_of_not_le fun h => c22 (by rw [hmany]; exact nI_le h (by omega))
