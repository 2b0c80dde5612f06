/-! ===== the model reads: quotes and spans ===== -/
def dlM (n : Nat) (s : RS) (b : Nat) : Option RS := match n with
  | 0 => rGap s b
  | 1 => if rCan s b 0 then some (rCore s b) else none
  | 2 => if rCan s b 0 then some (rCore s b) else none
  | 3 => rIn s b
  | 4 => rDet s b 48 50
  | 5 => rLet s b 6
  | 6 => rQuo s b
  | 7 => rQGap s b
  | 8 => if b = 126 then some (rGo s 9) else rTail s b
  | 9 => rDet s b 48 57
  | 10 => rLet s b 11
  | 11 => rSpan s b
  | 12 => if b = 46 then some (rWord s 1 10) else none
  | 13 => if b = 64 then some (rGo s 14) else rTail s b
  | 14 => rDet s b 49 57
  | 15 => rTail s b
  | 16 => if isFg b then some (rBoo s (nI b - 48) 17) else none
  | 17 => if isFg b then some (rBoo s (10 * nBo (rCur s) + nI b - 48) 18) else rEnd s b
  | _ => rEnd s b
theorem dln {s : RS} {n : Nat} (h : qSt s = n) (b : Nat) : dl s b = dlM n s b := by
  subst h; rfl
theorem mN_of {M : Mem} {k : Nat} {x : ND} {ws : List (List Nat)} {co de : Int32} (hpt : mPt M k x) (h0 : aI M 123 k = co) (h4 : aI M 127 k = de) (hw : mW M k ws) (hc : co ≠ 3) : mNode 123 M k (nsWo (nsDe (nsCo x co) de) ws) := by
  refine ⟨h0, hpt.1, hpt.2.1, hpt.2.2.1, h4, hpt.2.2.2, ?_, hw.2⟩
  rw [if_neg (show ¬ nCo (nsWo (nsDe (nsCo x co) de) ws) = 3 from hc)]
  exact hw.1
theorem mPt_p {M M1 : Mem} {k : Nat} {x : ND} (h : mPt M k x) (hp : ∀ p, 123 ≤ p → p ≤ 128 → aI M1 p k = aI M p k) : mPt M1 k x :=
  ⟨(hp 124 (by decide) (by decide)).trans h.1, (hp 125 (by decide) (by decide)).trans h.2.1, (hp 126 (by decide) (by decide)).trans h.2.2.1, (hp 128 (by decide) (by decide)).trans h.2.2.2⟩
theorem mW_at {M : Mem} {k : Nat} {ws : List (List Nat)} {f : Nat} {x : Int32} (h : mW M k ws) : mW (sI M 121 f x) k ws := h
theorem w8_app {ws : List (List Nat)} {w : List Nat} (h : ∀ j, j < ws.length → (ws.getD j []).length ≤ 8) (hw : w.length ≤ 8) : ∀ j, j < (ws ++ [w]).length → ((ws ++ [w]).getD j []).length ≤ 8 := fun j hj => by
  rw [getD_app]
  simp only [List.length_append, List.length_singleton] at hj
  by_cases e : j = ws.length
  · rw [if_pos e]; exact hw
  · rw [if_neg e]; exact h j (by omega)
set_option maxRecDepth 100000 in
set_option maxHeartbeats 4000000 in
theorem cX9_quote_ (E : GE) (k : Nat) (tp : List Nat) (a : Nat) (s : RS) (M : Mem) (hP : Ps M tp a) (hC : Cn tp a s) (hk : k < 25) (u : RS) (hPC : PC s u) (hpt : mPt M k (rCur u)) (hcnt : aI M 129 k = 0) (hfst : a < tp.length ∧ tp.getD a 0 = 34) : Sp E mX9_quote 2 0 0 [.ref 121, .int (nI k)] SH M (pM M tp k (gCore tp k u)) := by
  refine sp_of vX9_quote.1 rfl (Nat.le_of_ble_eq_true rfl) ?_
  have hb := tp_lt hP.2.1
  have h240 := hP.2.1.2.1
  have hG := hP.1
  have hkin : vp_in (nI k) 25 := vp_in_nI hk (by decide)
  have hkcl : (nI k).toNatClampNeg = k := nI_clamp (by omega)
  obtain ⟨hpc, hf0, hfk, hfw, hfd⟩ := hPC
  have J91 : ∀ (a0 : Nat) (c : RS) (ws : List (List Nat)) (M1 : Mem) (x : Int32), Ps M1 tp a0 → Cn tp a0 c → mPF M M1 → NF k M M1 → fI M1 121 24 = fI M 121 24 → fI M1 121 3 = fI M 121 3 → qSt c = 6 → SF u c → rCur c = nsWo (nsCo (rCur u) 1) ws → mPt M1 k (rCur u) → aI M1 123 k = 1 → aI M1 127 k = 0 → mW M1 k ws → (a0 < tp.length → ¬ isLt (tp.getD a0 0)) → (a0 < tp.length → tp.getD a0 0 = 32 → ¬ qWn c + 1 < 5) → Wp (xM E mX9_quote 2 0 0 SH.length (pM M tp k (gCore tp k u))) 0 0 91 [(2, .int x), (0, .ref 121), (1, .int (nI k))] [] SH M1 := by
    intro a0 c ws M1 x hP1 hC1 hF hN h24 h3 hst hSF hcur hpt1 h123 h127 hmw hnl hnb
    have hG1 := hP1.1
    have hmn : mNode 123 M1 k (rCur c) := by
      have := mN_of hpt1 h123 h127 hmw (by decide)
      have e : nsDe (nsCo (rCur u) 1) 0 = nsCo (rCur u) 1 := by
        have : nDe (nsCo (rCur u) 1) = 0 := hfd
        show mkN _ _ _ _ 0 _ _ _ = mkN _ _ _ _ (nDe (rCur u)) _ _ _
        rw [hfd]; rfl
      rw [hcur, ← e]
      exact this
    refine wp_aload_n dX9_quote_91 rfl ?_
    refine wp_cV0i dX9_quote_92 ml_X9_134 vX9_here ⟨8, (RX9, TX9, 39), rfl, rfl, rfl⟩ (cX9_hereN E M1 tp a0 hP1) (Nat.le_of_ble_eq_true rfl) (Nat.le_of_ble_eq_true rfl) (Nat.le_of_ble_eq_true rfl) ?_
    refine wp_bipush (v := 34) dX9_quote_95 (by decide) ?_
    refine wp_icmp_eq (tgt := 105) dX9_quote_97 (by decide) (fun c97 => ?_) (fun c97 => ?_)
    · have h1 := (hv_is (c := 34) (hb a0) (by decide)).mp c97
      have hP2 := Ps_at hP1 h1.1
      have hC2 : Cn tp (a0 + 1) (rGo c 8) := Cn_step hC1 h1.1 (by rw [dln hst, h1.2]; rfl)
      have hF2 : mPF M (sI M1 121 23 (nI (a0 + 1))) := hF.sI (by simp)
      refine wp_aload_n dX9_quote_105 rfl ?_
      refine wp_dup dX9_quote_106 rfl ?_
      refine wp_getI dX9_quote_107 fl_X9_124 rfl rfl ?_
      refine wp_iconst (v := 1) dX9_quote_110 rfl ?_
      refine wp_iadd dX9_quote_111 ?_
      refine wp_putI dX9_quote_112 fl_X9_124 rfl rfl (fun _ _ _ h => by cases h; rfl) rfl rfl ?_
      rw [at_inc hP1]
      refine wp_aload_n dX9_quote_115 rfl ?_
      refine wp_iload_n dX9_quote_116 rfl ?_
      refine wp_bipush (v := 126) dX9_quote_117 (by decide) ?_
      refine wp_iconst (v := 0) dX9_quote_119 rfl ?_
      refine wp_bipush (v := 9) dX9_quote_120 (by decide) ?_
      refine wp_cV4p dX9_quote_122 ml_X9_150 vX9_figure ⟨8, (RX9, TX9, 39), rfl, rfl, rfl⟩ (cX9_figure_ E k tp (a0 + 1) (rGo c 8) _ hP2 hC2 hk 126 0 9 9 (by decide) (by decide) (by decide) (fun _ _ => rfl) (fun b => rfl) (nwh (show ¬ (9 = 0 ∨ dnSt 9) by decide))) (Nat.le_of_ble_eq_true rfl) (Nat.le_of_ble_eq_true rfl) (Nat.le_of_ble_eq_true rfl) (Nat.le_refl _) (Nat.le_refl _) (fun v sh1 M1 hq => ?_)
      obtain ⟨rfl, hF3, hN3, hq⟩ := hq
      rcases hq with ⟨rfl, hbd⟩ | ⟨rfl, g24, g3, a1, s1, hP3, hC3, hq⟩
      · refine wp_ireturn dX9_quote_125 rfl rfl (Nat.zero_le _) (Nat.zero_le _) ?_
        exact ⟨rfl, hF2.tr hF3, hN.tr hN3, Or.inl ⟨rfl, hbd⟩⟩
      · refine wp_ireturn dX9_quote_125 rfl rfl (Nat.zero_le _) (Nat.zero_le _) ?_
        refine ⟨rfl, hF2.tr hF3, hN.tr hN3, Or.inr ⟨rfl, g24.trans h24, g3.trans h3, a1, s1, hP3, hC3, ?_⟩⟩
        rcases hq with ⟨rfl, rfl, rfl, hn126⟩ | ⟨h15, hsf, hm, -⟩
        · refine ⟨⟨Or.inr (Or.inl rfl), rfl, fun q h0 h1 h2 => ?_⟩, hSF.tr (SF_go _ _), hmn⟩
          show (if _ then _ else _) = none
          rw [if_neg (fun e => hn126 ⟨q, e⟩)]
          exact rTail_no h0 h1 h2
        · exact ⟨eOk_15 h15, (hSF.tr (SF_go _ _)).tr hsf, hm hmn⟩
    · refine wp_aload_n dX9_quote_100 rfl ?_
      refine wp_cV0i dX9_quote_101 ml_X9_142 vX9_fails ⟨8, (RX9, TX9, 39), rfl, rfl, rfl⟩ (cX9_fails_ E M1) (Nat.le_of_ble_eq_true rfl) (Nat.le_of_ble_eq_true rfl) (Nat.le_of_ble_eq_true rfl) ?_
      refine wp_ireturn dX9_quote_104 rfl rfl (Nat.zero_le _) (Nat.zero_le _) ?_
      refine pM_bad hF hN hP1 hC1 (fun q => ?_) (fun _ => nwh (by rw [hst]; decide))
      rw [dln hst]
      show rQuo c _ = none
      unfold rQuo
      rw [if_neg (fun e => c97 ((hv_is (hb a0) (by decide)).mpr ⟨q, e⟩))]
      by_cases e : tp.getD a0 0 = 32
      · rw [if_pos e, if_neg (hnb q e)]
      · rw [if_neg e]; exact if_neg (fun h => hnl q h.2)
  have loop : ∀ (r a0 : Nat) (c : RS) (ws : List (List Nat)) (M1 : Mem), ws.length + r = 5 → Ps M1 tp a0 → Cn tp a0 c → mPF M M1 → NF k M M1 → fI M1 121 24 = fI M 121 24 → fI M1 121 3 = fI M 121 3 → SF u c → rCur c = nsWo (nsCo (rCur u) 1) ws → mPt M1 k (rCur u) → aI M1 123 k = 1 → aI M1 127 k = 0 → mW M1 k ws → (∀ j, j < ws.length → (ws.getD j []).length ≤ 8) → (ws = [] ∧ qSt c = 5 ∨ ws ≠ [] ∧ qSt c = 7 ∧ (a0 < tp.length → tp.getD a0 0 ≠ 32)) → Wp (xM E mX9_quote 2 0 0 SH.length (pM M tp k (gCore tp k u))) 0 0 26 [(2, .int 1), (0, .ref 121), (1, .int (nI k))] [] SH M1 := by
    intro r
    induction r with
    | zero =>
      intro a0 c ws M1 hr hP1 hC1 hF hN h24 h3 hSF hcur hpt1 h123 h127 hmw hw8 hst
      rcases hst with ⟨rfl, -⟩ | ⟨-, h7, -⟩
      · exact absurd hr (by decide)
      · have hok := hC1.2.2.1
        unfold stOk at hok
        rw [h7] at hok
        have : (nWo (rCur c)).length = ws.length := by rw [hcur]; rfl
        have h1 := hok.2.1
        have h2 := hok.2.2
        omega
    | succ r ih =>
      intro a0 c ws M1 hr hP1 hC1 hF hN h24 h3 hSF hcur hpt1 h123 h127 hmw hw8 hst
      have hG1 := hP1.1
      have hnwo : nWo (rCur c) = ws := by rw [hcur]; rfl
      -- the blanks behind a word
      have blanks : ∀ (m a1 : Nat) (d : RS) (M2 : Mem) (w : List Nat), a1 + m = tp.length → w.length ≤ 8 → Ps M2 tp a1 → Cn tp a1 d → mPF M M2 → NF k M M2 → fI M2 121 24 = fI M 121 24 → fI M2 121 3 = fI M 121 3 → SF u d → rCur d = nsWo (nsCo (rCur u) 1) (ws ++ [w]) → mPt M2 k (rCur u) → aI M2 123 k = 1 → aI M2 127 k = 0 → mW M2 k (ws ++ [w]) → (qSt d = 6 ∧ qWn d + 1 < 5 ∧ (a1 < tp.length ∧ tp.getD a1 0 = 32) ∨ qSt d = 7) → Wp (xM E mX9_quote 2 0 0 SH.length (pM M tp k (gCore tp k u))) 0 0 65 [(2, .int 1), (0, .ref 121), (1, .int (nI k))] [] SH M2 := by
        intro m
        induction m with
        | zero =>
          intro a1 d M2 w hm hw88 hP2 hC2 hF2 hN2 g24 g3 hSF2 hcur2 hpt2 e123 e127 hmw2 hst2
          have h7 : qSt d = 7 := by rcases hst2 with h | h; exact absurd h.2.2.1 (by omega); exact h
          refine wp_iload_n dX9_quote_65 rfl ?_
          refine wp_if_eq (tgt := 26) dX9_quote_66 (by decide) (fun c66 => absurd c66 (by decide)) (fun c66 => ?_)
          refine wp_aload_n dX9_quote_69 rfl ?_
          refine wp_cV0i dX9_quote_70 ml_X9_134 vX9_here ⟨8, (RX9, TX9, 39), rfl, rfl, rfl⟩ (cX9_hereN E M2 tp a1 hP2) (Nat.le_of_ble_eq_true rfl) (Nat.le_of_ble_eq_true rfl) (Nat.le_of_ble_eq_true rfl) ?_
          refine wp_bipush (v := 32) dX9_quote_73 (by decide) ?_
          refine wp_icmp_ne (tgt := 26) dX9_quote_75 (by decide) (fun c75 => ?_) (fun c75 => ?_)
          · exact wp_lv (ih a1 d (ws ++ [w]) M2 (by simp; omega) hP2 hC2 hF2 hN2 g24 g3 hSF2 hcur2 hpt2 e123 e127 hmw2 (w8_app hw8 hw88) (Or.inr ⟨by simp, h7, fun q => absurd q (by omega)⟩)) (by repeat (first | exact trivial | refine ⟨rfl, ?_⟩))
          · refine wp_aload_n dX9_quote_78 rfl ?_
            refine wp_dup dX9_quote_79 rfl ?_
            refine wp_getI dX9_quote_80 fl_X9_124 rfl rfl ?_
            refine wp_iconst (v := 1) dX9_quote_83 rfl ?_
            refine wp_iadd dX9_quote_84 ?_
            refine wp_putI dX9_quote_85 fl_X9_124 rfl rfl (fun _ _ _ h => by cases h; rfl) rfl rfl ?_
            refine wp_goto (tgt := 65) dX9_quote_88 (by decide) ?_
            exact absurd ((hv_is (c := 32) (hb a1) (by decide)).mp c75).1 (by omega)
        | succ m ihm =>
          intro a1 d M2 w hm hw88 hP2 hC2 hF2 hN2 g24 g3 hSF2 hcur2 hpt2 e123 e127 hmw2 hst2
          have hq1 : a1 < tp.length := by omega
          refine wp_iload_n dX9_quote_65 rfl ?_
          refine wp_if_eq (tgt := 26) dX9_quote_66 (by decide) (fun c66 => absurd c66 (by decide)) (fun c66 => ?_)
          refine wp_aload_n dX9_quote_69 rfl ?_
          refine wp_cV0i dX9_quote_70 ml_X9_134 vX9_here ⟨8, (RX9, TX9, 39), rfl, rfl, rfl⟩ (cX9_hereN E M2 tp a1 hP2) (Nat.le_of_ble_eq_true rfl) (Nat.le_of_ble_eq_true rfl) (Nat.le_of_ble_eq_true rfl) ?_
          refine wp_bipush (v := 32) dX9_quote_73 (by decide) ?_
          refine wp_icmp_ne (tgt := 26) dX9_quote_75 (by decide) (fun c75 => ?_) (fun c75 => ?_)
          · have h7 : qSt d = 7 := by rcases hst2 with h | h; exact absurd ((hv_is (c := 32) (hb a1) (by decide)).mpr h.2.2) c75; exact h
            exact wp_lv (ih a1 d (ws ++ [w]) M2 (by simp; omega) hP2 hC2 hF2 hN2 g24 g3 hSF2 hcur2 hpt2 e123 e127 hmw2 (w8_app hw8 hw88) (Or.inr ⟨by simp, h7, fun q e => c75 ((hv_is (hb a1) (by decide)).mpr ⟨q, e⟩)⟩)) (by repeat (first | exact trivial | refine ⟨rfl, ?_⟩))
          · refine wp_aload_n dX9_quote_78 rfl ?_
            refine wp_dup dX9_quote_79 rfl ?_
            refine wp_getI dX9_quote_80 fl_X9_124 rfl rfl ?_
            refine wp_iconst (v := 1) dX9_quote_83 rfl ?_
            refine wp_iadd dX9_quote_84 ?_
            refine wp_putI dX9_quote_85 fl_X9_124 rfl rfl (fun _ _ _ h => by cases h; rfl) rfl rfl ?_
            refine wp_goto (tgt := 65) dX9_quote_88 (by decide) ?_
            have h1 := (hv_is (c := 32) (hb a1) (by decide)).mp c75
            rw [at_inc hP2]
            have hP4 := Ps_at hP2 h1.1
            have hF4 : mPF M (sI M2 121 23 (nI (a1 + 1))) := hF2.sI (by simp)
            rcases hst2 with ⟨h6, h5, -⟩ | h7
            · exact wp_lv (ihm (a1 + 1) (rGo d 7) _ w (by omega) hw88 hP4 (Cn_step hC2 h1.1 (by rw [dln h6, h1.2]; exact if_pos h5)) hF4 hN2 g24 g3 (hSF2.tr (SF_go _ _)) hcur2 hpt2 e123 e127 hmw2 (Or.inr rfl)) (by repeat (first | exact trivial | refine ⟨rfl, ?_⟩))
            · exact wp_lv (ihm (a1 + 1) d _ w (by omega) hw88 hP4 (Cn_step hC2 h1.1 (by rw [dln h7, h1.2]; rfl)) hF4 hN2 g24 g3 hSF2 hcur2 hpt2 e123 e127 hmw2 (Or.inr h7)) (by repeat (first | exact trivial | refine ⟨rfl, ?_⟩))
      obtain ⟨v, hf1, hf2, hf3, hu1, hu2, hu3, hu4, hu5, hws4⟩ : ∃ v : RS, (∀ b, isLt b → dl c b = some (rGo (rSign v b) 6)) ∧ (a0 < tp.length → ¬ isLt (tp.getD a0 0) → dl c (tp.getD a0 0) = none) ∧ ¬ rWhole c ∧ rCur v = nsWo (rCur c) (wApp ws []) ∧ qSg v = 0 ∧ qWn v = ws.length ∧ wOk v ∧ SF c v ∧ ws.length ≤ 4 := by
        have hok := hC1.2.2.1
        unfold stOk at hok
        rcases hst with ⟨rfl, h5⟩ | ⟨hne, h7, hnb⟩
        · rw [h5] at hok
          refine ⟨c, fun b hbl => ?_, fun q hnl => ?_, nwh (by rw [h5]; decide), ?_, hok.2.2.1, hok.2.2.2, hok.2.1, SF.rf, by decide⟩
          · rw [dln h5]; exact if_pos ⟨by rw [hok.2.2.1]; decide, hbl⟩
          · rw [dln h5]; exact if_neg (fun h => hnl h.2)
          · show rCur c = nsWo (rCur c) []
            conv => rhs; rw [← hnwo]
            rfl
        · rw [h7] at hok
          have e1 : qWn c + 1 = ws.length := by rw [hok.2.2, hnwo]
          refine ⟨rWord c (qWn c + 1) 6, fun b hbl => ?_, fun q hnl => ?_, nwh (by rw [h7]; decide), ?_, rfl, e1, wOk_word _ 6 hok.2.1 hok.2.2, SF_word _ _ _, by have := hok.2.1; omega⟩
          · rw [dln h7]
            show rQGap c b = _
            unfold rQGap
            rw [if_neg (by omega), if_pos hbl]; rfl
          · rw [dln h7]
            show rQGap c _ = _
            unfold rQGap
            rw [if_neg (hnb q), if_neg hnl]
          · show rCur c = nsWo (rCur c) ws
            conv => rhs; rw [← hnwo]
            rfl
      refine wp_iload_n dX9_quote_26 rfl ?_
      refine wp_if_eq (tgt := 91) dX9_quote_27 (by decide) (fun c27 => absurd c27 (by decide)) (fun c27 => ?_)
      refine wp_aload_n dX9_quote_30 rfl ?_
      refine wp_iload_n dX9_quote_31 rfl ?_
      refine wp_cV1p dX9_quote_32 ml_X9_154 vX9_letters ⟨8, (RX9, TX9, 39), rfl, rfl, rfl⟩ (cX9_letters_ E k tp a0 c M1 hP1 hC1 hk v 6 ws (Or.inl rfl) hws4 hw8 hmw hf1 hf2 hf3 hu1 hu2 hu3 hu4 hu5) (Nat.le_of_ble_eq_true rfl) (Nat.le_of_ble_eq_true rfl) (Nat.le_of_ble_eq_true rfl) (Nat.le_refl _) (Nat.le_refl _) (fun v sh1 M1 hq => ?_)
      obtain ⟨rfl, hF3, hN3, hq⟩ := hq
      rcases hq with ⟨rfl, hbd⟩ | ⟨rfl, g24, g3, a1, s1, hP3, hC3, hst3, hsg3, hqw3, hSF3, hnl3, hpp3, w, hwn, hw88, hwl, hcur3, hmw3⟩
      · refine wp_if_ne (tgt := 40) dX9_quote_35 (by decide) (fun c35 => absurd rfl c35) (fun c35 => ?_)
        refine wp_iconst (v := 0) dX9_quote_38 rfl ?_
        refine wp_ireturn dX9_quote_39 rfl rfl (Nat.zero_le _) (Nat.zero_le _) ?_
        exact ⟨rfl, hF.tr hF3, hN.tr hN3, Or.inl ⟨rfl, hbd⟩⟩
      · refine wp_if_ne (tgt := 40) dX9_quote_35 (by decide) (fun c35 => ?_) (fun c35 => absurd c35 (by decide))
        have hcur4 : rCur s1 = nsWo (nsCo (rCur u) 1) (ws ++ [w]) := by rw [hcur3, hcur]; rfl
        have hpt4 := mPt_p hpt1 hpp3
        have f123 := (hpp3 123 (by decide) (by decide)).trans h123
        have f127 := (hpp3 127 (by decide) (by decide)).trans h127
        have hF4 := hF.tr hF3
        have hN4 := hN.tr hN3
        have hl1 : (ws ++ [w]).length = ws.length + 1 := by simp
        refine wp_aload_n dX9_quote_40 rfl ?_
        refine wp_cV0i dX9_quote_41 ml_X9_134 vX9_here ⟨8, (RX9, TX9, 39), rfl, rfl, rfl⟩ (cX9_hereN E _ tp a1 hP3) (Nat.le_of_ble_eq_true rfl) (Nat.le_of_ble_eq_true rfl) (Nat.le_of_ble_eq_true rfl) ?_
        refine wp_bipush (v := 32) dX9_quote_44 (by decide) ?_
        refine wp_icmp_ne (tgt := 63) dX9_quote_46 (by decide) (fun c46 => ?_) (fun c46 => ?_)
        · refine wp_iconst (v := 0) dX9_quote_63 rfl ?_
          have hno : ¬ (a1 < tp.length ∧ tp.getD a1 0 = 32) := fun h => c46 ((hv_is (c := 32) (hb a1) (by decide)).mpr h)
          refine wp_istore_n dX9_quote_64 (Nat.le_of_ble_eq_true rfl) ?_
          refine wp_iload_n dX9_quote_65 rfl ?_
          refine wp_if_eq (tgt := 26) dX9_quote_66 (by decide) (fun c66 => ?_) (fun c66 => absurd rfl c66)
          refine wp_iload_n dX9_quote_26 rfl ?_
          refine wp_if_eq (tgt := 91) dX9_quote_27 (by decide) (fun c27' => ?_) (fun c27' => absurd rfl c27')
          exact wp_lv (J91 a1 s1 (ws ++ [w]) _ 0 hP3 hC3 hF4 hN4 (g24.trans h24) (g3.trans h3) hst3 (hSF.tr hSF3) hcur4 hpt4 f123 f127 hmw3 hnl3 (fun q e => absurd ⟨q, e⟩ hno)) (by repeat (first | exact trivial | refine ⟨rfl, ?_⟩))
        · refine wp_aload_n dX9_quote_49 rfl ?_
          refine wp_getR dX9_quote_50 fl_X9_35 rfl rfl (hP3.1 10) ?_
          refine wp_iload_n dX9_quote_53 rfl ?_
          refine wp_iaload dX9_quote_54 rfl hkin ?_
          refine wp_iconst (v := 5) dX9_quote_55 rfl ?_
          refine wp_icmp_ge (tgt := 63) dX9_quote_56 (by decide) (fun c56 => ?_) (fun c56 => ?_)
          · refine wp_iconst (v := 0) dX9_quote_63 rfl ?_
            rw [hkcl, hmw3.1, hl1] at c56
            have h5 : ¬ qWn s1 + 1 < 5 := fun q => nI_ge (b := 5) (by omega) (by decide) c56
            refine wp_istore_n dX9_quote_64 (Nat.le_of_ble_eq_true rfl) ?_
            refine wp_iload_n dX9_quote_65 rfl ?_
            refine wp_if_eq (tgt := 26) dX9_quote_66 (by decide) (fun c66 => ?_) (fun c66 => absurd rfl c66)
            refine wp_iload_n dX9_quote_26 rfl ?_
            refine wp_if_eq (tgt := 91) dX9_quote_27 (by decide) (fun c27' => ?_) (fun c27' => absurd rfl c27')
            exact wp_lv (J91 a1 s1 (ws ++ [w]) _ 0 hP3 hC3 hF4 hN4 (g24.trans h24) (g3.trans h3) hst3 (hSF.tr hSF3) hcur4 hpt4 f123 f127 hmw3 hnl3 (fun _ _ => h5)) (by repeat (first | exact trivial | refine ⟨rfl, ?_⟩))
          · refine wp_iconst (v := 1) dX9_quote_59 rfl ?_
            refine wp_goto (tgt := 64) dX9_quote_60 (by decide) ?_
            have h1 := (hv_is (c := 32) (hb a1) (by decide)).mp c46
            rw [hkcl, hmw3.1, hl1] at c56
            have h5 : qWn s1 + 1 < 5 := Decidable.byContradiction fun q => c56 (nI_le (a := 5) (by omega) (by omega))
            refine wp_istore_n dX9_quote_64 (Nat.le_of_ble_eq_true rfl) ?_
            exact wp_lv (blanks (tp.length - a1) a1 s1 _ w (by omega) hw88 hP3 hC3 hF4 hN4 (g24.trans h24) (g3.trans h3) (hSF.tr hSF3) hcur4 hpt4 f123 f127 hmw3 (Or.inl ⟨hst3, h5, h1⟩)) (by repeat (first | exact trivial | refine ⟨rfl, ?_⟩))
  refine wp_aload_n dX9_quote_0 rfl ?_
  refine wp_getR dX9_quote_1 fl_X9_17 rfl rfl (hG 4) ?_
  refine wp_iload_n dX9_quote_4 rfl ?_
  refine wp_iconst (v := 1) dX9_quote_5 rfl ?_
  refine wp_iastore dX9_quote_6 rfl hkin ?_
  refine wp_aload_n dX9_quote_7 rfl ?_
  refine wp_getR dX9_quote_8 fl_X9_29 rfl rfl (hG 8) ?_
  refine wp_iload_n dX9_quote_11 rfl ?_
  refine wp_iconst (v := 0) dX9_quote_12 rfl ?_
  refine wp_iastore dX9_quote_13 rfl hkin ?_
  refine wp_aload_n dX9_quote_14 rfl ?_
  refine wp_dup dX9_quote_15 rfl ?_
  refine wp_getI dX9_quote_16 fl_X9_124 rfl rfl ?_
  refine wp_iconst (v := 1) dX9_quote_19 rfl ?_
  refine wp_iadd dX9_quote_20 ?_
  refine wp_putI dX9_quote_21 fl_X9_124 rfl rfl (fun _ _ _ h => by cases h; rfl) rfl rfl ?_
  refine wp_iconst (v := 1) dX9_quote_24 rfl ?_
  refine wp_istore_n dX9_quote_25 (Nat.le_of_ble_eq_true rfl) ?_
  rw [hkcl]
  have e23 : fI (sA (sA M 123 k 1) 127 k 0) 121 23 + 1 = nI (a + 1) := at_inc hP
  rw [e23]
  have hF1 : mPF M (sI (sA (sA M 123 k 1) 127 k 0) 121 23 (nI (a + 1))) := ((Fr.rf.sA (by simp)).sA (by simp)).sI (by simp)
  have hC1 : Cn tp (a + 1) (rWord (rNd u (nsCo (rCur u) 1)) 0 5) := Cn_step hC hfst.1 (by rw [hfst.2, hpc 34 (Or.inr ⟨by decide, Or.inr (Or.inl rfl)⟩)]; rfl)
  refine wp_lv (loop 5 (a + 1) _ [] _ rfl (hP.fr hF1 rfl hfst.1) hC1 hF1 (((NF.rf.sA (by unfold inK; omega)).sA (by unfold inK; omega)).sI) rfl rfl ((SF_nd _ _).tr (SF_word _ _ _)) ?_ ⟨?_, ?_, ?_, ?_⟩ ?_ ?_ ⟨?_, fun j hj => absurd hj (Nat.not_lt_zero j)⟩ (fun j hj => absurd hj (Nat.not_lt_zero j)) (Or.inl ⟨rfl, rfl⟩)) (by repeat (first | exact trivial | refine ⟨rfl, ?_⟩))
  · refine (rCur_nd u _).trans ?_
    show mkN _ _ _ _ _ _ _ (nWo (rCur u)) = mkN _ _ _ _ _ _ _ []
    rw [hfw]; rfl
  · rw [aI_sI, aI_sA, if_neg (by omega), aI_sA, if_neg (by omega)]; exact hpt.1
  · rw [aI_sI, aI_sA, if_neg (by omega), aI_sA, if_neg (by omega)]; exact hpt.2.1
  · rw [aI_sI, aI_sA, if_neg (by omega), aI_sA, if_neg (by omega)]; exact hpt.2.2.1
  · rw [aI_sI, aI_sA, if_neg (by omega), aI_sA, if_neg (by omega)]; exact hpt.2.2.2
  · rw [aI_sI, aI_sA, if_neg (by omega), aI_sA, if_pos ⟨rfl, rfl⟩]
  · rw [aI_sI, aI_sA, if_pos ⟨rfl, rfl⟩]
  · rw [aI_sI, aI_sA, if_neg (by omega), aI_sA, if_neg (by omega)]; exact hcnt
