/-! ===== the class: counting ===== -/
abbrev jF (M M1 : Mem) : Prop := Fr [] [118] [119] M M1
def JC (M : Mem) (dc : Nat → List (List Nat)) : Prop := (fR M 113 0 = some 114 ∧ fR M 113 1 = some 117 ∧ fR M 113 2 = some 119 ∧ fR M 114 0 = some 115 ∧ fR M 114 1 = some 116 ∧ fR M 117 0 = some 118) ∧ rcW M dc
theorem JC.fr {M M1 : Mem} {dc : Nat → List (List Nat)} (h : JC M dc) (k : jF M M1) : JC M1 dc :=
  ⟨⟨(k.2.2.2.1 _ _).trans h.1.1, (k.2.2.2.1 _ _).trans h.1.2.1, (k.2.2.2.1 _ _).trans h.1.2.2.1, (k.2.2.2.1 _ _).trans h.1.2.2.2.1, (k.2.2.2.1 _ _).trans h.1.2.2.2.2.1, (k.2.2.2.1 _ _).trans h.1.2.2.2.2.2⟩, h.2.fr k (by simp) (by simp)⟩
theorem kF_j {M M1 : Mem} (h : kF M M1) : jF M M1 := h.wk (by simp) (by simp) (by simp)
theorem CX.fj {M M1 : Mem} {p : Nat} {x : ND} (h : CX M p x) (k : jF M M1) : CX M1 p x :=
  ⟨h.1, h.2.1, (k.2.2.2.1 _ _).trans h.2.2.1, h.2.2.2.fr k (fun f => by simp) (by have := h.2.1; simp; omega)⟩
def dcOk (dc : Nat → List (List Nat)) : Prop := ∀ r, r < 32 → ∀ p, p < (dc r).length → okL ((dc r).getD p []) ∧ (dc r).getD p [] ≠ []
theorem qu_sz {x : ND} (h : nOk x) (hc : nCo x = 1) : nSz x = nI (nWo x).length ∧ 1 ≤ (nWo x).length := by
  refine ⟨by unfold nSz; rw [hc]; rfl, ?_⟩
  rcases h.2 with ⟨e, _⟩ | ⟨_, e, _⟩ | ⟨e, _⟩ | ⟨e, _⟩
  · exact absurd (e.symm.trans hc) (by decide)
  · exact e
  · exact absurd (e.symm.trans hc) (by decide)
  · exact absurd (e.symm.trans hc) (by decide)
set_option maxRecDepth 100000 in
set_option maxHeartbeats 4000000 in
theorem cX1_quoteStands_ (E : GE) (p : Nat) (x : ND) (dc : Nat → List (List Nat)) (D F : Nat) (hD : D < 8) (hF : F < 4) (M : Mem) (hj : JC M dc) (hdc : dcOk dc) (hcx : CX M p x) (hx : nOk x) (ho : okN x) (first : Nat) (hco : nCo x = 1) (hfi : first < (dc (4 * D + F)).length) : Sp E mX1_quoteStands 1 0 0 [.ref 113, .ref p, .int (nI D), .int (nI F), .int (nI first)] SH M (RV (some (.int (b2i (fS (dc (4 * D + F)) (nWo x) first (qLast (dc (4 * D + F)) (nWo x) first (nDe x).toNatClampNeg - first) = (nWo x).length)))) SH M) := by
  refine sp_of vX1_quoteStands.1 rfl (Nat.le_of_ble_eq_true rfl) ?_
  obtain ⟨hsz, h1l⟩ := qu_sz hx hco
  obtain ⟨sl, hs9, hde⟩ := co_de hx (by rw [hco]; decide)
  have hsl : (nDe x).toNatClampNeg = sl := by rw [hde]; exact nI_clamp (by omega)
  rw [hsl]
  obtain ⟨L, hL⟩ : ∃ L, L = dc (4 * D + F) := ⟨_, rfl⟩
  have hL12 := (hj.2 (4 * D + F) (by omega)).2.1
  have hdL : ∀ p, p < L.length → okL (L.getD p []) := fun p hp => by rw [hL] at hp ⊢; exact (hdc (4 * D + F) (by omega) p hp).1
  have hcw : ∀ p, p < L.length → Sp E mX6_wordAt 0 0 0 [.ref 114, .int (nI D), .int (nI F), .int (nI p)] SH M (RV (some (.long (pack (L.getD p [])))) SH M) := fun p hp => by rw [hL] at hp ⊢; exact cX6_wordAt_ E dc D F p hD hF M hj.1.2.2.2.1 hj.2 hp
  rw [← hL] at hfi hL12 ⊢
  have h5 := ho.1
  have e5 : fI M p 5 = nI (nWo x).length := hcx.2.2.2.2.2.2.2.2.1.trans hsz
  have e4 : fI M p 4 = nI sl := hcx.2.2.2.2.2.2.2.1.trans hde
  obtain ⟨Q, hQ⟩ : ∃ Q, Q = qLast L (nWo x) first sl := ⟨_, rfl⟩
  have hQ2 : Q = min L.length (first + (nWo x).length + sl) := hQ
  rw [← hQ]
  have hlast : (if nI (first + (nWo x).length - 1 + sl) < nI (L.length - 1) then nI (first + (nWo x).length - 1 + sl) else nI (L.length - 1)) = nI (Q - 1) := by
    rw [min_n (by omega) (by omega)]
    congr 1; omega
  have hend : ∀ k, first + k ≤ Q → (first + k = Q ∨ fS L (nWo x) first k = (nWo x).length) → Wp (xM E mX1_quoteStands 1 0 0 SH.length (RV (some (.int (b2i (fS L (nWo x) first (Q - first) = (nWo x).length)))) SH M)) 0 0 83 [(6, .int (nI (fS L (nWo x) first k))), (1, .ref p)] [] SH M := by
    intro k hk hor
    have hle := fS_le L (nWo x) first k
    have hiff : fS L (nWo x) first (Q - first) = (nWo x).length ↔ fS L (nWo x) first k = (nWo x).length := by
      have hm := fS_mono L (nWo x) first k (Q - first - k)
      rw [show k + (Q - first - k) = Q - first by omega] at hm
      have hl2 := fS_le L (nWo x) first (Q - first)
      rcases hor with h | h
      · rw [show k = Q - first by omega]
      · constructor <;> intro _ <;> omega
    refine wp_iload dX1_quoteStands_83 rfl ?_
    refine wp_aload_n dX1_quoteStands_85 rfl ?_
    refine wp_getI dX1_quoteStands_86 fl_X1_113 hcx.1.1 rfl ?_
    rw [e5]
    refine wp_icmp_ne (tgt := 96) dX1_quoteStands_89 (by decide) (fun c89 => ?_) (fun c89 => ?_)
    · refine wp_iconst (v := 0) dX1_quoteStands_96 rfl ?_
      refine wp_ireturn dX1_quoteStands_97 rfl rfl (Nat.zero_le _) (Nat.zero_le _) ?_
      rw [b2i_f (fun h => c89 (by rw [hiff.mp h]))]
      exact ⟨rfl, rfl, rfl⟩
    · refine wp_iconst (v := 1) dX1_quoteStands_92 rfl ?_
      refine wp_goto (tgt := 97) dX1_quoteStands_93 (by decide) ?_
      refine wp_ireturn dX1_quoteStands_97 rfl rfl (Nat.zero_le _) (Nat.zero_le _) ?_
      rw [b2i_t (hiff.mpr (nI_e (by omega) (by omega) c89))]
      exact ⟨rfl, rfl, rfl⟩
  have loop : ∀ (r k : Nat), first + k + r = Q → Wp (xM E mX1_quoteStands 1 0 0 SH.length (RV (some (.int (b2i (fS L (nWo x) first (Q - first) = (nWo x).length)))) SH M)) 0 0 37 [(7, .int (nI (first + k))), (6, .int (nI (fS L (nWo x) first k))), (5, .int (nI (Q - 1))), (1, .ref p), (2, .int (nI D)), (3, .int (nI F)), (0, .ref 113)] [] SH M := by
    intro r
    induction r with
    | zero =>
      intro k hk
      refine wp_iload dX1_quoteStands_37 rfl ?_
      refine wp_iload dX1_quoteStands_39 rfl ?_
      refine wp_icmp_gt (tgt := 83) dX1_quoteStands_41 (by decide) (fun c41 => ?_) (fun c41 => absurd (show nI (Q - 1) < nI (first + k) by rw [Int32.lt_iff_toInt_lt, nI_toInt (by omega), nI_toInt (by omega)]; omega) c41)
      exact wp_lv (hend k (by omega) (Or.inl (by omega))) (by repeat (first | exact trivial | refine ⟨rfl, ?_⟩))
    | succ r ih =>
      intro k hk
      have hle := fS_le L (nWo x) first k
      have hpl : first + k < L.length := by omega
      have J77 : Wp (xM E mX1_quoteStands 1 0 0 SH.length (RV (some (.int (b2i (fS L (nWo x) first (Q - first) = (nWo x).length)))) SH M)) 0 0 77 [(7, .int (nI (first + k))), (6, .int (nI (fS L (nWo x) first (k + 1)))), (5, .int (nI (Q - 1))), (1, .ref p), (2, .int (nI D)), (3, .int (nI F)), (0, .ref 113)] [] SH M := by
        refine wp_iinc dX1_quoteStands_77 rfl (i_inc _) (Nat.le_of_ble_eq_true rfl) ?_
        refine wp_goto (tgt := 37) dX1_quoteStands_80 (by decide) ?_
        exact wp_lv (ih (k + 1) (by omega)) (by repeat (first | exact trivial | refine ⟨rfl, ?_⟩))
      refine wp_iload dX1_quoteStands_37 rfl ?_
      refine wp_iload dX1_quoteStands_39 rfl ?_
      refine wp_icmp_gt (tgt := 83) dX1_quoteStands_41 (by decide) (fun c41 => absurd c41 (by rw [Int32.lt_iff_toInt_lt, nI_toInt (by omega), nI_toInt (by omega)]; omega)) (fun c41 => ?_)
      refine wp_iload dX1_quoteStands_44 rfl ?_
      refine wp_aload_n dX1_quoteStands_46 rfl ?_
      refine wp_getI dX1_quoteStands_47 fl_X1_113 hcx.1.1 rfl ?_
      rw [e5]
      refine wp_icmp_ge (tgt := 83) dX1_quoteStands_50 (by decide) (fun c50 => ?_) (fun c50 => ?_)
      · have hf : fS L (nWo x) first k = (nWo x).length := by
          have : (nWo x).length ≤ fS L (nWo x) first k := Nat.le_of_not_lt fun q => nI_ge q (by omega) c50
          omega
        exact wp_lv (hend k (by omega) (Or.inr hf)) (by repeat (first | exact trivial | refine ⟨rfl, ?_⟩))
      · have hfl : fS L (nWo x) first k < (nWo x).length := Nat.lt_of_not_le fun h => c50 (nI_le h (by omega))
        have okW := nd_okL hx ho (fS L (nWo x) first k)
        have okV := hdL (first + k) hpl
        refine wp_aload_n dX1_quoteStands_53 rfl ?_
        refine wp_getR dX1_quoteStands_54 fl_X1_12 rfl rfl hj.1.1 ?_
        refine wp_iload_n dX1_quoteStands_57 rfl ?_
        refine wp_iload_n dX1_quoteStands_58 rfl ?_
        refine wp_iload dX1_quoteStands_59 rfl ?_
        refine wp_cV3l dX1_quoteStands_61 ml_X1_99 vX6_wordAt ⟨5, (RX6, TX6, 2), rfl, rfl, rfl⟩ (hcw (first + k) hpl) (Nat.le_of_ble_eq_true rfl) (Nat.le_of_ble_eq_true rfl) (Nat.le_of_ble_eq_true rfl) ?_
        refine wp_aload_n dX1_quoteStands_64 rfl ?_
        refine wp_iload dX1_quoteStands_65 rfl ?_
        refine wp_cV1l dX1_quoteStands_67 ml_X1_107 vX0_wordAt (isO_cx hcx) (cX0_wordN E p (fS L (nWo x) first k) x M hcx (by omega)) (Nat.le_of_ble_eq_true rfl) (Nat.le_of_ble_eq_true rfl) (Nat.le_of_ble_eq_true rfl) ?_
        refine wp_lcmp dX1_quoteStands_70 ?_
        refine wp_if_ne (tgt := 77) dX1_quoteStands_71 (by decide) (fun c71 => ?_) (fun c71 => ?_)
        · have hne : ¬ L.getD (first + k) [] = (nWo x).getD (fS L (nWo x) first k) [] := fun e => c71 ((lg_eq _ _).mpr (by unfold nWd; rw [e]))
          have := J77
          rw [show fS L (nWo x) first (k + 1) = fS L (nWo x) first k from if_neg (fun q => hne q.2.2)] at this
          exact wp_lv this (by repeat (first | exact trivial | refine ⟨rfl, ?_⟩))
        · refine wp_iinc dX1_quoteStands_74 rfl (i_inc _) (Nat.le_of_ble_eq_true rfl) ?_
          have he : L.getD (first + k) [] = (nWo x).getD (fS L (nWo x) first k) [] := (pack_eq okV okW).mp ((lg_eq _ _).mp c71)
          have := J77
          rw [show fS L (nWo x) first (k + 1) = fS L (nWo x) first k + 1 from if_pos ⟨hfl, hpl, he⟩] at this
          exact wp_lv this (by repeat (first | exact trivial | refine ⟨rfl, ?_⟩))
  refine wp_aload_n dX1_quoteStands_0 rfl ?_
  refine wp_getR dX1_quoteStands_1 fl_X1_12 rfl rfl hj.1.1 ?_
  refine wp_iload_n dX1_quoteStands_4 rfl ?_
  refine wp_iload_n dX1_quoteStands_5 rfl ?_
  refine wp_cV2i dX1_quoteStands_6 ml_X1_95 vX6_countOf ⟨5, (RX6, TX6, 2), rfl, rfl, rfl⟩ (cX6_countOf_ E dc D F hD hF M hj.1.2.2.2.2.1 hj.2) (Nat.le_of_ble_eq_true rfl) (Nat.le_of_ble_eq_true rfl) (Nat.le_of_ble_eq_true rfl) ?_
  rw [← hL]
  refine wp_iconst (v := 1) dX1_quoteStands_9 rfl ?_
  refine wp_isub dX1_quoteStands_10 ?_
  rw [nI_m (by omega)]
  refine wp_iload dX1_quoteStands_11 rfl ?_
  refine wp_aload_n dX1_quoteStands_13 rfl ?_
  refine wp_getI dX1_quoteStands_14 fl_X1_113 hcx.1.1 rfl ?_
  rw [e5]
  refine wp_iadd dX1_quoteStands_17 ?_
  rw [nI_add]
  refine wp_iconst (v := 1) dX1_quoteStands_18 rfl ?_
  refine wp_isub dX1_quoteStands_19 ?_
  rw [nI_m (by omega)]
  refine wp_aload_n dX1_quoteStands_20 rfl ?_
  refine wp_getI dX1_quoteStands_21 fl_X1_85 hcx.1.1 rfl ?_
  rw [e4]
  refine wp_iadd dX1_quoteStands_24 ?_
  rw [nI_add]
  refine wp_cS2i dX1_quoteStands_25 ml_X1_116 sJ9_min_7cf53 (cJ9_min_ E _ _ _ _) (Nat.le_of_ble_eq_true rfl) (Nat.le_of_ble_eq_true rfl) (Nat.le_of_ble_eq_true rfl) ?_
  rw [hlast]
  refine wp_istore dX1_quoteStands_28 (Nat.le_of_ble_eq_true rfl) ?_
  refine wp_iconst (v := 0) dX1_quoteStands_30 rfl ?_
  refine wp_istore dX1_quoteStands_31 (Nat.le_of_ble_eq_true rfl) ?_
  refine wp_iload dX1_quoteStands_33 rfl ?_
  refine wp_istore dX1_quoteStands_35 (Nat.le_of_ble_eq_true rfl) ?_
  have h := loop (Q - first) 0 (by omega)
  exact wp_lv h (by repeat (first | exact trivial | refine ⟨rfl, ?_⟩))
set_option maxRecDepth 100000 in
set_option maxHeartbeats 4000000 in
theorem cX1_countQuotes_ (E : GE) (p : Nat) (x : ND) (dc : Nat → List (List Nat)) (D F : Nat) (hD : D < 8) (hF : F < 4) (M : Mem) (hj : JC M dc) (hdc : dcOk dc) (hcx : CX M p x) (hx : nOk x) (ho : okN x) (hco : nCo x = 1) : Sp E mX1_countQuotes 2 0 0 [.ref 113, .ref p, .int (nI D), .int (nI F)] SH M (RV (some (.int (nI (cntF x (dc (4 * D + F)) (dc (4 * D + F)).length)))) SH M) := by
  refine sp_of vX1_countQuotes.1 rfl (Nat.le_of_ble_eq_true rfl) ?_
  obtain ⟨L, hL⟩ : ∃ L, L = dc (4 * D + F) := ⟨_, rfl⟩
  have hL12 := (hj.2 (4 * D + F) (by omega)).2.1
  have hdL : ∀ p, p < L.length → okL (L.getD p []) := fun p hp => by rw [hL] at hp ⊢; exact (hdc (4 * D + F) (by omega) p hp).1
  have hcw : ∀ p, p < L.length → Sp E mX6_wordAt 0 0 0 [.ref 114, .int (nI D), .int (nI F), .int (nI p)] SH M (RV (some (.long (pack (L.getD p [])))) SH M) := fun p hp => by rw [hL] at hp ⊢; exact cX6_wordAt_ E dc D F p hD hF M hj.1.2.2.2.1 hj.2 hp
  have hcq : ∀ q, q < L.length → Sp E mX1_quoteStands 1 0 0 [.ref 113, .ref p, .int (nI D), .int (nI F), .int (nI q)] SH M (RV (some (.int (b2i (fS L (nWo x) q (qLast L (nWo x) q (nDe x).toNatClampNeg - q) = (nWo x).length)))) SH M) := fun q hq => by rw [hL] at hq ⊢; exact cX1_quoteStands_ E p x dc D F hD hF M hj hdc hcx hx ho q hco hq
  have hcc : Sp E mX6_countOf 0 0 0 [.ref 114, .int (nI D), .int (nI F)] SH M (RV (some (.int (nI L.length))) SH M) := by rw [hL]; exact cX6_countOf_ E dc D F hD hF M hj.1.2.2.2.2.1 hj.2
  rw [← hL] at hL12 ⊢
  have okW := nd_okL hx ho 0
  have hfp : ∀ q, fitP x L q = (decide (L.getD q [] = nWd x 0) && decide (fS L (nWo x) q (qLast L (nWo x) q (nDe x).toNatClampNeg - q) = (nWo x).length)) := fun q => by unfold fitP; rw [if_pos hco]; rfl
  have loop : ∀ (r q : Nat), q + r = L.length → Wp (xM E mX1_countQuotes 2 0 0 SH.length (RV (some (.int (nI (cntF x L L.length)))) SH M)) 0 0 17 [(6, .int (nI q)), (5, .int (nI L.length)), (4, .int (nI (cntF x L q))), (1, .ref p), (2, .int (nI D)), (3, .int (nI F)), (0, .ref 113)] [] SH M := by
    intro r
    induction r with
    | zero =>
      intro q hq
      have hq : q = L.length := by omega
      subst hq
      refine wp_iload dX1_countQuotes_17 rfl ?_
      refine wp_iload dX1_countQuotes_19 rfl ?_
      refine wp_icmp_ge (tgt := 65) dX1_countQuotes_21 (by decide) (fun c21 => ?_) (fun c21 => absurd (Int32.le_refl _) c21)
      refine wp_iload dX1_countQuotes_65 rfl ?_
      refine wp_ireturn dX1_countQuotes_67 rfl rfl (Nat.zero_le _) (Nat.zero_le _) ?_
      exact ⟨rfl, rfl, rfl⟩
    | succ r ih =>
      intro q hq
      have hql : q < L.length := by omega
      have J59 : Wp (xM E mX1_countQuotes 2 0 0 SH.length (RV (some (.int (nI (cntF x L L.length)))) SH M)) 0 0 59 [(6, .int (nI q)), (5, .int (nI L.length)), (4, .int (nI (cntF x L (q + 1)))), (1, .ref p), (2, .int (nI D)), (3, .int (nI F)), (0, .ref 113)] [] SH M := by
        refine wp_iinc dX1_countQuotes_59 rfl (i_inc _) (Nat.le_of_ble_eq_true rfl) ?_
        refine wp_goto (tgt := 17) dX1_countQuotes_62 (by decide) ?_
        exact wp_lv (ih (q + 1) (by omega)) (by repeat (first | exact trivial | refine ⟨rfl, ?_⟩))
      refine wp_iload dX1_countQuotes_17 rfl ?_
      refine wp_iload dX1_countQuotes_19 rfl ?_
      refine wp_icmp_ge (tgt := 65) dX1_countQuotes_21 (by decide) (fun c21 => absurd c21 (nI_ge hql (by omega))) (fun c21 => ?_)
      refine wp_aload_n dX1_countQuotes_24 rfl ?_
      refine wp_getR dX1_countQuotes_25 fl_X1_12 rfl rfl hj.1.1 ?_
      refine wp_iload_n dX1_countQuotes_28 rfl ?_
      refine wp_iload_n dX1_countQuotes_29 rfl ?_
      refine wp_iload dX1_countQuotes_30 rfl ?_
      refine wp_cV3l dX1_countQuotes_32 ml_X1_99 vX6_wordAt ⟨5, (RX6, TX6, 2), rfl, rfl, rfl⟩ (hcw q hql) (Nat.le_of_ble_eq_true rfl) (Nat.le_of_ble_eq_true rfl) (Nat.le_of_ble_eq_true rfl) ?_
      refine wp_aload_n dX1_countQuotes_35 rfl ?_
      refine wp_iconst (v := 0) dX1_countQuotes_36 rfl ?_
      refine wp_cV1l dX1_countQuotes_37 ml_X1_107 vX0_wordAt (isO_cx hcx) (cX0_wordN E p 0 x M hcx (by decide)) (Nat.le_of_ble_eq_true rfl) (Nat.le_of_ble_eq_true rfl) (Nat.le_of_ble_eq_true rfl) ?_
      refine wp_lcmp dX1_countQuotes_40 ?_
      refine wp_if_ne (tgt := 59) dX1_countQuotes_41 (by decide) (fun c41 => ?_) (fun c41 => ?_)
      · have hn : ¬ fitP x L q = true := fun h => by
          rw [hfp] at h
          simp only [Bool.and_eq_true, decide_eq_true_eq] at h
          exact c41 ((lg_eq _ _).mpr (by rw [h.1]))
        have := J59
        rw [show cntF x L (q + 1) = cntF x L q by show cntF x L q + (if fitP x L q = true then 1 else 0) = _; rw [if_neg hn]; rfl] at this
        exact wp_lv this (by repeat (first | exact trivial | refine ⟨rfl, ?_⟩))
      · refine wp_aload_n dX1_countQuotes_44 rfl ?_
        refine wp_aload_n dX1_countQuotes_45 rfl ?_
        refine wp_iload_n dX1_countQuotes_46 rfl ?_
        refine wp_iload_n dX1_countQuotes_47 rfl ?_
        refine wp_iload dX1_countQuotes_48 rfl ?_
        refine wp_cV4i dX1_countQuotes_50 ml_X1_109 vX1_quoteStands ⟨1, (RX1, TX1, 3), rfl, rfl, rfl⟩ (hcq q hql) (Nat.le_of_ble_eq_true rfl) (Nat.le_of_ble_eq_true rfl) (Nat.le_of_ble_eq_true rfl) ?_
        refine wp_if_eq (tgt := 59) dX1_countQuotes_53 (by decide) (fun c53 => ?_) (fun c53 => ?_)
        · have hn : ¬ fitP x L q = true := fun h => by
            rw [hfp] at h
            simp only [Bool.and_eq_true, decide_eq_true_eq] at h
            exact b2i_e0.mp c53 h.2
          have := J59
          rw [show cntF x L (q + 1) = cntF x L q by show cntF x L q + (if fitP x L q = true then 1 else 0) = _; rw [if_neg hn]; rfl] at this
          exact wp_lv this (by repeat (first | exact trivial | refine ⟨rfl, ?_⟩))
        · refine wp_iinc dX1_countQuotes_56 rfl (i_inc _) (Nat.le_of_ble_eq_true rfl) ?_
          have hy : fitP x L q = true := by
            rw [hfp]
            simp only [Bool.and_eq_true, decide_eq_true_eq]
            exact ⟨(pack_eq (hdL q hql) okW).mp ((lg_eq _ _).mp c41), b2i_ne.mp c53⟩
          have := J59
          rw [show cntF x L (q + 1) = cntF x L q + 1 by show cntF x L q + (if fitP x L q = true then 1 else 0) = _; rw [if_pos hy]] at this
          exact wp_lv this (by repeat (first | exact trivial | refine ⟨rfl, ?_⟩))
  refine wp_iconst (v := 0) dX1_countQuotes_0 rfl ?_
  refine wp_istore dX1_countQuotes_1 (Nat.le_of_ble_eq_true rfl) ?_
  refine wp_aload_n dX1_countQuotes_3 rfl ?_
  refine wp_getR dX1_countQuotes_4 fl_X1_12 rfl rfl hj.1.1 ?_
  refine wp_iload_n dX1_countQuotes_7 rfl ?_
  refine wp_iload_n dX1_countQuotes_8 rfl ?_
  refine wp_cV2i dX1_countQuotes_9 ml_X1_95 vX6_countOf ⟨5, (RX6, TX6, 2), rfl, rfl, rfl⟩ (hcc) (Nat.le_of_ble_eq_true rfl) (Nat.le_of_ble_eq_true rfl) (Nat.le_of_ble_eq_true rfl) ?_
  refine wp_istore dX1_countQuotes_12 (Nat.le_of_ble_eq_true rfl) ?_
  refine wp_iconst (v := 0) dX1_countQuotes_14 rfl ?_
  refine wp_istore dX1_countQuotes_15 (Nat.le_of_ble_eq_true rfl) ?_
  exact wp_lv (loop L.length 0 (by omega)) (by repeat (first | exact trivial | refine ⟨rfl, ?_⟩))
set_option maxRecDepth 100000 in
set_option maxHeartbeats 4000000 in
theorem cX1_countWords_ (E : GE) (p : Nat) (x : ND) (dc : Nat → List (List Nat)) (D F : Nat) (hD : D < 8) (hF : F < 4) (M : Mem) (hj : JC M dc) (hdc : dcOk dc) (hcx : CX M p x) (hx : nOk x) (ho : okN x) (hco : ¬ nCo x = 1) : Sp E mX1_countWords 4 0 0 [.ref 113, .ref p, .int (nI D), .int (nI F)] SH M (fun o sh1 M1 => sh1 = SH ∧ o = some (.int (nI (cntF x (dc (4 * D + F)) (dc (4 * D + F)).length))) ∧ kF M M1) := by
  refine sp_of vX1_countWords.1 rfl (Nat.le_of_ble_eq_true rfl) ?_
  obtain ⟨L, hL⟩ : ∃ L, L = dc (4 * D + F) := ⟨_, rfl⟩
  have hL12 := (hj.2 (4 * D + F) (by omega)).2.1
  have hdL : ∀ p, p < L.length → okL (L.getD p []) := fun p hp => by rw [hL] at hp ⊢; exact (hdc (4 * D + F) (by omega) p hp).1
  have hcw : ∀ (M1 : Mem), JC M1 dc → ∀ p, p < L.length → Sp E mX6_wordAt 0 0 0 [.ref 114, .int (nI D), .int (nI F), .int (nI p)] SH M1 (RV (some (.long (pack (L.getD p [])))) SH M1) := fun M1 hj p hp => by rw [hL] at hp ⊢; exact cX6_wordAt_ E dc D F p hD hF M1 hj.1.2.2.2.1 hj.2 hp
  have hcc : Sp E mX6_countOf 0 0 0 [.ref 114, .int (nI D), .int (nI F)] SH M (RV (some (.int (nI L.length))) SH M) := by rw [hL]; exact cX6_countOf_ E dc D F hD hF M hj.1.2.2.2.2.1 hj.2
  rw [← hL] at hL12 ⊢
  have hfp : ∀ q, fitP x L q = fitW x (L.getD q []) := fun q => by unfold fitP; rw [if_neg hco]
  have loop : ∀ (r q : Nat) (M1 : Mem), q + r = L.length → kF M M1 → Wp (xM E mX1_countWords 4 0 0 SH.length (fun o sh1 M1 => sh1 = SH ∧ o = some (.int (nI (cntF x L L.length))) ∧ kF M M1)) 0 0 17 [(6, .int (nI q)), (5, .int (nI L.length)), (4, .int (nI (cntF x L q))), (1, .ref p), (2, .int (nI D)), (3, .int (nI F)), (0, .ref 113)] [] SH M1 := by
    intro r
    induction r with
    | zero =>
      intro q M1 hq hF0
      have hq : q = L.length := by omega
      subst hq
      refine wp_iload dX1_countWords_17 rfl ?_
      refine wp_iload dX1_countWords_19 rfl ?_
      refine wp_icmp_ge (tgt := 55) dX1_countWords_21 (by decide) (fun c21 => ?_) (fun c21 => absurd (Int32.le_refl _) c21)
      refine wp_iload dX1_countWords_55 rfl ?_
      refine wp_ireturn dX1_countWords_57 rfl rfl (Nat.zero_le _) (Nat.zero_le _) ?_
      exact ⟨rfl, rfl, hF0⟩
    | succ r ih =>
      intro q M1 hq hF0
      have hql : q < L.length := by omega
      have hj1 := hj.fr (kF_j hF0)
      have hcx1 := hcx.fj (kF_j hF0)
      have J49 : ∀ M2 : Mem, kF M M2 → Wp (xM E mX1_countWords 4 0 0 SH.length (fun o sh1 M1 => sh1 = SH ∧ o = some (.int (nI (cntF x L L.length))) ∧ kF M M1)) 0 0 49 [(6, .int (nI q)), (5, .int (nI L.length)), (4, .int (nI (cntF x L (q + 1)))), (1, .ref p), (2, .int (nI D)), (3, .int (nI F)), (0, .ref 113)] [] SH M2 := by
        intro M2 hF2
        refine wp_iinc dX1_countWords_49 rfl (i_inc _) (Nat.le_of_ble_eq_true rfl) ?_
        refine wp_goto (tgt := 17) dX1_countWords_52 (by decide) ?_
        exact wp_lv (ih (q + 1) M2 (by omega) hF2) (by repeat (first | exact trivial | refine ⟨rfl, ?_⟩))
      refine wp_iload dX1_countWords_17 rfl ?_
      refine wp_iload dX1_countWords_19 rfl ?_
      refine wp_icmp_ge (tgt := 55) dX1_countWords_21 (by decide) (fun c21 => absurd c21 (nI_ge hql (by omega))) (fun c21 => ?_)
      refine wp_aload_n dX1_countWords_24 rfl ?_
      refine wp_getR dX1_countWords_25 fl_X1_21 rfl rfl hj1.1.2.1 ?_
      refine wp_aload_n dX1_countWords_28 rfl ?_
      refine wp_aload_n dX1_countWords_29 rfl ?_
      refine wp_getR dX1_countWords_30 fl_X1_12 rfl rfl hj1.1.1 ?_
      refine wp_iload_n dX1_countWords_33 rfl ?_
      refine wp_iload_n dX1_countWords_34 rfl ?_
      refine wp_iload dX1_countWords_35 rfl ?_
      refine wp_cV3l dX1_countWords_37 ml_X1_99 vX6_wordAt ⟨5, (RX6, TX6, 2), rfl, rfl, rfl⟩ (hcw M1 hj1 q hql) (Nat.le_of_ble_eq_true rfl) (Nat.le_of_ble_eq_true rfl) (Nat.le_of_ble_eq_true rfl) ?_
      refine wp_cV2p dX1_countWords_40 ml_X1_103 vX3_isFor ⟨2, (RX3, TX3, 1), rfl, rfl, rfl⟩ (cX3_isFor_ E p x (L.getD q []) M1 hj1.1.2.2.2.2.2 hcx1 hx ho (hdL q hql)) (Nat.le_of_ble_eq_true rfl) (Nat.le_of_ble_eq_true rfl) (Nat.le_of_ble_eq_true rfl) (Nat.le_refl _) (Nat.le_refl _) (fun v sh1 M1 hqq => ?_)
      obtain ⟨rfl, rfl, hF1⟩ := hqq
      refine wp_if_eq (tgt := 49) dX1_countWords_43 (by decide) (fun c43 => ?_) (fun c43 => ?_)
      · have hn : ¬ fitP x L q = true := by rw [hfp]; exact b2i_e0.mp c43
        have := J49 _ (hF0.tr hF1)
        rw [show cntF x L (q + 1) = cntF x L q by show cntF x L q + (if fitP x L q = true then 1 else 0) = _; rw [if_neg hn]; rfl] at this
        exact wp_lv this (by repeat (first | exact trivial | refine ⟨rfl, ?_⟩))
      · refine wp_iinc dX1_countWords_46 rfl (i_inc _) (Nat.le_of_ble_eq_true rfl) ?_
        have hy : fitP x L q = true := by rw [hfp]; exact b2i_ne.mp c43
        have := J49 _ (hF0.tr hF1)
        rw [show cntF x L (q + 1) = cntF x L q + 1 by show cntF x L q + (if fitP x L q = true then 1 else 0) = _; rw [if_pos hy]] at this
        exact wp_lv this (by repeat (first | exact trivial | refine ⟨rfl, ?_⟩))
  refine wp_iconst (v := 0) dX1_countWords_0 rfl ?_
  refine wp_istore dX1_countWords_1 (Nat.le_of_ble_eq_true rfl) ?_
  refine wp_aload_n dX1_countWords_3 rfl ?_
  refine wp_getR dX1_countWords_4 fl_X1_12 rfl rfl hj.1.1 ?_
  refine wp_iload_n dX1_countWords_7 rfl ?_
  refine wp_iload_n dX1_countWords_8 rfl ?_
  refine wp_cV2i dX1_countWords_9 ml_X1_95 vX6_countOf ⟨5, (RX6, TX6, 2), rfl, rfl, rfl⟩ (hcc) (Nat.le_of_ble_eq_true rfl) (Nat.le_of_ble_eq_true rfl) (Nat.le_of_ble_eq_true rfl) ?_
  refine wp_istore dX1_countWords_12 (Nat.le_of_ble_eq_true rfl) ?_
  refine wp_iconst (v := 0) dX1_countWords_14 rfl ?_
  refine wp_istore dX1_countWords_15 (Nat.le_of_ble_eq_true rfl) ?_
  exact wp_lv (loop L.length 0 M (by omega) Fr.rf) (by repeat (first | exact trivial | refine ⟨rfl, ?_⟩))
set_option maxRecDepth 100000 in
set_option maxHeartbeats 4000000 in
theorem cX1_countFits_ (E : GE) (p : Nat) (x : ND) (dc : Nat → List (List Nat)) (D : Nat) (hD : D < 8) (M : Mem) (hj : JC M dc) (hdc : dcOk dc) (hcx : CX M p x) (hx : nOk x) (ho : okN x) (told : Int32) : Sp E mX1_countFits 5 0 0 [.ref 113, .ref p, .int told, .int (nI D)] SH M (fun o sh1 M1 => sh1 = SH ∧ o = some (.long (lN (cntD x told dc D 4))) ∧ kF M M1) := by
  refine sp_of vX1_countFits.1 rfl (Nat.le_of_ble_eq_true rfl) ?_
  have hb : ∀ r, r < 32 → (dc r).length ≤ 12 := fun r hr => (hj.2 r hr).2.1
  have e0 : ∀ {M2 : Mem}, kF M M2 → fI M2 p 0 = nCo x := fun k => (k.1 _ _ (by simp)).trans hcx.2.2.2.1
  have hli : ∀ n, n < 2 ^ 31 → (nI n).toInt64 = lN n := fun n hn => by
    apply Int64.toInt_inj.mp
    rw [Int32.toInt_toInt64, nI_toInt hn]
    show _ = (Int64.ofNat n).toInt
    rw [Int64.toInt_ofNat', Int.bmod_def]
    simp only [show Int64.size = 18446744073709551616 from rfl]
    split <;> omega
  have hla : ∀ a b, lN a + lN b = lN (a + b) := fun a b => (Int64.ofNat_add a b).symm
  have loop : ∀ (r f : Nat) (M1 : Mem), f + r = 4 → kF M M1 → Wp (xM E mX1_countFits 5 0 0 SH.length (fun o sh1 M1 => sh1 = SH ∧ o = some (.long (lN (cntD x told dc D 4))) ∧ kF M M1)) 0 0 6 [(6, .int (nI f)), (4, .long (lN (cntD x told dc D f))), (1, .ref p), (2, .int told), (3, .int (nI D)), (0, .ref 113)] [] SH M1 := by
    intro r
    induction r with
    | zero =>
      intro f M1 hf hF0
      have hf : f = 4 := by omega
      subst hf
      refine wp_iload dX1_countFits_6 rfl ?_
      refine wp_iconst (v := 4) dX1_countFits_8 rfl ?_
      refine wp_icmp_ge (tgt := 63) dX1_countFits_9 (by decide) (fun c9 => ?_) (fun c9 => absurd (show (4 : Int32) ≤ nI 4 by decide) c9)
      refine wp_lload dX1_countFits_63 rfl ?_
      refine wp_lreturn dX1_countFits_65 rfl (Nat.zero_le _) (Nat.zero_le _) ?_
      exact ⟨rfl, rfl, hF0⟩
    | succ r ih =>
      intro f M1 hf hF0
      have hj1 := hj.fr (kF_j hF0)
      have hcx1 := hcx.fj (kF_j hF0)
      have hcl := cntF_le x (dc (4 * D + f)) (dc (4 * D + f)).length
      have hb4 := hb (4 * D + f) (by omega)
      have J57 : ∀ M2 : Mem, kF M M2 → Wp (xM E mX1_countFits 5 0 0 SH.length (fun o sh1 M1 => sh1 = SH ∧ o = some (.long (lN (cntD x told dc D 4))) ∧ kF M M1)) 0 0 57 [(6, .int (nI f)), (4, .long (lN (cntD x told dc D (f + 1)))), (1, .ref p), (2, .int told), (3, .int (nI D)), (0, .ref 113)] [] SH M2 := by
        intro M2 hF2
        refine wp_iinc dX1_countFits_57 rfl (i_inc _) (Nat.le_of_ble_eq_true rfl) ?_
        refine wp_goto (tgt := 6) dX1_countFits_60 (by decide) ?_
        exact wp_lv (ih (f + 1) M2 (by omega) hF2) (by repeat (first | exact trivial | refine ⟨rfl, ?_⟩))
      have J23 : (told = -1 ∨ told = nI f) → Wp (xM E mX1_countFits 5 0 0 SH.length (fun o sh1 M1 => sh1 = SH ∧ o = some (.long (lN (cntD x told dc D 4))) ∧ kF M M1)) 0 0 23 [(6, .int (nI f)), (4, .long (lN (cntD x told dc D f))), (1, .ref p), (2, .int told), (3, .int (nI D)), (0, .ref 113)] [] SH M1 := by
        intro ht
        have es : cntD x told dc D (f + 1) = cntD x told dc D f + cntF x (dc (4 * D + f)) (dc (4 * D + f)).length := by
          show cntD x told dc D f + (if told = -1 ∨ told = nI f then _ else 0) = _
          rw [if_pos ht]
        refine wp_lload dX1_countFits_23 rfl ?_
        refine wp_aload_n dX1_countFits_25 rfl ?_
        refine wp_getI dX1_countFits_26 fl_X1_39 hcx1.1.1 rfl ?_
        refine wp_iconst (v := 1) dX1_countFits_29 rfl ?_
        rw [e0 hF0]
        refine wp_icmp_ne (tgt := 45) dX1_countFits_30 (by decide) (fun c30 => ?_) (fun c30 => ?_)
        · refine wp_aload_n dX1_countFits_45 rfl ?_
          refine wp_aload_n dX1_countFits_46 rfl ?_
          refine wp_iload_n dX1_countFits_47 rfl ?_
          refine wp_iload dX1_countFits_48 rfl ?_
          refine wp_cV3p dX1_countFits_50 ml_X1_92 vX1_countWords ⟨1, (RX1, TX1, 3), rfl, rfl, rfl⟩ (cX1_countWords_ E p x dc D f hD (by omega) M1 hj1 hdc hcx1 hx ho c30) (Nat.le_of_ble_eq_true rfl) (Nat.le_of_ble_eq_true rfl) (Nat.le_of_ble_eq_true rfl) (Nat.le_refl _) (Nat.le_refl _) (fun v sh1 M1 hqq => ?_)
          obtain ⟨rfl, rfl, hF1⟩ := hqq
          refine wp_i2l dX1_countFits_53 ?_
          refine wp_ladd dX1_countFits_54 ?_
          refine wp_lstore dX1_countFits_55 (Nat.le_of_ble_eq_true rfl) ?_
          rw [hli _ (by omega), hla, ← es]
          exact wp_lv (J57 _ (hF0.tr hF1)) (by repeat (first | exact trivial | refine ⟨rfl, ?_⟩))
        · refine wp_aload_n dX1_countFits_33 rfl ?_
          refine wp_aload_n dX1_countFits_34 rfl ?_
          refine wp_iload_n dX1_countFits_35 rfl ?_
          refine wp_iload dX1_countFits_36 rfl ?_
          refine wp_cV3i dX1_countFits_38 ml_X1_88 vX1_countQuotes ⟨1, (RX1, TX1, 3), rfl, rfl, rfl⟩ (cX1_countQuotes_ E p x dc D f hD (by omega) M1 hj1 hdc hcx1 hx ho c30) (Nat.le_of_ble_eq_true rfl) (Nat.le_of_ble_eq_true rfl) (Nat.le_of_ble_eq_true rfl) ?_
          refine wp_i2l dX1_countFits_41 ?_
          refine wp_goto (tgt := 54) dX1_countFits_42 (by decide) ?_
          refine wp_ladd dX1_countFits_54 ?_
          refine wp_lstore dX1_countFits_55 (Nat.le_of_ble_eq_true rfl) ?_
          rw [hli _ (by omega), hla, ← es]
          exact wp_lv (J57 _ hF0) (by repeat (first | exact trivial | refine ⟨rfl, ?_⟩))
      refine wp_iload dX1_countFits_6 rfl ?_
      refine wp_iconst (v := 4) dX1_countFits_8 rfl ?_
      refine wp_icmp_ge (tgt := 63) dX1_countFits_9 (by decide) (fun c9 => absurd c9 (nI_ge (b := 4) (by omega) (by decide))) (fun c9 => ?_)
      refine wp_iload_n dX1_countFits_12 rfl ?_
      refine wp_iconst (v := (-1)) dX1_countFits_13 rfl ?_
      refine wp_icmp_eq (tgt := 23) dX1_countFits_14 (by decide) (fun c14 => ?_) (fun c14 => ?_)
      · exact wp_lv (J23 (Or.inl c14)) (by repeat (first | exact trivial | refine ⟨rfl, ?_⟩))
      · refine wp_iload_n dX1_countFits_17 rfl ?_
        refine wp_iload dX1_countFits_18 rfl ?_
        refine wp_icmp_ne (tgt := 57) dX1_countFits_20 (by decide) (fun c20 => ?_) (fun c20 => ?_)
        · have es : cntD x told dc D (f + 1) = cntD x told dc D f := by
            show cntD x told dc D f + (if told = -1 ∨ told = nI f then _ else 0) = _
            rw [if_neg (fun h => by rcases h with h | h; exact c14 h; exact c20 h)]; rfl
          have := J57 M1 hF0
          rw [es] at this
          exact wp_lv this (by repeat (first | exact trivial | refine ⟨rfl, ?_⟩))
        · exact wp_lv (J23 (Or.inr c20)) (by repeat (first | exact trivial | refine ⟨rfl, ?_⟩))
  refine wp_lconst (v := 0) dX1_countFits_0 rfl ?_
  refine wp_lstore dX1_countFits_1 (Nat.le_of_ble_eq_true rfl) ?_
  refine wp_iconst (v := 0) dX1_countFits_3 rfl ?_
  refine wp_istore dX1_countFits_4 (Nat.le_of_ble_eq_true rfl) ?_
  exact wp_lv (loop 4 0 M (by omega) Fr.rf) (by repeat (first | exact trivial | refine ⟨rfl, ?_⟩))
