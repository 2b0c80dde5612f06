/-! ===== the model: quotes and counting ===== -/
theorem rmW_WV {M : Mem} {dc : Nat → List (List Nat)} (h : rmW M dc) (hdc : dcOk dc) {r p : Nat} (hr : r < 32) (hp : p < (dc r).length) : WV M (12 * r + p) ((dc r).getD p []) := by
  obtain ⟨a, b, c⟩ := h r hr
  obtain ⟨c1, c2, c3⟩ := c p hp
  exact ⟨by omega, c1, c3, (hdc r hr p hp).1⟩
theorem rmW.ft {M M1 : Mem} {dc : Nat → List (List Nat)} (h : rmW M dc) (q : tF M M1) : rmW M1 dc := by
  intro r hr
  obtain ⟨a, b, c⟩ := h r hr
  exact ⟨(q.2.1 _ (by simp) _).trans a, b, fun p hp => ⟨(q.2.1 _ (by simp) _).trans (c p hp).1, (c p hp).2.1, fun i hi => (q.2.1 _ (by simp) _).trans ((c p hp).2.2 i hi)⟩⟩
theorem fS_mo (L W : List (List Nat)) (first : Nat) {a b : Nat} (h : a ≤ b) : fS L W first a ≤ fS L W first b := by
  have := fS_mono L W first a (b - a)
  rw [show a + (b - a) = b by omega] at this
  exact this
theorem fS_y {L W : List (List Nat)} {first k : Nat} (h1 : fS L W first k < W.length) (h2 : first + k < L.length) (h3 : L.getD (first + k) [] = W.getD (fS L W first k) []) : fS L W first (k + 1) = fS L W first k + 1 := if_pos ⟨h1, h2, h3⟩
theorem fS_n {L W : List (List Nat)} {first k : Nat} (h3 : ¬ L.getD (first + k) [] = W.getD (fS L W first k) []) : fS L W first (k + 1) = fS L W first k := if_neg (fun q => h3 q.2.2)
theorem fitQ_f {L W : List (List Nat)} {first sl : Nat} (h : L.getD first [] = W.getD 0 [] → ¬ fS L W first (qLast L W first sl - first) = W.length) : ¬ fitQ L W first sl = true := fun q => by
  unfold fitQ at q
  simp only [Bool.and_eq_true, decide_eq_true_eq] at q
  exact h q.1 q.2
theorem fitQ_t {L W : List (List Nat)} {first sl : Nat} (h : L.getD first [] = W.getD 0 []) (k : fS L W first (qLast L W first sl - first) = W.length) : fitQ L W first sl = true := by
  unfold fitQ
  simp only [Bool.and_eq_true, decide_eq_true_eq]
  exact ⟨h, k⟩
set_option maxRecDepth 100000 in
set_option maxHeartbeats 4000000 in
theorem cX9_quoteAt_ (E : GE) (b k first : Nat) (x : ND) (L : List (List Nat)) (M : Mem) (hn : NX M k x) (hx : nOk x) (hL : L.length ≤ 12) (hb : b + L.length ≤ 384) (hV : ∀ p, p < L.length → WV M (b + p) (L.getD p [])) (hco : nCo x = 1) (hfi : first < L.length) : Sp E mX9_quoteAt 1 0 0 [.ref 121, .int (nI b), .int (nI first), .int (nI L.length), .int (nI k)] SH M (RV (some (.int (b2i (fitQ L (nWo x) first (nDe x).toNatClampNeg = true)))) SH M) := by
  refine sp_of vX9_quoteAt.1 rfl (Nat.le_of_ble_eq_true rfl) ?_
  obtain ⟨hsz, h1l⟩ := qu_sz hx hco
  have ho := hn.2.2.2
  have h5 := ho.1
  have hk := hn.2.1
  have hG := hn.1
  have hclk : (nI k).toNatClampNeg = k := nI_clamp (by omega)
  obtain ⟨sl, hs9, hde⟩ := co_de hx (by rw [hco]; decide)
  have hsl : (nDe x).toNatClampNeg = sl := by rw [hde]; exact nI_clamp (by omega)
  rw [hsl]
  have e6 : aI M 138 k = nI (nWo x).length := hn.2.2.1.2.2.2.2.2.2.1.trans (by rw [if_neg (by rw [hco]; decide)])
  have e4 : aI M 136 k = nI sl := hn.2.2.1.2.2.2.2.1.trans hde
  have hin : vp_in (nI k) 25 := vp_in_nI hk (by decide)
  obtain ⟨Q, hQ⟩ : ∃ Q, Q = qLast L (nWo x) first sl := ⟨_, rfl⟩
  have hQ2 : Q = min L.length (first + (nWo x).length + sl) := hQ
  have hend : ∀ p, first < p → p ≤ L.length → fS L (nWo x) first (p - first) = (nWo x).length → fS L (nWo x) first (p - 1 - first) = (nWo x).length - 1 → L.getD first [] = (nWo x).getD 0 [] → Wp (xM E mX9_quoteAt 1 0 0 SH.length (RV (some (.int (b2i (fitQ L (nWo x) first sl = true)))) SH M)) 0 0 73 [(5, .int (nI p)), (1, .int (nI b)), (2, .int (nI first)), (3, .int (nI L.length)), (4, .int (nI k)), (0, .ref 121)] [] SH M := by
    intro p h1 h2 f1 f2 hq
    have ea : nI p - 1 - nI first = nI (p - 1 - first) := by
      rw [nI_m (by omega)]
      have := nI_add (p - 1 - first) first
      rw [show p - 1 - first + first = p - 1 by omega] at this
      rw [← this, Int32.add_sub_cancel]
    have eb : nI (nWo x).length - 1 + nI sl = nI ((nWo x).length - 1 + sl) := by rw [nI_m h1l, nI_add]
    refine wp_iload dX9_quoteAt_73 rfl ?_
    refine wp_iconst (v := 1) dX9_quoteAt_75 rfl ?_
    refine wp_isub dX9_quoteAt_76 ?_
    refine wp_iload_n dX9_quoteAt_77 rfl ?_
    refine wp_isub dX9_quoteAt_78 ?_
    rw [ea]
    refine wp_aload_n dX9_quoteAt_79 rfl ?_
    refine wp_getR dX9_quoteAt_80 fl_X9_62 rfl rfl (hG 20) ?_
    refine wp_iload dX9_quoteAt_83 rfl ?_
    refine wp_iaload dX9_quoteAt_85 rfl hin ?_
    rw [hclk, e6]
    refine wp_iconst (v := 1) dX9_quoteAt_86 rfl ?_
    refine wp_isub dX9_quoteAt_87 ?_
    refine wp_aload_n dX9_quoteAt_88 rfl ?_
    refine wp_getR dX9_quoteAt_89 fl_X9_56 rfl rfl (hG 18) ?_
    refine wp_iload dX9_quoteAt_92 rfl ?_
    refine wp_iaload dX9_quoteAt_94 rfl hin ?_
    rw [hclk, e4]
    refine wp_iadd dX9_quoteAt_95 ?_
    rw [eb]
    refine wp_icmp_gt (tgt := 103) dX9_quoteAt_96 (by decide) (fun c96 => ?_) (fun c96 => ?_)
    · refine wp_iconst (v := 0) dX9_quoteAt_103 rfl ?_
      refine wp_ireturn dX9_quoteAt_104 rfl rfl (Nat.zero_le _) (Nat.zero_le _) ?_
      have h := (nI_lti (by omega) (by omega)).mp c96
      rw [b2i_f (fitQ_f (fun _ q => by
        rw [← hQ] at q
        have := fS_mo L (nWo x) first (a := Q - first) (b := p - 1 - first) (by omega)
        omega))]
      exact ⟨rfl, rfl, rfl⟩
    · refine wp_iconst (v := 1) dX9_quoteAt_99 rfl ?_
      refine wp_goto (tgt := 104) dX9_quoteAt_100 (by decide) ?_
      refine wp_ireturn dX9_quoteAt_104 rfl rfl (Nat.zero_le _) (Nat.zero_le _) ?_
      have h : p - 1 - first ≤ (nWo x).length - 1 + sl := Nat.le_of_not_lt fun q => c96 ((nI_lti (by omega) (by omega)).mpr q)
      rw [b2i_t (fitQ_t hq (by
        rw [← hQ]
        have := fS_mo L (nWo x) first (a := p - first) (b := Q - first) (by omega)
        have := fS_le L (nWo x) first (Q - first)
        omega))]
      exact ⟨rfl, rfl, rfl⟩
  have h62 : ¬ fitQ L (nWo x) first sl = true → Wp (xM E mX9_quoteAt 1 0 0 SH.length (RV (some (.int (b2i (fitQ L (nWo x) first sl = true)))) SH M)) 0 0 62 [] [] SH M := by
    intro hq
    refine wp_iconst (v := 0) dX9_quoteAt_62 rfl ?_
    refine wp_ireturn dX9_quoteAt_63 rfl rfl (Nat.zero_le _) (Nat.zero_le _) ?_
    rw [b2i_f hq]
    exact ⟨rfl, rfl, rfl⟩
  have inner : ∀ (j : Nat) (hj : j < (nWo x).length) (kk : ∀ p, first ≤ p → p < L.length → fS L (nWo x) first (p - first) = j → L.getD first [] = (nWo x).getD 0 [] → L.getD p [] = nWd x j → Wp (xM E mX9_quoteAt 1 0 0 SH.length (RV (some (.int (b2i (fitQ L (nWo x) first sl = true)))) SH M)) 0 0 64 [(5, .int (nI p)), (6, .int (nI j)), (1, .int (nI b)), (2, .int (nI first)), (3, .int (nI L.length)), (4, .int (nI k)), (0, .ref 121)] [] SH M) (r p : Nat), p + r = L.length → first ≤ p → fS L (nWo x) first (p - first) = j → (1 ≤ j → L.getD first [] = (nWo x).getD 0 []) → (j = 0 → first < p → ¬ L.getD first [] = (nWo x).getD 0 []) → Wp (xM E mX9_quoteAt 1 0 0 SH.length (RV (some (.int (b2i (fitQ L (nWo x) first sl = true)))) SH M)) 0 0 18 [(5, .int (nI p)), (6, .int (nI j)), (1, .int (nI b)), (2, .int (nI first)), (3, .int (nI L.length)), (4, .int (nI k)), (0, .ref 121)] [] SH M := by
    intro j hj kk r
    induction r with
    | zero =>
      intro p hp h1 f1 g1 g0
      have hp : p = L.length := by omega
      subst hp
      refine wp_iload dX9_quoteAt_18 rfl ?_
      refine wp_iload_n dX9_quoteAt_20 rfl ?_
      refine wp_icmp_ge (tgt := 45) dX9_quoteAt_21 (by decide) (fun c21 => ?_) (fun c21 => absurd (Int32.le_refl _) c21)
      refine wp_iload dX9_quoteAt_45 rfl ?_
      refine wp_iload_n dX9_quoteAt_47 rfl ?_
      refine wp_icmp_eq (tgt := 62) dX9_quoteAt_48 (by decide) (fun c48 => ?_) (fun c48 => absurd rfl c48)
      exact wp_lv (h62 (fitQ_f (fun _ q => by
        rw [← hQ] at q
        have := fS_mo L (nWo x) first (a := Q - first) (b := L.length - first) (by omega)
        omega))) (by repeat (first | exact trivial | refine ⟨rfl, ?_⟩))
    | succ r ih =>
      intro p hp h1 f1 g1 g0
      have hpl : p < L.length := by omega
      have hne : ¬ nI p = nI L.length := fun e => by have := nI_e (by omega) (by omega) e; omega
      have hw := hV p hpl
      have oW := nd_okL hx ho j
      have ep : first + (p - first) = p := by omega
      refine wp_iload dX9_quoteAt_18 rfl ?_
      refine wp_iload_n dX9_quoteAt_20 rfl ?_
      refine wp_icmp_ge (tgt := 45) dX9_quoteAt_21 (by decide) (fun c21 => absurd c21 (nI_ge hpl (by omega))) (fun c21 => ?_)
      refine wp_aload_n dX9_quoteAt_24 rfl ?_
      refine wp_iload_n dX9_quoteAt_25 rfl ?_
      refine wp_iload dX9_quoteAt_26 rfl ?_
      refine wp_iadd dX9_quoteAt_28 ?_
      rw [nI_add]
      refine wp_iload dX9_quoteAt_29 rfl ?_
      refine wp_iload dX9_quoteAt_31 rfl ?_
      refine wp_cV3i dX9_quoteAt_33 ml_X9_223 vX9_against ⟨8, (RX9, TX9, 39), rfl, rfl, rfl⟩ (cX9_against_ E (b + p) k j (L.getD p []) x M hn hw hx hj) (Nat.le_of_ble_eq_true rfl) (Nat.le_of_ble_eq_true rfl) (Nat.le_of_ble_eq_true rfl) ?_
      refine wp_if_eq (tgt := 45) dX9_quoteAt_36 (by decide) (fun c36 => ?_) (fun c36 => ?_)
      · refine wp_iload dX9_quoteAt_45 rfl ?_
        refine wp_iload_n dX9_quoteAt_47 rfl ?_
        refine wp_icmp_eq (tgt := 62) dX9_quoteAt_48 (by decide) (fun c48 => absurd c48 hne) (fun c48 => ?_)
        refine wp_iload dX9_quoteAt_51 rfl ?_
        refine wp_if_ne (tgt := 64) dX9_quoteAt_53 (by decide) (fun c53 => ?_) (fun c53 => ?_)
        · have he := (agI_0 hw.2.2.2 oW).mp c36
          exact wp_lv (kk p h1 hpl f1 (g1 (Nat.pos_of_ne_zero fun q => c53 (by rw [q]; rfl))) he) (by repeat (first | exact trivial | refine ⟨rfl, ?_⟩))
        · refine wp_iload dX9_quoteAt_56 rfl ?_
          refine wp_iload_n dX9_quoteAt_58 rfl ?_
          refine wp_icmp_le (tgt := 64) dX9_quoteAt_59 (by decide) (fun c59 => ?_) (fun c59 => ?_)
          · have he := (agI_0 hw.2.2.2 oW).mp c36
            have hj0 : j = 0 := nI_e (b := 0) (by omega) (by decide) c53
            have hpf : p ≤ first := Nat.le_of_not_lt fun q => by
              have := (nI_lti (by omega) (by omega)).mpr q
              exact (Int32.not_lt.mpr c59) this
            have hpf : p = first := by omega
            subst hpf
            subst hj0
            exact wp_lv (kk p h1 hpl f1 he he) (by repeat (first | exact trivial | refine ⟨rfl, ?_⟩))
          · have hj0 : j = 0 := nI_e (b := 0) (by omega) (by decide) c53
            have hpf : first < p := Nat.lt_of_not_le fun q => c59 (nI_le q (by omega))
            exact wp_lv (h62 (fitQ_f (fun e => absurd e (g0 hj0 hpf)))) (by repeat (first | exact trivial | refine ⟨rfl, ?_⟩))
      · refine wp_iinc dX9_quoteAt_39 rfl (i_inc _) (Nat.le_of_ble_eq_true rfl) ?_
        refine wp_goto (tgt := 18) dX9_quoteAt_42 (by decide) ?_
        have he : ¬ L.getD p [] = nWd x j := fun q => c36 ((agI_0 hw.2.2.2 oW).mpr q)
        refine wp_lv (ih (p + 1) (by omega) (by omega) ?_ g1 ?_) (by repeat (first | exact trivial | refine ⟨rfl, ?_⟩))
        · rw [show p + 1 - first = p - first + 1 by omega, fS_n (by rw [ep, f1]; exact he), f1]
        · intro hj0 _
          by_cases c : first < p
          · exact g0 hj0 c
          · have : p = first := by omega
            subst this; subst hj0; exact he
  have outer : ∀ (r j p : Nat), j + r = (nWo x).length → first ≤ p → p ≤ L.length → fS L (nWo x) first (p - first) = j → (1 ≤ j → first < p ∧ fS L (nWo x) first (p - 1 - first) = j - 1 ∧ L.getD first [] = (nWo x).getD 0 []) → (j = 0 → p = first) → Wp (xM E mX9_quoteAt 1 0 0 SH.length (RV (some (.int (b2i (fitQ L (nWo x) first sl = true)))) SH M)) 0 0 6 [(5, .int (nI p)), (6, .int (nI j)), (1, .int (nI b)), (2, .int (nI first)), (3, .int (nI L.length)), (4, .int (nI k)), (0, .ref 121)] [] SH M := by
    intro r
    induction r with
    | zero =>
      intro j p hj h1 h2 f1 g1 g0
      have hj : j = (nWo x).length := by omega
      subst hj
      obtain ⟨a1, a2, a3⟩ := g1 h1l
      refine wp_iload dX9_quoteAt_6 rfl ?_
      refine wp_aload_n dX9_quoteAt_8 rfl ?_
      refine wp_getR dX9_quoteAt_9 fl_X9_62 rfl rfl (hG 20) ?_
      refine wp_iload dX9_quoteAt_12 rfl ?_
      refine wp_iaload dX9_quoteAt_14 rfl hin ?_
      rw [hclk, e6]
      refine wp_icmp_ge (tgt := 73) dX9_quoteAt_15 (by decide) (fun c15 => ?_) (fun c15 => absurd (Int32.le_refl _) c15)
      exact wp_lv (hend p a1 h2 f1 a2 a3) (by repeat (first | exact trivial | refine ⟨rfl, ?_⟩))
    | succ r ih =>
      intro j p hj h1 h2 f1 g1 g0
      have hjl : j < (nWo x).length := by omega
      refine wp_iload dX9_quoteAt_6 rfl ?_
      refine wp_aload_n dX9_quoteAt_8 rfl ?_
      refine wp_getR dX9_quoteAt_9 fl_X9_62 rfl rfl (hG 20) ?_
      refine wp_iload dX9_quoteAt_12 rfl ?_
      refine wp_iaload dX9_quoteAt_14 rfl hin ?_
      rw [hclk, e6]
      refine wp_icmp_ge (tgt := 73) dX9_quoteAt_15 (by decide) (fun c15 => absurd c15 (nI_ge hjl (by omega))) (fun c15 => ?_)
      refine wp_lv (inner j hjl (fun p2 b1 b2 b3 b4 b5 => ?_) (L.length - p) p (by omega) h1 f1 (fun q => (g1 q).2.2) (fun q q2 => by have := g0 q; omega)) (by repeat (first | exact trivial | refine ⟨rfl, ?_⟩))
      refine wp_iinc dX9_quoteAt_64 rfl (i_inc _) (Nat.le_of_ble_eq_true rfl) ?_
      refine wp_iinc dX9_quoteAt_67 rfl (i_inc _) (Nat.le_of_ble_eq_true rfl) ?_
      refine wp_goto (tgt := 6) dX9_quoteAt_70 (by decide) ?_
      refine wp_lv (ih (j + 1) (p2 + 1) (by omega) (by omega) (by omega) ?_ (fun _ => ⟨by omega, ?_, b4⟩) (fun q => absurd q (by omega))) (by repeat (first | exact trivial | refine ⟨rfl, ?_⟩))
      · rw [show p2 + 1 - first = p2 - first + 1 by omega, fS_y (by rw [b3]; exact hjl) (by omega) (by rw [show first + (p2 - first) = p2 by omega, b3]; exact b5), b3]
      · rw [show p2 + 1 - 1 - first = p2 - first by omega, b3]; rfl
  refine wp_iload_n dX9_quoteAt_0 rfl ?_
  refine wp_istore dX9_quoteAt_1 (Nat.le_of_ble_eq_true rfl) ?_
  refine wp_iconst (v := 0) dX9_quoteAt_3 rfl ?_
  refine wp_istore dX9_quoteAt_4 (Nat.le_of_ble_eq_true rfl) ?_
  exact wp_lv (outer (nWo x).length 0 first (by omega) (Nat.le_refl _) (by omega) (by rw [Nat.sub_self]; rfl) (fun q => absurd q (by omega)) (fun _ => rfl)) (by repeat (first | exact trivial | refine ⟨rfl, ?_⟩))
set_option maxRecDepth 100000 in
set_option maxHeartbeats 4000000 in
theorem cX9_countOf_ (E : GE) (k D : Nat) (x : ND) (told : Int32) (dc : Nat → List (List Nat)) (M : Mem) (hn : NX M k x) (hW : rmW M dc) (hdc : dcOk dc) (hx : nOk x) (h3 : ¬ nCo x = 3) (hD : D < 8) (hto : aI M 150 k = told) : Sp E mX9_countOf 3 0 0 [.ref 121, .int (nI k), .int (nI D)] SH M (fun o sh1 M1 => sh1 = SH ∧ o = some (.int (nI (cntD x told dc D 4))) ∧ tF M M1) := by
  refine sp_of vX9_countOf.1 rfl (Nat.le_of_ble_eq_true rfl) ?_
  have ho := hn.2.2.2
  have hk := hn.2.1
  have hclk : (nI k).toNatClampNeg = k := nI_clamp (by omega)
  have hin : vp_in (nI k) 25 := vp_in_nI hk (by decide)
  have hb12 : ∀ r, r < 32 → (dc r).length ≤ 12 := fun r hr => (hW r hr).2.1
  have inner : ∀ (F : Nat) (hF4 : F < 4) (L : List (List Nat)) (c0 : Nat) (hL : L = dc (4 * D + F) ∨ L = []) (kk : ∀ M2 : Mem, tF M M2 → Wp (xM E mX9_countOf 3 0 0 SH.length (fun o sh1 M1 => sh1 = SH ∧ o = some (.int (nI (cntD x told dc D 4))) ∧ tF M M1)) 0 0 126 [(4, .int (nI F)), (3, .int (nI (c0 + cntF x L L.length))), (1, .int (nI k)), (2, .int (nI D)), (0, .ref 121)] [] SH M2) (r p : Nat) (M1 : Mem), p + r = L.length → tF M M1 → Wp (xM E mX9_countOf 3 0 0 SH.length (fun o sh1 M1 => sh1 = SH ∧ o = some (.int (nI (cntD x told dc D 4))) ∧ tF M M1)) 0 0 64 [(7, .int (nI p)), (6, .int (nI L.length)), (5, .int (nI (12 * (4 * D + F)))), (4, .int (nI F)), (3, .int (nI (c0 + cntF x L p))), (1, .int (nI k)), (2, .int (nI D)), (0, .ref 121)] [] SH M1 := by
    intro F hF4 L c0 hL kk r
    have hL12 : L.length ≤ 12 := by
      rcases hL with h | h
      · rw [h]; exact hb12 _ (by omega)
      · rw [h]; decide
    have hWV : ∀ M1 : Mem, tF M M1 → ∀ p, p < L.length → WV M1 (12 * (4 * D + F) + p) (L.getD p []) := fun M1 q p hp => by
      rcases hL with h | h
      · rw [h] at hp ⊢
        exact rmW_WV (hW.ft q) hdc (by omega) hp
      · rw [h] at hp; exact absurd hp (Nat.not_lt_zero p)
    induction r with
    | zero =>
      intro p M1 hp hF
      have hp : p = L.length := by omega
      subst hp
      refine wp_iload dX9_countOf_64 rfl ?_
      refine wp_iload dX9_countOf_66 rfl ?_
      refine wp_icmp_ge (tgt := 126) dX9_countOf_68 (by decide) (fun c68 => ?_) (fun c68 => absurd (Int32.le_refl _) c68)
      exact wp_lv (kk M1 hF) (by repeat (first | exact trivial | refine ⟨rfl, ?_⟩))
    | succ r ih =>
      intro p M1 hp hF
      have hpl : p < L.length := by omega
      have hn1 := hn.ft hF
      have hG1 := hn1.1
      have e0 : aI M1 132 k = nCo x := hn1.2.2.1.1
      have J105 : ∀ M2 : Mem, tF M M2 → Wp (xM E mX9_countOf 3 0 0 SH.length (fun o sh1 M1 => sh1 = SH ∧ o = some (.int (nI (cntD x told dc D 4))) ∧ tF M M1)) 0 0 105 [(7, .int (nI p)), (6, .int (nI L.length)), (5, .int (nI (12 * (4 * D + F)))), (4, .int (nI F)), (3, .int (nI (c0 + cntF x L p))), (1, .int (nI k)), (2, .int (nI D)), (0, .ref 121)] [.int (b2i (fitP x L p = true))] SH M2 := by
        intro M2 hF2
        refine wp_istore dX9_countOf_105 (Nat.le_of_ble_eq_true rfl) ?_
        refine wp_iload_n dX9_countOf_107 rfl ?_
        refine wp_iload dX9_countOf_108 rfl ?_
        refine wp_if_eq (tgt := 117) dX9_countOf_110 (by decide) (fun c110 => ?_) (fun c110 => ?_)
        · refine wp_iconst (v := 0) dX9_countOf_117 rfl ?_
          refine wp_iadd dX9_countOf_118 ?_
          refine wp_istore_n dX9_countOf_119 (Nat.le_of_ble_eq_true rfl) ?_
          refine wp_iinc dX9_countOf_120 rfl (i_inc _) (Nat.le_of_ble_eq_true rfl) ?_
          refine wp_goto (tgt := 64) dX9_countOf_123 (by decide) ?_
          have hq : ¬ fitP x L p = true := b2i_e0.mp c110
          have h := ih (p + 1) M2 (by omega) hF2
          rw [show cntF x L (p + 1) = cntF x L p by show cntF x L p + (if fitP x L p = true then 1 else 0) = _; rw [if_neg hq]; rfl] at h
          rw [show nI (c0 + cntF x L p) + 0 = nI (c0 + cntF x L p) from Int32.add_zero _]
          exact wp_lv h (by repeat (first | exact trivial | refine ⟨rfl, ?_⟩))
        · refine wp_iconst (v := 1) dX9_countOf_113 rfl ?_
          refine wp_goto (tgt := 118) dX9_countOf_114 (by decide) ?_
          refine wp_iadd dX9_countOf_118 ?_
          refine wp_istore_n dX9_countOf_119 (Nat.le_of_ble_eq_true rfl) ?_
          refine wp_iinc dX9_countOf_120 rfl (i_inc _) (Nat.le_of_ble_eq_true rfl) ?_
          refine wp_goto (tgt := 64) dX9_countOf_123 (by decide) ?_
          have hq : fitP x L p = true := b2i_ne.mp c110
          have h := ih (p + 1) M2 (by omega) hF2
          rw [show cntF x L (p + 1) = cntF x L p + 1 by show cntF x L p + (if fitP x L p = true then 1 else 0) = _; rw [if_pos hq], ← Nat.add_assoc, ← nI_1 (c0 + cntF x L p)] at h
          exact wp_lv h (by repeat (first | exact trivial | refine ⟨rfl, ?_⟩))
      refine wp_iload dX9_countOf_64 rfl ?_
      refine wp_iload dX9_countOf_66 rfl ?_
      refine wp_icmp_ge (tgt := 126) dX9_countOf_68 (by decide) (fun c68 => absurd c68 (nI_ge hpl (by omega))) (fun c68 => ?_)
      refine wp_aload_n dX9_countOf_71 rfl ?_
      refine wp_getR dX9_countOf_72 fl_X9_44 rfl rfl (hG1 14) ?_
      refine wp_iload_n dX9_countOf_75 rfl ?_
      refine wp_iaload dX9_countOf_76 rfl hin ?_
      rw [hclk, e0]
      refine wp_iconst (v := 1) dX9_countOf_77 rfl ?_
      refine wp_icmp_ne (tgt := 95) dX9_countOf_78 (by decide) (fun c78 => ?_) (fun c78 => ?_)
      · refine wp_aload_n dX9_countOf_95 rfl ?_
        refine wp_iload dX9_countOf_96 rfl ?_
        refine wp_iload dX9_countOf_98 rfl ?_
        refine wp_iadd dX9_countOf_100 ?_
        rw [nI_add]
        refine wp_iload_n dX9_countOf_101 rfl ?_
        refine wp_cV2p dX9_countOf_102 ml_X9_236 vX9_fitsWord ⟨8, (RX9, TX9, 39), rfl, rfl, rfl⟩ (cX9_fitsWord_ E (12 * (4 * D + F) + p) k (L.getD p []) x M1 hn1 (hWV M1 hF p hpl) hx h3) (Nat.le_of_ble_eq_true rfl) (Nat.le_of_ble_eq_true rfl) (Nat.le_of_ble_eq_true rfl) (Nat.le_refl _) (Nat.le_refl _) (fun v sh1 M1 hqq => ?_)
        obtain ⟨rfl, rfl, hF2⟩ := hqq
        have := J105 _ (hF.tr hF2)
        rw [show fitP x L p = fitW x (L.getD p []) by unfold fitP; rw [if_neg c78]] at this
        exact wp_lv this (by repeat (first | exact trivial | refine ⟨rfl, ?_⟩))
      · refine wp_aload_n dX9_countOf_81 rfl ?_
        refine wp_iload dX9_countOf_82 rfl ?_
        refine wp_iload dX9_countOf_84 rfl ?_
        refine wp_iload dX9_countOf_86 rfl ?_
        refine wp_iload_n dX9_countOf_88 rfl ?_
        refine wp_cV4i dX9_countOf_89 ml_X9_233 vX9_quoteAt ⟨8, (RX9, TX9, 39), rfl, rfl, rfl⟩ (cX9_quoteAt_ E (12 * (4 * D + F)) k p x L M1 hn1 hx hL12 (by omega) (hWV M1 hF) c78 hpl) (Nat.le_of_ble_eq_true rfl) (Nat.le_of_ble_eq_true rfl) (Nat.le_of_ble_eq_true rfl) ?_
        refine wp_goto (tgt := 105) dX9_countOf_92 (by decide) ?_
        have := J105 _ hF
        rw [show fitP x L p = fitQ L (nWo x) p (nDe x).toNatClampNeg by unfold fitP; rw [if_pos c78]] at this
        exact wp_lv this (by repeat (first | exact trivial | refine ⟨rfl, ?_⟩))
  have loop : ∀ (r f : Nat) (M1 : Mem), f + r = 4 → tF M M1 → Wp (xM E mX9_countOf 3 0 0 SH.length (fun o sh1 M1 => sh1 = SH ∧ o = some (.int (nI (cntD x told dc D 4))) ∧ tF M M1)) 0 0 5 [(4, .int (nI f)), (3, .int (nI (cntD x told dc D f))), (1, .int (nI k)), (2, .int (nI D)), (0, .ref 121)] [] SH M1 := by
    intro r
    induction r with
    | zero =>
      intro f M1 hf hF
      have hf : f = 4 := by omega
      subst hf
      refine wp_iload dX9_countOf_5 rfl ?_
      refine wp_iconst (v := 4) dX9_countOf_7 rfl ?_
      refine wp_icmp_ge (tgt := 132) dX9_countOf_8 (by decide) (fun c8 => ?_) (fun c8 => absurd (show (4 : Int32) ≤ nI 4 by decide) c8)
      refine wp_iload_n dX9_countOf_132 rfl ?_
      refine wp_ireturn dX9_countOf_133 rfl rfl (Nat.zero_le _) (Nat.zero_le _) ?_
      exact ⟨rfl, rfl, hF⟩
    | succ r ih =>
      intro f M1 hf hF
      have hf4 : f < 4 := by omega
      have hn1 := hn.ft hF
      have hG1 := hn1.1
      have et : aI M1 150 k = told := (hF.2.1 _ (by simp) _).trans hto
      have ew : aI M1 144 (4 * D + f) = nI (dc (4 * D + f)).length := (hW.ft hF (4 * D + f) (by omega)).1
      have hcl : (nI (4 * D + f)).toNatClampNeg = 4 * D + f := nI_clamp (by omega)
      have ea : 48 * nI D + 12 * nI f = nI (12 * (4 * D + f)) := by
        have := at0_n D f 0
        rw [show nI 0 = 0 from rfl, Int32.add_zero] at this
        exact this
      have go : ∀ (L : List (List Nat)), (L = dc (4 * D + f) ∨ L = []) → cntD x told dc D (f + 1) = cntD x told dc D f + cntF x L L.length → Wp (xM E mX9_countOf 3 0 0 SH.length (fun o sh1 M1 => sh1 = SH ∧ o = some (.int (nI (cntD x told dc D 4))) ∧ tF M M1)) 0 0 64 [(7, .int (nI 0)), (6, .int (nI L.length)), (5, .int (nI (12 * (4 * D + f)))), (4, .int (nI f)), (3, .int (nI (cntD x told dc D f))), (1, .int (nI k)), (2, .int (nI D)), (0, .ref 121)] [] SH M1 := by
        intro L hL hc
        refine inner f hf4 L (cntD x told dc D f) hL (fun M2 hF2 => ?_) L.length 0 M1 (by omega) hF
        rw [← hc]
        refine wp_iinc dX9_countOf_126 rfl (i_inc _) (Nat.le_of_ble_eq_true rfl) ?_
        refine wp_goto (tgt := 5) dX9_countOf_129 (by decide) ?_
        exact wp_lv (ih (f + 1) M2 (by omega) hF2) (by repeat (first | exact trivial | refine ⟨rfl, ?_⟩))
      refine wp_iload dX9_countOf_5 rfl ?_
      refine wp_iconst (v := 4) dX9_countOf_7 rfl ?_
      refine wp_icmp_ge (tgt := 132) dX9_countOf_8 (by decide) (fun c8 => absurd c8 (nI_ge (b := 4) hf4 (by decide))) (fun c8 => ?_)
      refine wp_bipush (v := 48) dX9_countOf_11 (by decide) ?_
      refine wp_iload_n dX9_countOf_13 rfl ?_
      refine wp_imul dX9_countOf_14 ?_
      refine wp_bipush (v := 12) dX9_countOf_15 (by decide) ?_
      refine wp_iload dX9_countOf_17 rfl ?_
      refine wp_imul dX9_countOf_19 ?_
      refine wp_iadd dX9_countOf_20 ?_
      rw [ea]
      refine wp_istore dX9_countOf_21 (Nat.le_of_ble_eq_true rfl) ?_
      refine wp_aload_n dX9_countOf_23 rfl ?_
      refine wp_getR dX9_countOf_24 fl_X9_103 rfl rfl (hG1 36) ?_
      refine wp_iload_n dX9_countOf_27 rfl ?_
      refine wp_iaload dX9_countOf_28 rfl hin ?_
      rw [hclk, et]
      refine wp_iconst (v := (-1)) dX9_countOf_29 rfl ?_
      refine wp_icmp_eq (tgt := 44) dX9_countOf_30 (by decide) (fun c30 => ?_) (fun c30 => ?_)
      · refine wp_aload_n dX9_countOf_44 rfl ?_
        refine wp_getR dX9_countOf_45 fl_X9_83 rfl rfl (hG1 30) ?_
        refine wp_iconst (v := 4) dX9_countOf_48 rfl ?_
        refine wp_iload_n dX9_countOf_49 rfl ?_
        refine wp_imul dX9_countOf_50 ?_
        refine wp_iload dX9_countOf_51 rfl ?_
        refine wp_iadd dX9_countOf_53 ?_
        rw [mul4']
        refine wp_iaload dX9_countOf_54 rfl (vp_in_nI (by omega) (by decide)) ?_
        rw [hcl, ew]
        refine wp_goto (tgt := 59) dX9_countOf_55 (by decide) ?_
        refine wp_istore dX9_countOf_59 (Nat.le_of_ble_eq_true rfl) ?_
        refine wp_iconst (v := 0) dX9_countOf_61 rfl ?_
        refine wp_istore dX9_countOf_62 (Nat.le_of_ble_eq_true rfl) ?_
        have h := go (dc (4 * D + f)) (Or.inl rfl) (by show cntD x told dc D f + (if told = -1 ∨ told = nI f then _ else 0) = _; rw [if_pos (Or.inl c30)])
        exact wp_lv h (by repeat (first | exact trivial | refine ⟨rfl, ?_⟩))
      · refine wp_aload_n dX9_countOf_33 rfl ?_
        refine wp_getR dX9_countOf_34 fl_X9_103 rfl rfl (hG1 36) ?_
        refine wp_iload_n dX9_countOf_37 rfl ?_
        refine wp_iaload dX9_countOf_38 rfl hin ?_
        rw [hclk, et]
        refine wp_iload dX9_countOf_39 rfl ?_
        refine wp_icmp_ne (tgt := 58) dX9_countOf_41 (by decide) (fun c41 => ?_) (fun c41 => ?_)
        · refine wp_iconst (v := 0) dX9_countOf_58 rfl ?_
          refine wp_istore dX9_countOf_59 (Nat.le_of_ble_eq_true rfl) ?_
          refine wp_iconst (v := 0) dX9_countOf_61 rfl ?_
          refine wp_istore dX9_countOf_62 (Nat.le_of_ble_eq_true rfl) ?_
          have h := go [] (Or.inr rfl) (by show cntD x told dc D f + (if told = -1 ∨ told = nI f then _ else 0) = _; rw [if_neg (fun q => q.elim c30 c41)]; rfl)
          exact wp_lv h (by repeat (first | exact trivial | refine ⟨rfl, ?_⟩))
        · refine wp_aload_n dX9_countOf_44 rfl ?_
          refine wp_getR dX9_countOf_45 fl_X9_83 rfl rfl (hG1 30) ?_
          refine wp_iconst (v := 4) dX9_countOf_48 rfl ?_
          refine wp_iload_n dX9_countOf_49 rfl ?_
          refine wp_imul dX9_countOf_50 ?_
          refine wp_iload dX9_countOf_51 rfl ?_
          refine wp_iadd dX9_countOf_53 ?_
          rw [mul4']
          refine wp_iaload dX9_countOf_54 rfl (vp_in_nI (by omega) (by decide)) ?_
          rw [hcl, ew]
          refine wp_goto (tgt := 59) dX9_countOf_55 (by decide) ?_
          refine wp_istore dX9_countOf_59 (Nat.le_of_ble_eq_true rfl) ?_
          refine wp_iconst (v := 0) dX9_countOf_61 rfl ?_
          refine wp_istore dX9_countOf_62 (Nat.le_of_ble_eq_true rfl) ?_
          have h := go (dc (4 * D + f)) (Or.inl rfl) (by show cntD x told dc D f + (if told = -1 ∨ told = nI f then _ else 0) = _; rw [if_pos (Or.inr c41)])
          exact wp_lv h (by repeat (first | exact trivial | refine ⟨rfl, ?_⟩))
  refine wp_iconst (v := 0) dX9_countOf_0 rfl ?_
  refine wp_istore_n dX9_countOf_1 (Nat.le_of_ble_eq_true rfl) ?_
  refine wp_iconst (v := 0) dX9_countOf_2 rfl ?_
  refine wp_istore dX9_countOf_3 (Nat.le_of_ble_eq_true rfl) ?_
  exact wp_lv (loop 4 0 M (by omega) Fr.rf) (by repeat (first | exact trivial | refine ⟨rfl, ?_⟩))
