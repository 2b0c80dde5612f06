/-! ===== the class's parts; feed, dropped ===== -/
def gCL : List (Nat × Nat × Nat) := [(0, 0, 1), (0, 2, 2), (0, 3, 3), (0, 6, 56), (0, 7, 111), (0, 8, 113), (0, 9, 120), (111, 0, 112), (113, 0, 114), (113, 1, 117), (113, 2, 119), (114, 0, 115), (114, 1, 116), (117, 0, 118)]
def rcG (M : Mem) : Prop := (∀ q ∈ gCL, fR M q.1 q.2.1 = some q.2.2) ∧ rcTr M 4 ∧ rcTr M 57
def rcT (M : Mem) (tp : List Nat) : Prop := fI M 0 1 = nI tp.length ∧ tp.length ≤ 240 ∧ ∀ i, i < tp.length → aI M 1 i &&& 255 = nI (tp.getD i 0) ∧ tp.getD i 0 < 256
def rcD (M : Mem) (gn : List Nat) : Prop := fI M 0 4 = nI gn.length ∧ gn.length ≤ 240 ∧ ∀ i, i < gn.length → aI M 3 i = nI (gn.getD i 0)
def cNode (M : Mem) (p : Nat) (x : ND) : Prop := fI M p 0 = nCo x ∧ fI M p 1 = nMa x ∧ fI M p 2 = nBo x ∧ fI M p 3 = nFi x ∧ fI M p 4 = nDe x ∧ fI M p 5 = nSz x ∧ fI M p 6 = nAr x ∧ ∀ j, j < 5 → aL M (p + 1) j = pack (nWd x j)
def cTree (M : Mem) (T n : Nat) (nd : Nat → ND) : Prop := fI M T 1 = nI n ∧ n ≤ 25 ∧ ∀ k, k < n → cNode M (T + 2 + 2 * k) (nd k)
def rcO (M : Mem) (o : Option (List Nat)) : Prop := fI M 111 1 = outL o ∧ ∀ l, o = some l → l.length ≤ 240 ∧ ∀ i, i < l.length → aI M 112 i &&& 255 = nI (l.getD i 0)
def rcW (M : Mem) (dc : Nat → List (List Nat)) : Prop := ∀ r, r < 32 → aI M 116 r = nI (dc r).length ∧ (dc r).length ≤ 12 ∧ ∀ p, p < (dc r).length → aL M 115 (12 * r + p) = pack ((dc r).getD p [])
theorem rcTr.fr {LI : List (Nat × Nat)} {LA LL : List Nat} {M M1 : Mem} {T : Nat} (h : rcTr M T) (k : Fr LI LA LL M M1) : rcTr M1 T :=
  ⟨(k.2.2.2.1 _ _).trans h.1, fun i hi => (k.2.2.2.2 _ _).trans (h.2.1 i hi), fun i hi => (k.2.2.2.1 _ _).trans (h.2.2 i hi)⟩
theorem rcG.fr {LI : List (Nat × Nat)} {LA LL : List Nat} {M M1 : Mem} (h : rcG M) (k : Fr LI LA LL M M1) : rcG M1 := ⟨fun q hq => (k.2.2.2.1 _ _).trans (h.1 q hq), h.2.1.fr k, h.2.2.fr k⟩
theorem rcT.fr {LI : List (Nat × Nat)} {LA LL : List Nat} {M M1 : Mem} {tp : List Nat} (h : rcT M tp) (k : Fr LI LA LL M M1) (h1 : (0, 1) ∉ LI) (h2 : 1 ∉ LA) : rcT M1 tp :=
  ⟨(k.1 _ _ h1).trans h.1, h.2.1, fun i hi => ⟨by rw [k.2.1 _ h2 i]; exact (h.2.2 i hi).1, (h.2.2 i hi).2⟩⟩
theorem rcD.fr {LI : List (Nat × Nat)} {LA LL : List Nat} {M M1 : Mem} {gn : List Nat} (h : rcD M gn) (k : Fr LI LA LL M M1) (h1 : (0, 4) ∉ LI) (h2 : 3 ∉ LA) : rcD M1 gn :=
  ⟨(k.1 _ _ h1).trans h.1, h.2.1, fun i hi => (k.2.1 _ h2 i).trans (h.2.2 i hi)⟩
theorem cNode.fr {LI : List (Nat × Nat)} {LA LL : List Nat} {M M1 : Mem} {p : Nat} {x : ND} (h : cNode M p x) (k : Fr LI LA LL M M1) (h1 : ∀ f, (p, f) ∉ LI) (h2 : p + 1 ∉ LL) : cNode M1 p x := by
  obtain ⟨e0, e1, e2, e3, e4, e5, e6, e7⟩ := h
  exact ⟨(k.1 _ _ (h1 0)).trans e0, (k.1 _ _ (h1 1)).trans e1, (k.1 _ _ (h1 2)).trans e2, (k.1 _ _ (h1 3)).trans e3, (k.1 _ _ (h1 4)).trans e4, (k.1 _ _ (h1 5)).trans e5, (k.1 _ _ (h1 6)).trans e6, fun j hj => (k.2.2.1 _ h2 j).trans (e7 j hj)⟩
theorem cTree.fr {LI : List (Nat × Nat)} {LA LL : List Nat} {M M1 : Mem} {T n : Nat} {nd : Nat → ND} (h : cTree M T n nd) (k : Fr LI LA LL M M1) (h1 : ∀ q, q < 52 → ∀ f, (T + q, f) ∉ LI) (h2 : ∀ q, q < 52 → T + q ∉ LL) : cTree M1 T n nd :=
  ⟨(k.1 _ _ (h1 0 (by decide) 1)).trans h.1, h.2.1, fun i hi => (h.2.2 i hi).fr k (fun f => by have := h1 (2 + 2 * i) (by have := h.2.1; omega) f; rwa [← Nat.add_assoc] at this) (by have := h2 (2 + 2 * i + 1) (by have := h.2.1; omega); rwa [← Nat.add_assoc, ← Nat.add_assoc] at this)⟩
theorem rcO.fr {LI : List (Nat × Nat)} {LA LL : List Nat} {M M1 : Mem} {o : Option (List Nat)} (h : rcO M o) (k : Fr LI LA LL M M1) (h1 : (111, 1) ∉ LI) (h2 : 112 ∉ LA) : rcO M1 o :=
  ⟨(k.1 _ _ h1).trans h.1, fun l hl => ⟨(h.2 l hl).1, fun i hi => by rw [k.2.1 _ h2 i]; exact (h.2 l hl).2 i hi⟩⟩
theorem rcW.fr {LI : List (Nat × Nat)} {LA LL : List Nat} {M M1 : Mem} {dc : Nat → List (List Nat)} (h : rcW M dc) (k : Fr LI LA LL M M1) (h1 : 116 ∉ LA) (h2 : 115 ∉ LL) : rcW M1 dc := fun r hr =>
  ⟨(k.2.1 _ h1 r).trans (h r hr).1, (h r hr).2.1, fun p hp => (k.2.2.1 _ h2 _).trans ((h r hr).2.2 p hp)⟩
theorem rcT_push {M : Mem} {tp : List Nat} {b : Nat} (h : rcT M tp) (hl : tp.length < 240) (hb : b < 256) (x : Int32) (hx : x &&& 255 = nI b) (y : Int32) (hy : y = nI (tp.length + 1)) (k : Nat) (hk : k = tp.length) : rcT (sI (sA M 1 k x) 0 1 y) (tp ++ [b]) := by
  subst hy hk
  refine ⟨by simp [fI_sI], by simp; omega, fun i hi => ?_⟩
  rw [getD_app1 hi]
  simp only [aI_sI, aI_sA]
  by_cases e : i = tp.length
  · subst e; simp [hb, hx]
  · have h2 : i < tp.length := by simp at hi; omega
    have h3 := h.2.2 i h2
    rw [if_neg (by omega), if_neg e]
    exact h3
def pFeedC (M : Mem) (tp : List Nat) (n : Int32) (w : Int64) : PT := fun v sh1 M1 => sh1 = SH ∧ Fr [(0, 1)] [1] [] M M1 ∧ v = some (.int (feedR tp n)) ∧ rcT M1 (feedT tp n w)
theorem m8_pred (r : Nat) : (8 : Int32) * nI r + Int32.ofInt (-8) = 8 * (nI r - 1) := by
  rw [Int32.mul_sub]
  rw [Int32.sub_eq_add_neg]
  rfl
theorem m8_neg : ∀ r, r < 8 → ¬ (8 : Int32) * nI r < 0 := by decide +kernel
set_option maxRecDepth 100000 in
set_option maxHeartbeats 4000000 in
theorem cX8_feed_ (E : GE) (n : Int32) (w : Int64) (tp : List Nat) (M : Mem) (hG : rcG M) (hT : rcT M tp) : Sp E mX8_feed 0 0 0 [.ref 0, .int n, .long w] SH M (pFeedC M tp n w) := by
  refine sp_of vX8_feed.1 rfl (Nat.le_of_ble_eq_true rfl) ?_
  have loop : ∀ (N r : Nat) (M1 : Mem), n = nI N → 1 ≤ N → N ≤ 8 → tp.length + N ≤ 240 → r ≤ N → Fr [(0, 1)] [1] [] M M1 → rcT M1 (tp ++ (feedB w N).take (N - r)) → Wp (xM E mX8_feed 0 0 0 SH.length (pFeedC M tp n w)) 0 0 37 [(4, .int (8 * (nI r - 1))), (0, .ref 0), (1, .int n), (2, .long w)] [] SH M1 := by
    intro N r
    induction r with
    | zero =>
      intro M1 hN h1 h8 hl hr hF hT1
      have hn8 : n.toNatClampNeg = N := by rw [hN]; exact nI_clamp (by omega)
      have hc : 1 ≤ n ∧ n ≤ 8 := by rw [hN]; exact ⟨nI_le (a := 1) h1 (by omega), nI_le (b := 8) h8 (by omega)⟩
      refine wp_iload dX8_feed_37 rfl ?_
      refine wp_if_lt (tgt := 83) dX8_feed_39 (by decide) (fun c39 => ?_) (fun c39 => absurd (by decide) c39)
      refine wp_aload_n dX8_feed_83 rfl ?_
      refine wp_getI dX8_feed_84 fl_X8_13 rfl rfl ?_
      refine wp_ireturn dX8_feed_87 rfl rfl (Nat.zero_le _) (Nat.zero_le _) ?_
      refine ⟨rfl, hF, ?_, ?_⟩
      · rw [hT1.1]
        unfold feedR
        rw [if_pos hc, hn8, if_pos hl]
        simp [feedB]
      · unfold feedT
        rw [if_pos hc, hn8, if_pos hl]
        have e : (feedB w N).take (N - 0) = feedB w N := List.take_of_length_le (by simp [feedB])
        rw [e] at hT1
        exact hT1
    | succ r ih =>
      intro M1 hN h1 h8 hl hr hF hT1
      have hlen : (tp ++ (feedB w N).take (N - (r + 1))).length = tp.length + (N - (r + 1)) := by simp [feedB]
      have hix : fI M1 0 1 = nI (tp.length + (N - (r + 1))) := by rw [hT1.1, hlen]
      have hG1 : rcG M1 := hG.fr hF
      rw [nI_pred]
      refine wp_iload dX8_feed_37 rfl ?_
      refine wp_if_lt (tgt := 83) dX8_feed_39 (by decide) (fun c39 => absurd c39 (m8_neg r (by omega))) (fun c39 => ?_)
      refine wp_aload_n dX8_feed_42 rfl ?_
      refine wp_getI dX8_feed_43 fl_X8_13 rfl rfl ?_
      refine wp_sipush (v := 240) dX8_feed_46 (by decide) ?_
      refine wp_icmp_ge (tgt := 83) dX8_feed_49 (by decide) (fun c49 => absurd c49 (by rw [hix]; exact nI_ge (b := 240) (by omega) (by decide))) (fun c49 => ?_)
      refine wp_aload_n dX8_feed_52 rfl ?_
      refine wp_getR dX8_feed_53 fl_X8_9 rfl rfl (hG1.1 (0, 0, 1) (by decide)) ?_
      refine wp_aload_n dX8_feed_56 rfl ?_
      refine wp_getI dX8_feed_57 fl_X8_13 rfl rfl ?_
      refine wp_lload_n dX8_feed_60 rfl ?_
      refine wp_iload dX8_feed_61 rfl ?_
      refine wp_lushr dX8_feed_63 ?_
      refine wp_l2i dX8_feed_64 ?_
      refine wp_i2b dX8_feed_65 ?_
      refine wp_bastore dX8_feed_66 rfl (by rw [hix]; exact vp_in_nI (by omega) (by decide)) ?_
      refine wp_aload_n dX8_feed_67 rfl ?_
      refine wp_dup dX8_feed_68 rfl ?_
      refine wp_getI dX8_feed_69 fl_X8_13 rfl rfl ?_
      refine wp_iconst (v := 1) dX8_feed_72 rfl ?_
      refine wp_iadd dX8_feed_73 ?_
      refine wp_putI dX8_feed_74 fl_X8_13 rfl rfl (fun _ _ _ h => by cases h; rfl) rfl rfl ?_
      refine wp_iinc dX8_feed_77 rfl (m8_pred r) (Nat.le_of_ble_eq_true rfl) ?_
      refine wp_goto (tgt := 37) dX8_feed_80 (by decide) ?_
      refine ih _ hN h1 h8 hl (by omega) ((hF.sA (by simp)).sI (by simp)) ?_
      have e2 := feedB_succ w N r (by omega)
      rw [show N - (r + 1) = N - r - 1 by omega] at hT1 hlen hix
      rw [← e2, ← List.append_assoc]
      refine rcT_push hT1 (by rw [hlen]; omega) (bv_lt w r) _ ?_ _ ?_ _ ?_
      · rw [vp_nar_byte, bp_b, bp_b]; exact low8_u w r (by omega)
      · rw [fI_sA, hix, hlen]; exact nI_1 _
      · rw [hix, hlen]; exact nI_clamp (by omega)
  refine wp_iload_n dX8_feed_0 rfl ?_
  refine wp_iconst (v := 1) dX8_feed_1 rfl ?_
  refine wp_icmp_lt (tgt := 11) dX8_feed_2 (by decide) (fun c2 => ?_) (fun c2 => ?_)
  · refine wp_bipush (v := (-102)) dX8_feed_11 (by decide) ?_
    refine wp_ireturn dX8_feed_13 rfl rfl (Nat.zero_le _) (Nat.zero_le _) ?_
    have h : ¬ (1 ≤ n ∧ n ≤ 8) := fun h => by first | exact absurd h.1 (Int32.not_le.mpr c2) | exact absurd h.2 c8
    refine ⟨rfl, Fr.rf, ?_, ?_⟩
    · unfold feedR; rw [if_neg h]
    · unfold feedT; rw [if_neg h]; exact hT
  · refine wp_iload_n dX8_feed_5 rfl ?_
    refine wp_bipush (v := 8) dX8_feed_6 (by decide) ?_
    refine wp_icmp_le (tgt := 14) dX8_feed_8 (by decide) (fun c8 => ?_) (fun c8 => ?_)
    · refine wp_aload_n dX8_feed_14 rfl ?_
      refine wp_getI dX8_feed_15 fl_X8_13 rfl rfl ?_
      refine wp_iload_n dX8_feed_18 rfl ?_
      refine wp_iadd dX8_feed_19 ?_
      refine wp_sipush (v := 240) dX8_feed_20 (by decide) ?_
      refine wp_icmp_le (tgt := 29) dX8_feed_23 (by decide) (fun c23 => ?_) (fun c23 => ?_)
      · refine wp_bipush (v := 8) dX8_feed_29 (by decide) ?_
        refine wp_iload_n dX8_feed_31 rfl ?_
        refine wp_iconst (v := 1) dX8_feed_32 rfl ?_
        refine wp_isub dX8_feed_33 ?_
        refine wp_imul dX8_feed_34 ?_
        refine wp_istore dX8_feed_35 (Nat.le_of_ble_eq_true rfl) ?_
        have h : 1 ≤ n ∧ n ≤ 8 := ⟨Int32.not_lt.mp c2, c8⟩
        obtain ⟨N, hN1, hN⟩ := nI_of2 (x := n) (M := 8) (n := 8) (by decide) (by rw [Int32.not_lt]; exact Int32.le_trans (by decide) h.1) h.2
        have hpos : 1 ≤ N := (nI_leI (a := 1) (by omega) (by omega)).mp (hN ▸ h.1)
        have hsum : tp.length + N ≤ 240 := by
          rw [hT.1, hN, nI_add] at c23
          have := hT.2.1
          exact (nI_leI (b := 240) (by omega) (by decide)).mp c23
        refine lv_rf (loop N N M hN hpos hN1 hsum (Nat.le_refl _) Fr.rf (by simpa using hT)) ?_
        rw [← hN]
        rfl
      · refine wp_bipush (v := (-103)) dX8_feed_26 (by decide) ?_
        refine wp_ireturn dX8_feed_28 rfl rfl (Nat.zero_le _) (Nat.zero_le _) ?_
        have h : 1 ≤ n ∧ n ≤ 8 := ⟨Int32.not_lt.mp c2, c8⟩
        obtain ⟨N, hN1, hN⟩ := nI_of2 (x := n) (M := 8) (n := 8) (by decide) (by rw [Int32.not_lt]; exact Int32.le_trans (by decide) h.1) h.2
        have hsum : ¬ tp.length + N ≤ 240 := fun q => c23 (by
          rw [hT.1, hN, nI_add]
          exact nI_le (b := 240) q (by decide))
        have hn8 : n.toNatClampNeg = N := by rw [hN]; exact nI_clamp (by omega)
        refine ⟨rfl, Fr.rf, ?_, ?_⟩
        · unfold feedR; rw [if_pos h, hn8, if_neg hsum]
        · unfold feedT; rw [if_pos h, hn8, if_neg hsum]; exact hT
    · refine wp_bipush (v := (-102)) dX8_feed_11 (by decide) ?_
      refine wp_ireturn dX8_feed_13 rfl rfl (Nat.zero_le _) (Nat.zero_le _) ?_
      have h : ¬ (1 ≤ n ∧ n ≤ 8) := fun h => by first | exact absurd h.1 (Int32.not_le.mpr c2) | exact absurd h.2 c8
      refine ⟨rfl, Fr.rf, ?_, ?_⟩
      · unfold feedR; rw [if_neg h]
      · unfold feedT; rw [if_neg h]; exact hT
def drpR (gn : List Nat) (k : Int32) : Int32 := if ¬ k < 0 ∧ ¬ nI gn.length ≤ k then nI (gn.getD k.toNatClampNeg 0) else -1
theorem drp_in {gn : List Nat} {k : Int32} (hl : gn.length ≤ 240) (h0 : ¬ k < 0) (h1 : ¬ nI gn.length ≤ k) : k.toNatClampNeg < gn.length ∧ vp_in k gn.length ∧ vp_in k 240 := by
  have h := vin (n := gn.length) (nI_toInt (by omega)) h0 h1
  obtain ⟨j, hj, rfl⟩ := vp_in_of h (by omega)
  exact ⟨by rw [nI_clamp (by omega)]; exact hj, h, vp_in_nI (by omega) (by decide)⟩
set_option maxRecDepth 100000 in
set_option maxHeartbeats 4000000 in
theorem cX8_dropped_ (E : GE) (k : Int32) (gn : List Nat) (M : Mem) (hG : rcG M) (hD : rcD M gn) : Sp E mX8_dropped 0 0 0 [.ref 0, .int k] SH M (RV (some (.int (drpR gn k))) SH M) := by
  refine sp_of vX8_dropped.1 rfl (Nat.le_of_ble_eq_true rfl) ?_
  refine wp_iload_n dX8_dropped_0 rfl ?_
  refine wp_if_lt (tgt := 28) dX8_dropped_1 (by decide) (fun c1 => ?_) (fun c1 => ?_)
  · refine wp_iconst (v := (-1)) dX8_dropped_28 rfl ?_
    refine wp_ireturn dX8_dropped_29 rfl rfl (Nat.zero_le _) (Nat.zero_le _) ?_
    refine ⟨?_, rfl, rfl⟩
    congr 2
    unfold drpR
    first
      | (rw [if_neg (fun h => h.1 c1)]; done)
      | (rw [hD.1] at c9; rw [if_neg (fun h => h.2 c9)]; done)
      | (rw [hD.1] at c9
         have h3 := (vp_in_iff.mp (drp_in hD.2.1 c1 c9).2.2).2
         rw [Int32.le_iff_toInt_le, show (240 : Int32).toInt = 240 by decide] at c16
         omega)
      | (rw [hD.1] at c9; rw [if_pos ⟨c1, c9⟩]; exact hD.2.2 _ (drp_in hD.2.1 c1 c9).1)
  · refine wp_iload_n dX8_dropped_4 rfl ?_
    refine wp_aload_n dX8_dropped_5 rfl ?_
    refine wp_getI dX8_dropped_6 fl_X8_24 rfl rfl ?_
    refine wp_icmp_ge (tgt := 28) dX8_dropped_9 (by decide) (fun c9 => ?_) (fun c9 => ?_)
    · refine wp_iconst (v := (-1)) dX8_dropped_28 rfl ?_
      refine wp_ireturn dX8_dropped_29 rfl rfl (Nat.zero_le _) (Nat.zero_le _) ?_
      refine ⟨?_, rfl, rfl⟩
      congr 2
      unfold drpR
      first
        | (rw [if_neg (fun h => h.1 c1)]; done)
        | (rw [hD.1] at c9; rw [if_neg (fun h => h.2 c9)]; done)
        | (rw [hD.1] at c9
           have h3 := (vp_in_iff.mp (drp_in hD.2.1 c1 c9).2.2).2
           rw [Int32.le_iff_toInt_le, show (240 : Int32).toInt = 240 by decide] at c16
           omega)
        | (rw [hD.1] at c9; rw [if_pos ⟨c1, c9⟩]; exact hD.2.2 _ (drp_in hD.2.1 c1 c9).1)
    · refine wp_iload_n dX8_dropped_12 rfl ?_
      refine wp_sipush (v := 240) dX8_dropped_13 (by decide) ?_
      refine wp_icmp_ge (tgt := 28) dX8_dropped_16 (by decide) (fun c16 => ?_) (fun c16 => ?_)
      · refine wp_iconst (v := (-1)) dX8_dropped_28 rfl ?_
        refine wp_ireturn dX8_dropped_29 rfl rfl (Nat.zero_le _) (Nat.zero_le _) ?_
        refine ⟨?_, rfl, rfl⟩
        congr 2
        unfold drpR
        first
          | (rw [if_neg (fun h => h.1 c1)]; done)
          | (rw [hD.1] at c9; rw [if_neg (fun h => h.2 c9)]; done)
          | (rw [hD.1] at c9
             have h3 := (vp_in_iff.mp (drp_in hD.2.1 c1 c9).2.2).2
             rw [Int32.le_iff_toInt_le, show (240 : Int32).toInt = 240 by decide] at c16
             omega)
          | (rw [hD.1] at c9; rw [if_pos ⟨c1, c9⟩]; exact hD.2.2 _ (drp_in hD.2.1 c1 c9).1)
      · refine wp_aload_n dX8_dropped_19 rfl ?_
        refine wp_getR dX8_dropped_20 fl_X8_21 rfl rfl (hG.1 (0, 3, 3) (by decide)) ?_
        refine wp_iload_n dX8_dropped_23 rfl ?_
        refine wp_iaload dX8_dropped_24 rfl (vin (N := 240) (by decide) c1 c16) ?_
        refine wp_goto (tgt := 29) dX8_dropped_25 (by decide) ?_
        refine wp_ireturn dX8_dropped_29 rfl rfl (Nat.zero_le _) (Nat.zero_le _) ?_
        refine ⟨?_, rfl, rfl⟩
        congr 2
        unfold drpR
        first
          | (rw [if_neg (fun h => h.1 c1)]; done)
          | (rw [hD.1] at c9; rw [if_neg (fun h => h.2 c9)]; done)
          | (rw [hD.1] at c9
             have h3 := (vp_in_iff.mp (drp_in hD.2.1 c1 c9).2.2).2
             rw [Int32.le_iff_toInt_le, show (240 : Int32).toInt = 240 by decide] at c16
             omega)
          | (rw [hD.1] at c9; rw [if_pos ⟨c1, c9⟩]; exact hD.2.2 _ (drp_in hD.2.1 c1 c9).1)
theorem nI_pm {n : Nat} (hn : n ≤ 1000) : (nI n - 1).toInt = (n : Int) - 1 := by
  have := pk_sub_toInt (a := n) (b := 1) (by omega) (by omega)
  exact this
theorem in_sub {k g : Int32} {n : Nat} (hg : g = nI n) (hn : n ≤ 1000) : (0 ≤ k ∧ k ≤ g - 1) ↔ (¬ k < 0 ∧ ¬ nI n ≤ k) := by
  subst hg
  rw [Int32.not_lt, Int32.not_le]
  simp only [Int32.le_iff_toInt_le, Int32.lt_iff_toInt_lt, nI_toInt (show n < 2 ^ 31 by omega), nI_pm hn]
  omega
theorem b2i_ne {p : Prop} [Decidable p] : ¬ b2i p = 0 ↔ p := by
  by_cases h : p
  · rw [b2i_t h]; simp [h]
  · rw [b2i_f h]; simp [h]
theorem b2i_e0 {p : Prop} [Decidable p] : b2i p = 0 ↔ ¬ p := by
  by_cases h : p
  · rw [b2i_t h]; simp [h]
  · rw [b2i_f h]; simp [h]
theorem b2i_c {p q : Prop} [Decidable p] [Decidable q] (h : p ↔ q) : b2i p = b2i q := by simp only [b2i, h]
theorem cX9_inI (E : GE) (v a b : Int32) (x y z : Int64) (sh : List Sh) (M : Mem) (hx : v.toInt64 = x) (hy : a.toInt64 = y) (hz : b.toInt64 = z) : Sp E mX9_in 0 0 0 [.long x, .long y, .long z] sh M (RV (some (.int (b2i (a ≤ v ∧ v ≤ b)))) sh M) := by
  subst hx hy hz
  rw [← inI]
  exact cX9_in_ E _ _ _ sh M
theorem cX9_inN (E : GE) (k g : Int32) (n : Nat) (hg : g = nI n) (hn : n ≤ 1000) (x y z : Int64) (sh : List Sh) (M : Mem) (hx : k.toInt64 = x) (hy : (0 : Int32).toInt64 = y) (hz : (g - 1).toInt64 = z) : Sp E mX9_in 0 0 0 [.long x, .long y, .long z] sh M (RV (some (.int (b2i (¬ k < 0 ∧ ¬ nI n ≤ k)))) sh M) := by
  rw [← b2i_c (in_sub hg hn)]
  exact cX9_inI E k 0 (g - 1) x y z sh M hx hy hz
set_option maxRecDepth 100000 in
set_option maxHeartbeats 4000000 in
theorem cX9_dropped_ (E : GE) (k : Int32) (gn : List Nat) (M : Mem) (hG : rmG M) (hD : rmD M gn) : Sp E mX9_dropped 1 0 0 [.ref 121, .int k] SH M (RV (some (.int (drpR gn k))) SH (sI M 121 0 0)) := by
  refine sp_of vX9_dropped.1 rfl (Nat.le_of_ble_eq_true rfl) ?_
  refine wp_aload_n dX9_dropped_0 rfl ?_
  refine wp_iconst (v := 0) dX9_dropped_1 rfl ?_
  refine wp_putI dX9_dropped_2 fl_X9_1 rfl rfl (fun _ _ _ h => by cases h; rfl) rfl rfl ?_
  refine wp_iload_n dX9_dropped_5 rfl ?_
  refine wp_i2l dX9_dropped_6 ?_
  refine wp_lconst (v := 0) dX9_dropped_7 rfl ?_
  refine wp_aload_n dX9_dropped_8 rfl ?_
  refine wp_getI dX9_dropped_9 fl_X9_190 rfl rfl ?_
  refine wp_iconst (v := 1) dX9_dropped_12 rfl ?_
  refine wp_isub dX9_dropped_13 ?_
  refine wp_i2l dX9_dropped_14 ?_
  refine wp_cS3i dX9_dropped_15 ml_X9_117 sX9_in (cX9_inN E k (fI M 121 27) gn.length hD.1 (by have := hD.2.1; omega) _ _ _ _ _ rfl rfl rfl) (Nat.le_of_ble_eq_true rfl) (Nat.le_of_ble_eq_true rfl) (Nat.le_of_ble_eq_true rfl) ?_
  refine wp_if_eq (tgt := 30) dX9_dropped_18 (by decide) (fun c18 => ?_) (fun c18 => ?_)
  · refine wp_iconst (v := (-1)) dX9_dropped_30 rfl ?_
    refine wp_ireturn dX9_dropped_31 rfl rfl (Nat.zero_le _) (Nat.zero_le _) ?_
    refine ⟨?_, rfl, rfl⟩
    congr 2
    unfold drpR
    first
      | (rw [if_neg (b2i_e0.mp c18)]; done)
      | (rw [if_pos (b2i_ne.mp c18)]; exact hD.2.2 _ (drp_in hD.2.1 (b2i_ne.mp c18).1 (b2i_ne.mp c18).2).1)
  · refine wp_aload_n dX9_dropped_21 rfl ?_
    refine wp_getR dX9_dropped_22 fl_X9_74 rfl rfl (hG 26) ?_
    refine wp_iload_n dX9_dropped_25 rfl ?_
    refine wp_iaload dX9_dropped_26 rfl (drp_in hD.2.1 (b2i_ne.mp c18).1 (b2i_ne.mp c18).2).2.2 ?_
    refine wp_goto (tgt := 31) dX9_dropped_27 (by decide) ?_
    refine wp_ireturn dX9_dropped_31 rfl rfl (Nat.zero_le _) (Nat.zero_le _) ?_
    refine ⟨?_, rfl, rfl⟩
    congr 2
    unfold drpR
    first
      | (rw [if_neg (b2i_e0.mp c18)]; done)
      | (rw [if_pos (b2i_ne.mp c18)]; exact hD.2.2 _ (drp_in hD.2.1 (b2i_ne.mp c18).1 (b2i_ne.mp c18).2).1)
def nodeS (x : ND) (w : Int32) : Int32 := if w = 0 then nCo x else if w = 1 then nMa x else if w = 2 then nBo x else if w = 3 then nFi x else if w = 4 then nDe x else if w = 5 then nSz x else if w = 6 then nAr x else -102
abbrev okK (k : Int32) (n : Nat) : Prop := ¬ k < 0 ∧ ¬ nI n ≤ k
theorem okK_of {k : Int32} {n : Nat} (h : okK k n) (hn : n ≤ 1000) : ∃ j, j < n ∧ k = nI j := vp_in_of (vin (n := n) (nI_toInt (by omega)) h.1 h.2) (by omega)
theorem okK_nI {j n : Nat} (h : j < n) (hn : n ≤ 1000) : okK (nI j) n := ⟨nI_pos (by omega), nI_ge h (by omega)⟩
def thrI (p : Prop) [Decidable p] : Int32 := if p then 0 else 1
theorem sw7 (x : Int32) : (x.toInt < 0 ∨ 6 < x.toInt) ∨ x = 0 ∨ x = 1 ∨ x = 2 ∨ x = 3 ∨ x = 4 ∨ x = 5 ∨ x = 6 := by
  simp only [← Int32.toInt_inj, Int32.reduceToInt]
  omega
theorem pk5 {j : Nat} (h : j ≤ 1000) : (5 : Int32) * nI j = nI (5 * j) := pk_mul 5 j
theorem pk40 {j : Nat} (h : j ≤ 1000) : (40 : Int32) * nI j = nI (40 * j) := pk_mul 40 j
set_option maxRecDepth 100000 in
set_option maxHeartbeats 4000000 in
theorem cX9_node_ (E : GE) (k w : Int32) (n : Nat) (nd : Nat → ND) (M : Mem) (hG : rmG M) (hQ : rmQ M n nd) (hWd : ∀ j, j < n → nCo (nd j) = 0 → 0 < (nWo (nd j)).length) : Sp E mX9_node 2 0 0 [.ref 121, .int k, .int w] SH M (RV (some (.int (if okK k n then nodeS (nd k.toNatClampNeg) w else 0))) SH (sI M 121 0 (thrI (okK k n)))) := by
  refine sp_of vX9_node.1 rfl (Nat.le_of_ble_eq_true rfl) ?_
  obtain ⟨hq1, hq2, hq3⟩ := hQ
  have hp : ∀ (x y z : Int64) (M : Mem), k.toInt64 = x → (0 : Int32).toInt64 = y → (fI M 121 13 - 1).toInt64 = z → True := fun _ _ _ _ _ _ _ => trivial
  refine wp_aload_n dX9_node_0 rfl ?_
  refine wp_aload_n dX9_node_1 rfl ?_
  refine wp_iload_n dX9_node_2 rfl ?_
  refine wp_cV1i dX9_node_3 ml_X9_193 vX9_isNode ⟨8, (RX9, TX9, 39), rfl, rfl, rfl⟩ (cX9_isNode_ E k M) (Nat.le_of_ble_eq_true rfl) (Nat.le_of_ble_eq_true rfl) (Nat.le_of_ble_eq_true rfl) ?_
  have hiff := in_sub (k := k) hq1 (by omega)
  refine wp_if_eq (tgt := 13) dX9_node_6 (by decide) (fun c6 => ?_) (fun c6 => ?_)
  · have hv : ¬ okK k n := fun h => b2i_e0.mp c6 (hiff.mpr h)
    refine wp_iconst (v := 1) dX9_node_13 rfl ?_
    refine wp_putI dX9_node_14 fl_X9_1 rfl rfl (fun _ _ _ h => by cases h; rfl) rfl rfl ?_
    refine wp_aload_n dX9_node_17 rfl ?_
    refine wp_getI dX9_node_18 fl_X9_1 rfl rfl ?_
    refine wp_if_le (tgt := 26) dX9_node_21 (by decide) (fun c21 => absurd (show (1 : Int32) ≤ 0 from c21) (by decide)) (fun c21 => ?_)
    refine wp_iconst (v := 0) dX9_node_24 rfl ?_
    refine wp_ireturn dX9_node_25 rfl rfl (Nat.zero_le _) (Nat.zero_le _) ?_
    refine ⟨?_, rfl, ?_⟩
    · rw [if_neg hv]
    · rw [show thrI (okK _ _) = _ from if_neg hv]
  · have hv : okK k n := hiff.mp (b2i_ne.mp c6)
    obtain ⟨j, hj, rfl⟩ := okK_of hv (by omega)
    have hN := hq3 j hj
    have hin : vp_in (nI j) 25 := vp_in_nI (by omega) (by decide)
    have hcl : (nI j).toNatClampNeg = j := nI_clamp (by omega)
    refine wp_iconst (v := 0) dX9_node_9 rfl ?_
    refine wp_goto (tgt := 14) dX9_node_10 (by decide) ?_
    refine wp_putI dX9_node_14 fl_X9_1 rfl rfl (fun _ _ _ h => by cases h; rfl) rfl rfl ?_
    refine wp_aload_n dX9_node_17 rfl ?_
    refine wp_getI dX9_node_18 fl_X9_1 rfl rfl ?_
    refine wp_if_le (tgt := 26) dX9_node_21 (by decide) (fun c21 => ?_) (fun c21 => absurd (show (0 : Int32) ≤ 0 by decide) c21)
    refine wp_iload_n dX9_node_26 rfl ?_
    rcases sw7 w with h | rfl | rfl | rfl | rfl | rfl | rfl | rfl
    · refine wp_tableOut (tgt := 137) dX9_node_27 h (by decide) ?_
      refine wp_bipush (v := (-102)) dX9_node_137 (by decide) ?_
      refine wp_ireturn dX9_node_139 rfl rfl (Nat.zero_le _) (Nat.zero_le _) ?_
      refine ⟨?_, rfl, ?_⟩
      · rw [if_pos hv]
        have e : nodeS (nd j) w = -102 := by
          unfold nodeS
          have hne : ∀ c : Int32, 0 ≤ c.toInt → c.toInt ≤ 6 → ¬ w = c := fun c h1 h2 e => by subst e; omega
          rw [if_neg (hne 0 (by decide) (by decide)), if_neg (hne 1 (by decide) (by decide)), if_neg (hne 2 (by decide) (by decide)), if_neg (hne 3 (by decide) (by decide)), if_neg (hne 4 (by decide) (by decide)), if_neg (hne 5 (by decide) (by decide)), if_neg (hne 6 (by decide) (by decide))]
        rw [hcl, e]
      · rw [show thrI (okK _ _) = _ from if_pos hv]
    · refine wp_tableIn (off := 41) (tgt := 68) dX9_node_27 (by decide) (by decide) rfl (by decide) ?_
      refine wp_aload_n dX9_node_68 rfl ?_
      refine wp_getR dX9_node_69 fl_X9_44 rfl rfl (hG 14) ?_
      refine wp_iload_n dX9_node_72 rfl ?_
      refine wp_iaload dX9_node_73 rfl hin ?_
      refine wp_ireturn dX9_node_74 rfl rfl (Nat.zero_le _) (Nat.zero_le _) ?_
      refine ⟨?_, rfl, ?_⟩
      · rw [if_pos hv, hcl]
        congr 2
        show aI M 132 j = _
        exact hN.1
      · rw [show thrI (okK _ _) = _ from if_pos hv]
    · refine wp_tableIn (off := 48) (tgt := 75) dX9_node_27 (by decide) (by decide) rfl (by decide) ?_
      refine wp_aload_n dX9_node_75 rfl ?_
      refine wp_getR dX9_node_76 fl_X9_47 rfl rfl (hG 15) ?_
      refine wp_iload_n dX9_node_79 rfl ?_
      refine wp_iaload dX9_node_80 rfl hin ?_
      refine wp_ireturn dX9_node_81 rfl rfl (Nat.zero_le _) (Nat.zero_le _) ?_
      refine ⟨?_, rfl, ?_⟩
      · rw [if_pos hv, hcl]
        congr 2
        show aI M 133 j = _
        exact hN.2.1
      · rw [show thrI (okK _ _) = _ from if_pos hv]
    · refine wp_tableIn (off := 55) (tgt := 82) dX9_node_27 (by decide) (by decide) rfl (by decide) ?_
      refine wp_aload_n dX9_node_82 rfl ?_
      refine wp_getR dX9_node_83 fl_X9_50 rfl rfl (hG 16) ?_
      refine wp_iload_n dX9_node_86 rfl ?_
      refine wp_iaload dX9_node_87 rfl hin ?_
      refine wp_ireturn dX9_node_88 rfl rfl (Nat.zero_le _) (Nat.zero_le _) ?_
      refine ⟨?_, rfl, ?_⟩
      · rw [if_pos hv, hcl]
        congr 2
        show aI M 134 j = _
        exact hN.2.2.1
      · rw [show thrI (okK _ _) = _ from if_pos hv]
    · refine wp_tableIn (off := 62) (tgt := 89) dX9_node_27 (by decide) (by decide) rfl (by decide) ?_
      refine wp_aload_n dX9_node_89 rfl ?_
      refine wp_getR dX9_node_90 fl_X9_53 rfl rfl (hG 17) ?_
      refine wp_iload_n dX9_node_93 rfl ?_
      refine wp_iaload dX9_node_94 rfl hin ?_
      refine wp_ireturn dX9_node_95 rfl rfl (Nat.zero_le _) (Nat.zero_le _) ?_
      refine ⟨?_, rfl, ?_⟩
      · rw [if_pos hv, hcl]
        congr 2
        show aI M 135 j = _
        exact hN.2.2.2.1
      · rw [show thrI (okK _ _) = _ from if_pos hv]
    · refine wp_tableIn (off := 69) (tgt := 96) dX9_node_27 (by decide) (by decide) rfl (by decide) ?_
      refine wp_aload_n dX9_node_96 rfl ?_
      refine wp_getR dX9_node_97 fl_X9_56 rfl rfl (hG 18) ?_
      refine wp_iload_n dX9_node_100 rfl ?_
      refine wp_iaload dX9_node_101 rfl hin ?_
      refine wp_ireturn dX9_node_102 rfl rfl (Nat.zero_le _) (Nat.zero_le _) ?_
      refine ⟨?_, rfl, ?_⟩
      · rw [if_pos hv, hcl]
        congr 2
        show aI M 136 j = _
        exact hN.2.2.2.2.1
      · rw [show thrI (okK _ _) = _ from if_pos hv]
    · refine wp_tableIn (off := 76) (tgt := 103) dX9_node_27 (by decide) (by decide) rfl (by decide) ?_
      refine wp_aload_n dX9_node_103 rfl ?_
      refine wp_getR dX9_node_104 fl_X9_44 rfl rfl (hG 14) ?_
      refine wp_iload_n dX9_node_107 rfl ?_
      refine wp_iaload dX9_node_108 rfl hin ?_
      refine wp_if_ne (tgt := 123) dX9_node_109 (by decide) (fun c109 => ?_) (fun c109 => ?_)
      · refine wp_aload_n dX9_node_123 rfl ?_
        refine wp_getR dX9_node_124 fl_X9_62 rfl rfl (hG 20) ?_
        refine wp_iload_n dX9_node_127 rfl ?_
        refine wp_iaload dX9_node_128 rfl hin ?_
        refine wp_ireturn dX9_node_129 rfl rfl (Nat.zero_le _) (Nat.zero_le _) ?_
        refine ⟨?_, rfl, ?_⟩
        · rw [if_pos hv]
          have h5 : nodeS (nd j) 5 = nSz (nd j) := rfl
          rw [hcl, h5]
          have c109 := c109
          simp only [aI_sI, hcl] at c109
          rw [hN.1] at c109
          congr 2
          unfold nSz
          first
            | (rw [if_neg c109]
               show aI M 138 j = _
               rw [hN.2.2.2.2.2.2.1])
            | (rw [if_pos c109]
               show aI M 139 ((5 : Int32) * nI j).toNatClampNeg = _
               rw [pk5 (by omega), nI_clamp (by omega)]
               have hw := hWd j hj c109
               have := (hN.2.2.2.2.2.2.2 0 (by omega)).1
               simpa using this)
        · rw [show thrI (okK _ _) = _ from if_pos hv]
      · refine wp_aload_n dX9_node_112 rfl ?_
        refine wp_getR dX9_node_113 fl_X9_65 rfl rfl (hG 21) ?_
        refine wp_iconst (v := 5) dX9_node_116 rfl ?_
        refine wp_iload_n dX9_node_117 rfl ?_
        refine wp_imul dX9_node_118 ?_
        refine wp_iaload dX9_node_119 rfl (by rw [pk5 (by omega)]; exact vp_in_nI (by omega) (by decide)) ?_
        refine wp_goto (tgt := 129) dX9_node_120 (by decide) ?_
        refine wp_ireturn dX9_node_129 rfl rfl (Nat.zero_le _) (Nat.zero_le _) ?_
        refine ⟨?_, rfl, ?_⟩
        · rw [if_pos hv]
          have h5 : nodeS (nd j) 5 = nSz (nd j) := rfl
          rw [hcl, h5]
          have c109 := c109
          simp only [aI_sI, hcl] at c109
          rw [hN.1] at c109
          congr 2
          unfold nSz
          first
            | (rw [if_neg c109]
               show aI M 138 j = _
               rw [hN.2.2.2.2.2.2.1])
            | (rw [if_pos c109]
               show aI M 139 ((5 : Int32) * nI j).toNatClampNeg = _
               rw [pk5 (by omega), nI_clamp (by omega)]
               have hw := hWd j hj c109
               have := (hN.2.2.2.2.2.2.2 0 (by omega)).1
               simpa using this)
        · rw [show thrI (okK _ _) = _ from if_pos hv]
    · refine wp_tableIn (off := 103) (tgt := 130) dX9_node_27 (by decide) (by decide) rfl (by decide) ?_
      refine wp_aload_n dX9_node_130 rfl ?_
      refine wp_getR dX9_node_131 fl_X9_59 rfl rfl (hG 19) ?_
      refine wp_iload_n dX9_node_134 rfl ?_
      refine wp_iaload dX9_node_135 rfl hin ?_
      refine wp_ireturn dX9_node_136 rfl rfl (Nat.zero_le _) (Nat.zero_le _) ?_
      refine ⟨?_, rfl, ?_⟩
      · rw [if_pos hv, hcl]
        congr 2
        show aI M 137 j = _
        exact hN.2.2.2.2.2.1
      · rw [show thrI (okK _ _) = _ from if_pos hv]

