/-! ===== the model: feed, dropped ===== -/
theorem i64_le (a b : Int32) : a.toInt64 ≤ b.toInt64 ↔ a ≤ b := by rw [Int64.le_iff_toInt_le, Int32.le_iff_toInt_le]; simp
theorem inI (a v b : Int32) : b2i (a.toInt64 ≤ v.toInt64 ∧ v.toInt64 ≤ b.toInt64) = b2i (a ≤ v ∧ v ≤ b) := by simp only [b2i, i64_le]
theorem nI_m1 : nI 0 - 1 = -1 := by decide
theorem lv_rf {X : MX} {kc ks pc : Nat} {lv lv' : LV} {st : List Value} {sh : List Sh} {M : Mem} (h : Wp X kc ks pc lv' st sh M) (e : lv = lv') : Wp X kc ks pc lv st sh M := e ▸ h
def feedOk (tp : List Nat) (n : Int32) : Prop := (1 ≤ n ∧ n ≤ 8) ∧ tp.length + n.toNatClampNeg ≤ 240
def feedB (w : Int64) (n : Nat) : List Nat := (List.range n).map fun i => bv w (n - 1 - i)
def feedR (tp : List Nat) (n : Int32) : Int32 := if 1 ≤ n ∧ n ≤ 8 then if tp.length + n.toNatClampNeg ≤ 240 then nI (tp.length + n.toNatClampNeg) else -103 else -102
def feedT (tp : List Nat) (n : Int32) (w : Int64) : List Nat := if 1 ≤ n ∧ n ≤ 8 then if tp.length + n.toNatClampNeg ≤ 240 then tp ++ feedB w n.toNatClampNeg else tp else tp
theorem getD_app1 {l : List Nat} {b i : Nat} (h : i < (l ++ [b]).length) : (l ++ [b]).getD i 0 = if i = l.length then b else l.getD i 0 := by
  simp only [List.getD_eq_getElem?_getD]
  by_cases e : i = l.length
  · subst e; simp
  · have : i < l.length := by simp at h; omega
    rw [if_neg e, List.getElem?_append_left this]
theorem rmT_push {M : Mem} {tp : List Nat} {b : Nat} (h : rmT M tp) (hl : tp.length < 240) (hb : b < 256) (x : Int32) (hx : x = nI b) (y : Int32) (hy : y = nI (tp.length + 1)) (k : Nat) (hk : k = tp.length) : rmT (sI (sA M 122 k x) 121 2 y) (tp ++ [b]) := by
  subst hx hy hk
  refine ⟨by simp [fI_sI], by simp; omega, fun i hi => ?_⟩
  rw [getD_app1 hi]
  simp only [aI_sI, aI_sA]
  by_cases e : i = tp.length
  · subst e; simp [hb]
  · have h2 : i < tp.length := by simp at hi; omega
    have h3 := h.2.2 i h2
    rw [if_neg (by omega), if_neg e]
    exact h3
theorem feedB_succ (w : Int64) (n r : Nat) (h : r < n) : (feedB w n).take (n - r - 1) ++ [bv w r] = (feedB w n).take (n - r) := by
  have e : n - r = n - r - 1 + 1 := by omega
  have hlen : n - r - 1 < (feedB w n).length := by simp [feedB]; omega
  rw [e, List.take_add_one, show n - r - 1 + 1 - 1 = n - r - 1 by omega]
  congr 1
  rw [List.getElem?_eq_getElem hlen]
  simp [feedB]
  congr 1
  omega
def pFeed (M : Mem) (tp : List Nat) (n : Int32) (w : Int64) : PT := fun v sh1 M1 => sh1 = SH ∧ Fr [(121, 0), (121, 2)] [122] [] M M1 ∧ v = some (.int (feedR tp n)) ∧ rmT M1 (feedT tp n w)
set_option maxRecDepth 100000 in
set_option maxHeartbeats 4000000 in
theorem cX9_feed_ (E : GE) (n : Int32) (w : Int64) (tp : List Nat) (M : Mem) (hG : rmG M) (hT : rmT M tp) : Sp E mX9_feed 1 0 0 [.ref 121, .int n, .long w] SH M (pFeed M tp n w) := by
  refine sp_of vX9_feed.1 rfl (Nat.le_of_ble_eq_true rfl) ?_
  have hF0 : Fr [(121, 0), (121, 2)] [122] [] M (sI M 121 0 0) := Fr.rf.sI (by simp)
  have hT0 : rmT (sI M 121 0 0) tp := hT.fr (LI := [(121, 0)]) (LA := []) (LL := []) (Fr.rf.sI (by simp)) (by simp) (by simp)
  have loop : ∀ (N r : Nat) (M1 : Mem), n = nI N → 1 ≤ N → N ≤ 8 → tp.length + N ≤ 240 → r ≤ N → Fr [(121, 0), (121, 2)] [122] [] M M1 → rmT M1 (tp ++ (feedB w N).take (N - r)) → Wp (xM E mX9_feed 1 0 0 SH.length (pFeed M tp n w)) 0 0 40 [(4, .int (nI r - 1)), (0, .ref 121), (1, .int n), (2, .long w)] [] SH M1 := by
    intro N r
    induction r with
    | zero =>
      intro M1 hN h1 h8 hl hr hF hT1
      have hn8 : n.toNatClampNeg = N := by rw [hN]; exact nI_clamp (by omega)
      have hc : 1 ≤ n ∧ n ≤ 8 := by rw [hN]; exact ⟨nI_le (a := 1) h1 (by omega), nI_le (b := 8) h8 (by omega)⟩
      refine wp_iload dX9_feed_40 rfl ?_
      refine wp_if_lt (tgt := 82) dX9_feed_42 (by decide) (fun c42 => ?_) (fun c42 => absurd (by decide) c42)
      refine wp_aload_n dX9_feed_82 rfl ?_
      refine wp_getI dX9_feed_83 fl_X9_121 rfl rfl ?_
      refine wp_ireturn dX9_feed_86 rfl rfl (Nat.zero_le _) (Nat.zero_le _) ?_
      refine ⟨rfl, hF, ?_, ?_⟩
      · rw [hT1.1]
        unfold feedR
        rw [if_pos hc, hn8, if_pos hl]
        simp [feedB]
      · unfold feedT
        rw [if_pos hc, hn8, if_pos hl]
        have e : (feedB w N).take (N - 0) = feedB w N := List.take_of_length_le (by simp [feedB])
        rw [e] at hT1
        exact hT1
    | succ r ih =>
      intro M1 hN h1 h8 hl hr hF hT1
      have hlen : (tp ++ (feedB w N).take (N - (r + 1))).length = tp.length + (N - (r + 1)) := by simp [feedB]
      have hix : fI M1 121 2 = nI (tp.length + (N - (r + 1))) := by rw [hT1.1, hlen]
      have hG1 : rmG M1 := hG.fr hF
      rw [nI_pred]
      refine wp_iload dX9_feed_40 rfl ?_
      refine wp_if_lt (tgt := 82) dX9_feed_42 (by decide) (fun c42 => absurd c42 (nI_pos (by omega))) (fun c42 => ?_)
      refine wp_aload_n dX9_feed_45 rfl ?_
      refine wp_getR dX9_feed_46 fl_X9_13 rfl rfl (hG1 1) ?_
      refine wp_aload_n dX9_feed_49 rfl ?_
      refine wp_getI dX9_feed_50 fl_X9_121 rfl rfl ?_
      refine wp_lload_n dX9_feed_53 rfl ?_
      refine wp_bipush (v := 8) dX9_feed_54 (by decide) ?_
      refine wp_iload dX9_feed_56 rfl ?_
      refine wp_imul dX9_feed_58 ?_
      refine wp_lshr dX9_feed_59 ?_
      refine wp_l2i dX9_feed_60 ?_
      refine wp_sipush (v := 255) dX9_feed_61 (by decide) ?_
      refine wp_iand dX9_feed_64 ?_
      refine wp_iastore dX9_feed_65 rfl (by rw [hix]; exact vp_in_nI (by omega) (by decide)) ?_
      refine wp_aload_n dX9_feed_66 rfl ?_
      refine wp_dup dX9_feed_67 rfl ?_
      refine wp_getI dX9_feed_68 fl_X9_121 rfl rfl ?_
      refine wp_iconst (v := 1) dX9_feed_71 rfl ?_
      refine wp_iadd dX9_feed_72 ?_
      refine wp_putI dX9_feed_73 fl_X9_121 rfl rfl (fun _ _ _ h => by cases h; rfl) rfl rfl ?_
      refine wp_iinc dX9_feed_76 rfl (i_neg1 _) (Nat.le_of_ble_eq_true rfl) ?_
      refine wp_goto (tgt := 40) dX9_feed_79 (by decide) ?_
      refine ih _ hN h1 h8 hl (by omega) ((hF.sA (by simp)).sI (by simp)) ?_
      have e2 := feedB_succ w N r (by omega)
      rw [show N - (r + 1) = N - r - 1 by omega] at hT1 hlen hix
      rw [← e2, ← List.append_assoc]
      refine rmT_push hT1 (by rw [hlen]; omega) (bv_lt w r) _ ?_ _ ?_ _ ?_
      · exact low8_s w r (by omega)
      · rw [fI_sA, hix, hlen]; exact nI_1 _
      · rw [hix, hlen]; exact nI_clamp (by omega)
  refine wp_aload_n dX9_feed_0 rfl ?_
  refine wp_iconst (v := 0) dX9_feed_1 rfl ?_
  refine wp_putI dX9_feed_2 fl_X9_1 rfl rfl (fun _ _ _ h => by cases h; rfl) rfl rfl ?_
  refine wp_iload_n dX9_feed_5 rfl ?_
  refine wp_i2l dX9_feed_6 ?_
  refine wp_lconst (v := 1) dX9_feed_7 rfl ?_
  refine wp_ldc2 dX9_feed_8 kl_X9_115 ?_
  refine wp_cS3i dX9_feed_11 ml_X9_117 sX9_in (cX9_in_ E _ _ _ _ _) (Nat.le_of_ble_eq_true rfl) (Nat.le_of_ble_eq_true rfl) (Nat.le_of_ble_eq_true rfl) ?_
  refine wp_if_ne (tgt := 20) dX9_feed_14 (by decide) (fun c14 => ?_) (fun c14 => ?_)
  · refine wp_aload_n dX9_feed_20 rfl ?_
    refine wp_getI dX9_feed_21 fl_X9_121 rfl rfl ?_
    refine wp_iload_n dX9_feed_24 rfl ?_
    refine wp_iadd dX9_feed_25 ?_
    refine wp_sipush (v := 240) dX9_feed_26 (by decide) ?_
    refine wp_icmp_le (tgt := 35) dX9_feed_29 (by decide) (fun c29 => ?_) (fun c29 => ?_)
    · refine wp_iload_n dX9_feed_35 rfl ?_
      refine wp_iconst (v := 1) dX9_feed_36 rfl ?_
      refine wp_isub dX9_feed_37 ?_
      refine wp_istore dX9_feed_38 (Nat.le_of_ble_eq_true rfl) ?_
      have c14 : ¬ b2i ((1 : Int32).toInt64 ≤ n.toInt64 ∧ n.toInt64 ≤ (8 : Int32).toInt64) = 0 := c14
      rw [inI] at c14
      have h : 1 ≤ n ∧ n ≤ 8 := Decidable.byContradiction fun h => c14 (b2i_f h)
      obtain ⟨N, hN1, hN⟩ := nI_of2 (x := n) (M := 8) (n := 8) (by decide) (by rw [Int32.not_lt]; exact Int32.le_trans (by decide) h.1) h.2
      have hpos : 1 ≤ N := (nI_leI (a := 1) (by omega) (by omega)).mp (hN ▸ h.1)
      have hsum : tp.length + N ≤ 240 := by
        have c29 : fI M 121 2 + n ≤ 240 := c29
        rw [hT.1, hN, nI_add] at c29
        have := hT.2.1
        exact (nI_leI (b := 240) (by omega) (by decide)).mp c29
      refine lv_rf (loop N N (sI M 121 0 0) hN hpos hN1 hsum (Nat.le_refl _) hF0 (by simpa using hT0)) ?_
      rw [← hN]
      rfl
    · refine wp_bipush (v := (-103)) dX9_feed_32 (by decide) ?_
      refine wp_ireturn dX9_feed_34 rfl rfl (Nat.zero_le _) (Nat.zero_le _) ?_
      have c14 : ¬ b2i ((1 : Int32).toInt64 ≤ n.toInt64 ∧ n.toInt64 ≤ (8 : Int32).toInt64) = 0 := c14
      rw [inI] at c14
      have h : 1 ≤ n ∧ n ≤ 8 := Decidable.byContradiction fun h => c14 (b2i_f h)
      obtain ⟨N, hN1, hN⟩ := nI_of2 (x := n) (M := 8) (n := 8) (by decide) (by rw [Int32.not_lt]; exact Int32.le_trans (by decide) h.1) h.2
      have hsum : ¬ tp.length + N ≤ 240 := fun q => c29 (by
        show fI M 121 2 + n ≤ 240
        rw [hT.1, hN, nI_add]
        exact nI_le (b := 240) q (by decide))
      have hn8 : n.toNatClampNeg = N := by rw [hN]; exact nI_clamp (by omega)
      refine ⟨rfl, hF0, ?_, ?_⟩
      · unfold feedR; rw [if_pos h, hn8, if_neg hsum]
      · unfold feedT; rw [if_pos h, hn8, if_neg hsum]; exact hT0
  · refine wp_bipush (v := (-102)) dX9_feed_17 (by decide) ?_
    refine wp_ireturn dX9_feed_19 rfl rfl (Nat.zero_le _) (Nat.zero_le _) ?_
    have c14 : b2i ((1 : Int32).toInt64 ≤ n.toInt64 ∧ n.toInt64 ≤ (8 : Int32).toInt64) = 0 := c14
    rw [inI] at c14
    have h : ¬ (1 ≤ n ∧ n ≤ 8) := fun h => by rw [b2i_t h] at c14; exact absurd c14 (by decide)
    refine ⟨rfl, hF0, ?_, ?_⟩
    · unfold feedR; rw [if_neg h]
    · unfold feedT; rw [if_neg h]; exact hT0
