/-! ===== small leaves: numbers ===== -/
def lka (lv : LV) : LV → Prop
  | [] => True
  | q :: r => lk lv q.1 = some q.2 ∧ lka lv r
theorem lka_mem {lv : LV} : ∀ {lv1 : LV}, lka lv lv1 → ∀ q ∈ lv1, q ∈ lv
  | [], _, _, hq => nomatch hq
  | a :: r, h, q, hq => by
    rcases List.mem_cons.mp hq with rfl | hq
    · exact lk_mem h.1
    · exact lka_mem h.2 q hq
theorem wp_lv {X : MX} {kc ks pc : Nat} {lv lv1 : LV} {st : List Value} {sh : List Sh} {M : Mem} (k : Wp X kc ks pc lv1 st sh M) (h : lka lv lv1) : Wp X kc ks pc lv st sh M := by
  intro p e R s m args below meth c H locs ad0 ad ls C ⟨hl, hw, hS, ov, os, ha, hn⟩
  refine k p e R s m args below meth c H locs ad0 ad ls C ⟨⟨hl.1, hl.2.1, fun q hq => ?_⟩, hw, hS, fun q hq => ov q (lka_mem h q hq), os, ha, hn⟩
  obtain ⟨a, ha, rfl⟩ := List.mem_map.mp hq
  exact hl.2.2 _ (List.mem_map.mpr ⟨a, lka_mem h a ha, rfl⟩)
theorem i_pos1 (x : Int32) : x + Int32.ofInt 1 = x + 1 := rfl
theorem i_neg1 (x : Int32) : x + Int32.ofInt (-1) = x - 1 := by rw [Int32.sub_eq_add_neg]; rfl
theorem i_inc (i : Nat) : nI i + Int32.ofInt 1 = nI (i + 1) := (i_pos1 _).trans (nI_1 i)
theorem i_dec (i : Nat) : nI (i + 1) + Int32.ofInt (-1) = nI i := (i_neg1 _).trans (nI_pred i)
def b2i (p : Prop) [Decidable p] : Int32 := if p then 1 else 0
theorem b2i_t {p : Prop} [Decidable p] (h : p) : b2i p = 1 := if_pos h
theorem b2i_f {p : Prop} [Decidable p] (h : ¬ p) : b2i p = 0 := if_neg h
theorem lg_lt (x y : Int64) : lg_cmp x y < 0 ↔ x < y := by
  unfold lg_cmp
  split
  · next h => simp only [show ¬ ((1 : Int32) < 0) by decide, false_iff]; exact fun h2 => absurd h2 (Int64.not_lt.mpr (Int64.le_of_lt h))
  · split
    · next h => subst h; simp
    · next h1 h2 =>
      simp only [show ((-1 : Int32) < 0) by decide, true_iff]
      exact Int64.lt_of_le_of_ne (Int64.not_lt.mp h1) h2
theorem lg_gt (x y : Int64) : 0 < lg_cmp x y ↔ y < x := by
  unfold lg_cmp
  split
  · next h => simp only [show ((0 : Int32) < 1) by decide, true_iff]; exact h
  · next h => split <;> simp [h]
theorem lg_eq (x y : Int64) : lg_cmp x y = 0 ↔ x = y := by
  unfold lg_cmp
  split
  · next h => simp only [show ¬ ((1 : Int32) = 0) by decide, false_iff]; intro h2; subst h2; exact absurd h (Int64.lt_irrefl)
  · split
    · next h => simp [h]
    · next h => simp [h]
theorem lg_ge (x y : Int64) : 0 ≤ lg_cmp x y ↔ y ≤ x := by
  rw [← Int32.not_lt, lg_lt, Int64.not_lt]
theorem lg_le (x y : Int64) : lg_cmp x y ≤ 0 ↔ x ≤ y := by
  rw [← Int32.not_lt, lg_gt, Int64.not_lt]
set_option maxRecDepth 100000 in
set_option maxHeartbeats 4000000 in
theorem cX9_isLetter_ (E : GE) (b : Int32) (sh : List Sh) (M : Mem) : Sp E mX9_isLetter 0 0 0 [.int b] sh M (RV (some (.int (b2i (97 ≤ b ∧ b ≤ 122)))) sh M) := by
  refine sp_of sX9_isLetter.1 rfl (Nat.le_of_ble_eq_true rfl) ?_
  refine wp_iload_n dX9_isLetter_0 rfl ?_
  refine wp_bipush (v := 97) dX9_isLetter_1 (by decide) ?_
  refine wp_icmp_lt (tgt := 16) dX9_isLetter_3 (by decide) (fun c3 => ?_) (fun c3 => ?_)
  · refine wp_iconst (v := 0) dX9_isLetter_16 rfl ?_
    refine wp_ireturn dX9_isLetter_17 rfl rfl (Nat.zero_le _) (Nat.zero_le _) ?_
    refine ⟨?_, rfl, rfl⟩
    simp only [Int32.le_iff_toInt_le, Int32.lt_iff_toInt_lt, Int32.reduceToInt] at *
    simp only [b2i]
    split <;> first | rfl | (exfalso; omega)
  · refine wp_iload_n dX9_isLetter_6 rfl ?_
    refine wp_bipush (v := 122) dX9_isLetter_7 (by decide) ?_
    refine wp_icmp_gt (tgt := 16) dX9_isLetter_9 (by decide) (fun c9 => ?_) (fun c9 => ?_)
    · refine wp_iconst (v := 0) dX9_isLetter_16 rfl ?_
      refine wp_ireturn dX9_isLetter_17 rfl rfl (Nat.zero_le _) (Nat.zero_le _) ?_
      refine ⟨?_, rfl, rfl⟩
      simp only [Int32.le_iff_toInt_le, Int32.lt_iff_toInt_lt, Int32.reduceToInt] at *
      simp only [b2i]
      split <;> first | rfl | (exfalso; omega)
    · refine wp_iconst (v := 1) dX9_isLetter_12 rfl ?_
      refine wp_goto (tgt := 17) dX9_isLetter_13 (by decide) ?_
      refine wp_ireturn dX9_isLetter_17 rfl rfl (Nat.zero_le _) (Nat.zero_le _) ?_
      refine ⟨?_, rfl, rfl⟩
      simp only [Int32.le_iff_toInt_le, Int32.lt_iff_toInt_lt, Int32.reduceToInt] at *
      simp only [b2i]
      split <;> first | rfl | (exfalso; omega)
set_option maxRecDepth 100000 in
set_option maxHeartbeats 4000000 in
theorem cX9_isFigure_ (E : GE) (b x y : Int32) (sh : List Sh) (M : Mem) : Sp E mX9_isFigure 0 0 0 [.int b, .int x, .int y] sh M (RV (some (.int (b2i (48 + x ≤ b ∧ b ≤ 48 + y)))) sh M) := by
  refine sp_of sX9_isFigure.1 rfl (Nat.le_of_ble_eq_true rfl) ?_
  refine wp_iload_n dX9_isFigure_0 rfl ?_
  refine wp_bipush (v := 48) dX9_isFigure_1 (by decide) ?_
  refine wp_iload_n dX9_isFigure_3 rfl ?_
  refine wp_iadd dX9_isFigure_4 ?_
  refine wp_icmp_lt (tgt := 20) dX9_isFigure_5 (by decide) (fun c5 => ?_) (fun c5 => ?_)
  · refine wp_iconst (v := 0) dX9_isFigure_20 rfl ?_
    refine wp_ireturn dX9_isFigure_21 rfl rfl (Nat.zero_le _) (Nat.zero_le _) ?_
    refine ⟨?_, rfl, rfl⟩
    simp only [Int32.le_iff_toInt_le, Int32.lt_iff_toInt_lt, Int32.reduceToInt] at *
    simp only [b2i]
    split <;> first | rfl | (exfalso; omega)
  · refine wp_iload_n dX9_isFigure_8 rfl ?_
    refine wp_bipush (v := 48) dX9_isFigure_9 (by decide) ?_
    refine wp_iload_n dX9_isFigure_11 rfl ?_
    refine wp_iadd dX9_isFigure_12 ?_
    refine wp_icmp_gt (tgt := 20) dX9_isFigure_13 (by decide) (fun c13 => ?_) (fun c13 => ?_)
    · refine wp_iconst (v := 0) dX9_isFigure_20 rfl ?_
      refine wp_ireturn dX9_isFigure_21 rfl rfl (Nat.zero_le _) (Nat.zero_le _) ?_
      refine ⟨?_, rfl, rfl⟩
      simp only [Int32.le_iff_toInt_le, Int32.lt_iff_toInt_lt, Int32.reduceToInt] at *
      simp only [b2i]
      split <;> first | rfl | (exfalso; omega)
    · refine wp_iconst (v := 1) dX9_isFigure_16 rfl ?_
      refine wp_goto (tgt := 21) dX9_isFigure_17 (by decide) ?_
      refine wp_ireturn dX9_isFigure_21 rfl rfl (Nat.zero_le _) (Nat.zero_le _) ?_
      refine ⟨?_, rfl, rfl⟩
      simp only [Int32.le_iff_toInt_le, Int32.lt_iff_toInt_lt, Int32.reduceToInt] at *
      simp only [b2i]
      split <;> first | rfl | (exfalso; omega)
set_option maxRecDepth 100000 in
set_option maxHeartbeats 4000000 in
theorem cX9_in_ (E : GE) (v x y : Int64) (sh : List Sh) (M : Mem) : Sp E mX9_in 0 0 0 [.long v, .long x, .long y] sh M (RV (some (.int (b2i (x ≤ v ∧ v ≤ y)))) sh M) := by
  refine sp_of sX9_in.1 rfl (Nat.le_of_ble_eq_true rfl) ?_
  refine wp_lload_n dX9_in_0 rfl ?_
  refine wp_lload_n dX9_in_1 rfl ?_
  refine wp_lcmp dX9_in_2 ?_
  refine wp_if_lt (tgt := 17) dX9_in_3 (by decide) (fun c3 => ?_) (fun c3 => ?_)
  · refine wp_iconst (v := 0) dX9_in_17 rfl ?_
    refine wp_ireturn dX9_in_18 rfl rfl (Nat.zero_le _) (Nat.zero_le _) ?_
    refine ⟨?_, rfl, rfl⟩
    simp only [lg_lt, lg_gt, lg_ge, lg_le, lg_eq] at *
    simp only [b2i]
    split <;> first | rfl | (exfalso; simp_all; done) | (exfalso; simp only [Int64.le_iff_toInt_le, Int64.lt_iff_toInt_lt] at *; omega)
  · refine wp_lload_n dX9_in_6 rfl ?_
    refine wp_lload dX9_in_7 rfl ?_
    refine wp_lcmp dX9_in_9 ?_
    refine wp_if_gt (tgt := 17) dX9_in_10 (by decide) (fun c10 => ?_) (fun c10 => ?_)
    · refine wp_iconst (v := 0) dX9_in_17 rfl ?_
      refine wp_ireturn dX9_in_18 rfl rfl (Nat.zero_le _) (Nat.zero_le _) ?_
      refine ⟨?_, rfl, rfl⟩
      simp only [lg_lt, lg_gt, lg_ge, lg_le, lg_eq] at *
      simp only [b2i]
      split <;> first | rfl | (exfalso; simp_all; done) | (exfalso; simp only [Int64.le_iff_toInt_le, Int64.lt_iff_toInt_lt] at *; omega)
    · refine wp_iconst (v := 1) dX9_in_13 rfl ?_
      refine wp_goto (tgt := 18) dX9_in_14 (by decide) ?_
      refine wp_ireturn dX9_in_18 rfl rfl (Nat.zero_le _) (Nat.zero_le _) ?_
      refine ⟨?_, rfl, rfl⟩
      simp only [lg_lt, lg_gt, lg_ge, lg_le, lg_eq] at *
      simp only [b2i]
      split <;> first | rfl | (exfalso; simp_all; done) | (exfalso; simp only [Int64.le_iff_toInt_le, Int64.lt_iff_toInt_lt] at *; omega)
set_option maxRecDepth 100000 in
set_option maxHeartbeats 4000000 in
theorem cX2_isLetter_ (E : GE) (b : Int32) (sh : List Sh) (M : Mem) : Sp E mX2_isLetter 0 0 0 [.int b] sh M (RV (some (.int (b2i (97 ≤ b ∧ b ≤ 122)))) sh M) := by
  refine sp_of sX2_isLetter.1 rfl (Nat.le_of_ble_eq_true rfl) ?_
  refine wp_iload_n dX2_isLetter_0 rfl ?_
  refine wp_bipush (v := 97) dX2_isLetter_1 (by decide) ?_
  refine wp_icmp_lt (tgt := 16) dX2_isLetter_3 (by decide) (fun c3 => ?_) (fun c3 => ?_)
  · refine wp_iconst (v := 0) dX2_isLetter_16 rfl ?_
    refine wp_ireturn dX2_isLetter_17 rfl rfl (Nat.zero_le _) (Nat.zero_le _) ?_
    refine ⟨?_, rfl, rfl⟩
    simp only [Int32.le_iff_toInt_le, Int32.lt_iff_toInt_lt, Int32.reduceToInt] at *
    simp only [b2i]
    split <;> first | rfl | (exfalso; omega)
  · refine wp_iload_n dX2_isLetter_6 rfl ?_
    refine wp_bipush (v := 122) dX2_isLetter_7 (by decide) ?_
    refine wp_icmp_gt (tgt := 16) dX2_isLetter_9 (by decide) (fun c9 => ?_) (fun c9 => ?_)
    · refine wp_iconst (v := 0) dX2_isLetter_16 rfl ?_
      refine wp_ireturn dX2_isLetter_17 rfl rfl (Nat.zero_le _) (Nat.zero_le _) ?_
      refine ⟨?_, rfl, rfl⟩
      simp only [Int32.le_iff_toInt_le, Int32.lt_iff_toInt_lt, Int32.reduceToInt] at *
      simp only [b2i]
      split <;> first | rfl | (exfalso; omega)
    · refine wp_iconst (v := 1) dX2_isLetter_12 rfl ?_
      refine wp_goto (tgt := 17) dX2_isLetter_13 (by decide) ?_
      refine wp_ireturn dX2_isLetter_17 rfl rfl (Nat.zero_le _) (Nat.zero_le _) ?_
      refine ⟨?_, rfl, rfl⟩
      simp only [Int32.le_iff_toInt_le, Int32.lt_iff_toInt_lt, Int32.reduceToInt] at *
      simp only [b2i]
      split <;> first | rfl | (exfalso; omega)
set_option maxRecDepth 100000 in
set_option maxHeartbeats 4000000 in
theorem cX9_thrown_ (E : GE) (M : Mem) : Sp E mX9_thrown 0 0 0 [.ref 121] SH M (RV (some (.int (fI M 121 0))) SH M) := by
  refine sp_of vX9_thrown.1 rfl (Nat.le_of_ble_eq_true rfl) ?_
  refine wp_aload_n dX9_thrown_0 rfl ?_
  refine wp_getI dX9_thrown_1 fl_X9_1 rfl rfl ?_
  refine wp_ireturn dX9_thrown_4 rfl rfl (Nat.zero_le _) (Nat.zero_le _) ?_
  exact ⟨rfl, rfl, rfl⟩
set_option maxRecDepth 100000 in
set_option maxHeartbeats 4000000 in
theorem cX9_fails_ (E : GE) (M : Mem) : Sp E mX9_fails 0 0 0 [.ref 121] SH M (RV (some (.int 0)) SH (sI M 121 24 1)) := by
  refine sp_of vX9_fails.1 rfl (Nat.le_of_ble_eq_true rfl) ?_
  refine wp_aload_n dX9_fails_0 rfl ?_
  refine wp_iconst (v := 1) dX9_fails_1 rfl ?_
  refine wp_putI dX9_fails_2 fl_X9_127 rfl rfl (fun _ _ _ h => by cases h; rfl) rfl rfl ?_
  refine wp_iconst (v := 0) dX9_fails_5 rfl ?_
  refine wp_ireturn dX9_fails_6 rfl rfl (Nat.zero_le _) (Nat.zero_le _) ?_
  exact ⟨rfl, rfl, rfl⟩
