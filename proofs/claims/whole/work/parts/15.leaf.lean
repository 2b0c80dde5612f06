/-! ===== the class: leaves ===== -/
theorem vin {i N : Int32} {n : Nat} (hn : N.toInt = (n : Int)) (h0 : ¬ i < 0) (h1 : ¬ N ≤ i) : vp_in i n := by
  rw [vp_in_iff]
  rw [Int32.lt_iff_toInt_lt] at h0
  rw [Int32.le_iff_toInt_le] at h1
  have : (0 : Int32).toInt = 0 := by decide
  omega
theorem nar_b2i (p : Prop) [Decidable p] : narrow .boolean (.int (b2i p)) = .int (b2i p) := by
  unfold b2i
  split <;> decide
def isC (p : Nat) : Prop := SH[p]? = some (.inl 0) ∧ SH[p + 1]? = some (.inr (2, 5))
theorem isC_tree {T k : Nat} (hT : T = 4 ∨ T = 57) (hk : k < 25) : isC (T + 2 + 2 * k) := by
  rcases hT with rfl | rfl
  · exact (show ∀ k, k < 25 → SH[4 + 2 + 2 * k]? = some (.inl 0) ∧ SH[4 + 2 + 2 * k + 1]? = some (.inr (2, 5)) by decide +kernel) k hk
  · exact (show ∀ k, k < 25 → SH[57 + 2 + 2 * k]? = some (.inl 0) ∧ SH[57 + 2 + 2 * k + 1]? = some (.inr (2, 5)) by decide +kernel) k hk
theorem isO_C {p : Nat} (h : isC p) : isO SH p RX0 := ⟨0, (RX0, TX0, 8), h.1, rfl, rfl⟩
theorem sh_T {T : Nat} (hT : T = 4 ∨ T = 57) : SH[T]? = some (.inl 6) ∧ SH[T + 1]? = some (.inr (4, 25)) := by
  rcases hT with rfl | rfl <;> exact ⟨rfl, rfl⟩
theorem isO_T {T : Nat} (h : T = 4 ∨ T = 57) : isO SH T RX7 := ⟨6, (RX7, TX7, 2), (sh_T h).1, rfl, rfl⟩
set_option maxRecDepth 100000 in
set_option maxHeartbeats 4000000 in
theorem cX2_isSign_ (E : GE) (b : Int32) (sh : List Sh) (M : Mem) : Sp E mX2_isSign 1 0 0 [.int b] sh M (RV (some (.int (b2i ((97 ≤ b ∧ b ≤ 122) ∨ b = 63 ∨ b = 42)))) sh M) := by
  refine sp_of sX2_isSign.1 rfl (Nat.le_of_ble_eq_true rfl) ?_
  refine wp_iload_n dX2_isSign_0 rfl ?_
  refine wp_cS1i dX2_isSign_1 ml_X2_9 sX2_isLetter (cX2_isLetter_ E _ _ _) (Nat.le_of_ble_eq_true rfl) (Nat.le_of_ble_eq_true rfl) (Nat.le_of_ble_eq_true rfl) ?_
  refine wp_if_ne (tgt := 19) dX2_isSign_4 (by decide) (fun c4 => ?_) (fun c4 => ?_)
  · refine wp_iconst (v := 1) dX2_isSign_19 rfl ?_
    refine wp_goto (tgt := 24) dX2_isSign_20 (by decide) ?_
    refine wp_ireturn dX2_isSign_24 rfl rfl (Nat.zero_le _) (Nat.zero_le _) ?_
    refine ⟨?_, rfl, rfl⟩
    by_cases hq : 97 ≤ b ∧ b ≤ 122 <;> simp_all [b2i]
  · refine wp_iload_n dX2_isSign_7 rfl ?_
    refine wp_bipush (v := 63) dX2_isSign_8 (by decide) ?_
    refine wp_icmp_eq (tgt := 19) dX2_isSign_10 (by decide) (fun c10 => ?_) (fun c10 => ?_)
    · refine wp_iconst (v := 1) dX2_isSign_19 rfl ?_
      refine wp_goto (tgt := 24) dX2_isSign_20 (by decide) ?_
      refine wp_ireturn dX2_isSign_24 rfl rfl (Nat.zero_le _) (Nat.zero_le _) ?_
      refine ⟨?_, rfl, rfl⟩
      by_cases hq : 97 ≤ b ∧ b ≤ 122 <;> simp_all [b2i]
    · refine wp_iload_n dX2_isSign_13 rfl ?_
      refine wp_bipush (v := 42) dX2_isSign_14 (by decide) ?_
      refine wp_icmp_ne (tgt := 23) dX2_isSign_16 (by decide) (fun c16 => ?_) (fun c16 => ?_)
      · refine wp_iconst (v := 0) dX2_isSign_23 rfl ?_
        refine wp_ireturn dX2_isSign_24 rfl rfl (Nat.zero_le _) (Nat.zero_le _) ?_
        refine ⟨?_, rfl, rfl⟩
        by_cases hq : 97 ≤ b ∧ b ≤ 122 <;> simp_all [b2i]
      · refine wp_iconst (v := 1) dX2_isSign_19 rfl ?_
        refine wp_goto (tgt := 24) dX2_isSign_20 (by decide) ?_
        refine wp_ireturn dX2_isSign_24 rfl rfl (Nat.zero_le _) (Nat.zero_le _) ?_
        refine ⟨?_, rfl, rfl⟩
        by_cases hq : 97 ≤ b ∧ b ≤ 122 <;> simp_all [b2i]
def sgnAt (w : Int64) (p : Int32) : Int32 := if ¬ p < 0 ∧ ¬ 8 ≤ p then (w.toUInt64 >>> ((56 - 8 * p).toInt64.toUInt64 &&& Int64.toUInt64 63)).toInt64.toInt32 &&& 255 else 0
set_option maxRecDepth 100000 in
set_option maxHeartbeats 4000000 in
theorem cX2_signAt_ (E : GE) (w : Int64) (p : Int32) (sh : List Sh) (M : Mem) : Sp E mX2_signAt 0 0 0 [.long w, .int p] sh M (RV (some (.int (sgnAt w p))) sh M) := by
  refine sp_of sX2_signAt.1 rfl (Nat.le_of_ble_eq_true rfl) ?_
  refine wp_iload_n dX2_signAt_0 rfl ?_
  refine wp_if_lt (tgt := 27) dX2_signAt_1 (by decide) (fun c1 => ?_) (fun c1 => ?_)
  · refine wp_iconst (v := 0) dX2_signAt_27 rfl ?_
    refine wp_ireturn dX2_signAt_28 rfl rfl (Nat.zero_le _) (Nat.zero_le _) ?_
    refine ⟨?_, rfl, rfl⟩
    simp [sgnAt, *]
  · refine wp_iload_n dX2_signAt_4 rfl ?_
    refine wp_bipush (v := 8) dX2_signAt_5 (by decide) ?_
    refine wp_icmp_ge (tgt := 27) dX2_signAt_7 (by decide) (fun c7 => ?_) (fun c7 => ?_)
    · refine wp_iconst (v := 0) dX2_signAt_27 rfl ?_
      refine wp_ireturn dX2_signAt_28 rfl rfl (Nat.zero_le _) (Nat.zero_le _) ?_
      refine ⟨?_, rfl, rfl⟩
      simp [sgnAt, *]
    · refine wp_lload_n dX2_signAt_10 rfl ?_
      refine wp_bipush (v := 56) dX2_signAt_11 (by decide) ?_
      refine wp_bipush (v := 8) dX2_signAt_13 (by decide) ?_
      refine wp_iload_n dX2_signAt_15 rfl ?_
      refine wp_imul dX2_signAt_16 ?_
      refine wp_isub dX2_signAt_17 ?_
      refine wp_lushr dX2_signAt_18 ?_
      refine wp_l2i dX2_signAt_19 ?_
      refine wp_sipush (v := 255) dX2_signAt_20 (by decide) ?_
      refine wp_iand dX2_signAt_23 ?_
      refine wp_goto (tgt := 28) dX2_signAt_24 (by decide) ?_
      refine wp_ireturn dX2_signAt_28 rfl rfl (Nat.zero_le _) (Nat.zero_le _) ?_
      refine ⟨?_, rfl, rfl⟩
      simp [sgnAt, *]
set_option maxRecDepth 100000 in
set_option maxHeartbeats 4000000 in
theorem cX0_wordAt_ (E : GE) (p : Nat) (j : Int32) (M : Mem) (hp : isC p) (hr : fR M p 7 = some (p + 1)) : Sp E mX0_wordAt 0 0 0 [.ref p, .int j] SH M (RV (some (.long (if ¬ j < 0 ∧ ¬ 5 ≤ j then aL M (p + 1) j.toNatClampNeg else 0))) SH M) := by
  refine sp_of vX0_wordAt.1 rfl (Nat.le_of_ble_eq_true rfl) ?_
  refine wp_iload_n dX0_wordAt_0 rfl ?_
  refine wp_if_lt (tgt := 18) dX0_wordAt_1 (by decide) (fun c1 => ?_) (fun c1 => ?_)
  · refine wp_lconst (v := 0) dX0_wordAt_18 rfl ?_
    refine wp_lreturn dX0_wordAt_19 rfl (Nat.zero_le _) (Nat.zero_le _) ?_
    refine ⟨?_, rfl, rfl⟩
    simp [*]
  · refine wp_iload_n dX0_wordAt_4 rfl ?_
    refine wp_iconst (v := 5) dX0_wordAt_5 rfl ?_
    refine wp_icmp_ge (tgt := 18) dX0_wordAt_6 (by decide) (fun c6 => ?_) (fun c6 => ?_)
    · refine wp_lconst (v := 0) dX0_wordAt_18 rfl ?_
      refine wp_lreturn dX0_wordAt_19 rfl (Nat.zero_le _) (Nat.zero_le _) ?_
      refine ⟨?_, rfl, rfl⟩
      simp [*]
    · refine wp_aload_n dX0_wordAt_9 rfl ?_
      refine wp_getR dX0_wordAt_10 fl_X0_33 hp.1 rfl hr ?_
      refine wp_iload_n dX0_wordAt_13 rfl ?_
      refine wp_laload dX0_wordAt_14 hp.2 (vin (by decide) c1 c6) ?_
      refine wp_goto (tgt := 19) dX0_wordAt_15 (by decide) ?_
      refine wp_lreturn dX0_wordAt_19 rfl (Nat.zero_le _) (Nat.zero_le _) ?_
      refine ⟨?_, rfl, rfl⟩
      simp [*]
set_option maxRecDepth 100000 in
set_option maxHeartbeats 4000000 in
theorem cX7_isEmpty_ (E : GE) (T : Nat) (M : Mem) (hT : T = 4 ∨ T = 57) : Sp E mX7_isEmpty 0 0 0 [.ref T] SH M (RV (some (.int (b2i (fI M T 1 = 0)))) SH M) := by
  refine sp_of vX7_isEmpty.1 rfl (Nat.le_of_ble_eq_true rfl) ?_
  refine wp_aload_n dX7_isEmpty_0 rfl ?_
  refine wp_getI dX7_isEmpty_1 fl_X7_17 (sh_T hT).1 rfl ?_
  refine wp_if_ne (tgt := 11) dX7_isEmpty_4 (by decide) (fun c4 => ?_) (fun c4 => ?_)
  · refine wp_iconst (v := 0) dX7_isEmpty_11 rfl ?_
    refine wp_ireturn dX7_isEmpty_12 rfl rfl (Nat.zero_le _) (Nat.zero_le _) ?_
    refine ⟨?_, rfl, rfl⟩
    simp [b2i, *]
  · refine wp_iconst (v := 1) dX7_isEmpty_7 rfl ?_
    refine wp_goto (tgt := 12) dX7_isEmpty_8 (by decide) ?_
    refine wp_ireturn dX7_isEmpty_12 rfl rfl (Nat.zero_le _) (Nat.zero_le _) ?_
    refine ⟨?_, rfl, rfl⟩
    simp [b2i, *]
set_option maxRecDepth 100000 in
set_option maxHeartbeats 4000000 in
theorem cX7_has_ (E : GE) (T : Nat) (k : Int32) (M : Mem) (hT : T = 4 ∨ T = 57) : Sp E mX7_has 0 0 0 [.ref T, .int k] SH M (RV (some (.int (b2i (¬ k < 0 ∧ ¬ fI M T 1 ≤ k)))) SH M) := by
  refine sp_of vX7_has.1 rfl (Nat.le_of_ble_eq_true rfl) ?_
  refine wp_iload_n dX7_has_0 rfl ?_
  refine wp_if_lt (tgt := 16) dX7_has_1 (by decide) (fun c1 => ?_) (fun c1 => ?_)
  · refine wp_iconst (v := 0) dX7_has_16 rfl ?_
    refine wp_ireturn dX7_has_17 rfl rfl (Nat.zero_le _) (Nat.zero_le _) ?_
    refine ⟨?_, rfl, rfl⟩
    simp [b2i, *]
  · refine wp_iload_n dX7_has_4 rfl ?_
    refine wp_aload_n dX7_has_5 rfl ?_
    refine wp_getI dX7_has_6 fl_X7_17 (sh_T hT).1 rfl ?_
    refine wp_icmp_ge (tgt := 16) dX7_has_9 (by decide) (fun c9 => ?_) (fun c9 => ?_)
    · refine wp_iconst (v := 0) dX7_has_16 rfl ?_
      refine wp_ireturn dX7_has_17 rfl rfl (Nat.zero_le _) (Nat.zero_le _) ?_
      refine ⟨?_, rfl, rfl⟩
      simp [b2i, *]
    · refine wp_iconst (v := 1) dX7_has_12 rfl ?_
      refine wp_goto (tgt := 17) dX7_has_13 (by decide) ?_
      refine wp_ireturn dX7_has_17 rfl rfl (Nat.zero_le _) (Nat.zero_le _) ?_
      refine ⟨?_, rfl, rfl⟩
      simp [b2i, *]
/-- which clause 'at' gives -/
def atK (k : Int32) : Nat := if ¬ k < 0 ∧ ¬ 25 ≤ k then k.toNatClampNeg else 0
theorem atK_nI {k : Nat} (h : k < 25) : atK (nI k) = k := by
  unfold atK
  rw [if_pos ⟨nI_pos (by omega), fun h2 => by have := (nI_leI (a := 25) (by decide) (by omega)).mp h2; omega⟩]
  exact nI_clamp (by omega)
theorem atK_lt (k : Int32) : atK k < 25 := by
  unfold atK
  split
  · next h =>
    have h2 := vin (n := 25) (by decide) h.1 h.2
    obtain ⟨j, hj, rfl⟩ := vp_in_of h2 (by decide)
    rw [nI_clamp (by omega)]; exact hj
  · decide
def rcTr (M : Mem) (T : Nat) : Prop := fR M T 0 = some (T + 1) ∧ (∀ k, k < 25 → aR M (T + 1) k = some (T + 2 + 2 * k)) ∧ ∀ k, k < 25 → fR M (T + 2 + 2 * k) 7 = some (T + 2 + 2 * k + 1)
set_option maxRecDepth 100000 in
set_option maxHeartbeats 4000000 in
theorem cX7_at_ (E : GE) (T : Nat) (k : Int32) (M : Mem) (hT : T = 4 ∨ T = 57) (hr : rcTr M T) : Sp E mX7_at 0 0 0 [.ref T, .int k] SH M (RV (some (.ref (T + 2 + 2 * atK k))) SH M) := by
  refine sp_of vX7_at.1 rfl (Nat.le_of_ble_eq_true rfl) ?_
  refine wp_iload_n dX7_at_0 rfl ?_
  refine wp_if_lt (tgt := 22) dX7_at_1 (by decide) (fun c1 => ?_) (fun c1 => ?_)
  · refine wp_aload_n dX7_at_22 rfl ?_
    refine wp_getR dX7_at_23 fl_X7_11 (sh_T hT).1 rfl hr.1 ?_
    refine wp_iconst (v := 0) dX7_at_26 rfl ?_
    refine wp_aaload dX7_at_27 (sh_T hT).2 (vp_in_nI (n := 0) (N := 25) (by decide) (by decide)) (hr.2.1 0 (by decide)) ?_
    refine wp_areturn dX7_at_28 rfl (Nat.zero_le _) (Nat.zero_le _) ?_
    refine ⟨?_, rfl, rfl⟩
    congr 2
    unfold atK
    first | (rw [if_pos ⟨c1, c10⟩]; done) | (rw [if_neg (fun h => h.1 c1)]; done) | (rw [if_neg (fun h => h.2 c10)])
  · refine wp_iload_n dX7_at_4 rfl ?_
    refine wp_aload_n dX7_at_5 rfl ?_
    refine wp_getR dX7_at_6 fl_X7_11 (sh_T hT).1 rfl hr.1 ?_
    refine wp_alen dX7_at_9 (sh_T hT).2 (Nat.le_of_ble_eq_true rfl) ?_
    refine wp_icmp_ge (tgt := 22) dX7_at_10 (by decide) (fun c10 => ?_) (fun c10 => ?_)
    · refine wp_aload_n dX7_at_22 rfl ?_
      refine wp_getR dX7_at_23 fl_X7_11 (sh_T hT).1 rfl hr.1 ?_
      refine wp_iconst (v := 0) dX7_at_26 rfl ?_
      refine wp_aaload dX7_at_27 (sh_T hT).2 (vp_in_nI (n := 0) (N := 25) (by decide) (by decide)) (hr.2.1 0 (by decide)) ?_
      refine wp_areturn dX7_at_28 rfl (Nat.zero_le _) (Nat.zero_le _) ?_
      refine ⟨?_, rfl, rfl⟩
      congr 2
      unfold atK
      first | (rw [if_pos ⟨c1, c10⟩]; done) | (rw [if_neg (fun h => h.1 c1)]; done) | (rw [if_neg (fun h => h.2 c10)])
    · refine wp_aload_n dX7_at_13 rfl ?_
      refine wp_getR dX7_at_14 fl_X7_11 (sh_T hT).1 rfl hr.1 ?_
      refine wp_iload_n dX7_at_17 rfl ?_
      refine wp_aaload dX7_at_18 (sh_T hT).2 (vin (N := Nat.toInt32 25) (by decide) c1 c10) (hr.2.1 _ (by have := atK_lt k; unfold atK at this; rw [if_pos ⟨c1, c10⟩] at this; exact this)) ?_
      refine wp_goto (tgt := 28) dX7_at_19 (by decide) ?_
      refine wp_areturn dX7_at_28 rfl (Nat.zero_le _) (Nat.zero_le _) ?_
      refine ⟨?_, rfl, rfl⟩
      congr 2
      unfold atK
      first | (rw [if_pos ⟨c1, c10⟩]; done) | (rw [if_neg (fun h => h.1 c1)]; done) | (rw [if_neg (fun h => h.2 c10)])
set_option maxRecDepth 100000 in
set_option maxHeartbeats 4000000 in
theorem cX7_hasRoom_ (E : GE) (T : Nat) (k : Int32) (M : Mem) (hT : T = 4 ∨ T = 57) (hr : rcTr M T) : Sp E mX7_hasRoom 0 0 0 [.ref T, .int k] SH M (RV (some (.int (b2i (¬ 25 < fI M T 1 + k)))) SH M) := by
  refine sp_of vX7_hasRoom.1 rfl (Nat.le_of_ble_eq_true rfl) ?_
  refine wp_aload_n dX7_hasRoom_0 rfl ?_
  refine wp_getI dX7_hasRoom_1 fl_X7_17 (sh_T hT).1 rfl ?_
  refine wp_iload_n dX7_hasRoom_4 rfl ?_
  refine wp_iadd dX7_hasRoom_5 ?_
  refine wp_aload_n dX7_hasRoom_6 rfl ?_
  refine wp_getR dX7_hasRoom_7 fl_X7_11 (sh_T hT).1 rfl hr.1 ?_
  refine wp_alen dX7_hasRoom_10 (sh_T hT).2 (Nat.le_of_ble_eq_true rfl) ?_
  refine wp_icmp_gt (tgt := 18) dX7_hasRoom_11 (by decide) (fun c11 => ?_) (fun c11 => ?_)
  · refine wp_iconst (v := 0) dX7_hasRoom_18 rfl ?_
    refine wp_ireturn dX7_hasRoom_19 rfl rfl (Nat.zero_le _) (Nat.zero_le _) ?_
    refine ⟨?_, rfl, rfl⟩
    have e : (Nat.toInt32 25) = 25 := by decide
    rw [e] at c11
    simp [b2i, c11]
  · refine wp_iconst (v := 1) dX7_hasRoom_14 rfl ?_
    refine wp_goto (tgt := 19) dX7_hasRoom_15 (by decide) ?_
    refine wp_ireturn dX7_hasRoom_19 rfl rfl (Nat.zero_le _) (Nat.zero_le _) ?_
    refine ⟨?_, rfl, rfl⟩
    have e : (Nat.toInt32 25) = 25 := by decide
    rw [e] at c11
    simp [b2i, c11]
set_option maxRecDepth 100000 in
set_option maxHeartbeats 4000000 in
theorem cX8_isDocument_ (E : GE) (b : Int32) (sh : List Sh) (M : Mem) : Sp E mX8_isDocument 0 0 0 [.int b] sh M (RV (some (.int (b2i (¬ b < 0 ∧ ¬ 8 ≤ b)))) sh M) := by
  refine sp_of sX8_isDocument.1 rfl (Nat.le_of_ble_eq_true rfl) ?_
  refine wp_iload_n dX8_isDocument_0 rfl ?_
  refine wp_if_lt (tgt := 14) dX8_isDocument_1 (by decide) (fun c1 => ?_) (fun c1 => ?_)
  · refine wp_iconst (v := 0) dX8_isDocument_14 rfl ?_
    refine wp_ireturn dX8_isDocument_15 rfl rfl (Nat.zero_le _) (Nat.zero_le _) ?_
    refine ⟨?_, rfl, rfl⟩
    simp [b2i, *]
  · refine wp_iload_n dX8_isDocument_4 rfl ?_
    refine wp_bipush (v := 8) dX8_isDocument_5 (by decide) ?_
    refine wp_icmp_ge (tgt := 14) dX8_isDocument_7 (by decide) (fun c7 => ?_) (fun c7 => ?_)
    · refine wp_iconst (v := 0) dX8_isDocument_14 rfl ?_
      refine wp_ireturn dX8_isDocument_15 rfl rfl (Nat.zero_le _) (Nat.zero_le _) ?_
      refine ⟨?_, rfl, rfl⟩
      simp [b2i, *]
    · refine wp_iconst (v := 1) dX8_isDocument_10 rfl ?_
      refine wp_goto (tgt := 15) dX8_isDocument_11 (by decide) ?_
      refine wp_ireturn dX8_isDocument_15 rfl rfl (Nat.zero_le _) (Nat.zero_le _) ?_
      refine ⟨?_, rfl, rfl⟩
      simp [b2i, *]
set_option maxRecDepth 100000 in
set_option maxHeartbeats 4000000 in
theorem cX5_isWritten_ (E : GE) (M : Mem) : Sp E mX5_isWritten 0 0 0 [.ref 111] SH M (RV (some (.int (b2i (¬ fI M 111 1 = -1)))) SH M) := by
  refine sp_of vX5_isWritten.1 rfl (Nat.le_of_ble_eq_true rfl) ?_
  refine wp_aload_n dX5_isWritten_0 rfl ?_
  refine wp_getI dX5_isWritten_1 fl_X5_15 rfl rfl ?_
  refine wp_iconst (v := (-1)) dX5_isWritten_4 rfl ?_
  refine wp_icmp_eq (tgt := 12) dX5_isWritten_5 (by decide) (fun c5 => ?_) (fun c5 => ?_)
  · refine wp_iconst (v := 0) dX5_isWritten_12 rfl ?_
    refine wp_ireturn dX5_isWritten_13 rfl rfl (Nat.zero_le _) (Nat.zero_le _) ?_
    refine ⟨?_, rfl, rfl⟩
    simp [b2i, *]
  · refine wp_iconst (v := 1) dX5_isWritten_8 rfl ?_
    refine wp_goto (tgt := 13) dX5_isWritten_9 (by decide) ?_
    refine wp_ireturn dX5_isWritten_13 rfl rfl (Nat.zero_le _) (Nat.zero_le _) ?_
    refine ⟨?_, rfl, rfl⟩
    simp [b2i, *]
set_option maxRecDepth 100000 in
set_option maxHeartbeats 4000000 in
theorem cX5_byteAt_ (E : GE) (i : Int32) (M : Mem) (hr : fR M 111 0 = some 112) : Sp E mX5_byteAt 0 0 0 [.ref 111, .int i] SH M (RV (some (.int (if (¬ i < 0 ∧ ¬ fI M 111 1 ≤ i) ∧ ¬ 240 ≤ i then aI M 112 i.toNatClampNeg &&& 255 else -1))) SH M) := by
  refine sp_of vX5_byteAt.1 rfl (Nat.le_of_ble_eq_true rfl) ?_
  refine wp_iload_n dX5_byteAt_0 rfl ?_
  refine wp_if_lt (tgt := 34) dX5_byteAt_1 (by decide) (fun c1 => ?_) (fun c1 => ?_)
  · refine wp_iconst (v := (-1)) dX5_byteAt_34 rfl ?_
    refine wp_ireturn dX5_byteAt_35 rfl rfl (Nat.zero_le _) (Nat.zero_le _) ?_
    refine ⟨?_, rfl, rfl⟩
    try (have e : (Nat.toInt32 240) = 240 := by decide
         rw [e] at c18)
    simp [*]
  · refine wp_iload_n dX5_byteAt_4 rfl ?_
    refine wp_aload_n dX5_byteAt_5 rfl ?_
    refine wp_getI dX5_byteAt_6 fl_X5_15 rfl rfl ?_
    refine wp_icmp_ge (tgt := 34) dX5_byteAt_9 (by decide) (fun c9 => ?_) (fun c9 => ?_)
    · refine wp_iconst (v := (-1)) dX5_byteAt_34 rfl ?_
      refine wp_ireturn dX5_byteAt_35 rfl rfl (Nat.zero_le _) (Nat.zero_le _) ?_
      refine ⟨?_, rfl, rfl⟩
      try (have e : (Nat.toInt32 240) = 240 := by decide
           rw [e] at c18)
      simp [*]
    · refine wp_iload_n dX5_byteAt_12 rfl ?_
      refine wp_aload_n dX5_byteAt_13 rfl ?_
      refine wp_getR dX5_byteAt_14 fl_X5_9 rfl rfl hr ?_
      refine wp_alen dX5_byteAt_17 rfl (Nat.le_of_ble_eq_true rfl) ?_
      refine wp_icmp_ge (tgt := 34) dX5_byteAt_18 (by decide) (fun c18 => ?_) (fun c18 => ?_)
      · refine wp_iconst (v := (-1)) dX5_byteAt_34 rfl ?_
        refine wp_ireturn dX5_byteAt_35 rfl rfl (Nat.zero_le _) (Nat.zero_le _) ?_
        refine ⟨?_, rfl, rfl⟩
        try (have e : (Nat.toInt32 240) = 240 := by decide
             rw [e] at c18)
        simp [*]
      · refine wp_aload_n dX5_byteAt_21 rfl ?_
        refine wp_getR dX5_byteAt_22 fl_X5_9 rfl rfl hr ?_
        refine wp_iload_n dX5_byteAt_25 rfl ?_
        refine wp_baload dX5_byteAt_26 rfl (vin (N := Nat.toInt32 240) (by decide) c1 c18) ?_
        refine wp_sipush (v := 255) dX5_byteAt_27 (by decide) ?_
        refine wp_iand dX5_byteAt_30 ?_
        refine wp_goto (tgt := 35) dX5_byteAt_31 (by decide) ?_
        refine wp_ireturn dX5_byteAt_35 rfl rfl (Nat.zero_le _) (Nat.zero_le _) ?_
        refine ⟨?_, rfl, rfl⟩
        try (have e : (Nat.toInt32 240) = 240 := by decide
             rw [e] at c18)
        simp [*]
set_option maxRecDepth 100000 in
set_option maxHeartbeats 4000000 in
theorem cX5_put_ (E : GE) (b : Int32) (M : Mem) (hr : fR M 111 0 = some 112) : Sp E mX5_put 0 0 0 [.ref 111, .int b] SH M (RV none SH (if ¬ fI M 111 1 < 0 ∧ ¬ 240 ≤ fI M 111 1 then sI (sA M 112 (fI M 111 1).toNatClampNeg b.toInt8.toInt32) 111 1 (fI M 111 1 + 1) else M)) := by
  refine sp_of vX5_put.1 rfl (Nat.le_of_ble_eq_true rfl) ?_
  refine wp_aload_n dX5_put_0 rfl ?_
  refine wp_getI dX5_put_1 fl_X5_15 rfl rfl ?_
  refine wp_if_lt (tgt := 40) dX5_put_4 (by decide) (fun c4 => ?_) (fun c4 => ?_)
  · refine wp_ret0 dX5_put_40 rfl (Nat.le_refl _) (Nat.le_refl _) ?_
    refine ⟨rfl, rfl, ?_⟩
    try (have e : (Nat.toInt32 240) = 240 := by decide
         rw [e] at c16)
    simp [*, vp_nar_byte, pk_vb, fI_sA]
  · refine wp_aload_n dX5_put_7 rfl ?_
    refine wp_getI dX5_put_8 fl_X5_15 rfl rfl ?_
    refine wp_aload_n dX5_put_11 rfl ?_
    refine wp_getR dX5_put_12 fl_X5_9 rfl rfl hr ?_
    refine wp_alen dX5_put_15 rfl (Nat.le_of_ble_eq_true rfl) ?_
    refine wp_icmp_ge (tgt := 40) dX5_put_16 (by decide) (fun c16 => ?_) (fun c16 => ?_)
    · refine wp_ret0 dX5_put_40 rfl (Nat.le_refl _) (Nat.le_refl _) ?_
      refine ⟨rfl, rfl, ?_⟩
      try (have e : (Nat.toInt32 240) = 240 := by decide
           rw [e] at c16)
      simp [*, vp_nar_byte, pk_vb, fI_sA]
    · refine wp_aload_n dX5_put_19 rfl ?_
      refine wp_getR dX5_put_20 fl_X5_9 rfl rfl hr ?_
      refine wp_aload_n dX5_put_23 rfl ?_
      refine wp_getI dX5_put_24 fl_X5_15 rfl rfl ?_
      refine wp_iload_n dX5_put_27 rfl ?_
      refine wp_i2b dX5_put_28 ?_
      refine wp_bastore dX5_put_29 rfl (vin (N := Nat.toInt32 240) (by decide) c4 c16) ?_
      refine wp_aload_n dX5_put_30 rfl ?_
      refine wp_dup dX5_put_31 rfl ?_
      refine wp_getI dX5_put_32 fl_X5_15 rfl rfl ?_
      refine wp_iconst (v := 1) dX5_put_35 rfl ?_
      refine wp_iadd dX5_put_36 ?_
      refine wp_putI dX5_put_37 fl_X5_15 rfl rfl (fun _ _ _ h => by cases h; rfl) rfl rfl ?_
      refine wp_ret0 dX5_put_40 rfl (Nat.le_refl _) (Nat.le_refl _) ?_
      refine ⟨rfl, rfl, ?_⟩
      try (have e : (Nat.toInt32 240) = 240 := by decide
           rw [e] at c16)
      simp [*, vp_nar_byte, pk_vb, fI_sA]
set_option maxRecDepth 100000 in
set_option maxHeartbeats 4000000 in
theorem cJ9_max_ (E : GE) (x y : Int64) (sh : List Sh) (M : Mem) : Sp E mJ9_max_f86c9 0 0 0 [.long x, .long y] sh M (RV (some (.long (if x < y then y else x))) sh M) := by
  refine sp_of sJ9_max_f86c9.1 rfl (Nat.le_of_ble_eq_true rfl) ?_
  refine wp_lload_n dJ9_max_f86c9_0 rfl ?_
  refine wp_lload_n dJ9_max_f86c9_1 rfl ?_
  refine wp_lcmp dJ9_max_f86c9_2 ?_
  refine wp_if_lt (tgt := 10) dJ9_max_f86c9_3 (by decide) (fun c3 => ?_) (fun c3 => ?_)
  · refine wp_lload_n dJ9_max_f86c9_10 rfl ?_
    refine wp_lreturn dJ9_max_f86c9_11 rfl (Nat.zero_le _) (Nat.zero_le _) ?_
    refine ⟨?_, rfl, rfl⟩
    rw [lg_lt] at c3
    simp [c3]
  · refine wp_lload_n dJ9_max_f86c9_6 rfl ?_
    refine wp_goto (tgt := 11) dJ9_max_f86c9_7 (by decide) ?_
    refine wp_lreturn dJ9_max_f86c9_11 rfl (Nat.zero_le _) (Nat.zero_le _) ?_
    refine ⟨?_, rfl, rfl⟩
    rw [lg_lt] at c3
    simp [c3]
set_option maxRecDepth 100000 in
set_option maxHeartbeats 4000000 in
theorem cJ9_min_ (E : GE) (x y : Int32) (sh : List Sh) (M : Mem) : Sp E mJ9_min_7cf53 0 0 0 [.int x, .int y] sh M (RV (some (.int (if y < x then y else x))) sh M) := by
  refine sp_of sJ9_min_7cf53.1 rfl (Nat.le_of_ble_eq_true rfl) ?_
  refine wp_iload_n dJ9_min_7cf53_0 rfl ?_
  refine wp_iload_n dJ9_min_7cf53_1 rfl ?_
  refine wp_icmp_gt (tgt := 9) dJ9_min_7cf53_2 (by decide) (fun c2 => ?_) (fun c2 => ?_)
  · refine wp_iload_n dJ9_min_7cf53_9 rfl ?_
    refine wp_ireturn dJ9_min_7cf53_10 rfl rfl (Nat.zero_le _) (Nat.zero_le _) ?_
    refine ⟨?_, rfl, rfl⟩
    simp [c2]
  · refine wp_iload_n dJ9_min_7cf53_5 rfl ?_
    refine wp_goto (tgt := 10) dJ9_min_7cf53_6 (by decide) ?_
    refine wp_ireturn dJ9_min_7cf53_10 rfl rfl (Nat.zero_le _) (Nat.zero_le _) ?_
    refine ⟨?_, rfl, rfl⟩
    simp [c2]
theorem nn_msb (x : Int64) : 0 ≤ x ↔ x.toBitVec.msb = false := by
  rw [Int64.le_iff_toInt_le, BitVec.msb_eq_toInt]
  have : (0 : Int64).toInt = 0 := by decide
  rw [this]
  show 0 ≤ x.toBitVec.toInt ↔ _
  simp
theorem xor_nn {x y : Int64} (h0 : 0 ≤ x) (h1 : 0 < y) : 0 ≤ x ^^^ y := by
  rw [nn_msb, Int64.toBitVec_xor, BitVec.msb_xor, (nn_msb x).mp h0, (nn_msb y).mp (Int64.le_of_lt h1)]
  rfl
set_option maxRecDepth 100000 in
set_option maxHeartbeats 4000000 in
theorem cJ9_floorDiv_ (E : GE) (x y : Int64) (h0 : 0 ≤ x) (h1 : 0 < y) (sh : List Sh) (M : Mem) : Sp E mJ9_floorDiv_f86c9 0 0 0 [.long x, .long y] sh M (RV (some (.long (x / y))) sh M) := by
  refine sp_of sJ9_floorDiv_f86c9.1 rfl (Nat.le_of_ble_eq_true rfl) ?_
  refine wp_lload_n dJ9_floorDiv_f86c9_0 rfl ?_
  refine wp_lload_n dJ9_floorDiv_f86c9_1 rfl ?_
  refine wp_ldiv dJ9_floorDiv_f86c9_2 (fun e => by rw [e] at h1; exact absurd h1 (by decide)) ?_
  refine wp_lstore dJ9_floorDiv_f86c9_3 (Nat.le_of_ble_eq_true rfl) ?_
  refine wp_lload_n dJ9_floorDiv_f86c9_5 rfl ?_
  refine wp_lload_n dJ9_floorDiv_f86c9_6 rfl ?_
  refine wp_lxor dJ9_floorDiv_f86c9_7 ?_
  refine wp_lconst (v := 0) dJ9_floorDiv_f86c9_8 rfl ?_
  refine wp_lcmp dJ9_floorDiv_f86c9_9 ?_
  refine wp_if_ge (tgt := 27) dJ9_floorDiv_f86c9_10 (by decide) (fun c10 => ?_) (fun c10 => absurd (by rw [lg_ge]; exact xor_nn h0 h1) c10)
  refine wp_lload dJ9_floorDiv_f86c9_27 rfl ?_
  refine wp_lreturn dJ9_floorDiv_f86c9_29 rfl (Nat.zero_le _) (Nat.zero_le _) ?_
  exact ⟨rfl, rfl, rfl⟩
set_option maxRecDepth 100000 in
set_option maxHeartbeats 4000000 in
theorem cX9_here_ (E : GE) (M : Mem) (hG : rmG M) (h0 : vp_in (fI M 121 23) 240 ∨ fI M 121 2 ≤ fI M 121 23) : Sp E mX9_here 0 0 0 [.ref 121] SH M (RV (some (.int (if fI M 121 2 ≤ fI M 121 23 then -1 else aI M 122 (fI M 121 23).toNatClampNeg))) SH M) := by
  refine sp_of vX9_here.1 rfl (Nat.le_of_ble_eq_true rfl) ?_
  refine wp_aload_n dX9_here_0 rfl ?_
  refine wp_getI dX9_here_1 fl_X9_124 rfl rfl ?_
  refine wp_aload_n dX9_here_4 rfl ?_
  refine wp_getI dX9_here_5 fl_X9_121 rfl rfl ?_
  refine wp_icmp_ge (tgt := 23) dX9_here_8 (by decide) (fun c8 => ?_) (fun c8 => ?_)
  · refine wp_iconst (v := (-1)) dX9_here_23 rfl ?_
    refine wp_ireturn dX9_here_24 rfl rfl (Nat.zero_le _) (Nat.zero_le _) ?_
    refine ⟨?_, rfl, rfl⟩
    simp [c8]
  · refine wp_aload_n dX9_here_11 rfl ?_
    refine wp_getR dX9_here_12 fl_X9_13 rfl rfl (hG 1) ?_
    refine wp_aload_n dX9_here_15 rfl ?_
    refine wp_getI dX9_here_16 fl_X9_124 rfl rfl ?_
    refine wp_iaload dX9_here_19 rfl (h0.resolve_right c8) ?_
    refine wp_goto (tgt := 24) dX9_here_20 (by decide) ?_
    refine wp_ireturn dX9_here_24 rfl rfl (Nat.zero_le _) (Nat.zero_le _) ?_
    refine ⟨?_, rfl, rfl⟩
    simp [c8]
set_option maxRecDepth 100000 in
set_option maxHeartbeats 4000000 in
theorem cX9_isNode_ (E : GE) (k : Int32) (M : Mem) : Sp E mX9_isNode 1 0 0 [.ref 121, .int k] SH M (RV (some (.int (b2i (0 ≤ k ∧ k ≤ fI M 121 13 - 1)))) SH M) := by
  refine sp_of vX9_isNode.1 rfl (Nat.le_of_ble_eq_true rfl) ?_
  refine wp_iload_n dX9_isNode_0 rfl ?_
  refine wp_i2l dX9_isNode_1 ?_
  refine wp_lconst (v := 0) dX9_isNode_2 rfl ?_
  refine wp_aload_n dX9_isNode_3 rfl ?_
  refine wp_getI dX9_isNode_4 fl_X9_112 rfl rfl ?_
  refine wp_iconst (v := 1) dX9_isNode_7 rfl ?_
  refine wp_isub dX9_isNode_8 ?_
  refine wp_i2l dX9_isNode_9 ?_
  refine wp_cS3i dX9_isNode_10 ml_X9_117 sX9_in (cX9_in_ E _ _ _ _ _) (Nat.le_of_ble_eq_true rfl) (Nat.le_of_ble_eq_true rfl) (Nat.le_of_ble_eq_true rfl) ?_
  refine wp_ireturn dX9_isNode_13 rfl (nar_b2i _) (Nat.zero_le _) (Nat.zero_le _) ?_
  refine ⟨?_, rfl, rfl⟩
  exact congrArg (fun z => some (Value.int z)) (inI 0 k (fI M 121 13 - 1))
set_option maxRecDepth 100000 in
set_option maxHeartbeats 4000000 in
theorem cX9_isDocument_ (E : GE) (b : Int32) (sh : List Sh) (M : Mem) : Sp E mX9_isDocument 1 0 0 [.int b] sh M (RV (some (.int (b2i (0 ≤ b ∧ b ≤ 7)))) sh M) := by
  refine sp_of sX9_isDocument.1 rfl (Nat.le_of_ble_eq_true rfl) ?_
  refine wp_iload_n dX9_isDocument_0 rfl ?_
  refine wp_i2l dX9_isDocument_1 ?_
  refine wp_lconst (v := 0) dX9_isDocument_2 rfl ?_
  refine wp_ldc2 dX9_isDocument_3 kl_X9_212 ?_
  refine wp_cS3i dX9_isDocument_6 ml_X9_117 sX9_in (cX9_in_ E _ _ _ _ _) (Nat.le_of_ble_eq_true rfl) (Nat.le_of_ble_eq_true rfl) (Nat.le_of_ble_eq_true rfl) ?_
  refine wp_ireturn dX9_isDocument_9 rfl (nar_b2i _) (Nat.zero_le _) (Nat.zero_le _) ?_
  refine ⟨?_, rfl, rfl⟩
  exact congrArg (fun z => some (Value.int z)) (inI 0 b 7)
set_option maxRecDepth 100000 in
set_option maxHeartbeats 4000000 in
theorem cX9_least_ (E : GE) (a b : Int32) (sh : List Sh) (M : Mem) : Sp E mX9_least 0 0 0 [.int a, .int b] sh M (RV (some (.int (if b ≤ a then b else a))) sh M) := by
  refine sp_of sX9_least.1 rfl (Nat.le_of_ble_eq_true rfl) ?_
  refine wp_iload_n dX9_least_0 rfl ?_
  refine wp_iload_n dX9_least_1 rfl ?_
  refine wp_icmp_ge (tgt := 9) dX9_least_2 (by decide) (fun c2 => ?_) (fun c2 => ?_)
  · refine wp_iload_n dX9_least_9 rfl ?_
    refine wp_ireturn dX9_least_10 rfl rfl (Nat.zero_le _) (Nat.zero_le _) ?_
    refine ⟨?_, rfl, rfl⟩
    simp [*]
  · refine wp_iload_n dX9_least_5 rfl ?_
    refine wp_goto (tgt := 10) dX9_least_6 (by decide) ?_
    refine wp_ireturn dX9_least_10 rfl rfl (Nat.zero_le _) (Nat.zero_le _) ?_
    refine ⟨?_, rfl, rfl⟩
    simp [*]
