/-! ===== the class: clauses and trees, exactly ===== -/
def fill0 (M : Mem) (p : Nat) (x : Int64) : Nat → Mem
  | 0 => M
  | n + 1 => sL (fill0 M p x n) p n x
theorem fill0_L (M : Mem) (p : Nat) (x : Int64) (n q i : Nat) : aL (fill0 M p x n) q i = if q = p ∧ i < n then x else aL M q i := by
  induction n with
  | zero => simp [fill0]
  | succ n ih =>
    simp only [fill0, aL_sL, ih]
    by_cases h : q = p <;> by_cases h2 : i = n <;> simp [h, h2] <;> (try omega)
    by_cases h3 : i < n
    · simp [h3, show i < n + 1 by omega]
    · simp [h3, show ¬ i < n + 1 by omega]
theorem fill0_o (M : Mem) (p : Nat) (x : Int64) (n : Nat) : (fill0 M p x n).1 = M.1 ∧ (fill0 M p x n).2.1 = M.2.1 ∧ (fill0 M p x n).2.2.1 = M.2.2.1 ∧ (fill0 M p x n).2.2.2.2 = M.2.2.2.2 := by
  induction n with
  | zero => exact ⟨rfl, rfl, rfl, rfl⟩
  | succ n ih => exact ih
set_option maxRecDepth 100000 in
set_option maxHeartbeats 4000000 in
theorem cJ7_fill_ (E : GE) (p : Nat) (x : Int64) (M : Mem) (hp : SH[p]? = some (.inr (2, 5))) : Sp E mJ7_fill_d0a16 0 0 0 [.ref p, .long x] SH M (RV none SH (fill0 M p x 5)) := by
  refine sp_of sJ7_fill_d0a16.1 rfl (Nat.le_of_ble_eq_true rfl) ?_
  have hlen : (Nat.toInt32 5) = nI 5 := rfl
  have loop : ∀ (r i : Nat), i + r = 5 → Wp (xM E mJ7_fill_d0a16 0 0 0 SH.length (RV none SH (fill0 M p x 5))) 0 0 6 [(4, .int (nI 5)), (3, .int (nI i)), (0, .ref p), (1, .long x)] [] SH (fill0 M p x i) := by
    intro r
    induction r with
    | zero =>
      intro i hi
      have hi : i = 5 := by omega
      subst hi
      refine wp_iload_n dJ7_fill_d0a16_6 rfl ?_
      refine wp_iload dJ7_fill_d0a16_7 rfl ?_
      refine wp_icmp_ge (tgt := 22) dJ7_fill_d0a16_9 (by decide) (fun c9 => ?_) (fun c9 => absurd (by decide) c9)
      refine wp_ret0 dJ7_fill_d0a16_22 rfl (Nat.le_refl _) (Nat.le_refl _) ?_
      exact ⟨rfl, rfl, rfl⟩
    | succ r ih =>
      intro i hi
      refine wp_iload_n dJ7_fill_d0a16_6 rfl ?_
      refine wp_iload dJ7_fill_d0a16_7 rfl ?_
      refine wp_icmp_ge (tgt := 22) dJ7_fill_d0a16_9 (by decide) (fun c9 => absurd c9 (nI_ge (by omega) (by decide))) (fun c9 => ?_)
      refine wp_aload_n dJ7_fill_d0a16_12 rfl ?_
      refine wp_iload_n dJ7_fill_d0a16_13 rfl ?_
      refine wp_lload_n dJ7_fill_d0a16_14 rfl ?_
      refine wp_lastore dJ7_fill_d0a16_15 hp (vp_in_nI (by omega) (by decide)) ?_
      refine wp_iinc dJ7_fill_d0a16_16 rfl (i_inc _) (Nat.le_of_ble_eq_true rfl) ?_
      refine wp_goto (tgt := 6) dJ7_fill_d0a16_19 (by decide) ?_
      have e : sL (fill0 M p x i) p (nI i).toNatClampNeg x = fill0 M p x (i + 1) := by rw [nI_clamp (by omega)]; rfl
      rw [e]
      exact wp_lv (ih (i + 1) (by omega)) (by repeat (first | exact trivial | refine ⟨rfl, ?_⟩))
  refine wp_iconst (v := 0) dJ7_fill_d0a16_0 rfl ?_
  refine wp_istore_n dJ7_fill_d0a16_1 (Nat.le_of_ble_eq_true rfl) ?_
  refine wp_aload_n dJ7_fill_d0a16_2 rfl ?_
  refine wp_alen dJ7_fill_d0a16_3 hp (Nat.le_of_ble_eq_true rfl) ?_
  refine wp_istore dJ7_fill_d0a16_4 (Nat.le_of_ble_eq_true rfl) ?_
  exact lv_rf (loop 5 0 rfl) rfl
def clStart (M : Mem) (p : Nat) (a b : Int32) : Mem := fill0 (sI (sI (sI (sI (sI (sI (sI M p 0 0) p 1 a) p 2 1) p 3 (-1)) p 4 0) p 5 0) p 6 b) (p + 1) 0 5
set_option maxRecDepth 100000 in
set_option maxHeartbeats 4000000 in
theorem cX0_start_ (E : GE) (p : Nat) (a b : Int32) (M : Mem) (hp : isC p) (hr : fR M p 7 = some (p + 1)) : Sp E mX0_start 1 0 0 [.ref p, .int a, .int b] SH M (RV none SH (clStart M p a b)) := by
  refine sp_of vX0_start.1 rfl (Nat.le_of_ble_eq_true rfl) ?_
  refine wp_aload_n dX0_start_0 rfl ?_
  refine wp_iconst (v := 0) dX0_start_1 rfl ?_
  refine wp_putI dX0_start_2 fl_X0_9 hp.1 rfl (fun _ _ _ h => by cases h; rfl) rfl rfl ?_
  refine wp_aload_n dX0_start_5 rfl ?_
  refine wp_iload_n dX0_start_6 rfl ?_
  refine wp_putI dX0_start_7 fl_X0_15 hp.1 rfl (fun _ _ _ h => by cases h; rfl) rfl rfl ?_
  refine wp_aload_n dX0_start_10 rfl ?_
  refine wp_iconst (v := 1) dX0_start_11 rfl ?_
  refine wp_putI dX0_start_12 fl_X0_18 hp.1 rfl (fun _ _ _ h => by cases h; rfl) rfl rfl ?_
  refine wp_aload_n dX0_start_15 rfl ?_
  refine wp_iconst (v := (-1)) dX0_start_16 rfl ?_
  refine wp_putI dX0_start_17 fl_X0_21 hp.1 rfl (fun _ _ _ h => by cases h; rfl) rfl rfl ?_
  refine wp_aload_n dX0_start_20 rfl ?_
  refine wp_iconst (v := 0) dX0_start_21 rfl ?_
  refine wp_putI dX0_start_22 fl_X0_24 hp.1 rfl (fun _ _ _ h => by cases h; rfl) rfl rfl ?_
  refine wp_aload_n dX0_start_25 rfl ?_
  refine wp_iconst (v := 0) dX0_start_26 rfl ?_
  refine wp_putI dX0_start_27 fl_X0_27 hp.1 rfl (fun _ _ _ h => by cases h; rfl) rfl rfl ?_
  refine wp_aload_n dX0_start_30 rfl ?_
  refine wp_iload_n dX0_start_31 rfl ?_
  refine wp_putI dX0_start_32 fl_X0_30 hp.1 rfl (fun _ _ _ h => by cases h; rfl) rfl rfl ?_
  refine wp_aload_n dX0_start_35 rfl ?_
  refine wp_getR dX0_start_36 fl_X0_33 hp.1 rfl hr ?_
  refine wp_lconst (v := 0) dX0_start_39 rfl ?_
  refine wp_cS2v dX0_start_40 ml_X0_37 sJ7_fill_d0a16 (cJ7_fill_ E (p + 1) 0 _ hp.2) (Nat.le_of_ble_eq_true rfl) (Nat.le_of_ble_eq_true rfl) (Nat.le_of_ble_eq_true rfl) ?_
  refine wp_ret0 dX0_start_43 rfl (Nat.le_refl _) (Nat.le_refl _) ?_
  exact ⟨rfl, rfl, rfl⟩
def clAdd (M : Mem) (p : Nat) (j q b : Int32) : Mem := if (¬ j < 0 ∧ ¬ 5 ≤ j) ∧ ¬ q < 0 ∧ ¬ 8 ≤ q then sI (sL M (p + 1) j.toNatClampNeg (aL M (p + 1) j.toNatClampNeg ||| b.toInt64 <<< ((56 - 8 * q).toInt64 &&& 63))) p 5 (if fI M p 0 = 0 then q + 1 else j + 1) else M
set_option maxRecDepth 100000 in
set_option maxHeartbeats 4000000 in
theorem cX0_addSign_ (E : GE) (p : Nat) (j q b : Int32) (M : Mem) (hp : isC p) (hr : fR M p 7 = some (p + 1)) : Sp E mX0_addSign 0 0 0 [.ref p, .int j, .int q, .int b] SH M (RV none SH (clAdd M p j q b)) := by
  refine sp_of vX0_addSign.1 rfl (Nat.le_of_ble_eq_true rfl) ?_
  refine wp_iload_n dX0_addSign_0 rfl ?_
  refine wp_if_lt (tgt := 58) dX0_addSign_1 (by decide) (fun c1 => ?_) (fun c1 => ?_)
  · refine wp_ret0 dX0_addSign_58 rfl (Nat.le_refl _) (Nat.le_refl _) ?_
    refine ⟨rfl, rfl, ?_⟩
    unfold clAdd
    first
      | (rw [if_pos ⟨⟨c1, c6⟩, c10, c16⟩]
         have c43 := c43
         simp only [fI_sL] at c43
         first | rw [if_pos c43] | rw [if_neg c43])
      | rw [if_neg (fun h => by first | exact h.1.1 c1 | exact h.1.2 c6 | exact h.2.1 c10 | exact h.2.2 c16)]
  · refine wp_iload_n dX0_addSign_4 rfl ?_
    refine wp_iconst (v := 5) dX0_addSign_5 rfl ?_
    refine wp_icmp_ge (tgt := 58) dX0_addSign_6 (by decide) (fun c6 => ?_) (fun c6 => ?_)
    · refine wp_ret0 dX0_addSign_58 rfl (Nat.le_refl _) (Nat.le_refl _) ?_
      refine ⟨rfl, rfl, ?_⟩
      unfold clAdd
      first
        | (rw [if_pos ⟨⟨c1, c6⟩, c10, c16⟩]
           have c43 := c43
           simp only [fI_sL] at c43
           first | rw [if_pos c43] | rw [if_neg c43])
        | rw [if_neg (fun h => by first | exact h.1.1 c1 | exact h.1.2 c6 | exact h.2.1 c10 | exact h.2.2 c16)]
    · refine wp_iload_n dX0_addSign_9 rfl ?_
      refine wp_if_lt (tgt := 58) dX0_addSign_10 (by decide) (fun c10 => ?_) (fun c10 => ?_)
      · refine wp_ret0 dX0_addSign_58 rfl (Nat.le_refl _) (Nat.le_refl _) ?_
        refine ⟨rfl, rfl, ?_⟩
        unfold clAdd
        first
          | (rw [if_pos ⟨⟨c1, c6⟩, c10, c16⟩]
             have c43 := c43
             simp only [fI_sL] at c43
             first | rw [if_pos c43] | rw [if_neg c43])
          | rw [if_neg (fun h => by first | exact h.1.1 c1 | exact h.1.2 c6 | exact h.2.1 c10 | exact h.2.2 c16)]
      · refine wp_iload_n dX0_addSign_13 rfl ?_
        refine wp_bipush (v := 8) dX0_addSign_14 (by decide) ?_
        refine wp_icmp_ge (tgt := 58) dX0_addSign_16 (by decide) (fun c16 => ?_) (fun c16 => ?_)
        · refine wp_ret0 dX0_addSign_58 rfl (Nat.le_refl _) (Nat.le_refl _) ?_
          refine ⟨rfl, rfl, ?_⟩
          unfold clAdd
          first
            | (rw [if_pos ⟨⟨c1, c6⟩, c10, c16⟩]
               have c43 := c43
               simp only [fI_sL] at c43
               first | rw [if_pos c43] | rw [if_neg c43])
            | rw [if_neg (fun h => by first | exact h.1.1 c1 | exact h.1.2 c6 | exact h.2.1 c10 | exact h.2.2 c16)]
        · refine wp_aload_n dX0_addSign_19 rfl ?_
          refine wp_getR dX0_addSign_20 fl_X0_33 hp.1 rfl hr ?_
          refine wp_iload_n dX0_addSign_23 rfl ?_
          refine wp_dup2 dX0_addSign_24 rfl rfl ?_
          refine wp_laload dX0_addSign_25 hp.2 (vin (N := 5) (by decide) c1 c6) ?_
          refine wp_iload_n dX0_addSign_26 rfl ?_
          refine wp_i2l dX0_addSign_27 ?_
          refine wp_bipush (v := 56) dX0_addSign_28 (by decide) ?_
          refine wp_bipush (v := 8) dX0_addSign_30 (by decide) ?_
          refine wp_iload_n dX0_addSign_32 rfl ?_
          refine wp_imul dX0_addSign_33 ?_
          refine wp_isub dX0_addSign_34 ?_
          refine wp_lshl dX0_addSign_35 ?_
          refine wp_lor dX0_addSign_36 ?_
          refine wp_lastore dX0_addSign_37 hp.2 (vin (N := 5) (by decide) c1 c6) ?_
          refine wp_aload_n dX0_addSign_38 rfl ?_
          refine wp_aload_n dX0_addSign_39 rfl ?_
          refine wp_getI dX0_addSign_40 fl_X0_9 hp.1 rfl ?_
          refine wp_if_ne (tgt := 52) dX0_addSign_43 (by decide) (fun c43 => ?_) (fun c43 => ?_)
          · refine wp_iload_n dX0_addSign_52 rfl ?_
            refine wp_iconst (v := 1) dX0_addSign_53 rfl ?_
            refine wp_iadd dX0_addSign_54 ?_
            refine wp_putI dX0_addSign_55 fl_X0_27 hp.1 rfl (fun _ _ _ h => by cases h; rfl) rfl rfl ?_
            refine wp_ret0 dX0_addSign_58 rfl (Nat.le_refl _) (Nat.le_refl _) ?_
            refine ⟨rfl, rfl, ?_⟩
            unfold clAdd
            first
              | (rw [if_pos ⟨⟨c1, c6⟩, c10, c16⟩]
                 have c43 := c43
                 simp only [fI_sL] at c43
                 first | rw [if_pos c43] | rw [if_neg c43])
              | rw [if_neg (fun h => by first | exact h.1.1 c1 | exact h.1.2 c6 | exact h.2.1 c10 | exact h.2.2 c16)]
          · refine wp_iload_n dX0_addSign_46 rfl ?_
            refine wp_iconst (v := 1) dX0_addSign_47 rfl ?_
            refine wp_iadd dX0_addSign_48 ?_
            refine wp_goto (tgt := 55) dX0_addSign_49 (by decide) ?_
            refine wp_putI dX0_addSign_55 fl_X0_27 hp.1 rfl (fun _ _ _ h => by cases h; rfl) rfl rfl ?_
            refine wp_ret0 dX0_addSign_58 rfl (Nat.le_refl _) (Nat.le_refl _) ?_
            refine ⟨rfl, rfl, ?_⟩
            unfold clAdd
            first
              | (rw [if_pos ⟨⟨c1, c6⟩, c10, c16⟩]
                 have c43 := c43
                 simp only [fI_sL] at c43
                 first | rw [if_pos c43] | rw [if_neg c43])
              | rw [if_neg (fun h => by first | exact h.1.1 c1 | exact h.1.2 c6 | exact h.2.1 c10 | exact h.2.2 c16)]
def clField (M : Mem) (p : Nat) : Mem := sI (sL (sI M p 3 (sgnAt (aL M (p + 1) 0) 0 - 97)) (p + 1) 0 0) p 5 0
set_option maxRecDepth 100000 in
set_option maxHeartbeats 4000000 in
theorem cX0_turnToField_ (E : GE) (p : Nat) (M : Mem) (hp : isC p) (hr : fR M p 7 = some (p + 1)) : Sp E mX0_turnToField 1 0 0 [.ref p] SH M (RV none SH (clField M p)) := by
  refine sp_of vX0_turnToField.1 rfl (Nat.le_of_ble_eq_true rfl) ?_
  refine wp_aload_n dX0_turnToField_0 rfl ?_
  refine wp_aload_n dX0_turnToField_1 rfl ?_
  refine wp_getR dX0_turnToField_2 fl_X0_33 hp.1 rfl hr ?_
  refine wp_iconst (v := 0) dX0_turnToField_5 rfl ?_
  refine wp_laload dX0_turnToField_6 hp.2 (vp_in_nI (n := 0) (N := 5) (by decide) (by decide)) ?_
  refine wp_iconst (v := 0) dX0_turnToField_7 rfl ?_
  refine wp_cS2i dX0_turnToField_8 ml_X0_43 sX2_signAt (cX2_signAt_ E _ _ _ _) (Nat.le_of_ble_eq_true rfl) (Nat.le_of_ble_eq_true rfl) (Nat.le_of_ble_eq_true rfl) ?_
  refine wp_bipush (v := 97) dX0_turnToField_11 (by decide) ?_
  refine wp_isub dX0_turnToField_13 ?_
  refine wp_putI dX0_turnToField_14 fl_X0_21 hp.1 rfl (fun _ _ _ h => by cases h; rfl) rfl rfl ?_
  refine wp_aload_n dX0_turnToField_17 rfl ?_
  refine wp_getR dX0_turnToField_18 fl_X0_33 hp.1 rfl hr ?_
  refine wp_iconst (v := 0) dX0_turnToField_21 rfl ?_
  refine wp_lconst (v := 0) dX0_turnToField_22 rfl ?_
  refine wp_lastore dX0_turnToField_23 hp.2 (vp_in_nI (n := 0) (N := 5) (by decide) (by decide)) ?_
  refine wp_aload_n dX0_turnToField_24 rfl ?_
  refine wp_iconst (v := 0) dX0_turnToField_25 rfl ?_
  refine wp_putI dX0_turnToField_26 fl_X0_27 hp.1 rfl (fun _ _ _ h => by cases h; rfl) rfl rfl ?_
  refine wp_ret0 dX0_turnToField_29 rfl (Nat.le_refl _) (Nat.le_refl _) ?_
  exact ⟨rfl, rfl, rfl⟩
def trBegin (M : Mem) (T : Nat) : Mem := sI (sI (clStart (sI M T 1 1) (T + 2) 0 (-1)) (T + 2) 0 3) (T + 2) 4 (-1)
theorem fR_start (M : Mem) (p : Nat) (a b : Int32) (q f : Nat) : fR (clStart M p a b) q f = fR M q f := by
  show (fill0 _ _ _ _).2.1 q f = _
  rw [(fill0_o _ _ _ _).2.1]; rfl
theorem aR_start (M : Mem) (p : Nat) (a b : Int32) (q f : Nat) : aR (clStart M p a b) q f = aR M q f := by
  show (fill0 _ _ _ _).2.2.2.2 q f = _
  rw [(fill0_o _ _ _ _).2.2.2]; rfl
theorem aI_start (M : Mem) (p : Nat) (a b : Int32) (q f : Nat) : aI (clStart M p a b) q f = aI M q f := by
  show (fill0 _ _ _ _).2.2.1 q f = _
  rw [(fill0_o _ _ _ _).2.2.1]; rfl
theorem aL_start (M : Mem) (p : Nat) (a b : Int32) (q i : Nat) : aL (clStart M p a b) q i = if q = p + 1 ∧ i < 5 then 0 else aL M q i := by
  unfold clStart
  rw [fill0_L]; rfl
theorem fI_start (M : Mem) (p : Nat) (a b : Int32) (q f : Nat) : fI (clStart M p a b) q f = if q = p ∧ f < 7 then (if f = 1 then a else if f = 2 then 1 else if f = 3 then -1 else if f = 6 then b else 0) else fI M q f := by
  show (fill0 _ _ _ _).1 q f = _
  rw [(fill0_o _ _ _ _).1]
  show fI (sI (sI (sI (sI (sI (sI (sI M p 0 0) p 1 a) p 2 1) p 3 (-1)) p 4 0) p 5 0) p 6 b) q f = _
  simp only [fI_sI]
  by_cases h : q = p
  · simp only [h, true_and]
    match f with
    | 0 => simp
    | 1 => simp
    | 2 => simp
    | 3 => simp
    | 4 => simp
    | 5 => simp
    | 6 => simp
    | f + 7 => simp; intro h; omega
  · simp [h]
set_option maxRecDepth 100000 in
set_option maxHeartbeats 4000000 in
theorem cX7_begin_ (E : GE) (T : Nat) (M : Mem) (hT : T = 4 ∨ T = 57) (hr : rcTr M T) : Sp E mX7_begin 2 0 0 [.ref T] SH M (RV none SH (trBegin M T)) := by
  refine sp_of vX7_begin.1 rfl (Nat.le_of_ble_eq_true rfl) ?_
  have hc := isC_tree (k := 0) hT (by decide)
  refine wp_aload_n dX7_begin_0 rfl ?_
  refine wp_iconst (v := 1) dX7_begin_1 rfl ?_
  refine wp_putI dX7_begin_2 fl_X7_17 (sh_T hT).1 rfl (fun _ _ _ h => by cases h; rfl) rfl rfl ?_
  refine wp_aload_n dX7_begin_5 rfl ?_
  refine wp_getR dX7_begin_6 fl_X7_11 (sh_T hT).1 rfl hr.1 ?_
  refine wp_iconst (v := 0) dX7_begin_9 rfl ?_
  refine wp_aaload dX7_begin_10 (sh_T hT).2 (vp_in_nI (n := 0) (N := 25) (by decide) (by decide)) (hr.2.1 0 (by decide)) ?_
  refine wp_astore_n dX7_begin_11 (Nat.le_of_ble_eq_true rfl) ?_
  refine wp_aload_n dX7_begin_12 rfl ?_
  refine wp_iconst (v := 0) dX7_begin_13 rfl ?_
  refine wp_iconst (v := (-1)) dX7_begin_14 rfl ?_
  refine wp_cV2v dX7_begin_15 ml_X7_22 vX0_start (isO_C hc) (cX0_start_ E (T + 2 + 2 * 0) 0 (-1) _ hc (hr.2.2 0 (by decide))) (Nat.le_of_ble_eq_true rfl) (Nat.le_of_ble_eq_true rfl) (Nat.le_of_ble_eq_true rfl) ?_
  refine wp_aload_n dX7_begin_18 rfl ?_
  refine wp_iconst (v := 3) dX7_begin_19 rfl ?_
  refine wp_putI dX7_begin_20 fl_X7_26 hc.1 rfl (fun _ _ _ h => by cases h; rfl) rfl rfl ?_
  refine wp_aload_n dX7_begin_23 rfl ?_
  refine wp_iconst (v := (-1)) dX7_begin_24 rfl ?_
  refine wp_putI dX7_begin_25 fl_X7_29 hc.1 rfl (fun _ _ _ h => by cases h; rfl) rfl rfl ?_
  refine wp_ret0 dX7_begin_28 rfl (Nat.le_refl _) (Nat.le_refl _) ?_
  exact ⟨rfl, rfl, rfl⟩
def trAdd (M : Mem) (T : Nat) (a b : Int32) : Mem := sI (sI (clStart M (T + 2 + 2 * atK (fI M T 1)) a b) (T + 2 + 2 * atK b) 5 (fI (clStart M (T + 2 + 2 * atK (fI M T 1)) a b) (T + 2 + 2 * atK b) 5 + 1)) T 1 (fI (sI (clStart M (T + 2 + 2 * atK (fI M T 1)) a b) (T + 2 + 2 * atK b) 5 (fI (clStart M (T + 2 + 2 * atK (fI M T 1)) a b) (T + 2 + 2 * atK b) 5 + 1)) T 1 + 1)
set_option maxRecDepth 100000 in
set_option maxHeartbeats 4000000 in
theorem cX7_add_ (E : GE) (T : Nat) (a b : Int32) (M : Mem) (hT : T = 4 ∨ T = 57) (hr : rcTr M T) : Sp E mX7_add 2 0 0 [.ref T, .int a, .int b] SH M (RV (some (.ref (T + 2 + 2 * atK (fI M T 1)))) SH (trAdd M T a b)) := by
  refine sp_of vX7_add.1 rfl (Nat.le_of_ble_eq_true rfl) ?_
  have hc := isC_tree (k := atK (fI M T 1)) hT (atK_lt _)
  have hc2 := isC_tree (k := atK b) hT (atK_lt _)
  have hr2 : rcTr (clStart M (T + 2 + 2 * atK (fI M T 1)) a b) T := ⟨(fR_start _ _ _ _ _ _).trans hr.1, fun k hk => (aR_start _ _ _ _ _ _).trans (hr.2.1 k hk), fun k hk => (fR_start _ _ _ _ _ _).trans (hr.2.2 k hk)⟩
  refine wp_aload_n dX7_add_0 rfl ?_
  refine wp_aload_n dX7_add_1 rfl ?_
  refine wp_getI dX7_add_2 fl_X7_17 (sh_T hT).1 rfl ?_
  refine wp_cV1a dX7_add_5 ml_X7_32 vX7_at (isO_T hT) (cX7_at_ E T _ M hT hr) (Nat.le_of_ble_eq_true rfl) (Nat.le_of_ble_eq_true rfl) (Nat.le_of_ble_eq_true rfl) ?_
  refine wp_astore_n dX7_add_8 (Nat.le_of_ble_eq_true rfl) ?_
  refine wp_aload_n dX7_add_9 rfl ?_
  refine wp_iload_n dX7_add_10 rfl ?_
  refine wp_iload_n dX7_add_11 rfl ?_
  refine wp_cV2v dX7_add_12 ml_X7_22 vX0_start (isO_C hc) (cX0_start_ E _ a b M hc (hr.2.2 _ (atK_lt _))) (Nat.le_of_ble_eq_true rfl) (Nat.le_of_ble_eq_true rfl) (Nat.le_of_ble_eq_true rfl) ?_
  refine wp_aload_n dX7_add_15 rfl ?_
  refine wp_iload_n dX7_add_16 rfl ?_
  refine wp_cV1a dX7_add_17 ml_X7_32 vX7_at (isO_T hT) (cX7_at_ E T _ _ hT hr2) (Nat.le_of_ble_eq_true rfl) (Nat.le_of_ble_eq_true rfl) (Nat.le_of_ble_eq_true rfl) ?_
  refine wp_dup dX7_add_20 rfl ?_
  refine wp_getI dX7_add_21 fl_X7_36 hc2.1 rfl ?_
  refine wp_iconst (v := 1) dX7_add_24 rfl ?_
  refine wp_iadd dX7_add_25 ?_
  refine wp_putI dX7_add_26 fl_X7_36 hc2.1 rfl (fun _ _ _ h => by cases h; rfl) rfl rfl ?_
  refine wp_aload_n dX7_add_29 rfl ?_
  refine wp_dup dX7_add_30 rfl ?_
  refine wp_getI dX7_add_31 fl_X7_17 (sh_T hT).1 rfl ?_
  refine wp_iconst (v := 1) dX7_add_34 rfl ?_
  refine wp_iadd dX7_add_35 ?_
  refine wp_putI dX7_add_36 fl_X7_17 (sh_T hT).1 rfl (fun _ _ _ h => by cases h; rfl) rfl rfl ?_
  refine wp_aload_n dX7_add_39 rfl ?_
  refine wp_areturn dX7_add_40 rfl (Nat.zero_le _) (Nat.zero_le _) ?_
  exact ⟨rfl, rfl, rfl⟩
