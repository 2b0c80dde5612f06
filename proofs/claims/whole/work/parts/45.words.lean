/-! ===== words of documents ===== -/
def wN (w : Int64) : Nat := w.toBitVec.toNat
theorem wN_lt (w : Int64) : wN w < 256 ^ 8 := w.toBitVec.isLt
theorem wN_of (w : Int64) : w = lN (wN w) := wb_inj (by rw [wb_tb]; simp [wN])
theorem bv_dg (w : Int64) (k : Nat) : bv w k = wN w / 256 ^ k % 256 := by
  unfold bv wN
  rw [Nat.pow_mul]
def nbk (w : Int64) : Nat → Nat
  | 0 => 0
  | n + 1 => if bv w n = 0 then nbk w n else n + 1
def nb (w : Int64) : Nat := nbk w 8
def wl (w : Int64) : List Nat := feedB w (nb w)
abbrev pln (w : Int64) : Prop := 0 < nb w ∧ ∀ k, k < nb w → isLt (bv w k)
theorem nbk_le (w : Int64) : ∀ n, nbk w n ≤ n
  | 0 => Nat.le_refl 0
  | n + 1 => by
    unfold nbk
    split
    · exact Nat.le_succ_of_le (nbk_le w n)
    · exact Nat.le_refl _
theorem nb_le (w : Int64) : nb w ≤ 8 := nbk_le w 8
theorem nbk_mod (w : Int64) : ∀ n, wN w % 256 ^ n = wN w % 256 ^ nbk w n
  | 0 => rfl
  | n + 1 => by
    unfold nbk
    split
    · next h =>
      rw [bv_dg] at h
      rw [Nat.mod_pow_succ, h, Nat.mul_zero, Nat.add_zero, nbk_mod w n]
    · rfl
theorem nb_lt (w : Int64) : wN w < 256 ^ nb w := by
  have h := nbk_mod w 8
  rw [Nat.mod_eq_of_lt (wN_lt w)] at h
  rw [h]
  exact Nat.mod_lt _ (Nat.pow_pos (by decide))
theorem nbk_hi (w : Int64) : ∀ n, 0 < nbk w n → bv w (nbk w n - 1) ≠ 0
  | 0, h => absurd h (Nat.lt_irrefl 0)
  | n + 1, h => by
    unfold nbk at h ⊢
    split at h
    · next e => rw [if_pos e]; exact nbk_hi w n h
    · next e => rw [if_neg e]; exact e
theorem nb_ge {w : Int64} (h : 0 < nb w) : 256 ^ (nb w - 1) ≤ wN w := by
  have q := nbk_hi w 8 h
  rw [bv_dg] at q
  refine Nat.le_of_not_lt fun c => q ?_
  show wN w / 256 ^ (nb w - 1) % 256 = 0
  rw [Nat.div_eq_of_lt c]
theorem nb_div (w : Int64) (i : Nat) : wN w / 256 ^ i = 0 ↔ nb w ≤ i := by
  constructor
  · intro h
    refine Nat.le_of_not_lt fun c => ?_
    have h1 := nb_ge (w := w) (by omega)
    have h2 : 256 ^ i ≤ 256 ^ (nb w - 1) := Nat.pow_le_pow_right (by decide) (by omega)
    have h3 := Nat.div_pos (Nat.le_trans h2 h1) (Nat.pow_pos (n := i) (show 0 < 256 by decide))
    omega
  · intro h
    exact Nat.div_eq_of_lt (Nat.lt_of_lt_of_le (nb_lt w) (Nat.pow_le_pow_right (by decide) h))
theorem feedB_cons (w : Int64) (n : Nat) : feedB w (n + 1) = bv w n :: feedB w n := by
  unfold feedB
  rw [List.range_succ_eq_map, List.map_cons, List.map_map]
  congr 1
  apply List.map_congr_left
  intro a _
  show bv w (n + 1 - 1 - (a + 1)) = bv w (n - 1 - a)
  congr 1; omega
theorem feedB_len (w : Int64) (n : Nat) : (feedB w n).length = n := by unfold feedB; simp
theorem feedB_at (w : Int64) (n i : Nat) (h : i < n) : (feedB w n).getD i 0 = bv w (n - 1 - i) := by
  unfold feedB
  simp [List.getD_eq_getElem?_getD, List.getElem?_map, List.getElem?_range h]
theorem packN_fb (w : Int64) : ∀ (n s : Nat), n ≤ s + 1 → packN s (feedB w n) = wN w % 256 ^ n * 256 ^ (s + 1 - n)
  | 0, s, _ => by
    show 0 = _
    rw [Nat.pow_zero, Nat.mod_one, Nat.zero_mul]
  | n + 1, s, h => by
    rw [feedB_cons]
    show bv w n * 256 ^ s + packN (s - 1) (feedB w n) = _
    rw [bv_dg, Nat.mod_pow_succ]
    by_cases e : n = 0
    · subst e
      show wN w / 256 ^ 0 % 256 * 256 ^ s + 0 = _
      rw [Nat.pow_zero, Nat.mod_one, Nat.one_mul, Nat.zero_add, Nat.add_zero, Nat.add_sub_cancel]
    · rw [packN_fb w n (s - 1) (by omega), Nat.add_mul, Nat.add_comm, show s - 1 + 1 - n = s + 1 - (n + 1) by omega]
      congr 1
      rw [Nat.mul_comm (256 ^ n), Nat.mul_assoc, ← Nat.pow_add, show n + (s + 1 - (n + 1)) = s by omega]
theorem pack_wl (w : Int64) : pack (wl w) = lN (wN w * 256 ^ (8 - nb w)) := by
  unfold pack wl
  rw [packN_fb w (nb w) 7 (nb_le w), Nat.mod_eq_of_lt (nb_lt w)]
theorem lN_0 {n : Nat} (h : n < 2 ^ 64) : lN n = 0 ↔ n = 0 := by
  constructor
  · intro e
    have := congrArg (fun z => z.toBitVec.toNat) e
    simp only [wb_tn h] at this
    exact this
  · intro e; subst e; rfl
theorem low8_n {n : Nat} (h : n < 2 ^ 64) : (lN n).toInt32 &&& 255 = nI (n % 256) := by
  rw [pk_and _ 8 (by decide), i32bv, BitVec.toNat_setWidth, wb_tn h]
  congr 1
  omega
theorem pow8 : (256 : Nat) ^ 8 = 2 ^ 64 := by decide
theorem dlt (w : Int64) (i : Nat) : wN w / 256 ^ i < 2 ^ 64 := Nat.lt_of_le_of_lt (Nat.div_le_self _ _) (by rw [← pow8]; exact wN_lt w)
theorem w_eq0 (w : Int64) : w = 0 ↔ nb w = 0 := by
  have h := nb_div w 0
  rw [Nat.pow_zero, Nat.div_one] at h
  constructor
  · intro e
    have : wN w = 0 := by rw [e]; rfl
    have := h.mp this
    omega
  · intro e
    have := h.mpr (by omega)
    rw [wN_of w, this]; rfl
set_option maxRecDepth 100000 in
set_option maxHeartbeats 4000000 in
theorem cX2_isPlain_ (E : GE) (w : Int64) (sh : List Sh) (M : Mem) : Sp E mX2_isPlain 1 0 0 [.long w] sh M (RV (some (.int (b2i (pln w)))) sh M) := by
  refine sp_of sX2_isPlain.1 rfl (Nat.le_of_ble_eq_true rfl) ?_
  have hend : (∀ k, k < nb w → isLt (bv w k)) → ∀ (y : Int64) (x : Int32), Wp (xM E mX2_isPlain 1 0 0 sh.length (RV (some (.int (b2i (pln w)))) sh M)) 0 0 43 [(4, .int x), (2, .long y), (0, .long w)] [] sh M := by
    intro hall y x
    refine wp_lload_n dX2_isPlain_43 rfl ?_
    refine wp_lconst (v := 0) dX2_isPlain_44 rfl ?_
    refine wp_lcmp dX2_isPlain_45 ?_
    refine wp_if_eq (tgt := 53) dX2_isPlain_46 (by decide) (fun c46 => ?_) (fun c46 => ?_)
    · refine wp_iconst (v := 0) dX2_isPlain_53 rfl ?_
      refine wp_ireturn dX2_isPlain_54 rfl rfl (Nat.zero_le _) (Nat.zero_le _) ?_
      rw [b2i_f (p := pln w) (fun h => by have := (w_eq0 w).mp ((lg_eq _ _).mp c46); omega)]
      exact ⟨rfl, rfl, rfl⟩
    · refine wp_iconst (v := 1) dX2_isPlain_49 rfl ?_
      refine wp_goto (tgt := 54) dX2_isPlain_50 (by decide) ?_
      refine wp_ireturn dX2_isPlain_54 rfl rfl (Nat.zero_le _) (Nat.zero_le _) ?_
      have : ¬ nb w = 0 := fun e => c46 ((lg_eq _ _).mpr ((w_eq0 w).mpr e))
      rw [b2i_t (p := pln w) ⟨by omega, hall⟩]
      exact ⟨rfl, rfl, rfl⟩
  have loop : ∀ (r i : Nat), i + r = 8 → i ≤ nb w → (∀ k, k < i → isLt (bv w k)) → Wp (xM E mX2_isPlain 1 0 0 sh.length (RV (some (.int (b2i (pln w)))) sh M)) 0 0 5 [(4, .int (nI i)), (2, .long (lN (wN w / 256 ^ i))), (0, .long w)] [] sh M := by
    have h8 := nb_le w
    intro r
    induction r with
    | zero =>
      intro i hi hle hall
      have hi : i = 8 := by omega
      subst hi
      refine wp_iload dX2_isPlain_5 rfl ?_
      refine wp_bipush (v := 8) dX2_isPlain_7 (by decide) ?_
      refine wp_icmp_ge (tgt := 43) dX2_isPlain_9 (by decide) (fun c9 => ?_) (fun c9 => absurd (show (8 : Int32) ≤ nI 8 by decide) c9)
      exact wp_lv (hend (fun k hk => hall k (by omega)) _ _) (by repeat (first | exact trivial | refine ⟨rfl, ?_⟩))
    | succ r ih =>
      intro i hi hle hall
      refine wp_iload dX2_isPlain_5 rfl ?_
      refine wp_bipush (v := 8) dX2_isPlain_7 (by decide) ?_
      refine wp_icmp_ge (tgt := 43) dX2_isPlain_9 (by decide) (fun c9 => absurd c9 (nI_ge (b := 8) (by omega) (by decide))) (fun c9 => ?_)
      refine wp_lload_n dX2_isPlain_12 rfl ?_
      refine wp_lconst (v := 0) dX2_isPlain_13 rfl ?_
      refine wp_lcmp dX2_isPlain_14 ?_
      refine wp_if_eq (tgt := 43) dX2_isPlain_15 (by decide) (fun c15 => ?_) (fun c15 => ?_)
      · have h0 := (nb_div w i).mp ((lN_0 (dlt w i)).mp ((lg_eq _ _).mp c15))
        exact wp_lv (hend (fun k hk => hall k (by omega)) _ _) (by repeat (first | exact trivial | refine ⟨rfl, ?_⟩))
      · refine wp_lload_n dX2_isPlain_18 rfl ?_
        refine wp_l2i dX2_isPlain_19 ?_
        refine wp_sipush (v := 255) dX2_isPlain_20 (by decide) ?_
        refine wp_iand dX2_isPlain_23 ?_
        rw [low8_n (dlt w i), ← bv_dg]
        refine wp_cS1i dX2_isPlain_24 ml_X2_9 sX2_isLetter (cX2_isLetter_ E _ _ _) (Nat.le_of_ble_eq_true rfl) (Nat.le_of_ble_eq_true rfl) (Nat.le_of_ble_eq_true rfl) ?_
        refine wp_if_ne (tgt := 32) dX2_isPlain_27 (by decide) (fun c27 => ?_) (fun c27 => ?_)
        · refine wp_lload_n dX2_isPlain_32 rfl ?_
          refine wp_bipush (v := 8) dX2_isPlain_33 (by decide) ?_
          refine wp_lushr dX2_isPlain_35 ?_
          refine wp_lstore_n dX2_isPlain_36 (Nat.le_of_ble_eq_true rfl) ?_
          refine wp_iinc dX2_isPlain_37 rfl (i_inc _) (Nat.le_of_ble_eq_true rfl) ?_
          refine wp_goto (tgt := 5) dX2_isPlain_40 (by decide) ?_
          have hlt : i < nb w := Nat.lt_of_not_le fun e => c15 ((lg_eq _ _).mpr ((lN_0 (dlt w i)).mpr ((nb_div w i).mpr e)))
          rw [show (8 : Int32) = nI 8 from rfl, wb_shr (dlt w i) (by decide), Nat.div_div_eq_div_mul, show (2 : Nat) ^ 8 = 256 by decide, ← Nat.pow_succ]
          refine wp_lv (ih (i + 1) (by omega) hlt (fun k hk => ?_)) (by repeat (first | exact trivial | refine ⟨rfl, ?_⟩))
          by_cases e : k = i
          · subst e; exact (isLt_i (bv_lt w _)).mp (b2i_ne.mp c27)
          · exact hall k (by omega)
        · refine wp_iconst (v := 0) dX2_isPlain_30 rfl ?_
          refine wp_ireturn dX2_isPlain_31 rfl rfl (Nat.zero_le _) (Nat.zero_le _) ?_
          have hlt : i < nb w := Nat.lt_of_not_le fun e => c15 ((lg_eq _ _).mpr ((lN_0 (dlt w i)).mpr ((nb_div w i).mpr e)))
          rw [b2i_f (p := pln w) (fun h => b2i_e0.mp c27 ((isLt_i (bv_lt w _)).mpr (h.2 i hlt)))]
          exact ⟨rfl, rfl, rfl⟩
  refine wp_lload_n dX2_isPlain_0 rfl ?_
  refine wp_lstore_n dX2_isPlain_1 (Nat.le_of_ble_eq_true rfl) ?_
  refine wp_iconst (v := 0) dX2_isPlain_2 rfl ?_
  refine wp_istore dX2_isPlain_3 (Nat.le_of_ble_eq_true rfl) ?_
  refine wp_lv (loop 8 0 (by omega) (Nat.zero_le _) (fun k hk => absurd hk (Nat.not_lt_zero k))) ?_
  rw [Nat.pow_zero, Nat.div_one, ← wN_of]
  exact (by repeat (first | exact trivial | refine ⟨rfl, ?_⟩))
set_option maxRecDepth 100000 in
set_option maxHeartbeats 4000000 in
theorem cX2_moveAhead_ (E : GE) (w : Int64) (sh : List Sh) (M : Mem) (hp : 0 < nb w) : Sp E mX2_moveAhead 0 0 0 [.long w] sh M (RV (some (.long (pack (wl w)))) sh M) := by
  refine sp_of sX2_moveAhead.1 rfl (Nat.le_of_ble_eq_true rfl) ?_
  have h8 := nb_le w
  have hB : ∀ i, i ≤ 8 - nb w → wN w * 256 ^ i < 2 ^ 64 := fun i hi => by
    rw [← pow8]
    calc wN w * 256 ^ i < 256 ^ nb w * 256 ^ i := Nat.mul_lt_mul_of_pos_right (nb_lt w) (Nat.pow_pos (by decide))
      _ = 256 ^ (nb w + i) := (Nat.pow_add _ _ _).symm
      _ ≤ 256 ^ 8 := Nat.pow_le_pow_right (by decide) (by omega)
  have hsh : ∀ i, i ≤ 8 - nb w → ((lN (wN w * 256 ^ i)).toUInt64 >>> ((56 : Int32).toInt64.toUInt64 &&& Int64.toUInt64 63)).toInt64 = lN (wN w * 256 ^ i / 2 ^ 56) := fun i hi => wb_shr (hB i hi) (k := 56) (by decide)
  have hdl : ∀ i, i ≤ 8 - nb w → wN w * 256 ^ i / 2 ^ 56 < 2 ^ 64 := fun i hi => Nat.lt_of_le_of_lt (Nat.div_le_self _ _) (hB i hi)
  have loop : ∀ (r i : Nat), i + r = 8 - nb w → Wp (xM E mX2_moveAhead 0 0 0 sh.length (RV (some (.long (pack (wl w)))) sh M)) 0 0 5 [(4, .int (nI i)), (2, .long (lN (wN w * 256 ^ i)))] [] sh M := by
    intro r
    induction r with
    | zero =>
      intro i hi
      have hi : i = 8 - nb w := by omega
      have hge := nb_ge hp
      have h1 : 2 ^ 56 ≤ wN w * 256 ^ i := by
        calc 2 ^ 56 = 256 ^ (nb w - 1 + i) := by rw [show nb w - 1 + i = 7 by omega]
          _ = 256 ^ (nb w - 1) * 256 ^ i := Nat.pow_add _ _ _
          _ ≤ wN w * 256 ^ i := Nat.mul_le_mul_right _ hge
      have h2 : wN w * 256 ^ i / 2 ^ 56 ≠ 0 := by
        have := Nat.div_pos h1 (show 0 < 2 ^ 56 by decide)
        omega
      refine wp_iload dX2_moveAhead_5 rfl ?_
      refine wp_bipush (v := 8) dX2_moveAhead_7 (by decide) ?_
      refine wp_icmp_ge (tgt := 32) dX2_moveAhead_9 (by decide) (fun c9 => absurd c9 (nI_ge (b := 8) (by omega) (by decide))) (fun c9 => ?_)
      refine wp_lload_n dX2_moveAhead_12 rfl ?_
      refine wp_bipush (v := 56) dX2_moveAhead_13 (by decide) ?_
      refine wp_lushr dX2_moveAhead_15 ?_
      refine wp_lconst (v := 0) dX2_moveAhead_16 rfl ?_
      refine wp_lcmp dX2_moveAhead_17 ?_
      refine wp_if_ne (tgt := 32) dX2_moveAhead_18 (by decide) (fun c18 => ?_) (fun c18 => absurd ((lN_0 (hdl i (by omega))).mp (by rw [← hsh i (by omega)]; exact (lg_eq _ _).mp c18)) h2)
      refine wp_lload_n dX2_moveAhead_32 rfl ?_
      refine wp_lreturn dX2_moveAhead_33 rfl (Nat.zero_le _) (Nat.zero_le _) ?_
      subst hi
      rw [pack_wl]
      exact ⟨rfl, rfl, rfl⟩
    | succ r ih =>
      intro i hi
      have h2 : wN w * 256 ^ i / 2 ^ 56 = 0 := Nat.div_eq_of_lt (by
        calc wN w * 256 ^ i < 256 ^ nb w * 256 ^ i := Nat.mul_lt_mul_of_pos_right (nb_lt w) (Nat.pow_pos (by decide))
          _ = 256 ^ (nb w + i) := (Nat.pow_add _ _ _).symm
          _ ≤ 256 ^ 7 := Nat.pow_le_pow_right (by decide) (by omega)
          _ = 2 ^ 56 := by decide)
      refine wp_iload dX2_moveAhead_5 rfl ?_
      refine wp_bipush (v := 8) dX2_moveAhead_7 (by decide) ?_
      refine wp_icmp_ge (tgt := 32) dX2_moveAhead_9 (by decide) (fun c9 => absurd c9 (nI_ge (b := 8) (by omega) (by decide))) (fun c9 => ?_)
      refine wp_lload_n dX2_moveAhead_12 rfl ?_
      refine wp_bipush (v := 56) dX2_moveAhead_13 (by decide) ?_
      refine wp_lushr dX2_moveAhead_15 ?_
      refine wp_lconst (v := 0) dX2_moveAhead_16 rfl ?_
      refine wp_lcmp dX2_moveAhead_17 ?_
      refine wp_if_ne (tgt := 32) dX2_moveAhead_18 (by decide) (fun c18 => absurd ((lg_eq _ _).mpr (by rw [hsh i (by omega), h2]; rfl)) c18) (fun c18 => ?_)
      refine wp_lload_n dX2_moveAhead_21 rfl ?_
      refine wp_bipush (v := 8) dX2_moveAhead_22 (by decide) ?_
      refine wp_lshl dX2_moveAhead_24 ?_
      refine wp_lstore_n dX2_moveAhead_25 (Nat.le_of_ble_eq_true rfl) ?_
      refine wp_iinc dX2_moveAhead_26 rfl (i_inc _) (Nat.le_of_ble_eq_true rfl) ?_
      refine wp_goto (tgt := 5) dX2_moveAhead_29 (by decide) ?_
      rw [show (8 : Int32) = nI 8 from rfl, wb_shl _ (by decide), Nat.mul_assoc, show (2 : Nat) ^ 8 = 256 by decide, ← Nat.pow_succ]
      exact wp_lv (ih (i + 1) (by omega)) (by repeat (first | exact trivial | refine ⟨rfl, ?_⟩))
  refine wp_lload_n dX2_moveAhead_0 rfl ?_
  refine wp_lstore_n dX2_moveAhead_1 (Nat.le_of_ble_eq_true rfl) ?_
  refine wp_iconst (v := 0) dX2_moveAhead_2 rfl ?_
  refine wp_istore dX2_moveAhead_3 (Nat.le_of_ble_eq_true rfl) ?_
  refine wp_lv (loop (8 - nb w) 0 (by omega)) ?_
  rw [Nat.pow_zero, Nat.mul_one, ← wN_of]
  exact (by repeat (first | exact trivial | refine ⟨rfl, ?_⟩))
set_option maxRecDepth 100000 in
set_option maxHeartbeats 4000000 in
theorem cX2_lengthOf_ (E : GE) (l : List Nat) (hl : l.length ≤ 8) (hb : ∀ x ∈ l, x < 256 ∧ 0 < x) (sh : List Sh) (M : Mem) : Sp E mX2_lengthOf 1 0 0 [.long (pack l)] sh M (RV (some (.int (nI l.length))) sh M) := by
  refine sp_of sX2_lengthOf.1 rfl (Nat.le_of_ble_eq_true rfl) ?_
  have hb1 : ∀ x ∈ l, x < 256 := fun x hx => (hb x hx).1
  have loop : ∀ (r i : Nat), i + r = l.length → Wp (xM E mX2_lengthOf 1 0 0 sh.length (RV (some (.int (nI l.length))) sh M)) 0 0 2 [(2, .int (nI i)), (0, .long (pack l))] [] sh M := by
    intro r
    induction r with
    | zero =>
      intro i hi
      have hi : i = l.length := by omega
      subst hi
      have e0 : l.length < 8 → sgnAt (pack l) (nI l.length) = 0 := fun h => by
        rw [sgn_pack hl hb1 h, List.getD_eq_getElem?_getD, List.getElem?_eq_none (Nat.le_refl _)]; rfl
      refine wp_iload_n dX2_lengthOf_2 rfl ?_
      refine wp_bipush (v := 8) dX2_lengthOf_3 (by decide) ?_
      refine wp_icmp_ge (tgt := 22) dX2_lengthOf_5 (by decide) (fun c5 => ?_) (fun c5 => ?_)
      · refine wp_iload_n dX2_lengthOf_22 rfl ?_
        refine wp_ireturn dX2_lengthOf_23 rfl rfl (Nat.zero_le _) (Nat.zero_le _) ?_
        exact ⟨rfl, rfl, rfl⟩
      · refine wp_lload_n dX2_lengthOf_8 rfl ?_
        refine wp_iload_n dX2_lengthOf_9 rfl ?_
        refine wp_cS2i dX2_lengthOf_10 ml_X2_15 sX2_signAt (cX2_signAt_ E _ _ _ _) (Nat.le_of_ble_eq_true rfl) (Nat.le_of_ble_eq_true rfl) (Nat.le_of_ble_eq_true rfl) ?_
        refine wp_if_eq (tgt := 22) dX2_lengthOf_13 (by decide) (fun c13 => ?_) (fun c13 => absurd (e0 (Nat.lt_of_not_le fun h => c5 (nI_le (a := 8) h (by omega)))) c13)
        refine wp_iload_n dX2_lengthOf_22 rfl ?_
        refine wp_ireturn dX2_lengthOf_23 rfl rfl (Nat.zero_le _) (Nat.zero_le _) ?_
        exact ⟨rfl, rfl, rfl⟩
    | succ r ih =>
      intro i hi
      have hne : sgnAt (pack l) (nI i) ≠ 0 := by
        rw [sgn_pack hl hb1 (by omega)]
        intro e
        have hil : i < l.length := by omega
        have hm : l.getD i 0 ∈ l := by
          rw [List.getD_eq_getElem?_getD, List.getElem?_eq_getElem hil]
          exact List.getElem_mem hil
        have := hb _ hm
        have := nI_e (b := 0) (by omega) (by decide) e
        omega
      refine wp_iload_n dX2_lengthOf_2 rfl ?_
      refine wp_bipush (v := 8) dX2_lengthOf_3 (by decide) ?_
      refine wp_icmp_ge (tgt := 22) dX2_lengthOf_5 (by decide) (fun c5 => absurd c5 (nI_ge (b := 8) (by omega) (by decide))) (fun c5 => ?_)
      refine wp_lload_n dX2_lengthOf_8 rfl ?_
      refine wp_iload_n dX2_lengthOf_9 rfl ?_
      refine wp_cS2i dX2_lengthOf_10 ml_X2_15 sX2_signAt (cX2_signAt_ E _ _ _ _) (Nat.le_of_ble_eq_true rfl) (Nat.le_of_ble_eq_true rfl) (Nat.le_of_ble_eq_true rfl) ?_
      refine wp_if_eq (tgt := 22) dX2_lengthOf_13 (by decide) (fun c13 => absurd c13 hne) (fun c13 => ?_)
      refine wp_iinc dX2_lengthOf_16 rfl (i_inc _) (Nat.le_of_ble_eq_true rfl) ?_
      refine wp_goto (tgt := 2) dX2_lengthOf_19 (by decide) ?_
      exact wp_lv (ih (i + 1) (by omega)) (by repeat (first | exact trivial | refine ⟨rfl, ?_⟩))
  refine wp_iconst (v := 0) dX2_lengthOf_0 rfl ?_
  refine wp_istore_n dX2_lengthOf_1 (Nat.le_of_ble_eq_true rfl) ?_
  exact wp_lv (loop l.length 0 (by omega)) (by repeat (first | exact trivial | refine ⟨rfl, ?_⟩))
