/-! ===== the class: likeness ===== -/
theorem i_sh : ∀ k, k < 32 → ((nI k &&& 31).toBitVec.smod 32).toNat = k := by decide +kernel
theorem n_shl {n k : Nat} (hk : k < 32) (h : n * 2 ^ k < 2 ^ 32) : nI n <<< (nI k &&& 31) = nI (n * 2 ^ k) := pk_shlN _ k (i_sh k hk) h
theorem n_shr {n k : Nat} (hk : k < 32) (h : n < 2 ^ 31) : nI n >>> (nI k &&& 31) = nI (n / 2 ^ k) := pk_shrN h _ k (i_sh k hk)
theorem n_and {a b : Nat} (ha : a < 2 ^ 32) (hb : b < 2 ^ 32) : nI a &&& nI b = nI (a &&& b) := by
  apply Int32.toBitVec_inj.mp
  apply BitVec.eq_of_toNat_eq
  show ((BitVec.ofNat 32 a) &&& (BitVec.ofNat 32 b)).toNat = (BitVec.ofNat 32 (a &&& b)).toNat
  rw [BitVec.toNat_and, BitVec.toNat_ofNat, BitVec.toNat_ofNat, BitVec.toNat_ofNat, Nat.mod_eq_of_lt ha, Nat.mod_eq_of_lt hb, Nat.mod_eq_of_lt (Nat.and_lt_two_pow _ hb)]
theorem n_or {a b : Nat} (ha : a < 2 ^ 32) (hb : b < 2 ^ 32) : nI a ||| nI b = nI (a ||| b) := by
  apply Int32.toBitVec_inj.mp
  apply BitVec.eq_of_toNat_eq
  show ((BitVec.ofNat 32 a) ||| (BitVec.ofNat 32 b)).toNat = (BitVec.ofNat 32 (a ||| b)).toNat
  rw [BitVec.toNat_or, BitVec.toNat_ofNat, BitVec.toNat_ofNat, BitVec.toNat_ofNat, Nat.mod_eq_of_lt ha, Nat.mod_eq_of_lt hb, Nat.mod_eq_of_lt (Nat.or_lt_two_pow ha hb)]
def bs (P : Nat → Bool) : Nat → Nat
  | 0 => 0
  | n + 1 => bs P n + (if P n = true then 2 ^ n else 0)
theorem bs_lt (P : Nat → Bool) : ∀ n, bs P n < 2 ^ n
  | 0 => Nat.zero_lt_one
  | n + 1 => by
    have := bs_lt P n
    unfold bs
    rw [Nat.pow_succ]
    split <;> omega
theorem bs_tb (P : Nat → Bool) : ∀ n i, (bs P n).testBit i = (decide (i < n) && P i)
  | 0, i => by simp [bs]
  | n + 1, i => by
    have hl := bs_lt P n
    have ih := bs_tb P n i
    unfold bs
    by_cases hp : P n = true
    · rw [if_pos hp, Nat.add_comm]
      by_cases e : i = n
      · subst e
        rw [Nat.testBit_two_pow_add_eq, Nat.testBit_lt_two_pow hl]; simp [hp]
      · by_cases h : i < n
        · rw [Nat.testBit_two_pow_add_gt h, ih]; simp [h, show i < n + 1 by omega]
        · have h1 : 2 ^ n + bs P n < 2 ^ i := by
            have : 2 ^ (n + 1) ≤ 2 ^ i := Nat.pow_le_pow_right (by decide) (by omega)
            rw [Nat.pow_succ] at this; omega
          rw [Nat.testBit_lt_two_pow h1]; simp [show ¬ i < n + 1 by omega]
    · rw [if_neg hp, Nat.add_zero, ih]
      by_cases e : i = n
      · subst e; simp [hp]
      · by_cases h : i < n
        · simp [h, show i < n + 1 by omega]
        · simp [h, show ¬ i < n + 1 by omega]
theorem bs_congr {P Q : Nat → Bool} : ∀ n, (∀ i, i < n → P i = Q i) → bs P n = bs Q n
  | 0, _ => rfl
  | n + 1, h => by
    unfold bs
    rw [bs_congr n (fun i hi => h i (by omega)), h n (Nat.lt_succ_self n)]
def anyB (P : Nat → Bool) : Nat → Bool
  | 0 => P 0
  | i + 1 => P (i + 1) || anyB P i
theorem anyB_congr {P Q : Nat → Bool} : ∀ n, (∀ i, i ≤ n → P i = Q i) → anyB P n = anyB Q n
  | 0, h => h 0 (Nat.le_refl _)
  | n + 1, h => by unfold anyB; rw [h (n + 1) (Nat.le_refl _), anyB_congr n (fun i hi => h i (by omega))]
set_option maxRecDepth 100000 in
theorem star_b : ∀ l, l < 9 → ∀ R, R < 2 ^ (l + 1) → (nI R ||| -(nI R)) &&& nI (2 ^ (l + 1) - 1) = nI (bs (anyB (fun k => R.testBit k)) (l + 1)) := by decide +kernel
theorem all_b : ∀ l, l < 9 → (1 : Int32) <<< ((nI l + 1) &&& 31) - 1 = nI (2 ^ (l + 1) - 1) := by decide +kernel
theorem pm_star (prev : Nat → Bool) (v : List Nat) : ∀ i, pmRow prev 42 v i = anyB prev i
  | 0 => rfl
  | i + 1 => by
    show (if (42 : Nat) = 42 then prev (i + 1) || pmRow prev 42 v i else _) = _
    rw [if_pos rfl, pm_star prev v i]; rfl
def plc (s : Nat) (v : List Nat) (i : Nat) : Bool := s == 63 || s == v.getD i 0
theorem sgn_at {l : List Nat} (h : okL l) {i : Nat} (hi : i < 8) : sgnAt (pack l) (nI i) = nI (l.getD i 0) := sgn_pack h.1 (fun x hx => (okL_256 h x hx).1) hi
theorem okL_at {l : List Nat} (h : okL l) (i : Nat) : l.getD i 0 < 256 := by
  by_cases c : i < l.length
  · have hm : l.getD i 0 ∈ l := by
      rw [List.getD_eq_getElem?_getD, List.getElem?_eq_getElem c]
      exact List.getElem_mem c
    exact (okL_256 h _ hm).1
  · rw [List.getD_eq_getElem?_getD, List.getElem?_eq_none (by omega)]; decide
set_option maxRecDepth 100000 in
set_option maxHeartbeats 4000000 in
theorem cX3_placesOf_ (E : GE) (s : Nat) (v : List Nat) (hs : s < 256) (hv : okL v) (sh : List Sh) (M : Mem) : Sp E mX3_placesOf 1 0 0 [.int (nI s), .long (pack v), .int (nI v.length)] sh M (RV (some (.int (nI (bs (plc s v) v.length)))) sh M) := by
  refine sp_of sX3_placesOf.1 rfl (Nat.le_of_ble_eq_true rfl) ?_
  have h8 := hv.1
  have loop : ∀ (r i : Nat), i + r = v.length → Wp (xM E mX3_placesOf 1 0 0 sh.length (RV (some (.int (nI (bs (plc s v) v.length)))) sh M)) 0 0 6 [(5, .int (nI i)), (4, .int (nI (bs (plc s v) i))), (0, .int (nI s)), (1, .long (pack v)), (3, .int (nI v.length))] [] sh M := by
    intro r
    induction r with
    | zero =>
      intro i hi
      have hi : i = v.length := by omega
      subst hi
      refine wp_iload dX3_placesOf_6 rfl ?_
      refine wp_iload_n dX3_placesOf_8 rfl ?_
      refine wp_icmp_ge (tgt := 43) dX3_placesOf_9 (by decide) (fun c9 => ?_) (fun c9 => absurd (Int32.le_refl _) c9)
      refine wp_iload dX3_placesOf_43 rfl ?_
      refine wp_ireturn dX3_placesOf_45 rfl rfl (Nat.zero_le _) (Nat.zero_le _) ?_
      exact ⟨rfl, rfl, rfl⟩
    | succ r ih =>
      intro i hi
      have hil : i < v.length := by omega
      have hbl := bs_lt (plc s v) i
      have hpw : 2 ^ i ≤ 2 ^ 8 := Nat.pow_le_pow_right (by decide) (by omega)
      have h1 : (1 : Int32) <<< (nI i &&& 31) = nI (2 ^ i) := by
        have := n_shl (n := 1) (k := i) (by omega) (by omega)
        rw [Nat.one_mul] at this; exact this
      have hor : nI (bs (plc s v) i) ||| nI (2 ^ i) = nI (bs (plc s v) i + 2 ^ i) := by
        have := Nat.two_pow_add_eq_or_of_lt hbl 1
        rw [Nat.mul_one] at this
        rw [n_or (by omega) (by omega), Nat.or_comm, ← this, Nat.add_comm]
      have hsa := sgn_at hv (i := i) (by omega)
      have hva := okL_at hv i
      have hs1 : plc s v i = true → bs (plc s v) (i + 1) = bs (plc s v) i + 2 ^ i := fun h => by show bs (plc s v) i + (if plc s v i = true then 2 ^ i else 0) = _; rw [if_pos h]
      have hs0 : ¬ plc s v i = true → bs (plc s v) (i + 1) = bs (plc s v) i := fun h => by show bs (plc s v) i + (if plc s v i = true then 2 ^ i else 0) = _; rw [if_neg h, Nat.add_zero]
      have J37 : Wp (xM E mX3_placesOf 1 0 0 sh.length (RV (some (.int (nI (bs (plc s v) v.length)))) sh M)) 0 0 37 [(5, .int (nI i)), (4, .int (nI (bs (plc s v) (i + 1)))), (0, .int (nI s)), (1, .long (pack v)), (3, .int (nI v.length))] [] sh M := by
        refine wp_iinc dX3_placesOf_37 rfl (i_inc _) (Nat.le_of_ble_eq_true rfl) ?_
        refine wp_goto (tgt := 6) dX3_placesOf_40 (by decide) ?_
        exact wp_lv (ih (i + 1) (by omega)) (by repeat (first | exact trivial | refine ⟨rfl, ?_⟩))
      have J28 : plc s v i = true → Wp (xM E mX3_placesOf 1 0 0 sh.length (RV (some (.int (nI (bs (plc s v) v.length)))) sh M)) 0 0 28 [(5, .int (nI i)), (4, .int (nI (bs (plc s v) i))), (0, .int (nI s)), (1, .long (pack v)), (3, .int (nI v.length))] [] sh M := by
        intro hp
        refine wp_iload dX3_placesOf_28 rfl ?_
        refine wp_iconst (v := 1) dX3_placesOf_30 rfl ?_
        refine wp_iload dX3_placesOf_31 rfl ?_
        refine wp_ishl dX3_placesOf_33 ?_
        rw [h1]
        refine wp_ior dX3_placesOf_34 ?_
        rw [hor, ← hs1 hp]
        refine wp_istore dX3_placesOf_35 (Nat.le_of_ble_eq_true rfl) ?_
        exact wp_lv J37 (by repeat (first | exact trivial | refine ⟨rfl, ?_⟩))
      refine wp_iload dX3_placesOf_6 rfl ?_
      refine wp_iload_n dX3_placesOf_8 rfl ?_
      refine wp_icmp_ge (tgt := 43) dX3_placesOf_9 (by decide) (fun c9 => absurd c9 (nI_ge hil (by omega))) (fun c9 => ?_)
      refine wp_iload_n dX3_placesOf_12 rfl ?_
      refine wp_bipush (v := 63) dX3_placesOf_13 (by decide) ?_
      refine wp_icmp_eq (tgt := 28) dX3_placesOf_15 (by decide) (fun c15 => ?_) (fun c15 => ?_)
      · exact wp_lv (J28 (by unfold plc; rw [(nIb hs (by decide)).mp c15]; rfl)) (by repeat (first | exact trivial | refine ⟨rfl, ?_⟩))
      · refine wp_iload_n dX3_placesOf_18 rfl ?_
        refine wp_lload_n dX3_placesOf_19 rfl ?_
        refine wp_iload dX3_placesOf_20 rfl ?_
        refine wp_cS2i dX3_placesOf_22 ml_X3_46 sX2_signAt (cX2_signAt_ E _ _ _ _) (Nat.le_of_ble_eq_true rfl) (Nat.le_of_ble_eq_true rfl) (Nat.le_of_ble_eq_true rfl) ?_
        rw [hsa]
        refine wp_icmp_ne (tgt := 37) dX3_placesOf_25 (by decide) (fun c25 => ?_) (fun c25 => ?_)
        · have hn : ¬ plc s v i = true := fun h => by
            unfold plc at h
            simp only [Bool.or_eq_true, beq_iff_eq] at h
            rcases h with h | h
            · exact c15 (by rw [h]; rfl)
            · exact c25 (by rw [h])
          have := J37
          rw [hs0 hn] at this
          exact wp_lv this (by repeat (first | exact trivial | refine ⟨rfl, ?_⟩))
        · exact wp_lv (J28 (by unfold plc; rw [(nIb hs hva).mp c25]; simp)) (by repeat (first | exact trivial | refine ⟨rfl, ?_⟩))
  refine wp_iconst (v := 0) dX3_placesOf_0 rfl ?_
  refine wp_istore dX3_placesOf_1 (Nat.le_of_ble_eq_true rfl) ?_
  refine wp_iconst (v := 0) dX3_placesOf_3 rfl ?_
  refine wp_istore dX3_placesOf_4 (Nat.le_of_ble_eq_true rfl) ?_
  exact wp_lv (loop v.length 0 (by omega)) (by repeat (first | exact trivial | refine ⟨rfl, ?_⟩))
theorem pm_else {prev : Nat → Bool} {s : Nat} {v : List Nat} (hs : s ≠ 42) {l : Nat} (hl : l = v.length) : (bs prev (l + 1) &&& bs (plc s v) l) * 2 = bs (pmRow prev s v) (l + 1) := by
  apply Nat.eq_of_testBit_eq
  intro i
  rw [bs_tb]
  cases i with
  | zero =>
    rw [Nat.testBit_zero]
    have : pmRow prev s v 0 = false := by show (if s = 42 then _ else false) = false; rw [if_neg hs]
    rw [this]
    simp
  | succ i =>
    rw [Nat.mul_comm, Nat.testBit_succ, Nat.mul_div_cancel_left _ (by decide), Nat.testBit_and, bs_tb, bs_tb]
    have : pmRow prev s v (i + 1) = (prev i && plc s v i) := by show (if s = 42 then _ else prev i && (s == 63 || s == v.getD i 0)) = _; rw [if_neg hs]; rfl
    rw [this]
    by_cases h : i < l
    · simp [h, show i < l + 1 by omega]
    · simp [h]
set_option maxRecDepth 100000 in
set_option maxHeartbeats 4000000 in
theorem cX3_hasSigns_ (E : GE) (v w : List Nat) (hv : okL v) (hw : okL w) (sh : List Sh) (M : Mem) : Sp E mX3_hasSigns 2 0 0 [.long (pack w), .long (pack v)] sh M (RV (some (.int (b2i (pmN v w w.length v.length = true)))) sh M) := by
  refine sp_of sX3_hasSigns.1 rfl (Nat.le_of_ble_eq_true rfl) ?_
  have h8 := hv.1
  have hw8 := hw.1
  have hpw : (2 : Nat) ^ (v.length + 1) ≤ 2 ^ 9 := Nat.pow_le_pow_right (by decide) (by omega)
  have loop : ∀ (r p : Nat), p + r = w.length → Wp (xM E mX3_hasSigns 2 0 0 sh.length (RV (some (.int (b2i (pmN v w w.length v.length = true)))) sh M)) 0 0 28 [(8, .int (nI p)), (7, .int (nI (bs (pmN v w p) (v.length + 1)))), (6, .int (nI w.length)), (5, .int (nI (2 ^ (v.length + 1) - 1))), (4, .int (nI v.length)), (0, .long (pack w)), (2, .long (pack v))] [] sh M := by
    intro r
    induction r with
    | zero =>
      intro p hp
      have hp : p = w.length := by omega
      subst hp
      have hbl := bs_lt (pmN v w w.length) (v.length + 1)
      have hsr : nI (bs (pmN v w w.length) (v.length + 1)) >>> (nI v.length &&& 31) &&& 1 = nI (bs (pmN v w w.length) (v.length + 1) / 2 ^ v.length % 2) := by
        rw [n_shr (by omega) (by omega)]
        exact pk_andN (by have := Nat.div_le_self (bs (pmN v w w.length) (v.length + 1)) (2 ^ v.length); omega) 1 (by decide)
      have hbit : bs (pmN v w w.length) (v.length + 1) / 2 ^ v.length % 2 = if pmN v w w.length v.length = true then 1 else 0 := by
        have := bs_tb (pmN v w w.length) (v.length + 1) v.length
        rw [Nat.testBit_eq_decide_div_mod_eq] at this
        simp only [Nat.lt_succ_self, decide_true, Bool.true_and] at this
        by_cases c : pmN v w w.length v.length = true
        · rw [if_pos c]; rw [c] at this; exact of_decide_eq_true this
        · rw [if_neg c]
          have h0 : pmN v w w.length v.length = false := by cases h : pmN v w w.length v.length with | true => exact absurd h c | false => rfl
          rw [h0] at this
          have := of_decide_eq_false this
          omega
      refine wp_iload dX3_hasSigns_28 rfl ?_
      refine wp_iload dX3_hasSigns_30 rfl ?_
      refine wp_icmp_ge (tgt := 85) dX3_hasSigns_32 (by decide) (fun c32 => ?_) (fun c32 => absurd (Int32.le_refl _) c32)
      refine wp_iload dX3_hasSigns_85 rfl ?_
      refine wp_iload dX3_hasSigns_87 rfl ?_
      refine wp_ishr dX3_hasSigns_89 ?_
      refine wp_iconst (v := 1) dX3_hasSigns_90 rfl ?_
      refine wp_iand dX3_hasSigns_91 ?_
      rw [hsr, hbit]
      refine wp_iconst (v := 1) dX3_hasSigns_92 rfl ?_
      refine wp_icmp_ne (tgt := 100) dX3_hasSigns_93 (by decide) (fun c93 => ?_) (fun c93 => ?_)
      · refine wp_iconst (v := 0) dX3_hasSigns_100 rfl ?_
        refine wp_ireturn dX3_hasSigns_101 rfl rfl (Nat.zero_le _) (Nat.zero_le _) ?_
        have c : ¬ pmN v w w.length v.length = true := fun c => c93 (by rw [if_pos c]; rfl)
        rw [b2i_f c]; exact ⟨rfl, rfl, rfl⟩
      · refine wp_iconst (v := 1) dX3_hasSigns_96 rfl ?_
        refine wp_goto (tgt := 101) dX3_hasSigns_97 (by decide) ?_
        refine wp_ireturn dX3_hasSigns_101 rfl rfl (Nat.zero_le _) (Nat.zero_le _) ?_
        have c : pmN v w w.length v.length = true := Decidable.byContradiction fun c => by rw [if_neg c] at c93; exact absurd c93 (by decide)
        rw [b2i_t c]; exact ⟨rfl, rfl, rfl⟩
    | succ r ih =>
      intro p hp
      have hpl : p < w.length := by omega
      have hsa := sgn_at hw (i := p) (by omega)
      have hwa := okL_at hw p
      have hbl := bs_lt (pmN v w p) (v.length + 1)
      have hpm : pmN v w (p + 1) = pmRow (pmN v w p) (w.getD p 0) v := rfl
      refine wp_iload dX3_hasSigns_28 rfl ?_
      refine wp_iload dX3_hasSigns_30 rfl ?_
      refine wp_icmp_ge (tgt := 85) dX3_hasSigns_32 (by decide) (fun c32 => absurd c32 (nI_ge hpl (by omega))) (fun c32 => ?_)
      refine wp_lload_n dX3_hasSigns_35 rfl ?_
      refine wp_iload dX3_hasSigns_36 rfl ?_
      refine wp_cS2i dX3_hasSigns_38 ml_X3_46 sX2_signAt (cX2_signAt_ E _ _ _ _) (Nat.le_of_ble_eq_true rfl) (Nat.le_of_ble_eq_true rfl) (Nat.le_of_ble_eq_true rfl) ?_
      rw [hsa]
      refine wp_istore dX3_hasSigns_41 (Nat.le_of_ble_eq_true rfl) ?_
      refine wp_iload dX3_hasSigns_43 rfl ?_
      refine wp_bipush (v := 42) dX3_hasSigns_45 (by decide) ?_
      refine wp_icmp_ne (tgt := 64) dX3_hasSigns_47 (by decide) (fun c47 => ?_) (fun c47 => ?_)
      · refine wp_iload dX3_hasSigns_64 rfl ?_
        refine wp_iload dX3_hasSigns_66 rfl ?_
        refine wp_lload_n dX3_hasSigns_68 rfl ?_
        refine wp_iload dX3_hasSigns_69 rfl ?_
        refine wp_cS3i dX3_hasSigns_71 ml_X3_56 sX3_placesOf (cX3_placesOf_ E (w.getD p 0) v hwa hv _ _) (Nat.le_of_ble_eq_true rfl) (Nat.le_of_ble_eq_true rfl) (Nat.le_of_ble_eq_true rfl) ?_
        refine wp_iand dX3_hasSigns_74 ?_
        refine wp_iconst (v := 1) dX3_hasSigns_75 rfl ?_
        refine wp_ishl dX3_hasSigns_76 ?_
        refine wp_istore dX3_hasSigns_77 (Nat.le_of_ble_eq_true rfl) ?_
        refine wp_iinc dX3_hasSigns_79 rfl (i_inc _) (Nat.le_of_ble_eq_true rfl) ?_
        refine wp_goto (tgt := 28) dX3_hasSigns_82 (by decide) ?_
        have hs : w.getD p 0 ≠ 42 := fun e => c47 (by rw [e]; rfl)
        have hbp := bs_lt (plc (w.getD p 0) v) v.length
        have hpv : (2 : Nat) ^ v.length ≤ 2 ^ 8 := Nat.pow_le_pow_right (by decide) h8
        have hand : bs (pmN v w p) (v.length + 1) &&& bs (plc (w.getD p 0) v) v.length < 2 ^ 8 := Nat.lt_of_lt_of_le (Nat.and_lt_two_pow _ hbp) hpv
        have e : (nI (bs (pmN v w p) (v.length + 1)) &&& nI (bs (plc (w.getD p 0) v) v.length)) <<< ((1 : Int32) &&& 31) = nI (bs (pmN v w (p + 1)) (v.length + 1)) := by
          rw [n_and (by omega) (by omega)]
          have := n_shl (n := bs (pmN v w p) (v.length + 1) &&& bs (plc (w.getD p 0) v) v.length) (k := 1) (by decide) (by omega)
          rw [Nat.pow_one, pm_else hs rfl, ← hpm] at this
          exact this
        rw [e]
        exact wp_lv (ih (p + 1) (by omega)) (by repeat (first | exact trivial | refine ⟨rfl, ?_⟩))
      · refine wp_iload dX3_hasSigns_50 rfl ?_
        refine wp_iload dX3_hasSigns_52 rfl ?_
        refine wp_ineg dX3_hasSigns_54 ?_
        refine wp_ior dX3_hasSigns_55 ?_
        refine wp_iload dX3_hasSigns_56 rfl ?_
        refine wp_iand dX3_hasSigns_58 ?_
        refine wp_istore dX3_hasSigns_59 (Nat.le_of_ble_eq_true rfl) ?_
        refine wp_goto (tgt := 79) dX3_hasSigns_61 (by decide) ?_
        refine wp_iinc dX3_hasSigns_79 rfl (i_inc _) (Nat.le_of_ble_eq_true rfl) ?_
        refine wp_goto (tgt := 28) dX3_hasSigns_82 (by decide) ?_
        have hs : w.getD p 0 = 42 := (nIb hwa (by decide)).mp c47
        have e : (nI (bs (pmN v w p) (v.length + 1)) ||| -(nI (bs (pmN v w p) (v.length + 1)))) &&& nI (2 ^ (v.length + 1) - 1) = nI (bs (pmN v w (p + 1)) (v.length + 1)) := by
          rw [star_b v.length (by omega) _ hbl, hpm, hs]
          congr 1
          refine bs_congr _ (fun i hi => ?_)
          rw [pm_star]
          exact anyB_congr i (fun k hk => by rw [bs_tb]; simp; omega)
        rw [e]
        exact wp_lv (ih (p + 1) (by omega)) (by repeat (first | exact trivial | refine ⟨rfl, ?_⟩))
  refine wp_lload_n dX3_hasSigns_0 rfl ?_
  refine wp_cS1i dX3_hasSigns_1 ml_X3_40 sX2_lengthOf (cX2_lengthOf_ E v h8 (okL_256 hv) _ _) (Nat.le_of_ble_eq_true rfl) (Nat.le_of_ble_eq_true rfl) (Nat.le_of_ble_eq_true rfl) ?_
  refine wp_istore dX3_hasSigns_4 (Nat.le_of_ble_eq_true rfl) ?_
  refine wp_iconst (v := 1) dX3_hasSigns_6 rfl ?_
  refine wp_iload dX3_hasSigns_7 rfl ?_
  refine wp_iconst (v := 1) dX3_hasSigns_9 rfl ?_
  refine wp_iadd dX3_hasSigns_10 ?_
  refine wp_ishl dX3_hasSigns_11 ?_
  refine wp_iconst (v := 1) dX3_hasSigns_12 rfl ?_
  refine wp_isub dX3_hasSigns_13 ?_
  rw [all_b v.length (by omega)]
  refine wp_istore dX3_hasSigns_14 (Nat.le_of_ble_eq_true rfl) ?_
  refine wp_lload_n dX3_hasSigns_16 rfl ?_
  refine wp_cS1i dX3_hasSigns_17 ml_X3_40 sX2_lengthOf (cX2_lengthOf_ E w hw8 (okL_256 hw) _ _) (Nat.le_of_ble_eq_true rfl) (Nat.le_of_ble_eq_true rfl) (Nat.le_of_ble_eq_true rfl) ?_
  refine wp_istore dX3_hasSigns_20 (Nat.le_of_ble_eq_true rfl) ?_
  refine wp_iconst (v := 1) dX3_hasSigns_22 rfl ?_
  refine wp_istore dX3_hasSigns_23 (Nat.le_of_ble_eq_true rfl) ?_
  refine wp_iconst (v := 0) dX3_hasSigns_25 rfl ?_
  refine wp_istore dX3_hasSigns_26 (Nat.le_of_ble_eq_true rfl) ?_
  have e0 : bs (pmN v w 0) (v.length + 1) = 1 := by
    have : ∀ n, bs (fun i => i == 0) (n + 1) = 1 := fun n => by
      induction n with
      | zero => rfl
      | succ n ihn => unfold bs; rw [ihn]; simp
    exact this v.length
  have h := loop w.length 0 (by omega)
  rw [e0] at h
  exact wp_lv h (by repeat (first | exact trivial | refine ⟨rfl, ?_⟩))
