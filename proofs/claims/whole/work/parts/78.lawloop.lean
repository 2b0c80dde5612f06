/-! ===== the law: its loop, its start ===== -/
set_option maxRecDepth 100000 in
set_option maxHeartbeats 4000000 in
theorem law_loop (E : GE) (hlt : E.1.stackTraces = false) {L : Nat} {xs : Nat → Int32} (hL : L ≤ 2560) : ∀ (n i : Nat) (M : Mem) (kc ks : Nat), L ≤ i + n → i ≤ L + 5 → Inv M → kc ≤ 200 + i → ks ≤ 10000 + 8 * i → Wp (xLaw E L xs) kc ks 23 [(4, .int (nI i)), (1, .ref 0), (2, .ref 121), (3, .ref 153), (0, .ref scP)] [] SH M := by
  intro n
  have done : ∀ (M : Mem) (kc ks i : Nat), i ≤ L + 5 → kc ≤ 200 + i → ks ≤ 10000 + 8 * i → Wp (xLaw E L xs) kc ks 753 [(4, .int (nI i)), (1, .ref 0), (2, .ref 121), (3, .ref 153), (0, .ref scP)] [] SH M := by
    intro M kc ks i hi hkc hks
    refine wp_iconst (v := 1) dL_law_753 rfl ?_
    exact wp_lawret dL_law_754 (by omega) (by omega)
  induction n with
  | zero =>
    intro i M kc ks hn hi hI hkc hks
    refine wp_iload dL_law_23 rfl ?_
    refine wp_aload_n dL_law_25 rfl ?_
    refine wp_slen dL_law_26 ?_
    refine wp_iconst (v := 5) dL_law_27 rfl ?_
    refine wp_isub dL_law_28 ?_
    refine wp_icmp_gt (tgt := 753) dL_law_29 (by decide) (fun c29 => ?_) (fun c29 => absurd ((len5 hL (by omega)).mpr (by omega)) c29)
    exact wp_lv (done M kc ks i hi hkc hks) (by repeat (first | exact trivial | refine ⟨rfl, ?_⟩))
  | succ n ih =>
    intro i M kc ks hn hi hI hkc hks
    refine wp_iload dL_law_23 rfl ?_
    refine wp_aload_n dL_law_25 rfl ?_
    refine wp_slen dL_law_26 ?_
    refine wp_iconst (v := 5) dL_law_27 rfl ?_
    refine wp_isub dL_law_28 ?_
    refine wp_icmp_gt (tgt := 753) dL_law_29 (by decide) (fun c29 => ?_) (fun c29 => ?_)
    · exact wp_lv (done M kc ks i hi hkc hks) (by repeat (first | exact trivial | refine ⟨rfl, ?_⟩))
    · have h5 : i + 5 ≤ L := Nat.le_of_not_lt fun z => c29 ((len5 hL (by omega)).mpr z)
      obtain ⟨tp, gn, q, o, dc, hC, hR, hk, hdc⟩ := hI
      refine wp_lv (law_call E hlt hL i h5 M tp gn q o dc hC hR hk hdc kc ks hkc hks (fun M' kc' ks' hI' h1 h2 => ?_)) (by repeat (first | exact trivial | refine ⟨rfl, ?_⟩))
      refine wp_iinc dL_law_747 rfl (i_inc5 _) (Nat.le_of_ble_eq_true rfl) ?_
      refine wp_goto (tgt := 23) dL_law_750 (by decide) ?_
      exact wp_lv (ih (i + 5) M' kc' ks' (by omega) (by omega) hI' (by omega) (by omega)) (by repeat (first | exact trivial | refine ⟨rfl, ?_⟩))
theorem tk_all : SH.take 154 = SH := by decide +kernel
theorem dcOk_0 : dcOk (fun _ => []) := fun r _ p hp => absurd hp (Nat.not_lt_zero p)
set_option maxRecDepth 100000 in
set_option maxHeartbeats 4000000 in
theorem law_start (E : GE) (hlt : E.1.stackTraces = false) {L : Nat} {xs : Nat → Int32} (hL : L ≤ 2560) (nd : Nat → ND) (M : Mem) : Wp (xLaw E L xs) 0 0 0 [(0, .ref scP)] [] (SH.take 0) M := by
  refine wp_new (ci := 7) (Cn := RX8) (T := TX8) (N := 10) dL_law_0 rfl cl_L_8 in_X8 ii_X8 (Nat.le_of_ble_eq_true rfl) (Nat.le_of_ble_eq_true rfl) (Nat.le_of_ble_eq_true rfl) ?_
  rw [tl_0, tk_0]
  refine wp_dup dL_law_3 rfl ?_
  refine wp_cI0p dL_law_4 ml_L_33 iX8_init (cX8_init_ E nd _) (Nat.le_of_ble_eq_true rfl) (Nat.le_of_ble_eq_true rfl) (Nat.le_of_ble_eq_true rfl) (Nat.le_of_ble_eq_true rfl) (Nat.le_of_ble_eq_true rfl) (fun v sh1 M2 hqq => ?_)
  obtain ⟨rfl, rfl, hC, -⟩ := hqq
  refine wp_astore_n dL_law_7 (Nat.le_of_ble_eq_true rfl) ?_
  refine wp_new (ci := 8) (Cn := RX9) (T := TX9) (N := 39) dL_law_8 rfl cl_L_34 in_X9 ii_X9 (Nat.le_of_ble_eq_true rfl) (Nat.le_of_ble_eq_true rfl) (Nat.le_of_ble_eq_true rfl) ?_
  rw [tl_121, tk_121]
  refine wp_dup dL_law_11 rfl ?_
  refine wp_cI0p dL_law_12 ml_L_36 iX9_init (cX9_init_ E nd _ (fun f => ⟨rfl, rfl⟩)) (Nat.le_of_ble_eq_true rfl) (Nat.le_of_ble_eq_true rfl) (Nat.le_of_ble_eq_true rfl) (Nat.le_of_ble_eq_true rfl) (Nat.le_of_ble_eq_true rfl) (fun v sh1 M3 hqq => ?_)
  obtain ⟨rfl, rfl, hR, hE⟩ := hqq
  refine wp_astore_n dL_law_15 (Nat.le_of_ble_eq_true rfl) ?_
  refine wp_iconst (v := 1) dL_law_16 rfl ?_
  refine wp_newarray (t := 2) (N := 1) dL_law_17 rfl (fun _ => rfl) aw2 hcLo (by decide) (by decide) (by decide) (by decide) (Nat.le_of_ble_eq_true rfl) (Nat.le_of_ble_eq_true rfl) (Nat.le_of_ble_eq_true rfl) ?_
  rw [tl_153, tk_153, tk_all]
  refine wp_astore_n dL_law_19 (Nat.le_of_ble_eq_true rfl) ?_
  refine wp_iconst (v := 0) dL_law_20 rfl ?_
  refine wp_istore dL_law_21 (Nat.le_of_ble_eq_true rfl) ?_
  have hC2 : RC (cl0 M3 153) [] [] (0, nd) none (fun _ => []) := RC_eq hC (fun p hp => ((EqP.rf.cl0 (show p ≠ 121 by omega)).tr (hE p hp)).cl0 (by omega))
  have hR2 : RM (cl0 M3 153) [] [] (0, nd) none (fun _ => []) := RM_eq hR (fun p h1 h2 => EqP.rf.cl0 (by omega))
  refine wp_lv (law_loop E hlt hL (L + 1) 0 (cl0 M3 153) _ _ (by omega) (by omega) ⟨[], [], (0, nd), none, fun _ => [], hC2, hR2, Or.inl rfl, dcOk_0⟩ (Nat.le_of_ble_eq_true rfl) (Nat.le_of_ble_eq_true rfl)) (by repeat (first | exact trivial | refine ⟨rfl, ?_⟩))
theorem arr_of {args : Array Value} {s : State} {ty : FieldType} (hno : ∀ C, ty ≠ .object C) (h : (Cond.arrayClass ty).before args s = true) : ∃ cA, ArrOfT s cA ty ∧ va_RA s cA ty := by
  obtain ⟨c, k, comp, h1, h2, h3⟩ := Cond.arrayClass_spec (show (Cond.arrayClass ty).holds args s none s [] = true from h)
  refine ⟨c, fun n z => ⟨(fun _ e => by cases e), k, h2, comp, h3⟩, ?_⟩
  cases ty with
  | object C => exact absurd rfl (hno C)
  | _ => exact h1
theorem arr_ob {args : Array Value} {s : State} {C : String} (h : (Cond.arrayOver (.object C)).before args s = true) : ∃ cA, ArrOfT s cA (.object C) ∧ va_RA s cA (.object C) := by
  obtain ⟨comp, c, k, h1, -, h2, h3, h4⟩ := Cond.arrayOver_spec (show (Cond.arrayOver (.object C)).holds args s none s [] = true from h)
  exact ⟨c, fun n z => ⟨(fun _ e => by cases e), k, h2, comp, h3⟩, k, comp, h2, h3, h1, h4⟩
set_option maxRecDepth 100000 in
set_option maxHeartbeats 4000000 in
theorem kw_start (l : Launch) {args : Array Value} {s : State} (ht : ∀ w ∈ tables_1, w.before args s = true) (hbig : ∀ w ∈ BIG, w.before args s = true) (hg : (Jvm.Cond.and given_1 narrow_1).before args s = true) : ∃ (D : va_G) (cy : Nat → ClassId), KW (l, D, cy, s.heap.size) s := by
  obtain ⟨c0, iS0, hK0⟩ := u_known (C := RX0) (T := TX0) (N := 8) (n := 8) hbig layX0 (hbig _ in_X0)
  obtain ⟨c1, iS1, hK1⟩ := u_known (C := RX1) (T := TX1) (N := 3) (n := 3) hbig layX1 (hbig _ in_X1)
  obtain ⟨c2, iS2, hK2⟩ := u_known (C := RX3) (T := TX3) (N := 1) (n := 1) hbig layX3 (hbig _ in_X3)
  obtain ⟨c3, iS3, hK3⟩ := u_known (C := RX4) (T := TX4) (N := 8) (n := 8) hbig layX4 (hbig _ in_X4)
  obtain ⟨c4, iS4, hK4⟩ := u_known (C := RX5) (T := TX5) (N := 2) (n := 2) hbig layX5 (hbig _ in_X5)
  obtain ⟨c5, iS5, hK5⟩ := u_known (C := RX6) (T := TX6) (N := 2) (n := 2) hbig layX6 (hbig _ in_X6)
  obtain ⟨c6, iS6, hK6⟩ := u_known (C := RX7) (T := TX7) (N := 2) (n := 2) hbig layX7 (hbig _ in_X7)
  obtain ⟨c7, iS7, hK7⟩ := u_known (C := RX8) (T := TX8) (N := 10) (n := 10) hbig layX8 (hbig _ in_X8)
  obtain ⟨c8, iS8, hK8⟩ := u_known (C := RX9) (T := TX9) (N := 39) (n := 39) hbig layX9 (hbig _ in_X9)
  obtain ⟨a0, hA0⟩ := arr_of (fun _ e => by cases e) (hbig _ aw0)
  obtain ⟨a1, hA1⟩ := arr_of (fun _ e => by cases e) (hbig _ aw1)
  obtain ⟨a2, hA2⟩ := arr_of (fun _ e => by cases e) (hbig _ aw2)
  obtain ⟨a3, hA3⟩ := arr_of (fun _ e => by cases e) (hbig _ aw3)
  obtain ⟨a4, hA4⟩ := arr_ob (ht (Cond.arrayOver (.object "QueryTexts$Clause")) (List.mem_of_getElem? (i := 37) (by decide +kernel)))
  have hfl := flat_of_before _ hg
  have hA : ∀ a : Nat, a < s.heap.size → ¬ inA s.heap.size a := fun a h z => by have z : s.heap.size ≤ a := z; omega
  have hT : ∀ (i : Nat) (w : Cond), tables_1[i]? = some w → w.before args s = true := fun i w h => ht w (List.mem_of_getElem? h)
  refine ⟨(fun k => if k = 0 then c0 else if k = 1 then c1 else if k = 2 then c2 else if k = 3 then c3 else if k = 4 then c4 else if k = 5 then c5 else if k = 6 then c6 else if k = 7 then c7 else c8, fun k => if k = 0 then iS0 else if k = 1 then iS1 else if k = 2 then iS2 else if k = 3 then iS3 else if k = 4 then iS4 else if k = 5 then iS5 else if k = 6 then iS6 else if k = 7 then iS7 else iS8), fun k => if k = 0 then a0 else if k = 1 then a1 else if k = 2 then a2 else if k = 3 then a3 else a4, ⟨fun k q hq => ?_, fun k q hq => ?_⟩, Nat.le_refl _, fun q hq => ?_, va_AO.of (hT 37 _ (by decide +kernel)), fun q hq => ?_, vx_Zqof (hT 607 _ (by decide +kernel)) (hT 12 _ (by decide +kernel)) (hfl _ (by decide +kernel)) hA, vx_Zqof (hT 609 _ (by decide +kernel)) (hT 12 _ (by decide +kernel)) (hfl _ (by decide +kernel)) hA, fun w hw => ?_, fun q hq => ?_⟩
  · match k, hq with
    | 0, hq => cases hq; exact hK0
    | 1, hq => cases hq; exact hK1
    | 2, hq => cases hq; exact hK2
    | 3, hq => cases hq; exact hK3
    | 4, hq => cases hq; exact hK4
    | 5, hq => cases hq; exact hK5
    | 6, hq => cases hq; exact hK6
    | 7, hq => cases hq; exact hK7
    | 8, hq => cases hq; exact hK8
    | k + 9, hq => exact absurd hq (by simp [clsL])
  · match k, hq with
    | 0, hq => cases hq; exact hA0
    | 1, hq => cases hq; exact hA1
    | 2, hq => cases hq; exact hA2
    | 3, hq => cases hq; exact hA3
    | 4, hq => cases hq; exact hA4
    | k + 5, hq => exact absurd hq (by simp [tysOf])
  · simp only [nestL, List.mem_cons, List.not_mem_nil, or_false] at hq
    rcases hq with rfl | rfl | rfl | rfl | rfl | rfl | rfl
    · exact va_Nw.of rfl (hT 39 _ (by decide +kernel))
    · exact va_Nw.of rfl (hT 117 _ (by decide +kernel))
    · exact va_Nw.of rfl (hT 124 _ (by decide +kernel))
    · exact va_Nw.of rfl (hT 152 _ (by decide +kernel))
    · exact va_Nw.of rfl (hT 165 _ (by decide +kernel))
    · exact va_Nw.of rfl (hT 171 _ (by decide +kernel))
    · exact va_Nw.of rfl (hT 184 _ (by decide +kernel))
  · obtain ⟨cur, k8, hcur, -⟩ := Cond.instantiable_spec (hbig _ in_X8)
    have key : ∀ (i : Nat) (tx : String), (Cond.stringRef RX8 i tx).before args s = true → ∃ a, vk_R RX8 i tx a s := fun i tx h => by
      obtain ⟨_, _, _, a, _, _, _, _, _, hev⟩ := Cond.stringRef_spec hcur h
      exact ⟨a, vk_R.of h hev⟩
    simp only [strL, List.mem_cons, List.not_mem_nil, or_false] at hq
    rcases hq with rfl | rfl | rfl | rfl | rfl | rfl
    · exact key _ _ (hT 680 _ (by decide +kernel))
    · exact key _ _ (hT 705 _ (by decide +kernel))
    · exact key _ _ (hT 709 _ (by decide +kernel))
    · exact key _ _ (hT 748 _ (by decide +kernel))
    · exact key _ _ (hT 757 _ (by decide +kernel))
    · exact key _ _ (hT 781 _ (by decide +kernel))
  · obtain ⟨h1, h2⟩ := List.mem_filter.mp hw
    exact va_Nw.of (oth_tab h2) (ht w h1)
  · simp only [ncL, List.mem_cons, List.not_mem_nil, or_false] at hq
    rcases hq with rfl | rfl
    · exact va_Nc.of (args := args) (hfl _ (by decide +kernel))
    · exact va_Nc.of (args := args) (hfl _ (by decide +kernel))
