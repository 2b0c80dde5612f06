/-! ===== constructors ===== -/
theorem aw0 : Cond.arrayClass .byte ∈ BIG := big_t (i := 101) (by decide +kernel) (by decide +kernel)
theorem aw1 : Cond.arrayClass .int ∈ BIG := big_t (i := 102) (by decide +kernel) (by decide +kernel)
theorem aw2 : Cond.arrayClass .long ∈ BIG := big_t (i := 103) (by decide +kernel) (by decide +kernel)
theorem aw3 : Cond.arrayClass .boolean ∈ BIG := big_t (i := 914) (by decide +kernel) (by decide +kernel)
theorem oI1 : Cond.instanceMethod Lib.objectInit ∈ BIG := big_t (i := 28) (by decide +kernel) (by decide +kernel)
theorem oI2 : Cond.code Lib.objectInit ⟨#[0xb1]⟩ 1 none ∈ BIG := big_t (i := 29) (by decide +kernel) (by decide +kernel)
theorem hcI {t N : Nat} {ty : FieldType} (h2 : t ≠ 2) (h4 : t ≠ 4) (hd : defaultValue ty = .int 0) : ∀ (cy : Nat → ClassId) (ad : Nat → Nat) (M : Mem) (p : Nat) (cA : ClassId), (∀ i, aI M p i = 0 ∧ aL M p i = 0) → ∃ a0, cellOf cy ad M p (.inr (t, N)) = .inl (cy t, a0) ∧ vp_cell cA a0 = arrV cA N (fun _ => defaultValue ty) := by
  intro cy ad M p cA h
  refine ⟨(N, .inl (aI M p)), ?_, ?_⟩
  · show Sum.inl (cy t, N, if t = 2 then _ else if t = 4 then _ else _) = _
    rw [if_neg h2, if_neg h4]
  · rw [vp_cell_i, hd]
    congr 1
    funext j
    rw [(h j).1]
theorem hcLo {N : Nat} : ∀ (cy : Nat → ClassId) (ad : Nat → Nat) (M : Mem) (p : Nat) (cA : ClassId), (∀ i, aI M p i = 0 ∧ aL M p i = 0) → ∃ a0, cellOf cy ad M p (.inr (2, N)) = .inl (cy 2, a0) ∧ vp_cell cA a0 = arrV cA N (fun _ => defaultValue .long) := by
  intro cy ad M p cA h
  refine ⟨(N, .inr (.inl (aL M p))), rfl, ?_⟩
  rw [vp_cell_l]
  congr 1
  funext j
  rw [(h j).2]; rfl
theorem EqP.cl0 {M M1 : Mem} {p n : Nat} (h : EqP M M1 p) (hn : p ≠ n) : EqP M (cl0 M1 n) p :=
  ⟨fun f => by rw [fI_cl0, if_neg hn]; exact h.1 f, fun f => by rw [fR_cl0, if_neg hn]; exact h.2.1 f, fun i => by rw [aI_cl0, if_neg hn]; exact h.2.2.1 i, fun i => by rw [aL_cl0, if_neg hn]; exact h.2.2.2.1 i, fun i => by rw [aR_cl0, if_neg hn]; exact h.2.2.2.2 i⟩
theorem EqP.sG {M M1 : Mem} {p q i : Nat} {x : Option Nat} (h : EqP M M1 p) (hn : p ≠ q) : EqP M (sG M1 q i x) p :=
  ⟨h.1, h.2.1, h.2.2.1, h.2.2.2.1, fun j => by rw [aR_sG, if_neg (fun z => hn z.1)]; exact h.2.2.2.2 j⟩
theorem wp_cN0p {X : MX} {kc ks pc : Nat} {lv : LV} {rest : List Value} {sh : List Sh} {M : Mem} {idx b d1 mc1 ms1 : Nat} {m1 : MM} {Post : PT} (hd : decode X.2.1.2.2.1 pc = .ok (.invokespecial idx, 3)) (hl : (X.2.1.2.1, idx, m1.1) ∈ nestL) (hv : MI m1 0) (hs : Sp X.1 m1 d1 mc1 ms1 [.ref b] sh M Post) (hdd : d1 + 1 ≤ X.2.2.1) (hmx : m1.2.2.2.1 ≤ 21) (hW : (rest.map fun v => v.category).sum ≤ 8) (hc1 : kc + mc1 ≤ X.2.2.2.1) (hc2 : ks + ms1 ≤ X.2.2.2.2.1)
    (k : ∀ (v : Option Value) (sh' : List Sh) (M' : Mem), Post v sh' M' → Wp X (kc + mc1) (ks + ms1) (pc + 3) lv (v.toList ++ rest) sh' M') : Wp X kc ks pc lv (.ref b :: rest) sh M :=
  wp_callIN (n := 0) (As := []) (rest := rest) hd hl hv rfl hs hdd hmx hW hc1 hc2 k
theorem getE_app {sh : List Sh} {c : Nat} {x : Sh} (h : sh[c]? = some x) (l : List Sh) : (sh ++ l)[c]? = some x := by
  rw [List.getElem?_append_left (List.getElem?_eq_some_iff.mp h).1]; exact h
theorem lt_of_E {sh : List Sh} {c : Nat} {x : Sh} (h : sh[c]? = some x) : c < sh.length := (List.getElem?_eq_some_iff.mp h).1
set_option maxRecDepth 100000 in
set_option maxHeartbeats 4000000 in
theorem cX0_init_ (E : GE) (c : Nat) (sh : List Sh) (M : Mem) (hc : sh[c]? = some (.inl 0)) (hn : sh.length < 900000) : Sp E mX0_init 1 1 5 [.ref c] sh M (fun v sh1 M1 => v = none ∧ sh1 = sh ++ [.inr (2, 5)] ∧ fR M1 c 7 = some sh.length ∧ ∀ p, p < sh.length → p ≠ c → EqP M M1 p) := by
  refine sp_of iX0_init.1 rfl (Nat.le_of_ble_eq_true rfl) ?_
  have hlt := lt_of_E hc
  refine wp_aload_n dX0_init_0 rfl ?_
  refine wp_objInit dX0_init_1 ml_X0_3 oI1 oI2 (Nat.le_of_ble_eq_true rfl) (Nat.le_of_ble_eq_true rfl) ?_
  refine wp_aload_n dX0_init_4 rfl ?_
  refine wp_iconst (v := 0) dX0_init_5 rfl ?_
  refine wp_putI dX0_init_6 fl_X0_9 hc rfl (fun _ _ _ h => by cases h; rfl) rfl rfl ?_
  refine wp_aload_n dX0_init_9 rfl ?_
  refine wp_iconst (v := 0) dX0_init_10 rfl ?_
  refine wp_putI dX0_init_11 fl_X0_15 hc rfl (fun _ _ _ h => by cases h; rfl) rfl rfl ?_
  refine wp_aload_n dX0_init_14 rfl ?_
  refine wp_iconst (v := 1) dX0_init_15 rfl ?_
  refine wp_putI dX0_init_16 fl_X0_18 hc rfl (fun _ _ _ h => by cases h; rfl) rfl rfl ?_
  refine wp_aload_n dX0_init_19 rfl ?_
  refine wp_iconst (v := (-1)) dX0_init_20 rfl ?_
  refine wp_putI dX0_init_21 fl_X0_21 hc rfl (fun _ _ _ h => by cases h; rfl) rfl rfl ?_
  refine wp_aload_n dX0_init_24 rfl ?_
  refine wp_iconst (v := 0) dX0_init_25 rfl ?_
  refine wp_putI dX0_init_26 fl_X0_24 hc rfl (fun _ _ _ h => by cases h; rfl) rfl rfl ?_
  refine wp_aload_n dX0_init_29 rfl ?_
  refine wp_iconst (v := 0) dX0_init_30 rfl ?_
  refine wp_putI dX0_init_31 fl_X0_27 hc rfl (fun _ _ _ h => by cases h; rfl) rfl rfl ?_
  refine wp_aload_n dX0_init_34 rfl ?_
  refine wp_iconst (v := (-1)) dX0_init_35 rfl ?_
  refine wp_putI dX0_init_36 fl_X0_30 hc rfl (fun _ _ _ h => by cases h; rfl) rfl rfl ?_
  refine wp_aload_n dX0_init_39 rfl ?_
  refine wp_iconst (v := 5) dX0_init_40 rfl ?_
  refine wp_newarray (t := 2) (N := 5) dX0_init_41 rfl (fun _ => rfl) aw2 hcLo (by decide) (by decide) (by decide) (by decide) (by omega) (Nat.le_of_ble_eq_true rfl) (Nat.le_of_ble_eq_true rfl) ?_
  refine wp_putFR dX0_init_43 fl_X0_33 (getE_app hc _) rfl (fun _ _ _ h => by cases h; exact ⟨rfl, rfl⟩) rfl (fun _ => rfl) (fun _ => rfl) ?_
  refine wp_ret0 dX0_init_46 rfl (Nat.le_refl _) (Nat.le_refl _) ?_
  refine ⟨rfl, rfl, ?_, fun p h1 h2 => ?_⟩
  · rw [fR_sR, if_pos ⟨rfl, rfl⟩]
  · exact ((((((((EqP.rf.sI h2).sI h2).sI h2).sI h2).sI h2).sI h2).sI h2).cl0 (by omega)).sR h2
def trI : Nat → List Sh
  | 0 => []
  | i + 1 => (trI i ++ [.inl 0]) ++ [.inr (2, 5)]
theorem trI_len : ∀ i, (trI i).length = 2 * i
  | 0 => rfl
  | i + 1 => by show ((trI i ++ [Sum.inl 0]) ++ [Sum.inr (2, 5)]).length = _; rw [List.length_append, List.length_append, trI_len i]; simp; omega
def trSh : List Sh := .inr (4, 25) :: trI 25
set_option maxRecDepth 100000 in
set_option maxHeartbeats 4000000 in
theorem cX7_init_ (E : GE) (T : Nat) (sh : List Sh) (M : Mem) (hT : sh[T]? = some (.inl 6)) (hlen : sh.length = T + 1) (hT9 : T < 1000) : Sp E mX7_init 2 51 350 [.ref T] sh M (fun v sh1 M1 => v = none ∧ sh1 = sh ++ trSh ∧ rcTr M1 T ∧ fI M1 T 1 = 0 ∧ ∀ p, p < T → EqP M M1 p) := by
  refine sp_of iX7_init.1 rfl (Nat.le_of_ble_eq_true rfl) ?_
  have hlt := lt_of_E hT
  have loop : ∀ (r i : Nat) (M1 : Mem), i + r = 25 → fR M1 T 0 = some (T + 1) → fI M1 T 1 = 0 → (∀ k, k < i → aR M1 (T + 1) k = some (T + 2 + 2 * k) ∧ fR M1 (T + 2 + 2 * k) 7 = some (T + 2 + 2 * k + 1)) → (∀ p, p < T → EqP M M1 p) → ∀ shi, shi = (sh ++ [.inr (4, 25)]) ++ trI i → Wp (xM E mX7_init 2 51 350 sh.length (fun v sh1 M1 => v = none ∧ sh1 = sh ++ trSh ∧ rcTr M1 T ∧ fI M1 T 1 = 0 ∧ ∀ p, p < T → EqP M M1 p)) (1 + 2 * i) (25 + 13 * i) 20 [(1, .int (nI i)), (0, .ref T)] [] shi M1 := by
    intro r
    induction r with
    | zero =>
      intro i M1 hi hr h1 hk he shi hshi
      have hi : i = 25 := by omega
      subst hi
      have hsT : shi[T]? = some (.inl 6) := by rw [hshi, List.append_assoc]; exact getE_app hT _
      have hsA : shi[T + 1]? = some (.inr (4, 25)) := by
        rw [hshi, List.append_assoc, List.getElem?_append_right (by omega), hlen, Nat.sub_self]; rfl
      refine wp_iload_n dX7_init_20 rfl ?_
      refine wp_aload_n dX7_init_21 rfl ?_
      refine wp_getR dX7_init_22 fl_X7_11 hsT rfl hr ?_
      refine wp_alen dX7_init_25 hsA (Nat.le_of_ble_eq_true rfl) ?_
      refine wp_icmp_ge (tgt := 48) dX7_init_26 (by decide) (fun c26 => ?_) (fun c26 => absurd (show (25 : Int32) ≤ nI 25 by decide) c26)
      refine wp_ret0 dX7_init_48 rfl (by show _ ≤ 51; omega) (by show _ ≤ 350; omega) ?_
      refine ⟨rfl, ?_, ⟨hr, fun k h => (hk k h).1, fun k h => (hk k h).2⟩, h1, he⟩
      rw [hshi, List.append_assoc]; rfl
    | succ r ih =>
      intro i M1 hi hr h1 hk he shi hshi
      have hi25 : i < 25 := by omega
      have hsT : shi[T]? = some (.inl 6) := by rw [hshi, List.append_assoc]; exact getE_app hT _
      have hsA : shi[T + 1]? = some (.inr (4, 25)) := by
        rw [hshi, List.append_assoc, List.getElem?_append_right (by omega), hlen, Nat.sub_self]; rfl
      have hsl : shi.length = T + 2 + 2 * i := by
        rw [hshi]; simp only [List.length_append, List.length_cons, List.length_nil, trI_len]; omega
      have hsn : (shi ++ [.inl 0])[shi.length]? = some (.inl 0) := by
        rw [List.getElem?_append_right (Nat.le_refl _), Nat.sub_self]; rfl
      refine wp_iload_n dX7_init_20 rfl ?_
      refine wp_aload_n dX7_init_21 rfl ?_
      refine wp_getR dX7_init_22 fl_X7_11 hsT rfl hr ?_
      refine wp_alen dX7_init_25 hsA (Nat.le_of_ble_eq_true rfl) ?_
      refine wp_icmp_ge (tgt := 48) dX7_init_26 (by decide) (fun c26 => absurd c26 (nI_ge (b := 25) hi25 (by decide))) (fun c26 => ?_)
      refine wp_aload_n dX7_init_29 rfl ?_
      refine wp_getR dX7_init_30 fl_X7_11 hsT rfl hr ?_
      refine wp_iload_n dX7_init_33 rfl ?_
      refine wp_new (ci := 0) (Cn := RX0) (T := TX0) (N := 8) dX7_init_34 rfl cl_X7_9 in_X0 ii_X0 (by rw [hsl]; omega) (by show _ ≤ 51; omega) (by show _ ≤ 350; omega) ?_
      refine wp_dup dX7_init_37 rfl ?_
      refine wp_cN0p dX7_init_38 (List.mem_of_getElem? (i := 0) rfl) iX0_init (cX0_init_ E shi.length (shi ++ [.inl 0]) (cl0 M1 shi.length) hsn (by rw [List.length_append, hsl]; simp; omega)) (Nat.le_of_ble_eq_true rfl) (Nat.le_of_ble_eq_true rfl) (Nat.le_of_ble_eq_true rfl) (by show _ ≤ 51; omega) (by show _ ≤ 350; omega) (fun v sh1 M2 hqq => ?_)
      obtain ⟨rfl, rfl, q1, q2⟩ := hqq
      refine wp_aastore dX7_init_41 (getE_app (getE_app hsA _) _) (getE_app hsn _) (vp_in_nI hi25 (by decide)) ?_
      refine wp_iinc dX7_init_42 rfl (i_inc _) (Nat.le_of_ble_eq_true rfl) ?_
      refine wp_goto (tgt := 20) dX7_init_45 (by decide) ?_
      rw [nI_clamp (show i < 2 ^ 31 by omega)]
      have hln : (shi ++ [Sum.inl 0]).length = shi.length + 1 := by rw [List.length_append]; rfl
      have e1 : ∀ p, p < shi.length → EqP M1 M2 p := fun p hp => (EqP.rf.cl0 (by omega)).tr (q2 p (by rw [hln]; omega) (by omega))
      have h := ih (i + 1) (sG M2 (T + 1) i (some shi.length)) (by omega) (((e1 T (by omega)).2.1 0).trans hr) (((e1 T (by omega)).1 1).trans h1) (fun k hk1 => by
        rw [aR_sG]
        by_cases z : k = i
        · rw [if_pos ⟨rfl, z⟩, z]
          refine ⟨by rw [hsl], ?_⟩
          rw [hln, hsl] at q1
          exact q1
        · rw [if_neg (fun w => z w.2)]
          exact ⟨((e1 (T + 1) (by omega)).2.2.2.2 k).trans (hk k (by omega)).1, ((e1 (T + 2 + 2 * k) (by omega)).2.1 7).trans (hk k (by omega)).2⟩) (fun p hp => ((he p hp).tr (e1 p (by omega))).sG (by omega)) ((shi ++ [.inl 0]) ++ [.inr (2, 5)]) (by rw [hshi]; show _ = _ ++ ((trI i ++ [Sum.inl 0]) ++ [Sum.inr (2, 5)]); simp only [List.append_assoc])
      rw [show 1 + 2 * (i + 1) = 1 + 2 * i + 1 + 1 by omega, show 25 + 13 * (i + 1) = 25 + 13 * i + 8 + 5 by omega] at h
      exact wp_lv h (by repeat (first | exact trivial | refine ⟨rfl, ?_⟩))
  refine wp_aload_n dX7_init_0 rfl ?_
  refine wp_objInit dX7_init_1 ml_X7_3 oI1 oI2 (Nat.le_of_ble_eq_true rfl) (Nat.le_of_ble_eq_true rfl) ?_
  refine wp_aload_n dX7_init_4 rfl ?_
  refine wp_bipush (v := 25) dX7_init_5 (by decide) ?_
  refine wp_anewarray (N := 25) dX7_init_7 cl_X7_9 (by decide) (by decide) (by decide) (by omega) (by show _ ≤ 51; omega) (by show _ ≤ 350; omega) ?_
  refine wp_putFR dX7_init_10 fl_X7_11 (getE_app hT _) rfl (fun _ _ _ h => by cases h; exact ⟨rfl, rfl⟩) rfl (fun _ => rfl) (fun _ => rfl) ?_
  refine wp_aload_n dX7_init_13 rfl ?_
  refine wp_iconst (v := 0) dX7_init_14 rfl ?_
  refine wp_putI dX7_init_15 fl_X7_17 (getE_app hT _) rfl (fun _ _ _ h => by cases h; rfl) rfl rfl ?_
  refine wp_iconst (v := 0) dX7_init_18 rfl ?_
  refine wp_istore_n dX7_init_19 (Nat.le_of_ble_eq_true rfl) ?_
  refine wp_lv (loop 25 0 _ (by omega) ?_ ?_ (fun k hk => absurd hk (Nat.not_lt_zero k)) (fun p hp => ((EqP.rf.cl0 (by omega)).sR (by omega)).sI (by omega)) _ (by simp [trI])) (by repeat (first | exact trivial | refine ⟨rfl, ?_⟩))
  · show fR (sI (sR (cl0 M sh.length) T 0 (some sh.length)) T 1 0) T 0 = some (T + 1)
    rw [fR_sI, fR_sR, if_pos ⟨rfl, rfl⟩, hlen]
  · rw [fI_sI, if_pos ⟨rfl, rfl⟩]
