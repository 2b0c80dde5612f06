/-! ===== fields and arrays ===== -/
theorem clsL_ok {ci : Nat} {C : String} {T : u_T} {N : Nat} (h : clsL[ci]? = some (C, T, N)) : (∀ w ∈ u_ws C T N, w ∈ BIG) ∧ (∀ k, k < N → parseFieldDescriptor (T k).2.2.1 = some (tyL ci k)) ∧ (∀ a, a < N → ∀ b, b < N → a ≠ b → (T a).2.1 ≠ (T b).2.1) ∧ (fkL ci).length = N := by
  match ci, h with
  | 0, h => cases h; exact ⟨layX0, tyX0_ok, nmX0, rfl⟩
  | 1, h => cases h; exact ⟨layX1, tyX1_ok, nmX1, rfl⟩
  | 2, h => cases h; exact ⟨layX3, tyX3_ok, nmX3, rfl⟩
  | 3, h => cases h; exact ⟨layX4, tyX4_ok, nmX4, rfl⟩
  | 4, h => cases h; exact ⟨layX5, tyX5_ok, nmX5, rfl⟩
  | 5, h => cases h; exact ⟨layX6, tyX6_ok, nmX6, rfl⟩
  | 6, h => cases h; exact ⟨layX7, tyX7_ok, nmX7, rfl⟩
  | 7, h => cases h; exact ⟨layX8, tyX8_ok, nmX8, rfl⟩
  | 8, h => cases h; exact ⟨layX9, tyX9_ok, nmX9, rfl⟩
  | k + 9, h => simp [clsL] at h
section WPM
variable {X : MX} {kc ks pc : Nat} {lv : LV} {st : List Value} {sh : List Sh} {M : Mem}
theorem wp_getI {idx ci f o : Nat} (hd : decode X.2.1.2.2.1 pc = .ok (.getfield idx, 3)) (hf : FL X.2.1.2.1 idx ci f) (hs : sh[o]? = some (.inl ci)) (hk : (fkL ci)[f]? = some true)
    (k : Wp X kc ks (pc + 3) lv (.int (fI M o f) :: st) sh M) : Wp X kc ks pc lv (.ref o :: st) sh M := by
  intro p e R s m args below meth c H locs ad0 ad ls C ⟨hl, hw, hS, ov, os, ha, hn⟩
  obtain ⟨Cn, T, N, hc, hfN, hlink⟩ := hf
  obtain ⟨hlay, -, -, -⟩ := clsL_ok hc
  exact va_get C.1.1 C.1.2.1 C.1.2.2.2.2 hlay C.1.2.2.2.1 C.2.2.2.1.1 hw.1 o (wsOf_get hs) hc f hfN (C.1.2.2.2.2 _ hlink) (fun _ h => h) (cellFs_I hk) hd
    (k _ _ _ _ _ _ _ _ _ _ _ _ _ _ C ⟨hl, hw, hS, ov, oks_i (oks_t os), ha, hn⟩)
theorem wp_getR {idx ci f o q : Nat} (hd : decode X.2.1.2.2.1 pc = .ok (.getfield idx, 3)) (hf : FL X.2.1.2.1 idx ci f) (hs : sh[o]? = some (.inl ci)) (hk : (fkL ci)[f]? = some false) (hq : fR M o f = some q)
    (k : Wp X kc ks (pc + 3) lv (.ref q :: st) sh M) : Wp X kc ks pc lv (.ref o :: st) sh M := by
  intro p e R s m args below meth c H locs ad0 ad ls C ⟨hl, hw, hS, ov, os, ha, hn⟩
  obtain ⟨Cn, T, N, hc, hfN, hlink⟩ := hf
  obtain ⟨hlay, -, -, -⟩ := clsL_ok hc
  have hv : (cellFs ad (fkL ci) M o)[f]? = some (.ref (ad q)) := by rw [cellFs_R hk, hq]; rfl
  exact va_get C.1.1 C.1.2.1 C.1.2.2.2.2 hlay C.1.2.2.2.1 C.2.2.2.1.1 hw.1 o (wsOf_get hs) hc f hfN (C.1.2.2.2.2 _ hlink) (fun _ h => h) hv hd
    (k _ _ _ _ _ _ _ _ _ _ _ _ _ _ C ⟨hl, hw, hS, ov, oks_cons.mpr ⟨hw.2.2.1 _ _ _ hq, oks_t os⟩, ha, hn⟩)
theorem wp_putI {idx ci f o : Nat} {x : Int32} (hd : decode X.2.1.2.2.1 pc = .ok (.putfield idx, 3)) (hf : FL X.2.1.2.1 idx ci f) (hs : sh[o]? = some (.inl ci)) (hk : (fkL ci)[f]? = some true) (hfin : ∀ C T N, clsL[ci]? = some (C, T, N) → (T f).2.2.2 = false)
    (hx : narrow (tyL ci f) (.int x) = .int x) (hfit : fits (tyL ci f) (.int x) = true)
    (k : Wp X kc ks (pc + 3) lv st sh (sI M o f x)) : Wp X kc ks pc lv (.int x :: .ref o :: st) sh M := by
  intro p e R s m args below meth c H locs ad0 ad ls C ⟨hl, hw, hS, ov, os, ha, hn⟩
  obtain ⟨Cn, T, N, hc, hfN, hlink⟩ := hf
  obtain ⟨hlay, hty, hnm, hlen⟩ := clsL_ok hc
  refine va_put C.1.1 C.1.2.1 C.1.2.2.2.2 hlay (tyL ci) hty hnm C.1.2.2.2.1 C.2.2.2.1.1 hw.1 hw.2.1 hS o (wsOf_get hs) hc f hfN (C.1.2.2.2.2 _ hlink) (fun _ h => h) (hfin _ _ _ hc) (hty f hfN) hx hfit (by rw [cellFs_len]; omega) hd (fun H1 locs1 hP hD hS1 => ?_)
  rw [wsOf_set hs (M' := sI M o f x) (by simp only [cellOf, cellFs_sI hk]; rfl) (fun k s' hk' => cellOf_sI k s' hk')] at hP hD
  exact k _ _ _ _ _ _ _ _ _ _ _ _ _ _ C ⟨hl, ⟨hP, hD, hw.2.2⟩, hS1, ov, oks_t2 os, ha, hn⟩
theorem wp_putR {idx ci f o q : Nat} (hd : decode X.2.1.2.2.1 pc = .ok (.putfield idx, 3)) (hf : FL X.2.1.2.1 idx ci f) (hs : sh[o]? = some (.inl ci)) (hk : (fkL ci)[f]? = some false) (hfin : ∀ C T N, clsL[ci]? = some (C, T, N) → (T f).2.2.2 = false)
    (hx : ∀ a : Nat, narrow (tyL ci f) (.ref a) = .ref a) (hfit : ∀ a : Nat, fits (tyL ci f) (.ref a) = true)
    (k : Wp X kc ks (pc + 3) lv st sh (sR M o f (some q))) : Wp X kc ks pc lv (.ref q :: .ref o :: st) sh M := by
  intro p e R s m args below meth c H locs ad0 ad ls C ⟨hl, hw, hS, ov, os, ha, hn⟩
  obtain ⟨Cn, T, N, hc, hfN, hlink⟩ := hf
  obtain ⟨hlay, hty, hnm, hlen⟩ := clsL_ok hc
  refine va_put C.1.1 C.1.2.1 C.1.2.2.2.2 hlay (tyL ci) hty hnm C.1.2.2.2.1 C.2.2.2.1.1 hw.1 hw.2.1 hS o (wsOf_get hs) hc f hfN (C.1.2.2.2.2 _ hlink) (fun _ h => h) (hfin _ _ _ hc) (hty f hfN) (hx _) (hfit _) (by rw [cellFs_len]; omega) hd (fun H1 locs1 hP hD hS1 => ?_)
  rw [wsOf_set hs (M' := sR M o f (some q)) (by simp only [cellOf, cellFs_sR hk]; rfl) (fun k s' hk' => cellOf_sR k s' hk')] at hP hD
  exact k _ _ _ _ _ _ _ _ _ _ _ _ _ _ C ⟨hl, ⟨hP, hD, Vd_sR hw.2.2 (fun k' hk' => by cases hk'; exact (oks_cons.mp os).1)⟩, hS1, ov, oks_t2 os, ha, hn⟩
/-! final fields, in constructors -/
/-! arrays -/
theorem wp_ialoadT {o n t : Nat} {i : Int32} (ht : t = 1) (hd : decode X.2.1.2.2.1 pc = .ok (.iaload, 1)) (hs : sh[o]? = some (.inr (t, n))) (hin : vp_in i n)
    (k : Wp X kc ks (pc + 1) lv (.int (aI M o i.toNatClampNeg) :: st) sh M) : Wp X kc ks pc lv (.int i :: .ref o :: st) sh M := by
  intro p e R s m args below meth c H locs ad0 ad ls C ⟨hl, hw, hS, ov, os, ha, hn⟩
  subst ht
  exact va_iald C.1.1 C.1.2.1 C.2.2.2.1.1 hw.1 o 1 (wsOf_get hs) rfl hin hd (k _ _ _ _ _ _ _ _ _ _ _ _ _ _ C ⟨hl, hw, hS, ov, oks_i (oks_t2 os), ha, hn⟩)
theorem wp_iaload {o n : Nat} {i : Int32} (hd : decode X.2.1.2.2.1 pc = .ok (.iaload, 1)) (hs : sh[o]? = some (.inr (1, n))) (hin : vp_in i n)
    (k : Wp X kc ks (pc + 1) lv (.int (aI M o i.toNatClampNeg) :: st) sh M) : Wp X kc ks pc lv (.int i :: .ref o :: st) sh M := by
  intro p e R s m args below meth c H locs ad0 ad ls C ⟨hl, hw, hS, ov, os, ha, hn⟩
  exact va_iald C.1.1 C.1.2.1 C.2.2.2.1.1 hw.1 o 1 (wsOf_get hs) rfl hin hd (k _ _ _ _ _ _ _ _ _ _ _ _ _ _ C ⟨hl, hw, hS, ov, oks_i (oks_t2 os), ha, hn⟩)
theorem wp_baload {o n : Nat} {i : Int32} (hd : decode X.2.1.2.2.1 pc = .ok (.baload, 1)) (hs : sh[o]? = some (.inr (0, n))) (hin : vp_in i n)
    (k : Wp X kc ks (pc + 1) lv (.int (aI M o i.toNatClampNeg) :: st) sh M) : Wp X kc ks pc lv (.int i :: .ref o :: st) sh M := by
  intro p e R s m args below meth c H locs ad0 ad ls C ⟨hl, hw, hS, ov, os, ha, hn⟩
  exact va_bald C.1.1 C.1.2.1 C.2.2.2.1.1 hw.1 o 0 (wsOf_get hs) rfl hin hd (k _ _ _ _ _ _ _ _ _ _ _ _ _ _ C ⟨hl, hw, hS, ov, oks_i (oks_t2 os), ha, hn⟩)
theorem wp_zaload {o n : Nat} {i : Int32} (hd : decode X.2.1.2.2.1 pc = .ok (.baload, 1)) (hs : sh[o]? = some (.inr (3, n))) (hin : vp_in i n)
    (k : Wp X kc ks (pc + 1) lv (.int (aI M o i.toNatClampNeg) :: st) sh M) : Wp X kc ks pc lv (.int i :: .ref o :: st) sh M := by
  intro p e R s m args below meth c H locs ad0 ad ls C ⟨hl, hw, hS, ov, os, ha, hn⟩
  exact va_zald C.1.1 C.1.2.1 C.2.2.2.1.1 hw.1 o 3 (wsOf_get hs) rfl hin hd (k _ _ _ _ _ _ _ _ _ _ _ _ _ _ C ⟨hl, hw, hS, ov, oks_i (oks_t2 os), ha, hn⟩)
theorem wp_laload {o n : Nat} {i : Int32} (hd : decode X.2.1.2.2.1 pc = .ok (.laload, 1)) (hs : sh[o]? = some (.inr (2, n))) (hin : vp_in i n)
    (k : Wp X kc ks (pc + 1) lv (.long (aL M o i.toNatClampNeg) :: st) sh M) : Wp X kc ks pc lv (.int i :: .ref o :: st) sh M := by
  intro p e R s m args below meth c H locs ad0 ad ls C ⟨hl, hw, hS, ov, os, ha, hn⟩
  exact va_lald C.1.1 C.1.2.1 C.2.2.2.1.1 hw.1 o 2 (wsOf_get hs) rfl hin hd (k _ _ _ _ _ _ _ _ _ _ _ _ _ _ C ⟨hl, hw, hS, ov, oks_l (oks_t2 os), ha, hn⟩)
theorem wp_aaload {o n q : Nat} {i : Int32} (hd : decode X.2.1.2.2.1 pc = .ok (.aaload, 1)) (hs : sh[o]? = some (.inr (4, n))) (hin : vp_in i n) (hq : aR M o i.toNatClampNeg = some q)
    (k : Wp X kc ks (pc + 1) lv (.ref q :: st) sh M) : Wp X kc ks pc lv (.int i :: .ref o :: st) sh M := by
  intro p e R s m args below meth c H locs ad0 ad ls C ⟨hl, hw, hS, ov, os, ha, hn⟩
  refine va_aldq C.1.1 C.1.2.1 C.2.2.2.1.1 hw.1 o 4 (wsOf_get hs) rfl hin hd ?_
  simp only [hq]
  exact k _ _ _ _ _ _ _ _ _ _ _ _ _ _ C ⟨hl, hw, hS, ov, oks_cons.mpr ⟨hw.2.2.2 _ _ _ hq, oks_t2 os⟩, ha, hn⟩
theorem wp_iastore {o n : Nat} {i x : Int32} (hd : decode X.2.1.2.2.1 pc = .ok (.iastore, 1)) (hs : sh[o]? = some (.inr (1, n))) (hin : vp_in i n)
    (k : Wp X kc ks (pc + 1) lv st sh (sA M o i.toNatClampNeg x)) : Wp X kc ks pc lv (.int x :: .int i :: .ref o :: st) sh M := by
  intro p e R s m args below meth c H locs ad0 ad ls C ⟨hl, hw, hS, ov, os, ha, hn⟩
  refine va_iast C.1.1 C.1.2.1 C.2.2.2.1.1 hw.1 hw.2.1 hS o 1 (wsOf_get hs) rfl hin hd (fun H1 locs1 hP hD hS1 => ?_)
  rw [wsOf_set hs (M' := sA M o i.toNatClampNeg x) (by simp only [cellOf, rowI_sA]; rfl) (fun k s' hk' => cellOf_sA k s' hk')] at hP hD
  exact k _ _ _ _ _ _ _ _ _ _ _ _ _ _ C ⟨hl, ⟨hP, hD, hw.2.2⟩, hS1, ov, oks_t3 os, ha, hn⟩
theorem wp_bastore {o n : Nat} {i x : Int32} (hd : decode X.2.1.2.2.1 pc = .ok (.bastore, 1)) (hs : sh[o]? = some (.inr (0, n))) (hin : vp_in i n)
    (k : Wp X kc ks (pc + 1) lv st sh (sA M o i.toNatClampNeg (vp_nar .byte x))) : Wp X kc ks pc lv (.int x :: .int i :: .ref o :: st) sh M := by
  intro p e R s m args below meth c H locs ad0 ad ls C ⟨hl, hw, hS, ov, os, ha, hn⟩
  refine va_bast C.1.1 C.1.2.1 C.2.2.2.1.1 hw.1 hw.2.1 hS o 0 (wsOf_get hs) rfl hin hd (fun H1 locs1 hP hD hS1 => ?_)
  rw [wsOf_set hs (M' := sA M o i.toNatClampNeg (vp_nar .byte x)) (by simp only [cellOf, rowI_sA]; rfl) (fun k s' hk' => cellOf_sA k s' hk')] at hP hD
  exact k _ _ _ _ _ _ _ _ _ _ _ _ _ _ C ⟨hl, ⟨hP, hD, hw.2.2⟩, hS1, ov, oks_t3 os, ha, hn⟩
theorem wp_zastore {o n : Nat} {i x : Int32} (hd : decode X.2.1.2.2.1 pc = .ok (.bastore, 1)) (hs : sh[o]? = some (.inr (3, n))) (hin : vp_in i n)
    (k : Wp X kc ks (pc + 1) lv st sh (sA M o i.toNatClampNeg (vp_nar .boolean x))) : Wp X kc ks pc lv (.int x :: .int i :: .ref o :: st) sh M := by
  intro p e R s m args below meth c H locs ad0 ad ls C ⟨hl, hw, hS, ov, os, ha, hn⟩
  refine va_zast C.1.1 C.1.2.1 C.2.2.2.1.1 hw.1 hw.2.1 hS o 3 (wsOf_get hs) rfl hin hd (fun H1 locs1 hP hD hS1 => ?_)
  rw [wsOf_set hs (M' := sA M o i.toNatClampNeg (vp_nar .boolean x)) (by simp only [cellOf, rowI_sA]; rfl) (fun k s' hk' => cellOf_sA k s' hk')] at hP hD
  exact k _ _ _ _ _ _ _ _ _ _ _ _ _ _ C ⟨hl, ⟨hP, hD, hw.2.2⟩, hS1, ov, oks_t3 os, ha, hn⟩
theorem wp_lastore {o n : Nat} {i : Int32} {x : Int64} (hd : decode X.2.1.2.2.1 pc = .ok (.lastore, 1)) (hs : sh[o]? = some (.inr (2, n))) (hin : vp_in i n)
    (k : Wp X kc ks (pc + 1) lv st sh (sL M o i.toNatClampNeg x)) : Wp X kc ks pc lv (.long x :: .int i :: .ref o :: st) sh M := by
  intro p e R s m args below meth c H locs ad0 ad ls C ⟨hl, hw, hS, ov, os, ha, hn⟩
  refine va_last C.1.1 C.1.2.1 C.2.2.2.1.1 hw.1 hw.2.1 hS o 2 (wsOf_get hs) rfl hin hd (fun H1 locs1 hP hD hS1 => ?_)
  rw [wsOf_set hs (M' := sL M o i.toNatClampNeg x) (by simp only [cellOf, rowL_sL]; rfl) (fun k s' hk' => cellOf_sL k s' hk')] at hP hD
  exact k _ _ _ _ _ _ _ _ _ _ _ _ _ _ C ⟨hl, ⟨hP, hD, hw.2.2⟩, hS1, ov, oks_t3 os, ha, hn⟩
theorem wp_alen {o n t : Nat} (hd : decode X.2.1.2.2.1 pc = .ok (.arraylength, 1)) (hs : sh[o]? = some (.inr (t, n))) (ht : t < 5)
    (k : Wp X kc ks (pc + 1) lv (.int n.toInt32 :: st) sh M) : Wp X kc ks pc lv (.ref o :: st) sh M := by
  intro p e R s m args below meth c H locs ad0 ad ls C ⟨hl, hw, hS, ov, os, ha, hn⟩
  have kk := k _ e _ _ _ _ below _ _ _ _ _ _ _ C ⟨hl, hw, hS, ov, oks_i (oks_t os), ha, hn⟩
  match t, ht, hs with
  | 0, _, hs => exact va_alen C.1.1 C.1.2.1 C.2.2.2.1.1 hw.1 o 0 (wsOf_get hs) rfl rfl hd kk
  | 1, _, hs => exact va_alen C.1.1 C.1.2.1 C.2.2.2.1.1 hw.1 o 1 (wsOf_get hs) rfl rfl hd kk
  | 2, _, hs => exact va_alen C.1.1 C.1.2.1 C.2.2.2.1.1 hw.1 o 2 (wsOf_get hs) rfl rfl hd kk
  | 3, _, hs => exact va_alen C.1.1 C.1.2.1 C.2.2.2.1.1 hw.1 o 3 (wsOf_get hs) rfl rfl hd kk
  | 4, _, hs => exact va_alen C.1.1 C.1.2.1 C.2.2.2.1.1 hw.1 o 4 (wsOf_get hs) rfl rfl hd kk
end WPM
