/-! ===== making objects and arrays ===== -/
def cl0 (M : Mem) (n : Nat) : Mem := (fun a b => if a = n then 0 else M.1 a b, fun a b => if a = n then none else M.2.1 a b, fun a b => if a = n then 0 else M.2.2.1 a b, fun a b => if a = n then 0 else M.2.2.2.1 a b, fun a b => if a = n then none else M.2.2.2.2 a b)
theorem fI_cl0 (M : Mem) (n q g : Nat) : fI (cl0 M n) q g = if q = n then 0 else fI M q g := rfl
theorem fR_cl0 (M : Mem) (n q g : Nat) : fR (cl0 M n) q g = if q = n then none else fR M q g := rfl
theorem aI_cl0 (M : Mem) (n q g : Nat) : aI (cl0 M n) q g = if q = n then 0 else aI M q g := rfl
theorem aL_cl0 (M : Mem) (n q g : Nat) : aL (cl0 M n) q g = if q = n then 0 else aL M q g := rfl
theorem aR_cl0 (M : Mem) (n q g : Nat) : aR (cl0 M n) q g = if q = n then none else aR M q g := rfl
theorem Vd_cl0 {n n' : Nat} {M : Mem} (v : Vd n M) : Vd n (cl0 M n') := by
  refine ⟨fun p f k e => ?_, fun p f k e => ?_⟩
  · rw [fR_cl0] at e
    split at e
    · cases e
    · exact v.1 p f k e
  · rw [aR_cl0] at e
    split at e
    · cases e
    · exact v.2 p f k e
def adP (ad : Nat → Nat) (n q : Nat) : Nat → Nat := fun k => if k = n then q else ad k
theorem adP_self (ad : Nat → Nat) (n q : Nat) : adP ad n q n = q := if_pos rfl
theorem adP_ok {ad : Nat → Nat} {n q k : Nat} (hn : n < 1000000) (h : okp n k) : adP ad n q k = ad k := if_neg (by unfold okp at h; omega)
theorem map_adP {ad : Nat → Nat} {n q : Nat} {o : Option Nat} (hn : n < 1000000) (h : ∀ k, o = some k → okp n k) : o.map (adP ad n q) = o.map ad := by
  cases o with
  | none => rfl
  | some k => exact congrArg some (adP_ok hn (h k rfl))
theorem cellOf_push {cy : Nat → ClassId} {ad : Nat → Nat} {n q : Nat} {M : Mem} (hv : Vd n M) (hn : n < 1000000) (k : Nat) (s : Sh) (hk : k ≠ n) : cellOf cy (adP ad n q) (cl0 M n) k s = cellOf cy ad M k s := by
  cases s with
  | inl c =>
    simp only [cellOf, cellFs, fI_cl0, fR_cl0, hk, if_false]
    congr 3
    funext j b
    rw [map_adP hn (fun k' e => hv.1 _ _ _ e)]
  | inr t =>
    have e1 : aL (cl0 M n) k = aL M k := by funext j; simp [aL_cl0, hk]
    have e2 : aI (cl0 M n) k = aI M k := by funext j; simp [aI_cl0, hk]
    have e3 : (fun i => (aR (cl0 M n) k i).map (adP ad n q)) = fun i => (aR M k i).map ad := by
      funext j
      simp only [aR_cl0, hk, if_false]
      exact map_adP hn (fun k' e => hv.2 _ _ _ e)
    simp only [cellOf, e1, e2, e3]
theorem wsOf_push {cy : Nat → ClassId} {ad : Nat → Nat} {sh : List Sh} {q : Nat} {M : Mem} {s : Sh} (hv : Vd sh.length M) (hn : sh.length < 1000000) :
    wsOf cy ad sh M ++ [(q, cellOf cy (adP ad sh.length q) (cl0 M sh.length) sh.length s)] = wsOf cy (adP ad sh.length q) (sh ++ [s]) (cl0 M sh.length) := by
  have e1 : wsOf cy (adP ad sh.length q) sh (cl0 M sh.length) = wsOf cy ad sh M := by
    apply List.ext_getElem?
    intro k
    simp only [wsOf, List.getElem?_mapIdx]
    cases hs : sh[k]? with
    | none => rfl
    | some s' =>
      have hk : k < sh.length := (List.getElem?_eq_some_iff.mp hs).1
      simp only [Option.map_some, cellOf_push hv hn k s' (by omega), adP_ok hn (Or.inl hk)]
  unfold wsOf at *
  rw [List.mapIdx_concat, e1, adP_self]
theorem kindOK {ci : Nat} {C : String} {T : u_T} {N : Nat} (h : clsL[ci]? = some (C, T, N)) (ad : Nat → Nat) (M : Mem) (p : Nat) (hz : ∀ f, fI M p f = 0 ∧ fR M p f = none) : ∀ j, j < N → defaultValue (tyL ci j) = vp_V (cellFs ad (fkL ci) M p) j := by
  intro j hj
  have hlen := (clsL_ok h).2.2.2
  obtain ⟨b, hb⟩ : ∃ b, (fkL ci)[j]? = some b := ⟨(fkL ci)[j]'(by omega), List.getElem?_eq_getElem _⟩
  have hd : defaultValue (tyL ci j) = if b then .int 0 else .null := by
    clear hz hlen
    match ci, h, j, hj, hb with
    | 0, h, j, hj, hb => cases h; exact (show ∀ j, j < 8 → ∀ b, (fkL 0)[j]? = some b → defaultValue (tyL 0 j) = if b then .int 0 else .null by decide +kernel) j hj b hb
    | 1, h, j, hj, hb => cases h; exact (show ∀ j, j < 3 → ∀ b, (fkL 1)[j]? = some b → defaultValue (tyL 1 j) = if b then .int 0 else .null by decide +kernel) j hj b hb
    | 2, h, j, hj, hb => cases h; exact (show ∀ j, j < 1 → ∀ b, (fkL 2)[j]? = some b → defaultValue (tyL 2 j) = if b then .int 0 else .null by decide +kernel) j hj b hb
    | 3, h, j, hj, hb => cases h; exact (show ∀ j, j < 8 → ∀ b, (fkL 3)[j]? = some b → defaultValue (tyL 3 j) = if b then .int 0 else .null by decide +kernel) j hj b hb
    | 4, h, j, hj, hb => cases h; exact (show ∀ j, j < 2 → ∀ b, (fkL 4)[j]? = some b → defaultValue (tyL 4 j) = if b then .int 0 else .null by decide +kernel) j hj b hb
    | 5, h, j, hj, hb => cases h; exact (show ∀ j, j < 2 → ∀ b, (fkL 5)[j]? = some b → defaultValue (tyL 5 j) = if b then .int 0 else .null by decide +kernel) j hj b hb
    | 6, h, j, hj, hb => cases h; exact (show ∀ j, j < 2 → ∀ b, (fkL 6)[j]? = some b → defaultValue (tyL 6 j) = if b then .int 0 else .null by decide +kernel) j hj b hb
    | 7, h, j, hj, hb => cases h; exact (show ∀ j, j < 10 → ∀ b, (fkL 7)[j]? = some b → defaultValue (tyL 7 j) = if b then .int 0 else .null by decide +kernel) j hj b hb
    | 8, h, j, hj, hb => cases h; exact (show ∀ j, j < 39 → ∀ b, (fkL 8)[j]? = some b → defaultValue (tyL 8 j) = if b then .int 0 else .null by decide +kernel) j hj b hb
    | k + 9, h, _, _, _ => simp [clsL] at h
  rw [hd]
  cases b with
  | true => simp [vp_V, List.getD, cellFs_I hb, (hz j).1]
  | false => simp [vp_V, List.getD, cellFs_R hb, (hz j).2, va_rf]
section WPN
variable {X : MX} {kc ks pc : Nat} {lv : LV} {st rest : List Value} {sh : List Sh} {M : Mem}
theorem dy_push {s : State} {ad0 : Nat → Nat} {H H1 : Heap} {locs : List Loc} {ad : Nat → Nat} {ls : Array Slot} {q : Nat} {sn : Sh} {st' : List Value} (D : Dy X s ad0 lv st sh M H locs ad ls) (hn : sh.length < 1000000)
    (hP : va_P X.1.2.1 clsL (wsOf X.1.2.2.1 (adP ad sh.length q) (sh ++ [sn]) (cl0 M sh.length)) H1) (hD : va_D (inA X.1.2.2.2) (wsOf X.1.2.2.1 (adP ad sh.length q) (sh ++ [sn]) (cl0 M sh.length))) (hS : va_S (inA X.1.2.2.2) s.heap H1 locs) (hst : oks sh.length st') :
    Dy X s ad0 lv (.ref sh.length :: st') (sh ++ [sn]) (cl0 M sh.length) H1 locs (adP ad sh.length q) ls := by
  obtain ⟨hl, hw, -, ov, os, ha, hnn⟩ := D
  have hle : sh.length ≤ (sh ++ [sn]).length := by simp
  refine ⟨by rw [clv_eq (n := sh.length) (fun k h => adP_ok hn h) ov]; exact hl, ⟨hP, hD, (Vd_cl0 hw.2.2).mono hle⟩, hS, fun q hq => okv_mono hle (ov q hq), oks_cons.mpr ⟨Or.inl (by simp), oks_mono hle hst⟩, fun k hk => ?_, Nat.le_trans hnn hle⟩
  rw [adP_ok hn (okp_mono hnn hk)]
  exact ha k hk
theorem hA_of {X : MX} {p : Program} {R : Room} {s : State} {m : MethodId} {args : Array Value} {meth : Method} {c : Code} (C : Cx X p R s m args meth c) : ∀ q, s.heap.size ≤ q → inA X.1.2.2.2 q := fun q h => Nat.le_trans C.2.2.2.1.2.1 h
theorem wp_new {idx ci N : Nat} {Cn : String} {T : u_T} (hd : decode X.2.1.2.2.1 pc = .ok (.new idx, 3)) (hc : clsL[ci]? = some (Cn, T, N)) (h1 : Cond.classLink X.2.1.2.1 idx Cn ∈ BIG) (h2 : Cond.instantiable Cn N ∈ BIG) (h3 : Cond.initialized Cn ∈ BIG)
    (hn : sh.length < 1000000) (hc1 : kc + 1 ≤ X.2.2.2.1) (hc2 : ks + N ≤ X.2.2.2.2.1)
    (k : Wp X (kc + 1) (ks + N) (pc + 3) lv (.ref sh.length :: st) (sh ++ [.inl ci]) (cl0 M sh.length)) : Wp X kc ks pc lv st sh M := by
  intro p e R s m args below meth c H locs ad0 ad ls C D
  obtain ⟨hl, hw, hS, ov, os, ha, hnn⟩ := id D
  obtain ⟨hlay, hty, hnm, hlen⟩ := clsL_ok hc
  refine va_new (fs := cellFs ad (fkL ci) (cl0 M sh.length) sh.length) C.1.1 C.1.2.1 C.1.2.2.2.2 hlay (tyL ci) hty C.1.2.2.2.1 (C.1.2.2.2.2 _ h1) (C.1.2.2.2.2 _ h2) (C.1.2.2.2.2 _ h3) C.2.2.2.1.1 hw.1 hw.2.1 hS (hA_of C) hc
    (kindOK hc ad _ _ (fun f => by simp [fI_cl0, fR_cl0])) (by rw [C.2.2.2.2.2.2.1]; exact hc1) (by rw [C.2.2.2.2.2.2.2.1]; exact hc2) hd (fun q H1 hP hD hS1 => ?_)
  have e0 : cellFs ad (fkL ci) (cl0 M sh.length) sh.length = cellFs (adP ad sh.length q) (fkL ci) (cl0 M sh.length) sh.length := by
    simp only [cellFs, fR_cl0, if_true, Option.map_none]
  have e1 := wsOf_push (cy := X.1.2.2.1) (ad := ad) (q := q) (s := .inl ci) hw.2.2 hn
  simp only [cellOf, ← e0] at e1
  rw [e1] at hP hD
  have kk := k p e R s m args below meth c H1 locs ad0 (adP ad sh.length q) ls C (dy_push D hn hP hD hS1 os)
  have e2 : (Value.ref sh.length :: st).map (cv (adP ad sh.length q)) = Value.ref q :: st.map (cv ad) := by
    rw [List.map_cons, cvs_eq (n := sh.length) (fun k h => adP_ok hn h) os]
    simp [cv, adP_self]
  rw [e2] at kk
  exact kk
theorem cyArr {cy : Nat → ClassId} {D : va_G} {s : State} (hK : va_K D clsL (tysOf cy) s) {t : Nat} {ty : FieldType} (ht : (tysOf cy)[t]? = some (cy t, ty)) {cA : ClassId} (hA : va_RA s cA ty) : cA = cy t := by
  have h := (hK.2 t _ ht).2
  cases ty <;> first
    | (obtain ⟨_, _, _, _, _, h⟩ := h; obtain ⟨_, _, _, _, _, hA⟩ := hA; exact Option.some.inj (hA.symm.trans h))
    | exact Option.some.inj ((show s.vm.findClass _ = some cA from hA).symm.trans (show s.vm.findClass _ = some (cy t) from h))
theorem wp_newarray {at' : ArrayType} {t N : Nat} {n : Int32} {ty : FieldType} (hd : decode X.2.1.2.2.1 pc = .ok (.newarray at', 2)) (hty : newarray.typeOf at' = ty) (ht : ∀ cy : Nat → ClassId, (tysOf cy)[t]? = some (cy t, ty)) (h1 : Cond.arrayClass (newarray.typeOf at') ∈ BIG)
    (hcell : ∀ (cy : Nat → ClassId) (ad : Nat → Nat) (M : Mem) (p : Nat) (cA : ClassId), (∀ i, aI M p i = 0 ∧ aL M p i = 0) → ∃ a0, cellOf cy ad M p (.inr (t, N)) = .inl (cy t, a0) ∧ vp_cell cA a0 = arrV cA N (fun _ => defaultValue ty)) (ht4 : t ≠ 4)
    (h0 : ¬ n < 0) (hN : n.toNatClampNeg = N) (hby : N * componentBytes ty ≤ 536870912) (hn : sh.length < 1000000) (hc1 : kc + 1 ≤ X.2.2.2.1) (hc2 : ks + N ≤ X.2.2.2.2.1)
    (k : Wp X (kc + 1) (ks + N) (pc + 2) lv (.ref sh.length :: st) (sh ++ [.inr (t, N)]) (cl0 M sh.length)) : Wp X kc ks pc lv (.int n :: st) sh M := by
  intro p e R s m args below meth c H locs ad0 ad ls C D
  obtain ⟨hl, hw, hS, ov, os, ha, hnn⟩ := id D
  have hz : ∀ i, aI (cl0 M sh.length) sh.length i = 0 ∧ aL (cl0 M sh.length) sh.length i = 0 := fun i => by simp [aI_cl0, aL_cl0]
  obtain ⟨a0, ha0, -⟩ := hcell X.1.2.2.1 ad (cl0 M sh.length) sh.length (X.1.2.2.1 t) hz
  refine va_newa (a0 := a0) C.1.1 C.1.2.1 (C.1.2.2.2.2 _ h1) hty C.2.2.2.1.1 hw.1 hw.2.1 hS (hA_of C) (fun cA => ?_) h0 hN hby (by rw [C.2.2.2.2.2.2.1]; exact hc1) (by rw [C.2.2.2.2.2.2.2.1]; exact hc2) hd (fun q cA H1 hK hP hD hS1 => ?_)
  · obtain ⟨a1, h1, h2⟩ := hcell X.1.2.2.1 ad (cl0 M sh.length) sh.length cA hz
    rw [ha0] at h1
    cases h1
    exact h2
  have hcA : cA = X.1.2.2.1 t := cyArr C.2.2.2.1.1 (ht _) (hK.2 (tysOf X.1.2.2.1).length (cA, ty) (by simp)).2
  subst hcA
  have e0 : cellOf X.1.2.2.1 (adP ad sh.length q) (cl0 M sh.length) sh.length (.inr (t, N)) = .inl (X.1.2.2.1 t, a0) := by
    rw [← ha0]
    simp only [cellOf, ht4, if_false]
  have e1 := wsOf_push (cy := X.1.2.2.1) (ad := ad) (q := q) (s := .inr (t, N)) hw.2.2 hn
  rw [e0] at e1
  rw [e1] at hP hD
  have kk := k p e R s m args below meth c H1 locs ad0 (adP ad sh.length q) ls C (dy_push D hn hP hD hS1 (oks_t os))
  have e2 : (Value.ref sh.length :: st).map (cv (adP ad sh.length q)) = Value.ref q :: st.map (cv ad) := by
    rw [List.map_cons, cvs_eq (n := sh.length) (fun k h => adP_ok hn h) (oks_t os)]
    simp [cv, adP_self]
  rw [e2] at kk
  exact kk
theorem wp_anewarray {idx N : Nat} {n : Int32} (hd : decode X.2.1.2.2.1 pc = .ok (.anewarray idx, 3)) (h1 : Cond.classLink X.2.1.2.1 idx "QueryTexts$Clause" ∈ BIG)
    (h0 : ¬ n < 0) (hN : n.toNatClampNeg = N) (hby : N * 4 ≤ 536870912) (hn : sh.length < 1000000) (hc1 : kc + 1 ≤ X.2.2.2.1) (hc2 : ks + N ≤ X.2.2.2.2.1)
    (k : Wp X (kc + 1) (ks + N) (pc + 3) lv (.ref sh.length :: st) (sh ++ [.inr (4, N)]) (cl0 M sh.length)) : Wp X kc ks pc lv (.int n :: st) sh M := by
  intro p e R s m args below meth c H locs ad0 ad ls C D
  obtain ⟨hl, hw, hS, ov, os, ha, hnn⟩ := id D
  refine va_newq C.1.1 C.1.2.1 C.1.2.2.2.1 (C.1.2.2.2.2 _ h1) C.2.2.2.1.2.2.2.1 C.2.2.2.1.1 hw.1 hw.2.1 hS (hA_of C) h0 hN hby (by rw [C.2.2.2.2.2.2.1]; exact hc1) (by rw [C.2.2.2.2.2.2.2.1]; exact hc2) hd (fun q cA H1 hK hP hD hS1 => ?_)
  have hcA : cA = X.1.2.2.1 4 := cyArr C.2.2.2.1.1 rfl (hK.2 (tysOf X.1.2.2.1).length (cA, .object "QueryTexts$Clause") (by simp)).2
  subst hcA
  have e0 : cellOf X.1.2.2.1 (adP ad sh.length q) (cl0 M sh.length) sh.length (.inr (4, N)) = .inl (X.1.2.2.1 4, N, .inr (.inr (.inr (.inr (fun _ => none))))) := by
    simp [cellOf, aR_cl0]
  have e1 := wsOf_push (cy := X.1.2.2.1) (ad := ad) (q := q) (s := .inr (4, N)) hw.2.2 hn
  rw [e0] at e1
  rw [e1] at hP hD
  have kk := k p e R s m args below meth c H1 locs ad0 (adP ad sh.length q) ls C (dy_push D hn hP hD hS1 (oks_t os))
  have e2 : (Value.ref sh.length :: st).map (cv (adP ad sh.length q)) = Value.ref q :: st.map (cv ad) := by
    rw [List.map_cons, cvs_eq (n := sh.length) (fun k h => adP_ok hn h) (oks_t os)]
    simp [cv, adP_self]
  rw [e2] at kk
  exact kk
theorem rowG_sG {M : Mem} {p f : Nat} {x : Option Nat} {ad : Nat → Nat} : (fun i => (aR (sG M p f x) p i).map ad) = va_up (fun i => (aR M p i).map ad) f (x.map ad) := by
  funext j
  by_cases h : j = f <;> simp [aR_sG, va_up, h]
theorem wp_aastore {o n v : Nat} {i : Int32} (hd : decode X.2.1.2.2.1 pc = .ok (.aastore, 1)) (hs : sh[o]? = some (.inr (4, n))) (hv : sh[v]? = some (.inl 0)) (hin : vp_in i n)
    (k : Wp X kc ks (pc + 1) lv st sh (sG M o i.toNatClampNeg (some v))) : Wp X kc ks pc lv (.ref v :: .int i :: .ref o :: st) sh M := by
  intro p e R s m args below meth c H locs ad0 ad ls C ⟨hl, hw, hS, ov, os, ha, hn⟩
  refine va_astq C.1.1 C.1.2.1 C.2.2.2.1.1 hw.1 hw.2.1 hS o 4 v 0 (r := (RX0, TX0, 8)) (wsOf_get hs) rfl (wsOf_get hv) rfl hin hd (fun H1 locs1 hP hD hS1 => ?_)
  rw [wsOf_set hs (M' := sG M o i.toNatClampNeg (some v)) (by simp only [cellOf, rowG_sG]; rfl) (fun k s' hk' => cellOf_sG k s' hk')] at hP hD
  exact k _ _ _ _ _ _ _ _ _ _ _ _ _ _ C ⟨hl, ⟨hP, hD, Vd_sG hw.2.2 (fun k' hk' => by cases hk'; exact (oks_cons.mp os).1)⟩, hS1, ov, oks_t3 os, ha, hn⟩
theorem wp_putFR {idx ci f o q : Nat} (hd : decode X.2.1.2.2.1 pc = .ok (.putfield idx, 3)) (hf : FL X.2.1.2.1 idx ci f) (hs : sh[o]? = some (.inl ci)) (hk : (fkL ci)[f]? = some false) (hfin : ∀ C T N, clsL[ci]? = some (C, T, N) → (T f).2.2.2 = true ∧ (T f).1 = X.2.1.2.1) (hin : X.2.1.1.name = "<init>")
    (hx : ∀ a : Nat, narrow (tyL ci f) (.ref a) = .ref a) (hfit : ∀ a : Nat, fits (tyL ci f) (.ref a) = true)
    (k : Wp X kc ks (pc + 3) lv st sh (sR M o f (some q))) : Wp X kc ks pc lv (.ref q :: .ref o :: st) sh M := by
  intro p e R s m args below meth c H locs ad0 ad ls C ⟨hl, hw, hS, ov, os, ha, hn⟩
  obtain ⟨Cn, T, N, hc, hfN, hlink⟩ := hf
  obtain ⟨hlay, hty, hnm, hlen⟩ := clsL_ok hc
  refine va_putF C.1.1 C.1.2.1 C.1.2.2.2.2 hlay (tyL ci) hty hnm C.1.2.2.2.1 C.2.2.2.1.1 hw.1 hw.2.1 hS o (wsOf_get hs) hc f hfN (C.1.2.2.2.2 _ hlink) (fun _ h => h) (hfin _ _ _ hc).1 (C.2.2.2.2.2.2.2.2.2.trans hin) (hfin _ _ _ hc).2 (hty f hfN) (hx _) (hfit _) (by rw [cellFs_len]; omega) hd (fun H1 locs1 hP hD hS1 => ?_)
  rw [wsOf_set hs (M' := sR M o f (some q)) (by simp only [cellOf, cellFs_sR hk]; rfl) (fun k s' hk' => cellOf_sR k s' hk')] at hP hD
  exact k _ _ _ _ _ _ _ _ _ _ _ _ _ _ C ⟨hl, ⟨hP, hD, Vd_sR hw.2.2 (fun k' hk' => by cases hk'; exact (oks_cons.mp os).1)⟩, hS1, ov, oks_t2 os, ha, hn⟩
theorem wp_objInit {idx o : Nat} (hd : decode X.2.1.2.2.1 pc = .ok (.invokespecial idx, 3)) (h1 : Cond.methodLink X.2.1.2.1 idx Lib.objectInit ∈ BIG) (h2 : Cond.instanceMethod Lib.objectInit ∈ BIG) (h3 : Cond.code Lib.objectInit ⟨#[0xb1]⟩ 1 none ∈ BIG) (hf : 1 ≤ X.2.2.1) (hW : (st.map fun v => v.category).sum ≤ 20)
    (k : Wp X kc ks (pc + 3) lv st sh M) : Wp X kc ks pc lv (.ref o :: st) sh M := by
  intro p e R s m args below meth c H locs ad0 ad ls C ⟨hl, hw, hS, ov, os, ha, hn⟩
  have hm0 : 2 * (F0 m pc ls ((Value.ref o :: st).map (cv ad))).monitorRoom = 0 := rfl
  have h5 := C.2.2.2.2.1
  have h6 := C.2.2.2.2.2.1
  refine W.objInit C.1.1 C.1.2.1 C.1.2.2.2.1 (C.1.2.2.2.2 _ h1) (C.1.2.2.2.2 _ h2) (C.1.2.2.2.2 _ h3) rfl (hl.1.trans C.1.2.2.1.symm) rfl hd (Nat.le_trans hf h5) ?_ (k _ _ _ _ _ _ _ _ _ _ _ _ _ _ C ⟨hl, hw, hS, ov, oks_t os, ha, hn⟩)
  rw [hm0, cats_c]
  omega
end WPN
