/-! ===== places, shapes, memory: the machine's heap seen as numbered places ===== -/
abbrev Sh : Type := Nat ⊕ (Nat × Nat)
abbrev Mem : Type := (Nat → Nat → Int32) × (Nat → Nat → Option Nat) × (Nat → Nat → Int32) × (Nat → Nat → Int64) × (Nat → Nat → Option Nat)
def up2 {α : Type} (g : Nat → Nat → α) (p i : Nat) (x : α) : Nat → Nat → α := fun a b => if a = p ∧ b = i then x else g a b
def fI (M : Mem) (p f : Nat) : Int32 := M.1 p f
def fR (M : Mem) (p f : Nat) : Option Nat := M.2.1 p f
def aI (M : Mem) (p i : Nat) : Int32 := M.2.2.1 p i
def aL (M : Mem) (p i : Nat) : Int64 := M.2.2.2.1 p i
def aR (M : Mem) (p i : Nat) : Option Nat := M.2.2.2.2 p i
def sI (M : Mem) (p f : Nat) (x : Int32) : Mem := (up2 M.1 p f x, M.2)
def sR (M : Mem) (p f : Nat) (x : Option Nat) : Mem := (M.1, up2 M.2.1 p f x, M.2.2)
def sA (M : Mem) (p i : Nat) (x : Int32) : Mem := (M.1, M.2.1, up2 M.2.2.1 p i x, M.2.2.2)
def sL (M : Mem) (p i : Nat) (x : Int64) : Mem := (M.1, M.2.1, M.2.2.1, up2 M.2.2.2.1 p i x, M.2.2.2.2)
def sG (M : Mem) (p i : Nat) (x : Option Nat) : Mem := (M.1, M.2.1, M.2.2.1, M.2.2.2.1, up2 M.2.2.2.2 p i x)
theorem fI_sI (M : Mem) (p f : Nat) (x : Int32) (q g : Nat) : fI (sI M p f x) q g = if q = p ∧ g = f then x else fI M q g := rfl
theorem fI_sR (M : Mem) (p f : Nat) (x : Option Nat) (q g : Nat) : fI (sR M p f x) q g = fI M q g := rfl
theorem fI_sA (M : Mem) (p f : Nat) (x : Int32) (q g : Nat) : fI (sA M p f x) q g = fI M q g := rfl
theorem fI_sL (M : Mem) (p f : Nat) (x : Int64) (q g : Nat) : fI (sL M p f x) q g = fI M q g := rfl
theorem fI_sG (M : Mem) (p f : Nat) (x : Option Nat) (q g : Nat) : fI (sG M p f x) q g = fI M q g := rfl
theorem fR_sI (M : Mem) (p f : Nat) (x : Int32) (q g : Nat) : fR (sI M p f x) q g = fR M q g := rfl
theorem fR_sR (M : Mem) (p f : Nat) (x : Option Nat) (q g : Nat) : fR (sR M p f x) q g = if q = p ∧ g = f then x else fR M q g := rfl
theorem fR_sA (M : Mem) (p f : Nat) (x : Int32) (q g : Nat) : fR (sA M p f x) q g = fR M q g := rfl
theorem fR_sL (M : Mem) (p f : Nat) (x : Int64) (q g : Nat) : fR (sL M p f x) q g = fR M q g := rfl
theorem fR_sG (M : Mem) (p f : Nat) (x : Option Nat) (q g : Nat) : fR (sG M p f x) q g = fR M q g := rfl
theorem aI_sI (M : Mem) (p f : Nat) (x : Int32) (q g : Nat) : aI (sI M p f x) q g = aI M q g := rfl
theorem aI_sR (M : Mem) (p f : Nat) (x : Option Nat) (q g : Nat) : aI (sR M p f x) q g = aI M q g := rfl
theorem aI_sA (M : Mem) (p f : Nat) (x : Int32) (q g : Nat) : aI (sA M p f x) q g = if q = p ∧ g = f then x else aI M q g := rfl
theorem aI_sL (M : Mem) (p f : Nat) (x : Int64) (q g : Nat) : aI (sL M p f x) q g = aI M q g := rfl
theorem aI_sG (M : Mem) (p f : Nat) (x : Option Nat) (q g : Nat) : aI (sG M p f x) q g = aI M q g := rfl
theorem aL_sI (M : Mem) (p f : Nat) (x : Int32) (q g : Nat) : aL (sI M p f x) q g = aL M q g := rfl
theorem aL_sR (M : Mem) (p f : Nat) (x : Option Nat) (q g : Nat) : aL (sR M p f x) q g = aL M q g := rfl
theorem aL_sA (M : Mem) (p f : Nat) (x : Int32) (q g : Nat) : aL (sA M p f x) q g = aL M q g := rfl
theorem aL_sL (M : Mem) (p f : Nat) (x : Int64) (q g : Nat) : aL (sL M p f x) q g = if q = p ∧ g = f then x else aL M q g := rfl
theorem aL_sG (M : Mem) (p f : Nat) (x : Option Nat) (q g : Nat) : aL (sG M p f x) q g = aL M q g := rfl
theorem aR_sI (M : Mem) (p f : Nat) (x : Int32) (q g : Nat) : aR (sI M p f x) q g = aR M q g := rfl
theorem aR_sR (M : Mem) (p f : Nat) (x : Option Nat) (q g : Nat) : aR (sR M p f x) q g = aR M q g := rfl
theorem aR_sA (M : Mem) (p f : Nat) (x : Int32) (q g : Nat) : aR (sA M p f x) q g = aR M q g := rfl
theorem aR_sL (M : Mem) (p f : Nat) (x : Int64) (q g : Nat) : aR (sL M p f x) q g = aR M q g := rfl
theorem aR_sG (M : Mem) (p f : Nat) (x : Option Nat) (q g : Nat) : aR (sG M p f x) q g = if q = p ∧ g = f then x else aR M q g := rfl
/-- a value of the places' world as the machine has it -/
def cv (ad : Nat → Nat) (v : Value) : Value := match v with
  | .ref k => .ref (ad k)
  | w => w
def okp (n k : Nat) : Prop := k < n ∨ 1000000 ≤ k
def okv (n : Nat) (v : Value) : Prop := match v with
  | .ref k => okp n k
  | _ => True
def oks (n : Nat) (st : List Value) : Prop := ∀ v ∈ st, okv n v
theorem okp_mono {n n' k : Nat} (h : n ≤ n') (o : okp n k) : okp n' k := by unfold okp at *; omega
theorem okv_mono {n n' : Nat} {v : Value} (h : n ≤ n') (o : okv n v) : okv n' v := by
  cases v <;> first | exact okp_mono h o | trivial
theorem oks_mono {n n' : Nat} {st : List Value} (h : n ≤ n') (o : oks n st) : oks n' st := fun v hv => okv_mono h (o v hv)
theorem oks_nil (n : Nat) : oks n [] := fun _ h => nomatch h
theorem oks_cons {n : Nat} {v : Value} {st : List Value} : oks n (v :: st) ↔ okv n v ∧ oks n st := by simp [oks]
theorem oks_i {n : Nat} {x : Int32} {st : List Value} (h : oks n st) : oks n (.int x :: st) := oks_cons.mpr ⟨trivial, h⟩
theorem oks_l {n : Nat} {x : Int64} {st : List Value} (h : oks n st) : oks n (.long x :: st) := oks_cons.mpr ⟨trivial, h⟩
theorem oks_t {n : Nat} {v : Value} {st : List Value} (h : oks n (v :: st)) : oks n st := (oks_cons.mp h).2
theorem oks_t2 {n : Nat} {v w : Value} {st : List Value} (h : oks n (v :: w :: st)) : oks n st := oks_t (oks_t h)
theorem oks_t3 {n : Nat} {v w u : Value} {st : List Value} (h : oks n (v :: w :: u :: st)) : oks n st := oks_t (oks_t2 h)
theorem cv_cat (ad : Nat → Nat) (v : Value) : (cv ad v).category = v.category := by cases v <;> rfl
theorem cv_eq {n : Nat} {ad ad' : Nat → Nat} {v : Value} (h : ∀ k, okp n k → ad' k = ad k) (o : okv n v) : cv ad' v = cv ad v := by
  cases v <;> first | rfl | exact congrArg Value.ref (h _ o)
theorem cvs_eq {n : Nat} {ad ad' : Nat → Nat} {st : List Value} (h : ∀ k, okp n k → ad' k = ad k) (o : oks n st) : st.map (cv ad') = st.map (cv ad) :=
  List.map_congr_left fun v hv => cv_eq h (o v hv)
abbrev LV : Type := List (Nat × Value)
def clv (ad : Nat → Nat) (lv : LV) : LV := lv.map fun q => (q.1, cv ad q.2)
def oklv (n : Nat) (lv : LV) : Prop := ∀ q ∈ lv, okv n q.2
theorem clv_eq {n : Nat} {ad ad' : Nat → Nat} {lv : LV} (h : ∀ k, okp n k → ad' k = ad k) (o : oklv n lv) : clv ad' lv = clv ad lv :=
  List.map_congr_left fun q hq => by rw [cv_eq h (o q hq)]
/-- the value that stands at a local -/
def lk (lv : LV) (i : Nat) : Option Value := match lv with
  | [] => none
  | q :: r => if q.1 = i then some q.2 else lk r i
theorem lk_mem {lv : LV} {i : Nat} {v : Value} (h : lk lv i = some v) : (i, v) ∈ lv := by
  induction lv with
  | nil => cases h
  | cons q r ih =>
    unfold lk at h
    split at h
    · next e => cases h; subst e; exact List.mem_cons_self
    · exact List.mem_cons_of_mem _ (ih h)
theorem lk_at {ls : Array Slot} {nL : Nat} {ad : Nat → Nat} {lv : LV} {i : Nat} {v : Value} (hl : lv_has ls nL (clv ad lv)) (h : lk lv i = some v) : ls[i]? = some (.val (cv ad v)) :=
  hl.2.2 (i, cv ad v) (List.mem_map.mpr ⟨(i, v), lk_mem h, rfl⟩)
/-- a local written: one word, two words -/
def st1 (lv : LV) (i : Nat) (v : Value) : LV := (i, v) :: lv.filter (fun q => !(q.1 == i) && !(q.1 + 1 == i && q.2.category == 2))
def st2 (lv : LV) (i : Nat) (v : Value) : LV := (i, v) :: lv.filter (fun q => !(q.1 == i) && (!(q.1 == i + 1) && !(q.1 + 1 == i && q.2.category == 2)))
theorem st1_c (ad : Nat → Nat) (lv : LV) (i : Nat) (v : Value) : (i, cv ad v) :: (clv ad lv).filter (fun q => !(q.1 == i) && !(q.1 + 1 == i && q.2.category == 2)) = clv ad (st1 lv i v) := by
  simp only [st1, clv, List.map_cons, List.filter_map, Function.comp_def, cv_cat]
theorem st2_c (ad : Nat → Nat) (lv : LV) (i : Nat) (v : Value) : (i, cv ad v) :: (clv ad lv).filter (fun q => !(q.1 == i) && (!(q.1 == i + 1) && !(q.1 + 1 == i && q.2.category == 2))) = clv ad (st2 lv i v) := by
  simp only [st2, clv, List.map_cons, List.filter_map, Function.comp_def, cv_cat]
theorem oklv_st1 {n : Nat} {lv : LV} {i : Nat} {v : Value} (h : oklv n lv) (o : okv n v) : oklv n (st1 lv i v) := fun q hq => by
  rcases List.mem_cons.mp hq with rfl | hq
  · exact o
  · exact h q (List.mem_filter.mp hq).1
theorem oklv_st2 {n : Nat} {lv : LV} {i : Nat} {v : Value} (h : oklv n lv) (o : okv n v) : oklv n (st2 lv i v) := fun q hq => by
  rcases List.mem_cons.mp hq with rfl | hq
  · exact o
  · exact h q (List.mem_filter.mp hq).1
/-! the cells -/
def cellFs (ad : Nat → Nat) (ks : List Bool) (M : Mem) (p : Nat) : List Value := ks.mapIdx fun k b => if b then Value.int (fI M p k) else va_rf ((fR M p k).map ad)
def cellOf (cy : Nat → ClassId) (ad : Nat → Nat) (M : Mem) (p : Nat) (s : Sh) : va_E := match s with
  | .inl c => .inr (c, cellFs ad (fkL c) M p)
  | .inr (t, n) => .inl (cy t, n, if t = 2 then .inr (.inl (aL M p)) else if t = 4 then .inr (.inr (.inr (.inr (fun i => (aR M p i).map ad)))) else .inl (aI M p))
def wsOf (cy : Nat → ClassId) (ad : Nat → Nat) (sh : List Sh) (M : Mem) : va_W := sh.mapIdx fun k s => (ad k, cellOf cy ad M k s)
theorem wsOf_get {cy : Nat → ClassId} {ad : Nat → Nat} {sh : List Sh} {M : Mem} {k : Nat} {s : Sh} (h : sh[k]? = some s) : (wsOf cy ad sh M)[k]? = some (ad k, cellOf cy ad M k s) := by simp [wsOf, h]
theorem wsOf_set {cy : Nat → ClassId} {ad : Nat → Nat} {sh : List Sh} {M M' : Mem} {p : Nat} {s : Sh} {e : va_E} (h : sh[p]? = some s) (hp : cellOf cy ad M' p s = e) (ho : ∀ k s', k ≠ p → cellOf cy ad M' k s' = cellOf cy ad M k s') :
    (wsOf cy ad sh M).set p (ad p, e) = wsOf cy ad sh M' := by
  have hlt : p < sh.length := (List.getElem?_eq_some_iff.mp h).1
  apply List.ext_getElem?
  intro k
  simp only [List.getElem?_set, wsOf, List.getElem?_mapIdx, List.length_mapIdx]
  by_cases hk : p = k
  · subst hk
    rw [if_pos rfl, if_pos hlt, h]
    simp only [Option.map_some, hp]
  · simp only [hk, if_false]
    cases hs : sh[k]? with
    | none => rfl
    | some s' => simp [ho k s' (Ne.symm hk)]
theorem cellFs_len (ad : Nat → Nat) (ks : List Bool) (M : Mem) (p : Nat) : (cellFs ad ks M p).length = ks.length := by simp [cellFs]
theorem cellFs_I {ad : Nat → Nat} {ks : List Bool} {M : Mem} {p f : Nat} (h : ks[f]? = some true) : (cellFs ad ks M p)[f]? = some (.int (fI M p f)) := by simp [cellFs, h]
theorem cellFs_R {ad : Nat → Nat} {ks : List Bool} {M : Mem} {p f : Nat} (h : ks[f]? = some false) : (cellFs ad ks M p)[f]? = some (va_rf ((fR M p f).map ad)) := by simp [cellFs, h]
theorem cellFs_sI {ad : Nat → Nat} {ks : List Bool} {M : Mem} {p f : Nat} {x : Int32} (h : ks[f]? = some true) : cellFs ad ks (sI M p f x) p = (cellFs ad ks M p).set f (.int x) := by
  have hlt : f < ks.length := (List.getElem?_eq_some_iff.mp h).1
  apply List.ext_getElem?
  intro k
  simp only [cellFs, List.getElem?_set, List.getElem?_mapIdx, List.length_mapIdx, fI_sI, fR_sI]
  by_cases hk : f = k
  · subst hk
    rw [if_pos rfl, if_pos hlt, h]
    simp
  · have hk' : k ≠ f := Ne.symm hk
    simp [hk, hk']
theorem cellFs_sR {ad : Nat → Nat} {ks : List Bool} {M : Mem} {p f : Nat} {x : Option Nat} (h : ks[f]? = some false) : cellFs ad ks (sR M p f x) p = (cellFs ad ks M p).set f (va_rf (x.map ad)) := by
  have hlt : f < ks.length := (List.getElem?_eq_some_iff.mp h).1
  apply List.ext_getElem?
  intro k
  simp only [cellFs, List.getElem?_set, List.getElem?_mapIdx, List.length_mapIdx, fI_sR, fR_sR]
  by_cases hk : f = k
  · subst hk
    rw [if_pos rfl, if_pos hlt, h]
    simp
  · have hk' : k ≠ f := Ne.symm hk
    simp [hk, hk']
theorem cellOf_sI {cy : Nat → ClassId} {ad : Nat → Nat} {M : Mem} {p f : Nat} {x : Int32} (k : Nat) (s : Sh) (hk : k ≠ p) : cellOf cy ad (sI M p f x) k s = cellOf cy ad M k s := by
  cases s with
  | inl c => simp [cellOf, cellFs, fI_sI, fR_sI, hk]
  | inr t => rfl
theorem cellOf_sR {cy : Nat → ClassId} {ad : Nat → Nat} {M : Mem} {p f : Nat} {x : Option Nat} (k : Nat) (s : Sh) (hk : k ≠ p) : cellOf cy ad (sR M p f x) k s = cellOf cy ad M k s := by
  cases s with
  | inl c => simp [cellOf, cellFs, fI_sR, fR_sR, hk]
  | inr t => rfl
theorem rowI_sA (M : Mem) (p f : Nat) (x : Int32) : aI (sA M p f x) p = upd (aI M p) f x := by
  funext j; simp [aI_sA, upd]
theorem rowL_sL (M : Mem) (p f : Nat) (x : Int64) : aL (sL M p f x) p = vp_updL (aL M p) f x := by
  funext j; simp [aL_sL, vp_updL]
theorem rowI_ne {M : Mem} {p f : Nat} {x : Int32} {k : Nat} (hk : k ≠ p) : aI (sA M p f x) k = aI M k := by
  funext j; simp [aI_sA, hk]
theorem rowL_ne {M : Mem} {p f : Nat} {x : Int64} {k : Nat} (hk : k ≠ p) : aL (sL M p f x) k = aL M k := by
  funext j; simp [aL_sL, hk]
theorem cellOf_sA {cy : Nat → ClassId} {ad : Nat → Nat} {M : Mem} {p f : Nat} {x : Int32} (k : Nat) (s : Sh) (hk : k ≠ p) : cellOf cy ad (sA M p f x) k s = cellOf cy ad M k s := by
  cases s with
  | inl c => simp [cellOf, cellFs, fI_sA, fR_sA]
  | inr t => simp only [cellOf, rowI_ne hk]; rfl
theorem cellOf_sL {cy : Nat → ClassId} {ad : Nat → Nat} {M : Mem} {p f : Nat} {x : Int64} (k : Nat) (s : Sh) (hk : k ≠ p) : cellOf cy ad (sL M p f x) k s = cellOf cy ad M k s := by
  cases s with
  | inl c => simp [cellOf, cellFs, fI_sL, fR_sL]
  | inr t => simp only [cellOf, rowL_ne hk]; rfl
theorem cellOf_sG {cy : Nat → ClassId} {ad : Nat → Nat} {M : Mem} {p f : Nat} {x : Option Nat} (k : Nat) (s : Sh) (hk : k ≠ p) : cellOf cy ad (sG M p f x) k s = cellOf cy ad M k s := by
  cases s with
  | inl c => simp [cellOf, cellFs, fI_sG, fR_sG]
  | inr t => simp only [cellOf, aR_sG, hk, false_and, if_false]; rfl
/-- all references lead to places -/
def Vd (n : Nat) (M : Mem) : Prop := (∀ p f k, fR M p f = some k → okp n k) ∧ ∀ p i k, aR M p i = some k → okp n k
theorem Vd.mono {n n' : Nat} {M : Mem} (h : n ≤ n') (v : Vd n M) : Vd n' M := ⟨fun p f k e => okp_mono h (v.1 p f k e), fun p f k e => okp_mono h (v.2 p f k e)⟩
theorem Vd_sI {n : Nat} {M : Mem} {p f : Nat} {x : Int32} (v : Vd n M) : Vd n (sI M p f x) := v
theorem Vd_sA {n : Nat} {M : Mem} {p f : Nat} {x : Int32} (v : Vd n M) : Vd n (sA M p f x) := v
theorem Vd_sL {n : Nat} {M : Mem} {p f : Nat} {x : Int64} (v : Vd n M) : Vd n (sL M p f x) := v
theorem Vd_sR {n : Nat} {M : Mem} {p f : Nat} {x : Option Nat} (v : Vd n M) (hx : ∀ k, x = some k → okp n k) : Vd n (sR M p f x) := by
  refine ⟨fun q g k e => ?_, v.2⟩
  rw [fR_sR] at e
  split at e
  · exact hx k e
  · exact v.1 q g k e
theorem Vd_sG {n : Nat} {M : Mem} {p f : Nat} {x : Option Nat} (v : Vd n M) (hx : ∀ k, x = some k → okp n k) : Vd n (sG M p f x) := by
  refine ⟨v.1, fun q g k e => ?_⟩
  rw [aR_sG] at e
  split at e
  · exact hx k e
  · exact v.2 q g k e
