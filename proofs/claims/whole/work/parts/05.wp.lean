/-! ===== the judgement Wp: a method's frame over a world of places ===== -/
abbrev GE : Type := Launch × va_G × (Nat → ClassId) × Nat
abbrev inA (B : Nat) : Nat → Prop := fun q => B ≤ q
def tysOf (cy : Nat → ClassId) : List (ClassId × FieldType) := [(cy 0, .byte), (cy 1, .int), (cy 2, .long), (cy 3, .boolean), (cy 4, .object "QueryTexts$Clause")]
def Wd (E : GE) (ad : Nat → Nat) (sh : List Sh) (M : Mem) (H : Heap) : Prop := va_P E.2.1 clsL (wsOf E.2.2.1 ad sh M) H ∧ va_D (inA E.2.2.2) (wsOf E.2.2.1 ad sh M) ∧ Vd sh.length M
def nestL : List (String × Nat × MethodName) := [(RX7, 21, yX0_init), (RX8, 36, yX4_init), (RX4, 30, yX0_init), (RX8, 43, yX5_init), (RX8, 50, yX1_init), (RX1, 11, yX6_init), (RX1, 20, yX3_init)]
def strL : List (Nat × String) := [(90, "no such node"), (124, "a group has no words"), (137, "no such word or sign"), (151, "nothing was printed yet"), (158, "no such byte"), (202, "the other document is worth nothing")]
def isOth (w : Cond) : Bool := match w with
  | .declares _ => true
  | .castable _ _ => true
  | _ => false
def othW : List Cond := tables_1.filter isOth
def ncL : List (String × String) := [("java/lang/ClassCastException", "java/lang/ArrayIndexOutOfBoundsException"), ("java/lang/ArrayIndexOutOfBoundsException", "java/lang/NullPointerException")]
theorem oth_warm {w : Cond} {s U : State} (h : isOth w = true) (hW : s.WarmedH U.vm) (hz : va_Nw w s) : va_Nw w U := by
  unfold isOth at h
  split at h
  · exact va_Nw.warmD hW hz
  · exact va_Nw.warmC hW hz
  · exact absurd h (by decide)
def KX (B : Nat) (s : State) : Prop := (∀ q ∈ nestL, va_Nw (.methodLinkNest q.1 q.2.1 q.2.2 RX8) s) ∧ va_AO "QueryTexts$Clause" s ∧ (∀ q ∈ strL, ∃ a, vk_R RX8 q.1 q.2 a s) ∧
  vx_Zq Bundle.tN "UNASSIGNED_STACK" Bundle.steD (inA B) s s.heap ∧ vx_Zq Bundle.tN "SUPPRESSED_SENTINEL" Bundle.listD (inA B) s s.heap ∧ (∀ w ∈ othW, va_Nw w s) ∧ ∀ q ∈ ncL, va_Nc q.1 q.2 s
def KW (E : GE) (s : State) : Prop := va_K E.2.1 clsL (tysOf E.2.2.1) s ∧ E.2.2.2 ≤ s.heap.size ∧ KX E.2.2.2 s
theorem KW.go {E : GE} {s U : State} {H : Heap} {locs : List Loc} (h : KW E s) (hS : va_S (inA E.2.2.2) s.heap H locs) (hU : U.heap = H) (hW : s.WarmedH U.vm) : KW E U := by
  obtain ⟨h1, h2, h3, h4, h5, h6, h7, h8, h9⟩ := h
  refine ⟨va_K.moved hW.alike h1, by rw [hU]; exact Nat.le_trans h2 hS.1, fun q hq => va_Nw.warmM hW (h3 q hq), va_AO.moved hW.alike h4, fun q hq => ?_, ?_, ?_, fun w hw => oth_warm (List.mem_filter.mp hw).2 hW (h8 w hw), fun q hq => va_Nc.moved hW.alike (h9 q hq)⟩
  · obtain ⟨a, ha⟩ := h5 q hq
    exact ⟨a, vk_R.warm hW ha⟩
  · exact vx_Zq.kept (vx_Zq.moved hW.alike h6) (fun a h1 h2 => by rw [hU]; exact hS.2.1 a h1 h2)
  · exact vx_Zq.kept (vx_Zq.moved hW.alike h7) (fun a h1 h2 => by rw [hU]; exact hS.2.1 a h1 h2)
abbrev QT : Type := List Frame → Array Value → State → (Nat → Nat) → State → Prop
/-- the method, how deep it may call, its cells and slots, the places at its start, its own handlers, its end -/
abbrev MX : Type := GE × MM × Nat × Nat × Nat × Nat × List ExceptionTableEntry × QT
def Cx (X : MX) (p : Program) (R : Room) (s : State) (m : MethodId) (args : Array Value) (meth : Method) (c : Code) : Prop :=
  CallFix p m c X.2.1.2.2.1 X.2.1.2.2.2.1 s args BIG X.2.1.2.1 ∧ meth.locks = false ∧ meth.sig.returnType = X.2.1.2.2.2.2 ∧ KW X.1 s ∧ X.2.2.1 ≤ R.frames ∧ 40 * X.2.2.1 ≤ R.locals ∧ R.cells = X.2.2.2.1 ∧ R.slots = X.2.2.2.2.1 ∧ c.exceptionTable.toList = X.2.2.2.2.2.2.1 ∧ meth.name = X.2.1.1.name
def Dy (X : MX) (s : State) (ad0 : Nat → Nat) (lv : LV) (st : List Value) (sh : List Sh) (M : Mem) (H : Heap) (locs : List Loc) (ad : Nat → Nat) (ls : Array Slot) : Prop :=
  lv_has ls X.2.1.2.2.2.1 (clv ad lv) ∧ Wd X.1 ad sh M H ∧ va_S (inA X.1.2.2.2) s.heap H locs ∧ oklv sh.length lv ∧ oks sh.length st ∧ (∀ k, okp X.2.2.2.2.2.1 k → ad k = ad0 k) ∧ X.2.2.2.2.2.1 ≤ sh.length
def Wp (X : MX) (kc ks pc : Nat) (lv : LV) (st : List Value) (sh : List Sh) (M : Mem) : Prop :=
  ∀ (p : Program) (e : Env) (R : Room) (s : State) (m : MethodId) (args : Array Value) (below : List Frame) (meth : Method) (c : Code) (H : Heap) (locs : List Loc) (ad0 ad : Nat → Nat) (ls : Array Slot),
    Cx X p R s m args meth c → Dy X s ad0 lv st sh M H locs ad ls → W p X.1.1 e R s m args below meth c H locs kc ks (X.2.2.2.2.2.2.2 below args s ad0) (F0 m pc ls (st.map (cv ad)))
section WPI
variable {X : MX} {kc ks pc : Nat} {lv : LV} {st : List Value} {sh : List Sh} {M : Mem}
/-! ### one value for others: a row of the machine, lifted -/
theorem wp_iconst {n : Int} {v : Int32} (hd : decode X.2.1.2.2.1 pc = .ok (.iconst n, 1)) (hv : Int32.ofInt n = v) (k : Wp X kc ks (pc + 1) lv (.int v :: st) sh M) : Wp X kc ks pc lv st sh M := by
  intro p e R s m args below meth c H locs ad0 ad ls C ⟨hl, hw, hS, ov, os, ha, hn⟩
  exact lv_iconst C.1.1 C.1.2.1 hd hv (k _ _ _ _ _ _ _ _ _ _ _ _ _ _ C ⟨hl, hw, hS, ov, oks_i os, ha, hn⟩)
theorem wp_bipush {n : Int} {v : Int32} (hd : decode X.2.1.2.2.1 pc = .ok (.bipush n, 2)) (hv : (Int8.ofInt n).toInt32 = v) (k : Wp X kc ks (pc + 2) lv (.int v :: st) sh M) : Wp X kc ks pc lv st sh M := by
  intro p e R s m args below meth c H locs ad0 ad ls C ⟨hl, hw, hS, ov, os, ha, hn⟩
  exact lv_bipush C.1.1 C.1.2.1 hd hv (k _ _ _ _ _ _ _ _ _ _ _ _ _ _ C ⟨hl, hw, hS, ov, oks_i os, ha, hn⟩)
theorem wp_sipush {n : Int} {v : Int32} (hd : decode X.2.1.2.2.1 pc = .ok (.sipush n, 3)) (hv : (Int16.ofInt n).toInt32 = v) (k : Wp X kc ks (pc + 3) lv (.int v :: st) sh M) : Wp X kc ks pc lv st sh M := by
  intro p e R s m args below meth c H locs ad0 ad ls C ⟨hl, hw, hS, ov, os, ha, hn⟩
  exact lv_sipush C.1.1 C.1.2.1 hd hv (k _ _ _ _ _ _ _ _ _ _ _ _ _ _ C ⟨hl, hw, hS, ov, oks_i os, ha, hn⟩)
theorem wp_lconst {n : Fin 2} {v : Int64} (hd : decode X.2.1.2.2.1 pc = .ok (.lconst n, 1)) (hv : Int64.ofNat (n : Nat) = v) (k : Wp X kc ks (pc + 1) lv (.long v :: st) sh M) : Wp X kc ks pc lv st sh M := by
  intro p e R s m args below meth c H locs ad0 ad ls C ⟨hl, hw, hS, ov, os, ha, hn⟩
  exact lv_lconst C.1.1 C.1.2.1 hd hv (k _ _ _ _ _ _ _ _ _ _ _ _ _ _ C ⟨hl, hw, hS, ov, oks_l os, ha, hn⟩)
theorem wp_ldc2 {index : Nat} {v : Int64} (hd : decode X.2.1.2.2.1 pc = .ok (.ldc2_w index, 3)) (hc : Cond.constantLong X.2.1.2.1 index v ∈ BIG) (k : Wp X kc ks (pc + 3) lv (.long v :: st) sh M) : Wp X kc ks pc lv st sh M := by
  intro p e R s m args below meth c H locs ad0 ad ls C ⟨hl, hw, hS, ov, os, ha, hn⟩
  exact lv_ldc2 C.1.1 C.1.2.1 C.1.2.2.2.1 (C.1.2.2.2.2 _ hc) hd (k _ _ _ _ _ _ _ _ _ _ _ _ _ _ C ⟨hl, hw, hS, ov, oks_l os, ha, hn⟩)
theorem wp_iload_n {n : Fin 4} {x : Int32} (hd : decode X.2.1.2.2.1 pc = .ok (.iload_n n, 1)) (h : lk lv n = some (.int x)) (k : Wp X kc ks (pc + 1) lv (.int x :: st) sh M) : Wp X kc ks pc lv st sh M := by
  intro p e R s m args below meth c H locs ad0 ad ls C ⟨hl, hw, hS, ov, os, ha, hn⟩
  exact lv_iload_n C.1.1 C.1.2.1 hd rfl (lk_at hl h) (k _ _ _ _ _ _ _ _ _ _ _ _ _ _ C ⟨hl, hw, hS, ov, oks_i os, ha, hn⟩)
theorem wp_iload {i : Nat} {x : Int32} (hd : decode X.2.1.2.2.1 pc = .ok (.iload i, 2)) (h : lk lv i = some (.int x)) (k : Wp X kc ks (pc + 2) lv (.int x :: st) sh M) : Wp X kc ks pc lv st sh M := by
  intro p e R s m args below meth c H locs ad0 ad ls C ⟨hl, hw, hS, ov, os, ha, hn⟩
  exact lv_iload C.1.1 C.1.2.1 hd (lk_at hl h) (k _ _ _ _ _ _ _ _ _ _ _ _ _ _ C ⟨hl, hw, hS, ov, oks_i os, ha, hn⟩)
theorem wp_lload_n {n : Fin 4} {x : Int64} (hd : decode X.2.1.2.2.1 pc = .ok (.lload_n n, 1)) (h : lk lv n = some (.long x)) (k : Wp X kc ks (pc + 1) lv (.long x :: st) sh M) : Wp X kc ks pc lv st sh M := by
  intro p e R s m args below meth c H locs ad0 ad ls C ⟨hl, hw, hS, ov, os, ha, hn⟩
  exact lv_lload_n C.1.1 C.1.2.1 hd rfl (lk_at hl h) (k _ _ _ _ _ _ _ _ _ _ _ _ _ _ C ⟨hl, hw, hS, ov, oks_l os, ha, hn⟩)
theorem wp_lload {i : Nat} {x : Int64} (hd : decode X.2.1.2.2.1 pc = .ok (.lload i, 2)) (h : lk lv i = some (.long x)) (k : Wp X kc ks (pc + 2) lv (.long x :: st) sh M) : Wp X kc ks pc lv st sh M := by
  intro p e R s m args below meth c H locs ad0 ad ls C ⟨hl, hw, hS, ov, os, ha, hn⟩
  exact lv_lload C.1.1 C.1.2.1 hd (lk_at hl h) (k _ _ _ _ _ _ _ _ _ _ _ _ _ _ C ⟨hl, hw, hS, ov, oks_l os, ha, hn⟩)
theorem wp_aload_n {n : Fin 4} {x : Nat} (hd : decode X.2.1.2.2.1 pc = .ok (.aload_n n, 1)) (h : lk lv n = some (.ref x)) (k : Wp X kc ks (pc + 1) lv (.ref x :: st) sh M) : Wp X kc ks pc lv st sh M := by
  intro p e R s m args below meth c H locs ad0 ad ls C ⟨hl, hw, hS, ov, os, ha, hn⟩
  exact lv_aload_n C.1.1 C.1.2.1 hd rfl (lk_at hl h) (k _ _ _ _ _ _ _ _ _ _ _ _ _ _ C ⟨hl, hw, hS, ov, oks_cons.mpr ⟨ov _ (lk_mem h), os⟩, ha, hn⟩)
theorem wp_aload {i : Nat} {x : Nat} (hd : decode X.2.1.2.2.1 pc = .ok (.aload i, 2)) (h : lk lv i = some (.ref x)) (k : Wp X kc ks (pc + 2) lv (.ref x :: st) sh M) : Wp X kc ks pc lv st sh M := by
  intro p e R s m args below meth c H locs ad0 ad ls C ⟨hl, hw, hS, ov, os, ha, hn⟩
  exact lv_aload C.1.1 C.1.2.1 hd (lk_at hl h) (k _ _ _ _ _ _ _ _ _ _ _ _ _ _ C ⟨hl, hw, hS, ov, oks_cons.mpr ⟨ov _ (lk_mem h), os⟩, ha, hn⟩)
theorem wp_istore_n {n : Fin 4} {x : Int32} (hd : decode X.2.1.2.2.1 pc = .ok (.istore_n n, 1)) (hi : (n : Nat) < X.2.1.2.2.2.1) (k : Wp X kc ks (pc + 1) (st1 lv n (.int x)) st sh M) : Wp X kc ks pc lv (.int x :: st) sh M := by
  intro p e R s m args below meth c H locs ad0 ad ls C ⟨hl, hw, hS, ov, os, ha, hn⟩
  exact lv_istore_n C.1.1 C.1.2.1 hd rfl hl hi (st1_c ad lv n (.int x)) (fun ls' hl' => k _ _ _ _ _ _ _ _ _ _ _ _ _ _ C ⟨hl', hw, hS, oklv_st1 ov trivial, oks_t os, ha, hn⟩)
theorem wp_istore {i : Nat} {x : Int32} (hd : decode X.2.1.2.2.1 pc = .ok (.istore i, 2)) (hi : i < X.2.1.2.2.2.1) (k : Wp X kc ks (pc + 2) (st1 lv i (.int x)) st sh M) : Wp X kc ks pc lv (.int x :: st) sh M := by
  intro p e R s m args below meth c H locs ad0 ad ls C ⟨hl, hw, hS, ov, os, ha, hn⟩
  exact lv_istore C.1.1 C.1.2.1 hd hl hi (st1_c ad lv i (.int x)) (fun ls' hl' => k _ _ _ _ _ _ _ _ _ _ _ _ _ _ C ⟨hl', hw, hS, oklv_st1 ov trivial, oks_t os, ha, hn⟩)
theorem wp_lstore_n {n : Fin 4} {x : Int64} (hd : decode X.2.1.2.2.1 pc = .ok (.lstore_n n, 1)) (hi : (n : Nat) + 1 < X.2.1.2.2.2.1) (k : Wp X kc ks (pc + 1) (st2 lv n (.long x)) st sh M) : Wp X kc ks pc lv (.long x :: st) sh M := by
  intro p e R s m args below meth c H locs ad0 ad ls C ⟨hl, hw, hS, ov, os, ha, hn⟩
  exact lv_lstore_n C.1.1 C.1.2.1 hd rfl hl hi (st2_c ad lv n (.long x)) (fun ls' hl' => k _ _ _ _ _ _ _ _ _ _ _ _ _ _ C ⟨hl', hw, hS, oklv_st2 ov trivial, oks_t os, ha, hn⟩)
theorem wp_lstore {i : Nat} {x : Int64} (hd : decode X.2.1.2.2.1 pc = .ok (.lstore i, 2)) (hi : i + 1 < X.2.1.2.2.2.1) (k : Wp X kc ks (pc + 2) (st2 lv i (.long x)) st sh M) : Wp X kc ks pc lv (.long x :: st) sh M := by
  intro p e R s m args below meth c H locs ad0 ad ls C ⟨hl, hw, hS, ov, os, ha, hn⟩
  exact lv_lstore C.1.1 C.1.2.1 hd hl hi (st2_c ad lv i (.long x)) (fun ls' hl' => k _ _ _ _ _ _ _ _ _ _ _ _ _ _ C ⟨hl', hw, hS, oklv_st2 ov trivial, oks_t os, ha, hn⟩)
theorem wp_astore_n {n : Fin 4} {x : Nat} (hd : decode X.2.1.2.2.1 pc = .ok (.astore_n n, 1)) (hi : (n : Nat) < X.2.1.2.2.2.1) (k : Wp X kc ks (pc + 1) (st1 lv n (.ref x)) st sh M) : Wp X kc ks pc lv (.ref x :: st) sh M := by
  intro p e R s m args below meth c H locs ad0 ad ls C ⟨hl, hw, hS, ov, os, ha, hn⟩
  exact lv_astore_n C.1.1 C.1.2.1 hd rfl hl hi (st1_c ad lv n (.ref x)) (fun ls' hl' => k _ _ _ _ _ _ _ _ _ _ _ _ _ _ C ⟨hl', hw, hS, oklv_st1 ov (oks_cons.mp os).1, oks_t os, ha, hn⟩)
theorem wp_astore {i : Nat} {x : Nat} (hd : decode X.2.1.2.2.1 pc = .ok (.astore i, 2)) (hi : i < X.2.1.2.2.2.1) (k : Wp X kc ks (pc + 2) (st1 lv i (.ref x)) st sh M) : Wp X kc ks pc lv (.ref x :: st) sh M := by
  intro p e R s m args below meth c H locs ad0 ad ls C ⟨hl, hw, hS, ov, os, ha, hn⟩
  exact lv_astore C.1.1 C.1.2.1 hd hl hi (st1_c ad lv i (.ref x)) (fun ls' hl' => k _ _ _ _ _ _ _ _ _ _ _ _ _ _ C ⟨hl', hw, hS, oklv_st1 ov (oks_cons.mp os).1, oks_t os, ha, hn⟩)
theorem lk_idx {lv : LV} {i : Nat} {v : Value} (h : lk lv i = some v) (ad : Nat → Nat) : ∃ k : Nat, (clv ad lv)[k]? = some (i, cv ad v) :=
  List.getElem?_of_mem (List.mem_map.mpr ⟨(i, v), lk_mem h, rfl⟩)
theorem wp_iinc {i : Nat} {n : Int} {x v : Int32} (hd : decode X.2.1.2.2.1 pc = .ok (.iinc i n, 3)) (h : lk lv i = some (.int x)) (hv : x + Int32.ofInt n = v) (hi : i < X.2.1.2.2.2.1) (k : Wp X kc ks (pc + 3) (st1 lv i (.int v)) st sh M) : Wp X kc ks pc lv st sh M := by
  intro p e R s m args below meth c H locs ad0 ad ls C ⟨hl, hw, hS, ov, os, ha, hn⟩
  obtain ⟨j, hj⟩ := lk_idx h ad
  exact lv_iinc C.1.1 C.1.2.1 hd hl hj hv hi (st1_c ad lv i (.int v)) (fun ls' hl' => k _ _ _ _ _ _ _ _ _ _ _ _ _ _ C ⟨hl', hw, hS, oklv_st1 ov trivial, os, ha, hn⟩)
theorem wp_iadd {x y : Int32} (hd : decode X.2.1.2.2.1 pc = .ok (.iadd, 1)) (k : Wp X kc ks (pc + 1) lv (.int (x + y) :: st) sh M) : Wp X kc ks pc lv (.int y :: .int x :: st) sh M := by
  intro p e R s m args below meth c H locs ad0 ad ls C ⟨hl, hw, hS, ov, os, ha, hn⟩
  exact lv_iadd C.1.1 C.1.2.1 hd (k _ _ _ _ _ _ _ _ _ _ _ _ _ _ C ⟨hl, hw, hS, ov, oks_i (oks_t2 os), ha, hn⟩)
theorem wp_isub {x y : Int32} (hd : decode X.2.1.2.2.1 pc = .ok (.isub, 1)) (k : Wp X kc ks (pc + 1) lv (.int (x - y) :: st) sh M) : Wp X kc ks pc lv (.int y :: .int x :: st) sh M := by
  intro p e R s m args below meth c H locs ad0 ad ls C ⟨hl, hw, hS, ov, os, ha, hn⟩
  exact lv_isub C.1.1 C.1.2.1 hd (k _ _ _ _ _ _ _ _ _ _ _ _ _ _ C ⟨hl, hw, hS, ov, oks_i (oks_t2 os), ha, hn⟩)
theorem wp_imul {x y : Int32} (hd : decode X.2.1.2.2.1 pc = .ok (.imul, 1)) (k : Wp X kc ks (pc + 1) lv (.int (x * y) :: st) sh M) : Wp X kc ks pc lv (.int y :: .int x :: st) sh M := by
  intro p e R s m args below meth c H locs ad0 ad ls C ⟨hl, hw, hS, ov, os, ha, hn⟩
  exact lv_imul C.1.1 C.1.2.1 hd (k _ _ _ _ _ _ _ _ _ _ _ _ _ _ C ⟨hl, hw, hS, ov, oks_i (oks_t2 os), ha, hn⟩)
theorem wp_iand {x y : Int32} (hd : decode X.2.1.2.2.1 pc = .ok (.iand, 1)) (k : Wp X kc ks (pc + 1) lv (.int (x &&& y) :: st) sh M) : Wp X kc ks pc lv (.int y :: .int x :: st) sh M := by
  intro p e R s m args below meth c H locs ad0 ad ls C ⟨hl, hw, hS, ov, os, ha, hn⟩
  exact lv_iand C.1.1 C.1.2.1 hd (k _ _ _ _ _ _ _ _ _ _ _ _ _ _ C ⟨hl, hw, hS, ov, oks_i (oks_t2 os), ha, hn⟩)
theorem wp_ior {x y : Int32} (hd : decode X.2.1.2.2.1 pc = .ok (.ior, 1)) (k : Wp X kc ks (pc + 1) lv (.int (x ||| y) :: st) sh M) : Wp X kc ks pc lv (.int y :: .int x :: st) sh M := by
  intro p e R s m args below meth c H locs ad0 ad ls C ⟨hl, hw, hS, ov, os, ha, hn⟩
  exact lv_ior C.1.1 C.1.2.1 hd (k _ _ _ _ _ _ _ _ _ _ _ _ _ _ C ⟨hl, hw, hS, ov, oks_i (oks_t2 os), ha, hn⟩)
theorem wp_ixor {x y : Int32} (hd : decode X.2.1.2.2.1 pc = .ok (.ixor, 1)) (k : Wp X kc ks (pc + 1) lv (.int (x ^^^ y) :: st) sh M) : Wp X kc ks pc lv (.int y :: .int x :: st) sh M := by
  intro p e R s m args below meth c H locs ad0 ad ls C ⟨hl, hw, hS, ov, os, ha, hn⟩
  exact lv_ixor C.1.1 C.1.2.1 hd (k _ _ _ _ _ _ _ _ _ _ _ _ _ _ C ⟨hl, hw, hS, ov, oks_i (oks_t2 os), ha, hn⟩)
theorem wp_ishl {x y : Int32} (hd : decode X.2.1.2.2.1 pc = .ok (.ishl, 1)) (k : Wp X kc ks (pc + 1) lv (.int (x <<< (y &&& 31)) :: st) sh M) : Wp X kc ks pc lv (.int y :: .int x :: st) sh M := by
  intro p e R s m args below meth c H locs ad0 ad ls C ⟨hl, hw, hS, ov, os, ha, hn⟩
  exact lv_ishl C.1.1 C.1.2.1 hd (k _ _ _ _ _ _ _ _ _ _ _ _ _ _ C ⟨hl, hw, hS, ov, oks_i (oks_t2 os), ha, hn⟩)
theorem wp_ishr {x y : Int32} (hd : decode X.2.1.2.2.1 pc = .ok (.ishr, 1)) (k : Wp X kc ks (pc + 1) lv (.int (x >>> (y &&& 31)) :: st) sh M) : Wp X kc ks pc lv (.int y :: .int x :: st) sh M := by
  intro p e R s m args below meth c H locs ad0 ad ls C ⟨hl, hw, hS, ov, os, ha, hn⟩
  exact lv_ishr C.1.1 C.1.2.1 hd (k _ _ _ _ _ _ _ _ _ _ _ _ _ _ C ⟨hl, hw, hS, ov, oks_i (oks_t2 os), ha, hn⟩)
theorem wp_idiv {x y : Int32} (hd : decode X.2.1.2.2.1 pc = .ok (.idiv, 1)) (h0 : ¬ y = 0) (k : Wp X kc ks (pc + 1) lv (.int (x / y) :: st) sh M) : Wp X kc ks pc lv (.int y :: .int x :: st) sh M := by
  intro p e R s m args below meth c H locs ad0 ad ls C ⟨hl, hw, hS, ov, os, ha, hn⟩
  exact lv_idiv C.1.1 C.1.2.1 hd h0 (k _ _ _ _ _ _ _ _ _ _ _ _ _ _ C ⟨hl, hw, hS, ov, oks_i (oks_t2 os), ha, hn⟩)
theorem wp_irem {x y : Int32} (hd : decode X.2.1.2.2.1 pc = .ok (.irem, 1)) (h0 : ¬ y = 0) (k : Wp X kc ks (pc + 1) lv (.int (x - x / y * y) :: st) sh M) : Wp X kc ks pc lv (.int y :: .int x :: st) sh M := by
  intro p e R s m args below meth c H locs ad0 ad ls C ⟨hl, hw, hS, ov, os, ha, hn⟩
  exact lv_irem C.1.1 C.1.2.1 hd h0 (k _ _ _ _ _ _ _ _ _ _ _ _ _ _ C ⟨hl, hw, hS, ov, oks_i (oks_t2 os), ha, hn⟩)
theorem wp_ladd {x y : Int64} (hd : decode X.2.1.2.2.1 pc = .ok (.ladd, 1)) (k : Wp X kc ks (pc + 1) lv (.long (x + y) :: st) sh M) : Wp X kc ks pc lv (.long y :: .long x :: st) sh M := by
  intro p e R s m args below meth c H locs ad0 ad ls C ⟨hl, hw, hS, ov, os, ha, hn⟩
  exact lv_ladd C.1.1 C.1.2.1 hd (k _ _ _ _ _ _ _ _ _ _ _ _ _ _ C ⟨hl, hw, hS, ov, oks_l (oks_t2 os), ha, hn⟩)
theorem wp_lsub {x y : Int64} (hd : decode X.2.1.2.2.1 pc = .ok (.lsub, 1)) (k : Wp X kc ks (pc + 1) lv (.long (x - y) :: st) sh M) : Wp X kc ks pc lv (.long y :: .long x :: st) sh M := by
  intro p e R s m args below meth c H locs ad0 ad ls C ⟨hl, hw, hS, ov, os, ha, hn⟩
  exact lv_lsub C.1.1 C.1.2.1 hd (k _ _ _ _ _ _ _ _ _ _ _ _ _ _ C ⟨hl, hw, hS, ov, oks_l (oks_t2 os), ha, hn⟩)
theorem wp_lmul {x y : Int64} (hd : decode X.2.1.2.2.1 pc = .ok (.lmul, 1)) (k : Wp X kc ks (pc + 1) lv (.long (x * y) :: st) sh M) : Wp X kc ks pc lv (.long y :: .long x :: st) sh M := by
  intro p e R s m args below meth c H locs ad0 ad ls C ⟨hl, hw, hS, ov, os, ha, hn⟩
  exact lv_lmul C.1.1 C.1.2.1 hd (k _ _ _ _ _ _ _ _ _ _ _ _ _ _ C ⟨hl, hw, hS, ov, oks_l (oks_t2 os), ha, hn⟩)
theorem wp_land {x y : Int64} (hd : decode X.2.1.2.2.1 pc = .ok (.land, 1)) (k : Wp X kc ks (pc + 1) lv (.long (x &&& y) :: st) sh M) : Wp X kc ks pc lv (.long y :: .long x :: st) sh M := by
  intro p e R s m args below meth c H locs ad0 ad ls C ⟨hl, hw, hS, ov, os, ha, hn⟩
  exact lv_land C.1.1 C.1.2.1 hd (k _ _ _ _ _ _ _ _ _ _ _ _ _ _ C ⟨hl, hw, hS, ov, oks_l (oks_t2 os), ha, hn⟩)
theorem wp_lor {x y : Int64} (hd : decode X.2.1.2.2.1 pc = .ok (.lor, 1)) (k : Wp X kc ks (pc + 1) lv (.long (x ||| y) :: st) sh M) : Wp X kc ks pc lv (.long y :: .long x :: st) sh M := by
  intro p e R s m args below meth c H locs ad0 ad ls C ⟨hl, hw, hS, ov, os, ha, hn⟩
  exact lv_lor C.1.1 C.1.2.1 hd (k _ _ _ _ _ _ _ _ _ _ _ _ _ _ C ⟨hl, hw, hS, ov, oks_l (oks_t2 os), ha, hn⟩)
theorem wp_lxor {x y : Int64} (hd : decode X.2.1.2.2.1 pc = .ok (.lxor, 1)) (k : Wp X kc ks (pc + 1) lv (.long (x ^^^ y) :: st) sh M) : Wp X kc ks pc lv (.long y :: .long x :: st) sh M := by
  intro p e R s m args below meth c H locs ad0 ad ls C ⟨hl, hw, hS, ov, os, ha, hn⟩
  exact lv_lxor C.1.1 C.1.2.1 hd (k _ _ _ _ _ _ _ _ _ _ _ _ _ _ C ⟨hl, hw, hS, ov, oks_l (oks_t2 os), ha, hn⟩)
theorem wp_ldiv {x y : Int64} (hd : decode X.2.1.2.2.1 pc = .ok (.ldiv, 1)) (h0 : ¬ y = 0) (k : Wp X kc ks (pc + 1) lv (.long (x / y) :: st) sh M) : Wp X kc ks pc lv (.long y :: .long x :: st) sh M := by
  intro p e R s m args below meth c H locs ad0 ad ls C ⟨hl, hw, hS, ov, os, ha, hn⟩
  exact lv_ldiv C.1.1 C.1.2.1 hd h0 (k _ _ _ _ _ _ _ _ _ _ _ _ _ _ C ⟨hl, hw, hS, ov, oks_l (oks_t2 os), ha, hn⟩)
theorem wp_lshl {x : Int64} {y : Int32} (hd : decode X.2.1.2.2.1 pc = .ok (.lshl, 1)) (k : Wp X kc ks (pc + 1) lv (.long (x <<< (y.toInt64 &&& 63)) :: st) sh M) : Wp X kc ks pc lv (.int y :: .long x :: st) sh M := by
  intro p e R s m args below meth c H locs ad0 ad ls C ⟨hl, hw, hS, ov, os, ha, hn⟩
  exact lv_lshl C.1.1 C.1.2.1 hd rfl (k _ _ _ _ _ _ _ _ _ _ _ _ _ _ C ⟨hl, hw, hS, ov, oks_l (oks_t2 os), ha, hn⟩)
theorem wp_lshr {x : Int64} {y : Int32} (hd : decode X.2.1.2.2.1 pc = .ok (.lshr, 1)) (k : Wp X kc ks (pc + 1) lv (.long (x >>> (y.toInt64 &&& 63)) :: st) sh M) : Wp X kc ks pc lv (.int y :: .long x :: st) sh M := by
  intro p e R s m args below meth c H locs ad0 ad ls C ⟨hl, hw, hS, ov, os, ha, hn⟩
  exact lv_lshr C.1.1 C.1.2.1 hd rfl (k _ _ _ _ _ _ _ _ _ _ _ _ _ _ C ⟨hl, hw, hS, ov, oks_l (oks_t2 os), ha, hn⟩)
theorem wp_lushr {x : Int64} {y : Int32} (hd : decode X.2.1.2.2.1 pc = .ok (.lushr, 1)) (k : Wp X kc ks (pc + 1) lv (.long ((x.toUInt64 >>> (y.toInt64.toUInt64 &&& Int64.toUInt64 63)).toInt64) :: st) sh M) : Wp X kc ks pc lv (.int y :: .long x :: st) sh M := by
  intro p e R s m args below meth c H locs ad0 ad ls C ⟨hl, hw, hS, ov, os, ha, hn⟩
  exact lv_lushr C.1.1 C.1.2.1 hd rfl (k _ _ _ _ _ _ _ _ _ _ _ _ _ _ C ⟨hl, hw, hS, ov, oks_l (oks_t2 os), ha, hn⟩)
theorem wp_lcmp {x y : Int64} (hd : decode X.2.1.2.2.1 pc = .ok (.lcmp, 1)) (k : Wp X kc ks (pc + 1) lv (.int (lg_cmp x y) :: st) sh M) : Wp X kc ks pc lv (.long y :: .long x :: st) sh M := by
  intro p e R s m args below meth c H locs ad0 ad ls C ⟨hl, hw, hS, ov, os, ha, hn⟩
  exact W.lcmp C.1.1 C.1.2.1 hd (k _ _ _ _ _ _ _ _ _ _ _ _ _ _ C ⟨hl, hw, hS, ov, oks_i (oks_t2 os), ha, hn⟩)
theorem wp_ineg {x : Int32} (hd : decode X.2.1.2.2.1 pc = .ok (.ineg, 1)) (k : Wp X kc ks (pc + 1) lv (.int (-x) :: st) sh M) : Wp X kc ks pc lv (.int x :: st) sh M := by
  intro p e R s m args below meth c H locs ad0 ad ls C ⟨hl, hw, hS, ov, os, ha, hn⟩
  exact lv_ineg C.1.1 C.1.2.1 hd (k _ _ _ _ _ _ _ _ _ _ _ _ _ _ C ⟨hl, hw, hS, ov, oks_i (oks_t os), ha, hn⟩)
theorem wp_i2l {x : Int32} (hd : decode X.2.1.2.2.1 pc = .ok (.i2l, 1)) (k : Wp X kc ks (pc + 1) lv (.long x.toInt64 :: st) sh M) : Wp X kc ks pc lv (.int x :: st) sh M := by
  intro p e R s m args below meth c H locs ad0 ad ls C ⟨hl, hw, hS, ov, os, ha, hn⟩
  exact lv_i2l C.1.1 C.1.2.1 hd rfl (k _ _ _ _ _ _ _ _ _ _ _ _ _ _ C ⟨hl, hw, hS, ov, oks_l (oks_t os), ha, hn⟩)
theorem wp_l2i {x : Int64} (hd : decode X.2.1.2.2.1 pc = .ok (.l2i, 1)) (k : Wp X kc ks (pc + 1) lv (.int x.toInt32 :: st) sh M) : Wp X kc ks pc lv (.long x :: st) sh M := by
  intro p e R s m args below meth c H locs ad0 ad ls C ⟨hl, hw, hS, ov, os, ha, hn⟩
  exact lv_l2i C.1.1 C.1.2.1 hd rfl (k _ _ _ _ _ _ _ _ _ _ _ _ _ _ C ⟨hl, hw, hS, ov, oks_i (oks_t os), ha, hn⟩)
theorem wp_i2b {x : Int32} (hd : decode X.2.1.2.2.1 pc = .ok (.i2b, 1)) (k : Wp X kc ks (pc + 1) lv (.int x.toInt8.toInt32 :: st) sh M) : Wp X kc ks pc lv (.int x :: st) sh M := by
  intro p e R s m args below meth c H locs ad0 ad ls C ⟨hl, hw, hS, ov, os, ha, hn⟩
  exact lv_i2b C.1.1 C.1.2.1 hd rfl (k _ _ _ _ _ _ _ _ _ _ _ _ _ _ C ⟨hl, hw, hS, ov, oks_i (oks_t os), ha, hn⟩)
theorem wp_dup {v : Value} (hd : decode X.2.1.2.2.1 pc = .ok (.dup, 1)) (hc : v.category = 1) (k : Wp X kc ks (pc + 1) lv (v :: v :: st) sh M) : Wp X kc ks pc lv (v :: st) sh M := by
  intro p e R s m args below meth c H locs ad0 ad ls C ⟨hl, hw, hS, ov, os, ha, hn⟩
  exact lv_dup C.1.1 C.1.2.1 hd ((cv_cat ad v).trans hc) (k _ _ _ _ _ _ _ _ _ _ _ _ _ _ C ⟨hl, hw, hS, ov, oks_cons.mpr ⟨(oks_cons.mp os).1, os⟩, ha, hn⟩)
theorem wp_dup2 {v w : Value} (hd : decode X.2.1.2.2.1 pc = .ok (.dup2, 1)) (hc : v.category = 1) (hc2 : w.category = 1) (k : Wp X kc ks (pc + 1) lv (v :: w :: v :: w :: st) sh M) : Wp X kc ks pc lv (v :: w :: st) sh M := by
  intro p e R s m args below meth c H locs ad0 ad ls C ⟨hl, hw, hS, ov, os, ha, hn⟩
  exact lv_dup2_11 C.1.1 C.1.2.1 hd ((cv_cat ad v).trans hc) ((cv_cat ad w).trans hc2) (k _ _ _ _ _ _ _ _ _ _ _ _ _ _ C ⟨hl, hw, hS, ov, oks_cons.mpr ⟨(oks_cons.mp os).1, oks_cons.mpr ⟨(oks_cons.mp (oks_t os)).1, os⟩⟩, ha, hn⟩)
theorem wp_pop {v : Value} (hd : decode X.2.1.2.2.1 pc = .ok (.pop, 1)) (hc : v.category = 1) (k : Wp X kc ks (pc + 1) lv st sh M) : Wp X kc ks pc lv (v :: st) sh M := by
  intro p e R s m args below meth c H locs ad0 ad ls C ⟨hl, hw, hS, ov, os, ha, hn⟩
  exact lv_pop C.1.1 C.1.2.1 hd ((cv_cat ad v).trans hc) (k _ _ _ _ _ _ _ _ _ _ _ _ _ _ C ⟨hl, hw, hS, ov, oks_t os, ha, hn⟩)
theorem wp_goto {off : Int} {tgt : Nat} (hd : decode X.2.1.2.2.1 pc = .ok (.goto off, 3)) (ht : (pc : Int) + off = (tgt : Int)) (k : Wp X kc ks tgt lv st sh M) : Wp X kc ks pc lv st sh M := by
  intro p e R s m args below meth c H locs ad0 ad ls C D
  exact lv_goto C.1.1 C.1.2.1 hd ht (k _ _ _ _ _ _ _ _ _ _ _ _ _ _ C D)
theorem wp_icmp_eq {x y : Int32} {off : Int} {tgt : Nat} (hd : decode X.2.1.2.2.1 pc = .ok (.if_icmp .eq off, 3)) (ht : (pc : Int) + off = (tgt : Int)) (kt : x = y → Wp X kc ks tgt lv st sh M) (kf : ¬ (x = y) → Wp X kc ks (pc + 3) lv st sh M) : Wp X kc ks pc lv (.int y :: .int x :: st) sh M := by
  intro p e R s m args below meth c H locs ad0 ad ls C ⟨hl, hw, hS, ov, os, ha, hn⟩
  exact lv_icmp_eq C.1.1 C.1.2.1 hd ht (fun q => kt q _ _ _ _ _ _ _ _ _ _ _ _ _ _ C ⟨hl, hw, hS, ov, oks_t2 os, ha, hn⟩) (fun q => kf q _ _ _ _ _ _ _ _ _ _ _ _ _ _ C ⟨hl, hw, hS, ov, oks_t2 os, ha, hn⟩)
theorem wp_if_eq {x : Int32} {off : Int} {tgt : Nat} (hd : decode X.2.1.2.2.1 pc = .ok (.ifCond .eq off, 3)) (ht : (pc : Int) + off = (tgt : Int)) (kt : x = 0 → Wp X kc ks tgt lv st sh M) (kf : ¬ (x = 0) → Wp X kc ks (pc + 3) lv st sh M) : Wp X kc ks pc lv (.int x :: st) sh M := by
  intro p e R s m args below meth c H locs ad0 ad ls C ⟨hl, hw, hS, ov, os, ha, hn⟩
  exact lv_if_eq C.1.1 C.1.2.1 hd ht (fun q => kt q _ _ _ _ _ _ _ _ _ _ _ _ _ _ C ⟨hl, hw, hS, ov, oks_t os, ha, hn⟩) (fun q => kf q _ _ _ _ _ _ _ _ _ _ _ _ _ _ C ⟨hl, hw, hS, ov, oks_t os, ha, hn⟩)
theorem wp_icmp_ne {x y : Int32} {off : Int} {tgt : Nat} (hd : decode X.2.1.2.2.1 pc = .ok (.if_icmp .ne off, 3)) (ht : (pc : Int) + off = (tgt : Int)) (kt : ¬ x = y → Wp X kc ks tgt lv st sh M) (kf : x = y → Wp X kc ks (pc + 3) lv st sh M) : Wp X kc ks pc lv (.int y :: .int x :: st) sh M := by
  intro p e R s m args below meth c H locs ad0 ad ls C ⟨hl, hw, hS, ov, os, ha, hn⟩
  exact lv_icmp_ne C.1.1 C.1.2.1 hd ht (fun q => kt q _ _ _ _ _ _ _ _ _ _ _ _ _ _ C ⟨hl, hw, hS, ov, oks_t2 os, ha, hn⟩) (fun q => kf q _ _ _ _ _ _ _ _ _ _ _ _ _ _ C ⟨hl, hw, hS, ov, oks_t2 os, ha, hn⟩)
theorem wp_if_ne {x : Int32} {off : Int} {tgt : Nat} (hd : decode X.2.1.2.2.1 pc = .ok (.ifCond .ne off, 3)) (ht : (pc : Int) + off = (tgt : Int)) (kt : ¬ x = 0 → Wp X kc ks tgt lv st sh M) (kf : x = 0 → Wp X kc ks (pc + 3) lv st sh M) : Wp X kc ks pc lv (.int x :: st) sh M := by
  intro p e R s m args below meth c H locs ad0 ad ls C ⟨hl, hw, hS, ov, os, ha, hn⟩
  exact lv_if_ne C.1.1 C.1.2.1 hd ht (fun q => kt q _ _ _ _ _ _ _ _ _ _ _ _ _ _ C ⟨hl, hw, hS, ov, oks_t os, ha, hn⟩) (fun q => kf q _ _ _ _ _ _ _ _ _ _ _ _ _ _ C ⟨hl, hw, hS, ov, oks_t os, ha, hn⟩)
theorem wp_icmp_lt {x y : Int32} {off : Int} {tgt : Nat} (hd : decode X.2.1.2.2.1 pc = .ok (.if_icmp .lt off, 3)) (ht : (pc : Int) + off = (tgt : Int)) (kt : x < y → Wp X kc ks tgt lv st sh M) (kf : ¬ (x < y) → Wp X kc ks (pc + 3) lv st sh M) : Wp X kc ks pc lv (.int y :: .int x :: st) sh M := by
  intro p e R s m args below meth c H locs ad0 ad ls C ⟨hl, hw, hS, ov, os, ha, hn⟩
  exact lv_icmp_lt C.1.1 C.1.2.1 hd ht (fun q => kt q _ _ _ _ _ _ _ _ _ _ _ _ _ _ C ⟨hl, hw, hS, ov, oks_t2 os, ha, hn⟩) (fun q => kf q _ _ _ _ _ _ _ _ _ _ _ _ _ _ C ⟨hl, hw, hS, ov, oks_t2 os, ha, hn⟩)
theorem wp_if_lt {x : Int32} {off : Int} {tgt : Nat} (hd : decode X.2.1.2.2.1 pc = .ok (.ifCond .lt off, 3)) (ht : (pc : Int) + off = (tgt : Int)) (kt : x < 0 → Wp X kc ks tgt lv st sh M) (kf : ¬ (x < 0) → Wp X kc ks (pc + 3) lv st sh M) : Wp X kc ks pc lv (.int x :: st) sh M := by
  intro p e R s m args below meth c H locs ad0 ad ls C ⟨hl, hw, hS, ov, os, ha, hn⟩
  exact lv_if_lt C.1.1 C.1.2.1 hd ht (fun q => kt q _ _ _ _ _ _ _ _ _ _ _ _ _ _ C ⟨hl, hw, hS, ov, oks_t os, ha, hn⟩) (fun q => kf q _ _ _ _ _ _ _ _ _ _ _ _ _ _ C ⟨hl, hw, hS, ov, oks_t os, ha, hn⟩)
theorem wp_icmp_ge {x y : Int32} {off : Int} {tgt : Nat} (hd : decode X.2.1.2.2.1 pc = .ok (.if_icmp .ge off, 3)) (ht : (pc : Int) + off = (tgt : Int)) (kt : y ≤ x → Wp X kc ks tgt lv st sh M) (kf : ¬ (y ≤ x) → Wp X kc ks (pc + 3) lv st sh M) : Wp X kc ks pc lv (.int y :: .int x :: st) sh M := by
  intro p e R s m args below meth c H locs ad0 ad ls C ⟨hl, hw, hS, ov, os, ha, hn⟩
  exact lv_icmp_ge C.1.1 C.1.2.1 hd ht (fun q => kt q _ _ _ _ _ _ _ _ _ _ _ _ _ _ C ⟨hl, hw, hS, ov, oks_t2 os, ha, hn⟩) (fun q => kf q _ _ _ _ _ _ _ _ _ _ _ _ _ _ C ⟨hl, hw, hS, ov, oks_t2 os, ha, hn⟩)
theorem wp_if_ge {x : Int32} {off : Int} {tgt : Nat} (hd : decode X.2.1.2.2.1 pc = .ok (.ifCond .ge off, 3)) (ht : (pc : Int) + off = (tgt : Int)) (kt : 0 ≤ x → Wp X kc ks tgt lv st sh M) (kf : ¬ (0 ≤ x) → Wp X kc ks (pc + 3) lv st sh M) : Wp X kc ks pc lv (.int x :: st) sh M := by
  intro p e R s m args below meth c H locs ad0 ad ls C ⟨hl, hw, hS, ov, os, ha, hn⟩
  exact lv_if_ge C.1.1 C.1.2.1 hd ht (fun q => kt q _ _ _ _ _ _ _ _ _ _ _ _ _ _ C ⟨hl, hw, hS, ov, oks_t os, ha, hn⟩) (fun q => kf q _ _ _ _ _ _ _ _ _ _ _ _ _ _ C ⟨hl, hw, hS, ov, oks_t os, ha, hn⟩)
theorem wp_icmp_gt {x y : Int32} {off : Int} {tgt : Nat} (hd : decode X.2.1.2.2.1 pc = .ok (.if_icmp .gt off, 3)) (ht : (pc : Int) + off = (tgt : Int)) (kt : y < x → Wp X kc ks tgt lv st sh M) (kf : ¬ (y < x) → Wp X kc ks (pc + 3) lv st sh M) : Wp X kc ks pc lv (.int y :: .int x :: st) sh M := by
  intro p e R s m args below meth c H locs ad0 ad ls C ⟨hl, hw, hS, ov, os, ha, hn⟩
  exact lv_icmp_gt C.1.1 C.1.2.1 hd ht (fun q => kt q _ _ _ _ _ _ _ _ _ _ _ _ _ _ C ⟨hl, hw, hS, ov, oks_t2 os, ha, hn⟩) (fun q => kf q _ _ _ _ _ _ _ _ _ _ _ _ _ _ C ⟨hl, hw, hS, ov, oks_t2 os, ha, hn⟩)
theorem wp_if_gt {x : Int32} {off : Int} {tgt : Nat} (hd : decode X.2.1.2.2.1 pc = .ok (.ifCond .gt off, 3)) (ht : (pc : Int) + off = (tgt : Int)) (kt : 0 < x → Wp X kc ks tgt lv st sh M) (kf : ¬ (0 < x) → Wp X kc ks (pc + 3) lv st sh M) : Wp X kc ks pc lv (.int x :: st) sh M := by
  intro p e R s m args below meth c H locs ad0 ad ls C ⟨hl, hw, hS, ov, os, ha, hn⟩
  exact lv_if_gt C.1.1 C.1.2.1 hd ht (fun q => kt q _ _ _ _ _ _ _ _ _ _ _ _ _ _ C ⟨hl, hw, hS, ov, oks_t os, ha, hn⟩) (fun q => kf q _ _ _ _ _ _ _ _ _ _ _ _ _ _ C ⟨hl, hw, hS, ov, oks_t os, ha, hn⟩)
theorem wp_icmp_le {x y : Int32} {off : Int} {tgt : Nat} (hd : decode X.2.1.2.2.1 pc = .ok (.if_icmp .le off, 3)) (ht : (pc : Int) + off = (tgt : Int)) (kt : x ≤ y → Wp X kc ks tgt lv st sh M) (kf : ¬ (x ≤ y) → Wp X kc ks (pc + 3) lv st sh M) : Wp X kc ks pc lv (.int y :: .int x :: st) sh M := by
  intro p e R s m args below meth c H locs ad0 ad ls C ⟨hl, hw, hS, ov, os, ha, hn⟩
  exact lv_icmp_le C.1.1 C.1.2.1 hd ht (fun q => kt q _ _ _ _ _ _ _ _ _ _ _ _ _ _ C ⟨hl, hw, hS, ov, oks_t2 os, ha, hn⟩) (fun q => kf q _ _ _ _ _ _ _ _ _ _ _ _ _ _ C ⟨hl, hw, hS, ov, oks_t2 os, ha, hn⟩)
theorem wp_if_le {x : Int32} {off : Int} {tgt : Nat} (hd : decode X.2.1.2.2.1 pc = .ok (.ifCond .le off, 3)) (ht : (pc : Int) + off = (tgt : Int)) (kt : x ≤ 0 → Wp X kc ks tgt lv st sh M) (kf : ¬ (x ≤ 0) → Wp X kc ks (pc + 3) lv st sh M) : Wp X kc ks pc lv (.int x :: st) sh M := by
  intro p e R s m args below meth c H locs ad0 ad ls C ⟨hl, hw, hS, ov, os, ha, hn⟩
  exact lv_if_le C.1.1 C.1.2.1 hd ht (fun q => kt q _ _ _ _ _ _ _ _ _ _ _ _ _ _ C ⟨hl, hw, hS, ov, oks_t os, ha, hn⟩) (fun q => kf q _ _ _ _ _ _ _ _ _ _ _ _ _ _ C ⟨hl, hw, hS, ov, oks_t os, ha, hn⟩)
theorem wp_tableIn {dflt lo hi : Int} {offs : Array Int} {len : Nat} {x : Int32} {off : Int} {tgt : Nat} (hd : decode X.2.1.2.2.1 pc = .ok (.tableswitch dflt lo hi offs, len)) (h1 : ¬ x.toInt < lo) (h2 : ¬ hi < x.toInt) (ho : offs[(x.toInt - lo).toNat]? = some off) (ht : (pc : Int) + off = (tgt : Int)) (k : Wp X kc ks tgt lv st sh M) : Wp X kc ks pc lv (.int x :: st) sh M := by
  intro p e R s m args below meth c H locs ad0 ad ls C ⟨hl, hw, hS, ov, os, ha, hn⟩
  exact lv_tableIn C.1.1 C.1.2.1 hd h1 h2 ho ht (k _ _ _ _ _ _ _ _ _ _ _ _ _ _ C ⟨hl, hw, hS, ov, oks_t os, ha, hn⟩)
theorem wp_tableOut {dflt lo hi : Int} {offs : Array Int} {len : Nat} {x : Int32} {tgt : Nat} (hd : decode X.2.1.2.2.1 pc = .ok (.tableswitch dflt lo hi offs, len)) (h : x.toInt < lo ∨ hi < x.toInt) (ht : (pc : Int) + dflt = (tgt : Int)) (k : Wp X kc ks tgt lv st sh M) : Wp X kc ks pc lv (.int x :: st) sh M := by
  intro p e R s m args below meth c H locs ad0 ad ls C ⟨hl, hw, hS, ov, os, ha, hn⟩
  exact lv_tableOut C.1.1 C.1.2.1 hd h ht (k _ _ _ _ _ _ _ _ _ _ _ _ _ _ C ⟨hl, hw, hS, ov, oks_t os, ha, hn⟩)
theorem wp_lookup {dflt : Int} {ps : Array (Int × Int)} {len : Nat} {x : Int32} {off : Int} {tgt : Nat} (hd : decode X.2.1.2.2.1 pc = .ok (.lookupswitch dflt ps, len)) (hp : (ps.toList.zip (ps.toList.drop 1)).all (fun (a, next) => a.1 < next.1) = true) (ho : Op.lookupswitch.offset ps.toList dflt x.toInt = off) (ht : (pc : Int) + off = (tgt : Int)) (k : Wp X kc ks tgt lv st sh M) : Wp X kc ks pc lv (.int x :: st) sh M := by
  intro p e R s m args below meth c H locs ad0 ad ls C ⟨hl, hw, hS, ov, os, ha, hn⟩
  exact lv_lookup C.1.1 C.1.2.1 hd hp ho ht (k _ _ _ _ _ _ _ _ _ _ _ _ _ _ C ⟨hl, hw, hS, ov, oks_t os, ha, hn⟩)
end WPI
