/-! ===== a NullPointerException made with a text ===== -/
set_option maxHeartbeats 4000000 in
/-- its own fillInStackTrace, from any frame -/
theorem npe_fill (p : Program) {e : Env} (htr : e.platform.stackTraces = false) {below : List Frame} {s₀ X : State} {g : JFrame} {c : Code} (h : At X g.method c below) (hexec : p.tables.exec = Jvm.exec)
    (T : ThrowableC) (L : T.Links e.platform s₀) (N : NpeC) (LN : N.Links T e.platform s₀) (hW : s₀.WarmedH X.vm) {self : Addr} {x cellS : Cell} {u0 : RefV} {kcell : Class} {ig : Instr} {len : Nat}
    (hcell : X.heap[self]? = some x) (hobj : ∀ k, x.vm ≠ .statics k) (hknown : x.vm ≠ .unknown) (hfree : x.monitor.owner = none) (hkcell : s₀.vm.classes[x.cls]? = some kcell) (hsel0 : selectMethod e.platform s₀.vm x.cls T.fill0 = .method T.fill0)
    (hcellS : X.heap[T.aS]? = some cellS) (hneS : T.aS ≠ self) (hknownS : cellS.vm ≠ .unknown) (hvU : cellS.slots[T.fUnassigned.slot]? = some u0.v)
    (hv0 : x.slots[N.fState.slot]? = some (.int 0)) (hvS : (npeCell N.toNpeT x X.cur).slots[T.fStack.slot]? = some u0.v) (ht1 : Takes s₀ x N.fState (.int 1)) (htS : Takes s₀ (npeCell N.toNpeT x X.cur) T.fStack u0.v)
    (hskip : SkipFacts T e.platform s₀ (fun u => u) u0 ((npeCell N.toNpeT x X.cur).withEntry X.cur)) (hdg : decode c.code g.pc = .ok (ig, len))
    {lim : Nat × Nat} (hlim : e.platform.stackLimits X.me = lim) (hframes : X.frames.length + 2 < lim.1) (hwords : (stackUse (.java g :: X.frames.tail)).2 + 43 ≤ lim.2) :
    ∃ vm', s₀.WarmedH vm' ∧ ∀ target, Steps p.tables e below (((X.setVm vm').setCell self ((((npeCell N.toNpeT x X.cur).withEntry X.cur).setSlot T.fStack.slot u0.v).left).left).setTop { g with pc := g.pc + len, stack := .ref self :: g.stack }) target →
      Steps p.tables e below (doInvoke e (X.setTop g) [] N.fill #[.ref self]).1 target := by
  have htop := h.top
  obtain ⟨g₀, hg⟩ := Option.isSome_iff_exists.mp htop
  obtain ⟨tl, htl⟩ := State.topJava?_eq_some.mp hg
  have hlen : X.frames.length = (Frame.java g :: X.frames.tail).length := by rw [htl]; rfl
  have hfg : ∀ vm, ((X.setVm vm).setTop g).frames = .java g :: X.frames.tail := fun vm => by
    have : (X.setVm vm).frames = .java g₀ :: tl := htl
    rw [State.frames_setTop _ this, htl]; rfl
  have hroom : e.platform.stackFull (((X.setTop g).threads[(X.setTop g).cur]?).getD { frames := [] }) (X.setTop g).frames (1 + 2) = false :=
    roomAbove (pushed := []) (base := .java g :: X.frames.tail) (free := 43) (lim := lim) (hfg X.vm) (by rw [State.stackLimits_setTop _ htop]; exact hlim) (by rw [← hlen]; simp only [List.length_nil]; omega) hwords (by simp only [stackUse_nil]; omega)
  have hlt : self < X.heap.size := (Array.getElem?_eq_some_iff.mp hcell).1
  have hheld : ((npeCell N.toNpeT x X.cur).withEntry X.cur).left = npeCell N.toNpeT x X.cur := Cell.left_withEntry_held _ rfl (by show 0 < x.monitor.count + 1; omega)
  have hFmon : ((((npeCell N.toNpeT x X.cur).withEntry X.cur).setSlot T.fStack.slot u0.v).left).monitor = (npeCell N.toNpeT x X.cur).monitor := by
    rw [Cell.left_monitor_congr (y := (npeCell N.toNpeT x X.cur).withEntry X.cur) (show (((npeCell N.toNpeT x X.cur).withEntry X.cur).setSlot T.fStack.slot u0.v).monitor = _ from rfl), hheld]
  have hinner : ∀ vm1, s₀.WarmedH vm1 → At (npeInside (X.setVm vm1) g N.toNpeT self x) N.fill N.codeFill below → ∃ vm2, s₀.WarmedH vm2 ∧ ∀ t' : State,
      Steps p.tables e below (((npeInside (X.setVm vm2) g N.toNpeT self x).setCell self (((npeCell N.toNpeT x X.cur).withEntry X.cur).setSlot T.fStack.slot u0.v).left).setTop (fillJ N.fill self 40 [.ref self])) t' →
      Steps p.tables e below (doInvoke e ((npeInside (X.setVm vm1) g N.toNpeT self x).setTop (fillJ N.fill self 37 [])) [] T.fill #[.ref self]).1 t' := fun vm1 hW1 hB => by
    have htopE : ∀ vm, ((X.setVm vm).setCell self (x.withEntry (X.setVm vm).cur)).topJava?.isSome := fun vm => htop
    have hfN : ∀ vm, (npeInside (X.setVm vm) g N.toNpeT self x).frames = .java (entryFrameSync N.fill #[.ref self] 1 self) :: .java g :: X.frames.tail := fun vm => by
      show (fillInside (X.setVm vm) g N.fill self x).frames = _
      rw [show (fillInside (X.setVm vm) g N.fill self x).frames = _ from frames_entered (g := g) (htopE vm) _]
      rfl
    have htopN : ∀ vm, (npeInside (X.setVm vm) g N.toNpeT self x).topJava?.isSome := fun vm => by rw [State.topJava?_of_frames (hfN vm)]; rfl
    have hlimN : ∀ vm, e.platform.stackLimits (npeInside (X.setVm vm) g N.toNpeT self x).me = lim := fun vm => by
      show e.platform.stackLimits (fillInside (X.setVm vm) g N.fill self x).me = lim
      rw [State.stackLimits_pushFrame, State.stackLimits_setTop _ (htopE vm)]; exact hlim
    have hw14 : (stackUse [Frame.java (fillJ N.fill self 37 [])]).2 = 14 := by
      rw [stackUse_java, stackUse_nil]
      simp [operandWords]
    have hw28 : (stackUse [Frame.java (fillJ T.fill self 16 []), Frame.java (fillJ N.fill self 37 [])]).2 = 28 := by
      rw [stackUse_java, hw14]
      simp [operandWords]
    have hroom2 := roomAbove (pl := e.platform) (u := (npeInside (X.setVm vm1) g N.toNpeT self x).setTop (fillJ N.fill self 37 [])) (vars := 1 + 2)
      (pushed := [.java (fillJ N.fill self 37 [])]) (base := .java g :: X.frames.tail) (free := 43) (lim := lim) (State.frames_setTop _ (hfN vm1)) (by rw [State.stackLimits_setTop _ (htopN vm1)]; exact hlimN vm1)
      (by rw [← hlen]; simp only [List.length_cons, List.length_nil]; omega) hwords (by rw [hw14]; omega)
    have hc1 : (npeInside (X.setVm vm1) g N.toNpeT self x).heap[self]? = some (npeCell N.toNpeT x X.cur) :=
      heapAt_setCell_self _ (by show self < (X.heap.setIfInBounds self _).size; simpa using hlt)
    have hc2 : (npeInside (X.setVm vm1) g N.toNpeT self x).heap[T.aS]? = some cellS := by
      show ((X.heap.setIfInBounds self _).setIfInBounds self _)[T.aS]? = _
      simp [Ne.symm hneS, hcellS]
    obtain ⟨vm2, hW2, st⟩ := Steps.fillColdAnyV p (V := npeInside (X.setVm vm1) g N.toNpeT self x) (g := (fillJ N.fill self 37 [])) (c := N.codeFill) (self := self) hB hexec T L hW1 (Nn := fun u => u) heapOnly_id (fun _ _ => rfl) (fun _ => rfl) (fun u a b => setCell_twice _ _ _ _)
      (cell := npeCell N.toNpeT x X.cur) (cellS := cellS) (cN := (npeCell N.toNpeT x X.cur).withEntry X.cur) (u0 := u0) (ig := .invokespecial 24) (len := 3) [] hc1 hobj hknown (Or.inr rfl) hvS hsel0 hc2 hneS hknownS hvU (fun _ hu => hu) (fun _ hu => hu) rfl rfl rfl rfl htS
      (by rw [LN.fillBytes]; exact LibCode.NullPointerException.Fill.at_37) (fun _ vm3 hW3 hAt t' hs => by
        have htopE2 : ((npeInside (X.setVm vm3) g N.toNpeT self x).setCell self ((npeCell N.toNpeT x X.cur).withEntry (npeInside (X.setVm vm3) g N.toNpeT self x).cur)).topJava?.isSome := by rw [State.topJava?_setCell]; exact htopN vm3
        have hfF2 : (fillInside (npeInside (X.setVm vm3) g N.toNpeT self x) (fillJ N.fill self 37 []) T.fill self (npeCell N.toNpeT x X.cur)).frames = .java (entryFrameSync T.fill #[.ref self] 1 self) :: .java (fillJ N.fill self 37 []) :: .java g :: X.frames.tail := by
          rw [show (fillInside (npeInside (X.setVm vm3) g N.toNpeT self x) (fillJ N.fill self 37 []) T.fill self (npeCell N.toNpeT x X.cur)).frames = _ from frames_entered (g := (fillJ N.fill self 37 [])) htopE2 _]
          show _ :: _ :: ((npeInside (X.setVm vm3) g N.toNpeT self x).frames).tail = _
          rw [hfN vm3]; rfl
        have htopF2 : (fillInside (npeInside (X.setVm vm3) g N.toNpeT self x) (fillJ N.fill self 37 []) T.fill self (npeCell N.toNpeT x X.cur)).topJava?.isSome := by rw [State.topJava?_of_frames hfF2]; rfl
        have hlimF2 : e.platform.stackLimits (fillInside (npeInside (X.setVm vm3) g N.toNpeT self x) (fillJ N.fill self 37 []) T.fill self (npeCell N.toNpeT x X.cur)).me = lim := by
          rw [State.stackLimits_pushFrame, State.stackLimits_setTop _ htopE2]; exact hlimN vm3
        have hroomN := roomAbove (pl := e.platform) (u := (fillInside (npeInside (X.setVm vm3) g N.toNpeT self x) (fillJ N.fill self 37 []) T.fill self (npeCell N.toNpeT x X.cur)).setTop (fillJ T.fill self 16 [])) (vars := (nativeFrameWords "java/lang/Throwable" "fillInStackTrace" 2))
          (pushed := [.java (fillJ T.fill self 16 []), .java (fillJ N.fill self 37 [])]) (base := .java g :: X.frames.tail) (free := 43) (lim := lim) (State.frames_setTop _ hfF2) (by rw [State.stackLimits_setTop _ htopF2]; exact hlimF2)
          (by rw [← hlen]; simp only [List.length_cons, List.length_nil]; omega) hwords (by rw [hw28]; decide)
        exact L.nativeOff p htr hAt hW3 hroomN hs) hroom2 hskip
    exact ⟨vm2, hW2, fun t' hs => st t' hs⟩
  obtain ⟨vm', hW', st⟩ := Steps.npeFillColdBy p (V := X) (g := g) (c := c) (self := self) h hexec T L N LN hW (Fi := fun u => u.setCell self (((npeCell N.toNpeT x X.cur).withEntry X.cur).setSlot T.fStack.slot u0.v).left) (heapOnly_id.thenSetCell self _)
    (fun u => rfl) (fun u a b => by rw [setCell_twice, setCell_twice, setCell_twice]) (cell := x) (cFi := (((npeCell N.toNpeT x X.cur).withEntry X.cur).setSlot T.fStack.slot u0.v).left) (kcell := kcell) (ig := ig) (len := len) []
    hcell hobj hknown hfree hkcell hv0 ht1 (fun u hu => heapAt_setCell_self _ (Array.getElem?_eq_some_iff.mp hu).1) hFmon hdg hinner hroom
  refine ⟨vm', hW', fun target hs => st target ?_⟩
  rw [setCell_twice]
  exact hs
set_option maxHeartbeats 4000000 in
/-- Throwable's constructor with a text, for one whose fillInStackTrace is NullPointerException's -/
theorem npe_initS (p : Program) {e : Env} (htr : e.platform.stackTraces = false) {below : List Frame} {s₀ V : State} {g : JFrame} {c : Code} (h : At V g.method c below) (hexec : p.tables.exec = Jvm.exec)
    (T : ThrowableC) (L : T.Links e.platform s₀) (Z : Init0T) (LZ : Z.LaidS T.toThrowableT) (M : MsgC) (LM : M.Links T e.platform s₀) (N : NpeC) (LN : N.Links T e.platform s₀) (hW : s₀.WarmedH V.vm)
    {u0 sen : RefV} {self : Addr} {msg : Value} (hmsg : msg.isRef = true) {cell cellS : Cell} {kcell : Class}
    (hcell : V.heap[self]? = some cell) (hobj : ∀ k, cell.vm ≠ .statics k) (hknown : cell.vm ≠ .unknown) (hfree : cell.monitor.owner = none)
    (hkcell : s₀.vm.classes[cell.cls]? = some kcell) (hsel0 : selectMethod e.platform s₀.vm cell.cls T.fill0 = .method T.fill0)
    (hcellS : V.heap[T.aS]? = some cellS) (hneS : T.aS ≠ self) (hknownS : cellS.vm ≠ .unknown) (hvU : cellS.slots[T.fUnassigned.slot]? = some u0.v)
    (hv0 : cell.slots[N.fState.slot]? = some (.int 0)) (hneC : T.fCause.slot ≠ N.fState.slot) (hneSt : T.fStack.slot ≠ N.fState.slot) (hneP : T.fSupp.slot ≠ N.fState.slot)
    (htS : Takes s₀ cell T.fStack u0.v) (ht1 : Takes s₀ cell N.fState (.int 1))
    (hskip : SkipFacts T e.platform s₀ (fun u => u) u0 ((npeCell N.toNpeT (preparedCellV T.toThrowableT cell self u0 sen) V.cur).withEntry V.cur))
    (hselF : selectMethod e.platform s₀.vm cell.cls T.fill = .method N.fill) (hvSen : cellS.slots[T.fSentinel.slot]? = some sen.v)
    (htC : Takes s₀ cell T.fCause (.ref self)) (htP : Takes s₀ cell T.fSupp sen.v) (htM : Takes s₀ cell T.fMsg msg) (hobjLocals : T.codeObj.maxLocals = 1)
    {ig : Instr} {len : Nat} (acts : List Action) {lim : Nat × Nat} (hlim : e.platform.stackLimits V.me = lim) (hframes : V.frames.length + 3 < lim.1) (hwords : (stackUse (.java g :: V.frames.tail)).2 + 56 ≤ lim.2)
    (hdg : decode c.code g.pc = .ok (ig, len)) :
    ∃ vm', s₀.WarmedH vm' ∧ ∀ target, Steps p.tables e below (((V.setVm vm').setCell self ((((((npeCell N.toNpeT (preparedCellV T.toThrowableT cell self u0 sen) V.cur).withEntry V.cur).setSlot T.fStack.slot u0.v).left).left).setSlot T.fMsg.slot msg)).setTop { g with pc := g.pc + len }) target →
      Steps p.tables e below (doInvoke e (V.setTop g) acts (Z.m T.toThrowableT) #[.ref self, msg]).1 target := by
  obtain ⟨r1, r2, -, -⟩ := plainRoomsV (e := e) (g := g) (self := self) h.top T hobjLocals Z cell u0 sen msg hlim (by omega) (by omega)
  have htop := h.top
  have tk : ∀ {f : Field} {v : Value}, Takes s₀ cell f v → Takes s₀ (preparedCellV T.toThrowableT cell self u0 sen) f v := fun h' => ⟨by simpa [preparedCellV, Cell.setSlot] using h'.1, h'.2⟩
  have tk2 : ∀ {f : Field} {v : Value}, Takes s₀ cell f v → Takes s₀ (npeCell N.toNpeT (preparedCellV T.toThrowableT cell self u0 sen) V.cur) f v := fun h' => ⟨by simpa [npeCell, preparedCellV, Cell.setSlot, Cell.withEntry] using h'.1, h'.2⟩
  have hv0P : (preparedCellV T.toThrowableT cell self u0 sen).slots[N.fState.slot]? = some (.int 0) := by
    simp [preparedCellV, Cell.setSlot, hneC, hneSt, hneP, hv0]
  have hvSN : (npeCell N.toNpeT (preparedCellV T.toThrowableT cell self u0 sen) V.cur).slots[T.fStack.slot]? = some u0.v := by
    have h1 : T.fStack.slot < cell.slots.size := htS.1
    simp [npeCell, preparedCellV, Cell.setSlot, Cell.withEntry, Ne.symm L.stackApartSupp, Ne.symm hneSt, h1]
  have hlt : self < V.heap.size := (Array.getElem?_eq_some_iff.mp hcell).1
  have hfill : ∀ vm1, s₀.WarmedH vm1 → At ((initSInside (V.setVm vm1) g T.toThrowableT Z self msg).setCell self (preparedCellV T.toThrowableT cell self u0 sen)) (Z.m T.toThrowableT) Z.code below → ∃ vm2, s₀.WarmedH vm2 ∧ ∀ t' : State,
      Steps p.tables e below ((((initSInside (V.setVm vm2) g T.toThrowableT Z self msg).setCell self (preparedCellV T.toThrowableT cell self u0 sen)).setCell self ((((npeCell N.toNpeT (preparedCellV T.toThrowableT cell self u0 sen) V.cur).withEntry V.cur).setSlot T.fStack.slot u0.v).left).left).setTop (initSJ T.toThrowableT Z self msg 27 [.ref self])) t' →
      Steps p.tables e below (doInvoke e (((initSInside (V.setVm vm1) g T.toThrowableT Z self msg).setCell self (preparedCellV T.toThrowableT cell self u0 sen)).setTop (initSJ T.toThrowableT Z self msg 24 [])) [] N.fill #[.ref self]).1 t' := fun vm1 hW1 hA => by
    have hfU : ((initSInside (V.setVm vm1) g T.toThrowableT Z self msg).setCell self (preparedCellV T.toThrowableT cell self u0 sen)).frames = .java (initSJ T.toThrowableT Z self msg 0 []) :: .java g :: V.frames.tail := frames_entered (s := V.setVm vm1) htop _
    have hlimU : e.platform.stackLimits ((initSInside (V.setVm vm1) g T.toThrowableT Z self msg).setCell self (preparedCellV T.toThrowableT cell self u0 sen)).me = lim := by
      show e.platform.stackLimits (initSInside (V.setVm vm1) g T.toThrowableT Z self msg).me = lim
      rw [State.stackLimits_pushFrame, State.stackLimits_setTop _ (show (V.setVm vm1).topJava?.isSome from htop)]; exact hlim
    have hlen : V.frames.length = (Frame.java g :: V.frames.tail).length := by
      obtain ⟨g₀, hg⟩ := Option.isSome_iff_exists.mp htop
      obtain ⟨tl, htl⟩ := State.topJava?_eq_some.mp hg
      rw [htl]; rfl
    have hw13 : (stackUse (Frame.java (initSJ T.toThrowableT Z self msg 24 []) :: Frame.java g :: V.frames.tail)).2 = 13 + (stackUse (Frame.java g :: V.frames.tail)).2 := by
      rw [stackUse_java]
      simp [operandWords]
      omega
    obtain ⟨vm2, hW2, st⟩ := npe_fill p htr (X := (initSInside (V.setVm vm1) g T.toThrowableT Z self msg).setCell self (preparedCellV T.toThrowableT cell self u0 sen)) (g := initSJ T.toThrowableT Z self msg 24 []) (c := Z.code) hA hexec T L N LN hW1 (self := self)
      (x := preparedCellV T.toThrowableT cell self u0 sen) (cellS := cellS) (u0 := u0) (kcell := kcell) (ig := .invokevirtual 27) (len := 3)
      (heapAt_setCell_self (s := initSInside (V.setVm vm1) g T.toThrowableT Z self msg) _ hlt) hobj hknown hfree hkcell hsel0 (by
        show (V.heap.setIfInBounds self _)[T.aS]? = _
        simp [Ne.symm hneS, hcellS]) hneS hknownS hvU hv0P hvSN (tk ht1) (tk2 htS) hskip (by rw [LZ.bytes]; exact LibCode.Throwable.InitS.at_24) hlimU
      (by rw [hfU]; simp only [List.length_cons] at hlen ⊢; omega) (by rw [hfU, List.tail_cons, hw13]; omega)
    exact ⟨vm2, hW2, fun t' hs => st t' hs⟩
  obtain ⟨vm', hW', st⟩ := Steps.throwableInitSColdByV p h hexec T L Z LZ M LM hW (F := fun u => u.setCell self ((((npeCell N.toNpeT (preparedCellV T.toThrowableT cell self u0 sen) V.cur).withEntry V.cur).setSlot T.fStack.slot u0.v).left).left) (heapOnly_id.thenSetCell self _) (fun u vm => rfl)
    hmsg (cF := ((((npeCell N.toNpeT (preparedCellV T.toThrowableT cell self u0 sen) V.cur).withEntry V.cur).setSlot T.fStack.slot u0.v).left).left) hcell hknown (fun u hu => heapAt_setCell_self _ (Array.getElem?_eq_some_iff.mp hu).1) (by rw [Cell.left_cls, Cell.left_cls]; rfl) (by rw [Cell.left_data, Cell.left_data]; rfl)
    (by rw [Cell.left_slots, Cell.left_slots]; simp [npeCell, preparedCellV, Cell.setSlot, Cell.withEntry]) htM hdg (mSel := N.fill) (methSel := N.methFill) (kSel := N.kN) hobj hselF LN.method LN.fillAbstract LN.cls LN.notInterface hfill acts
    hcellS hneS hknownS hvU hvSen htC htS htP r1 r2
  refine ⟨vm', hW', fun target hrest => st target ?_⟩
  rw [setCell_twice, setCell_twice]
  exact hrest
set_option maxHeartbeats 4000000 in
/-- the chain of constructors down to Throwable's -/
theorem npe_chain (p : Program) {e : Env} (htr : e.platform.stackTraces = false) {below : List Frame} {s₀ V : State} {g : JFrame} {c : Code} (h : At V g.method c below) (hexec : p.tables.exec = Jvm.exec)
    (T : ThrowableC) (L : T.Links e.platform s₀) (Z : Init0T) (LZ : Z.LaidS T.toThrowableT) (M : MsgC) (LM : M.Links T e.platform s₀) (N : NpeC) (LN : N.Links T e.platform s₀) (hW : s₀.WarmedH V.vm)
    {u0 sen : RefV} {self : Addr} {msg : Value} (hmsg : msg.isRef = true) {cell cellS : Cell} {kcell : Class}
    (hcell : V.heap[self]? = some cell) (hobj : ∀ k, cell.vm ≠ .statics k) (hknown : cell.vm ≠ .unknown) (hfree : cell.monitor.owner = none)
    (hkcell : s₀.vm.classes[cell.cls]? = some kcell) (hsel0 : selectMethod e.platform s₀.vm cell.cls T.fill0 = .method T.fill0)
    (hcellS : V.heap[T.aS]? = some cellS) (hneS : T.aS ≠ self) (hknownS : cellS.vm ≠ .unknown) (hvU : cellS.slots[T.fUnassigned.slot]? = some u0.v)
    (hv0 : cell.slots[N.fState.slot]? = some (.int 0)) (hneC : T.fCause.slot ≠ N.fState.slot) (hneSt : T.fStack.slot ≠ N.fState.slot) (hneP : T.fSupp.slot ≠ N.fState.slot)
    (htS : Takes s₀ cell T.fStack u0.v) (ht1 : Takes s₀ cell N.fState (.int 1))
    (hskip : SkipFacts T e.platform s₀ (fun u => u) u0 ((npeCell N.toNpeT (preparedCellV T.toThrowableT cell self u0 sen) V.cur).withEntry V.cur))
    (hselF : selectMethod e.platform s₀.vm cell.cls T.fill = .method N.fill) (hvSen : cellS.slots[T.fSentinel.slot]? = some sen.v)
    (htC : Takes s₀ cell T.fCause (.ref self)) (htP : Takes s₀ cell T.fSupp sen.v) (htM : Takes s₀ cell T.fMsg msg) (hobjLocals : T.codeObj.maxLocals = 1)
    (Ps : List PassC) (hL : ∀ P, P ∈ Ps → P.LinksS e.platform s₀) (hlink : PassesOn (Z.m T.toThrowableT) (Ps.map (·.toPassT))) {ig : Instr} {len : Nat} (acts : List Action)
    {lim : Nat × Nat} (hlim : e.platform.stackLimits V.me = lim) (hframes : V.frames.length + Ps.length + 3 < lim.1) (hwords : (stackUse (.java g :: V.frames.tail)).2 + 13 * Ps.length + 56 ≤ lim.2)
    (hdg : decode c.code g.pc = .ok (ig, len)) :
    ∃ vm', s₀.WarmedH vm' ∧ ∀ target, Steps p.tables e below (((V.setVm vm').setCell self ((((((npeCell N.toNpeT (preparedCellV T.toThrowableT cell self u0 sen) V.cur).withEntry V.cur).setSlot T.fStack.slot u0.v).left).left).setSlot T.fMsg.slot msg)).setTop { g with pc := g.pc + len }) target →
      Steps p.tables e below (doInvoke e (V.setTop g) acts (firstOf (Z.m T.toThrowableT) (Ps.map (·.toPassT))) #[.ref self, msg]).1 target := by
  obtain ⟨f1, -, -, f4, f5, f6⟩ := chainEnd_facts e.platform self msg (Ps.map (·.toPassT)) V g h.top
  have fc := chainEnd_cur self msg (Ps.map (·.toPassT)) V g
  rw [List.length_map] at f5 f6
  refine Steps.initChainSCold hexec (H := fun u => u.setCell self ((((((npeCell N.toNpeT (preparedCellV T.toThrowableT cell self u0 sen) V.cur).withEntry V.cur).setSlot T.fStack.slot u0.v).left).left).setSlot T.fMsg.slot msg)) (heapOnly_id.thenSetCell self _) (Z.m T.toThrowableT) hmsg lim Ps V g c ig len acts h hW hL hlink hdg hlim (by omega) (by omega) (fun vm1 hW1 c' ig' len' hA' hdg' => ?_)
  simp only [chainEnd_setVm] at hA' hdg' ⊢
  generalize chainEnd self msg V g (Ps.map (·.toPassT)) = E at f1 f4 f5 f6 fc hA' hdg' ⊢
  rw [← fc] at hskip ⊢
  obtain ⟨vm2, hW2, st⟩ := npe_initS p htr (V := E.1.setVm vm1) (g := E.2) (self := self) hA' hexec T L Z LZ M LM N LN hW1 hmsg (kcell := kcell)
    (by show E.1.heap[self]? = _; rw [f1]; exact hcell) hobj hknown hfree hkcell hsel0 (by show E.1.heap[T.aS]? = _; rw [f1]; exact hcellS) hneS hknownS hvU hv0 hneC hneSt hneP htS ht1 hskip
    hselF hvSen htC htP htM hobjLocals [] (lim := lim) (by show e.platform.stackLimits E.1.me = lim; rw [f4]; exact hlim) (by show E.1.frames.length + 3 < lim.1; rw [f5]; omega)
    (by show (stackUse (.java E.2 :: E.1.frames.tail)).2 + 56 ≤ lim.2; rw [f6]; omega) hdg'
  exact ⟨vm2, hW2, fun t' hs => st t' (by rw [State.setVm_twice]; exact hs)⟩
def npeL (own : String) (ic : Nat) : List Cond := Bundle.throwableAtoms ++ Bundle.throwableSAtoms ++ Bundle.chainSAtoms Bundle.nN [Bundle.rN, "java/lang/Exception"] ++ Bundle.npeAtoms ++ [.methodLink own ic (Bundle.initS Bundle.nN), .instantiable Bundle.nN 8, .castable Bundle.nN Bundle.nN, .selects Bundle.nN Bundle.tFill0 Bundle.tFill0, .selects Bundle.nN Bundle.tFill Bundle.nFill,
   .lays Bundle.nN Bundle.tN "cause" "Ljava/lang/Throwable;", .lays Bundle.nN Bundle.tN "stackTrace" Bundle.steD, .lays Bundle.nN Bundle.tN "suppressedExceptions" Bundle.listD, .lays Bundle.nN Bundle.tN "detailMessage" "Ljava/lang/String;",
   .isRef (.static Bundle.tN "UNASSIGNED_STACK" Bundle.steD), .isRef (.static Bundle.tN "SUPPRESSED_SENTINEL" Bundle.listD),
   .fieldLink Bundle.tN 198 Bundle.tN "backtrace" "Ljava/lang/Object;", .lays Bundle.tN Bundle.tN "backtrace" "Ljava/lang/Object;", .lays Bundle.nN Bundle.tN "backtrace" "Ljava/lang/Object;"]
set_option maxHeartbeats 4000000 in
/-- from its constructor's call to where it leaves the frame -/
theorem npe_throw {p : Program} {l : Launch} {e : Env} {R : Room} {s : State} {m₀ : MethodId} {args : Array Value} {below : List Frame} {meth : Method} {c : Code} {W : State} {cells slots : Nat}
    (X : Stand p l e R s m₀ args below meth c W [] cells slots) (hexec : p.tables.exec = Jvm.exec) (htr : e.platform.stackTraces = false) {own : String} {ic : Nat}
    (hown : s.vm.findClass own = some m₀.cls) (h : ∀ a ∈ npeL own ic, a.before args s = true)
    {a : Addr} {cX : ClassId} {kX : Class} (hfoundX : s.vm.findClass Bundle.nN = some cX) (hkX : s.vm.classes[cX]? = some kX) (hcell : W.heap[a]? = some (freshCell cX kX)) (hnew : s.heap.size ≤ a)
    {msg : Value} (hmsg : msg.isRef = true)
    {g : JFrame} (hg : g.method = m₀) (hsize : g.locals.size = c.maxLocals) (hlocked : g.locked = none) (hentered : g.entered = []) {rest : List Value} (hstack : g.stack = msg :: .ref a :: .ref a :: rest)
    (hd6 : decode c.code g.pc = .ok (.invokespecial ic, 3)) (hd9 : decode c.code (g.pc + 3) = .ok (.athrow, 1)) (hout : ∀ x ∈ c.exceptionTable.toList, covers x (g.pc + 3) = false)
    (hRframes : 6 < R.frames) (hRlocals : 2 * g.monitorRoom + ((Value.ref a :: rest).map fun v => v.category).sum + 95 ≤ R.locals) (hlocks : meth.locks = false) :
    ∃ U : State, Steps p.tables e below (W.setTop g) U ∧ U.status = .running ∧ Ended U below (.threw a) ∧ s.WarmedH U.vm ∧ s.sameButNew ({ U with vm := s.vm } : State) [] cells slots ∧
      ∃ ce, U.heap[a]? = some ce ∧ s.vm.findClass Bundle.nN = some ce.cls ∧ ce.vm = .none := by
  have howns : e.platform.frameOwnsMonitors = true := by rw [X.admits.platform]
  have hfin : e.platform.finalization = false := by rw [X.admits.platform]
  have hpl : e.platform.magicAccessors = ({} : Platform).magicAccessors := by rw [X.admits.platform]
  have hpl2 : e.platform.arrayCloneIsPublic = true := by rw [X.admits.platform]
  have a' : ∀ x, x ∈ npeL own ic → x.holds args s none s [] = true := fun x hx => h x hx
  obtain ⟨T, Z0, L, -, Y⟩ := ThrowableC.of_atoms (args := args) howns hfin hpl (fun x hx => h x (by simp [npeL, hx]))
  obtain ⟨Z, M, LZ, LM, hnZ⟩ := Init0T.ofS_atoms (args := args) hpl L Y (fun x hx => h x (by simp [npeL, hx]))
  obtain ⟨P1, Ps, hlen, L1, hL, hP1m, hlink1, hlink⟩ := Bundle.chainS (args := args) hpl hnZ [Bundle.rN, "java/lang/Exception"] Bundle.nN (by decide) (by decide) (fun x hx => h x (by simp [npeL, hx]))
  obtain ⟨N, LN, hNc, hNf, hNo, hNs⟩ := NpeC.of_atoms (args := args) hpl hpl2 L Y (fun x hx => h x (by simp [npeL, hx]))
  have hfound : s.vm.findClass Bundle.nN = some P1.m.cls := findClass_of_methodNamed hP1m
  cases Option.some.inj (hfoundX.symm.trans hfound)
  obtain ⟨c1, kX', hc1, hk, hord, -, -, hn6⟩ := Cond.instantiable_spec (a' (.instantiable Bundle.nN 8) (by simp [npeL]))
  cases Option.some.inj (hc1.symm.trans hfound)
  cases Option.some.inj (hkX.symm.trans hk)
  have hsel0 : selectMethod e.platform s.vm P1.m.cls T.fill0 = .method T.fill0 := by
    obtain ⟨c2, r2, m2, q1, q2, q3, q4, -⟩ := Cond.selects_spec (a' (.selects Bundle.nN Bundle.tFill0 Bundle.tFill0) (by simp [npeL]))
    cases Option.some.inj (q1.symm.trans hfound)
    cases Option.some.inj (q2.symm.trans (State.methodFound?_of_named Y.fill0 (by decide)))
    cases Option.some.inj (q3.symm.trans Y.fill0)
    rw [Launch.admits_selectMethod X.admits]; exact q4
  have hselF : selectMethod e.platform s.vm P1.m.cls T.fill = .method N.fill := by
    obtain ⟨c2, r2, m2, q1, q2, q3, q4, -⟩ := Cond.selects_spec (a' (.selects Bundle.nN Bundle.tFill Bundle.nFill) (by simp [npeL]))
    cases Option.some.inj (q1.symm.trans hfound)
    cases Option.some.inj (q2.symm.trans (State.methodFound?_of_named Y.fill (by decide)))
    cases Option.some.inj (q3.symm.trans hNf)
    rw [Launch.admits_selectMethod X.admits]; exact q4
  obtain ⟨cellS0, hcS0, hiss⟩ := Y.statics
  obtain ⟨u0, hu0⟩ := Cond.staticRefV Y.unassigned L.unassignedStatic L.statics hcS0 hiss (a' (.isRef (.static Bundle.tN "UNASSIGNED_STACK" Bundle.steD)) (by simp [npeL]))
  obtain ⟨sen, hsen⟩ := Cond.staticRefV Y.sentinel L.sentinelStatic L.statics hcS0 hiss (a' (.isRef (.static Bundle.tN "SUPPRESSED_SENTINEL" Bundle.listD)) (by simp [npeL]))
  obtain ⟨ci198, i198, fB, hk198, hg198, ha198, hsB, -, hnB, htB, hffB⟩ := Cond.ownField (t := .object "java/lang/Object") Y.found L.cls (by decide +kernel) (a' (.fieldLink Bundle.tN 198 Bundle.tN "backtrace" "Ljava/lang/Object;") (by simp [npeL])) (a' (.lays Bundle.tN Bundle.tN "backtrace" "Ljava/lang/Object;") (by simp [npeL])) e.platform hpl
  obtain ⟨cellS, hcS', heS, -, hkeep⟩ := X.same.2.2.2.2.2 T.aS cellS0 hcS0
  have hcellS : W.heap[T.aS]? = some cellS := hcS'
  have hout' : ∀ i, (⟨T.aS, i⟩ : Loc) ∉ ([] : List Loc) := fun i hmem => nomatch hmem
  have hknownS : cellS.vm ≠ .unknown := by
    rw [heS]; intro hu
    rw [show cellS0.vm = .unknown from hu] at hiss
    cases hiss
  have hneS : T.aS ≠ a := Nat.ne_of_lt (Nat.lt_of_lt_of_le (Array.getElem?_eq_some_iff.mp hcS0).1 hnew)
  obtain ⟨iM, hffM⟩ := Y.msg
  obtain ⟨tyC, dC, hdC, hdnC⟩ := Cond.laysAt hfound hk Y.cause (a' (.lays Bundle.nN Bundle.tN "cause" "Ljava/lang/Throwable;") (by simp [npeL]))
  obtain ⟨tyS, dS, hdS, hdnS⟩ := Cond.laysAt hfound hk Y.stack (a' (.lays Bundle.nN Bundle.tN "stackTrace" Bundle.steD) (by simp [npeL]))
  obtain ⟨tyP, dP, hdP, hdnP⟩ := Cond.laysAt hfound hk Y.supp (a' (.lays Bundle.nN Bundle.tN "suppressedExceptions" Bundle.listD) (by simp [npeL]))
  obtain ⟨tyM, dM, hdM, hdnM⟩ := Cond.laysAt hfound hk hffM (a' (.lays Bundle.nN Bundle.tN "detailMessage" "Ljava/lang/String;") (by simp [npeL]))
  obtain ⟨tyB, dB, hdB, hdnB⟩ := Cond.laysAt hfound hk hffB (a' (.lays Bundle.nN Bundle.tN "backtrace" "Ljava/lang/Object;") (by simp [npeL]))
  obtain ⟨tyN, dN, hdN, hdnN⟩ := Cond.laysAt hfound hk hNs (a' (.lays Bundle.nN Bundle.nN "extendedMessageState" "I") (by simp [npeL, Bundle.npeAtoms]))
  have hnN : N.fState.name = "extendedMessageState" := (State.fieldFound?_type hNs (t := .int) (by decide +kernel)).1
  have htN : N.fState.type = .int := (State.fieldFound?_type hNs (t := .int) (by decide +kernel)).2
  have bC := Cond.laysApart hdB hdC hdnB hdnC (by rw [hnB, Y.causeName]; decide)
  have bS := Cond.laysApart hdB hdS hdnB hdnS (by rw [hnB, Y.stackName]; decide)
  have bP := Cond.laysApart hdB hdP hdnB hdnP (by rw [hnB, Y.suppName]; decide)
  have bN := Cond.laysApart hdB hdN hdnB hdnN (by rw [hnB, hnN]; decide)
  have nC := Cond.laysApart hdC hdN hdnC hdnN (by rw [Y.causeName, hnN]; decide)
  have nS := Cond.laysApart hdS hdN hdnS hdnN (by rw [Y.stackName, hnN]; decide)
  have nP := Cond.laysApart hdP hdN hdnP hdnN (by rw [Y.suppName, hnN]; decide)
  have hv0 : (freshCell P1.m.cls kX).slots[N.fState.slot]? = some (.int 0) := by
    have := fresh_default (c := P1.m.cls) tyN
    rw [htN] at this
    exact this
  have hskip : SkipFacts T e.platform s (fun u => u) u0 ((npeCell N.toNpeT (preparedCellV T.toThrowableT (freshCell P1.m.cls kX) a u0 sen) W.cur).withEntry W.cur) :=
    ⟨{ ci198 := ci198, i198 := i198, fBack := fB }, ⟨hk198, hg198, ha198, hsB⟩, by
      have := fresh_default (c := P1.m.cls) tyB
      rw [htB] at this
      simpa [npeCell, preparedCellV, Cell.setSlot, Cell.withEntry, Array.getElem?_setIfInBounds, bC, bS, bP, bN, bC.symm, bS.symm, bP.symm, bN.symm, defaultValue] using this, fun _ _ => rfl⟩
  obtain ⟨tm, methC, cdC, kC, vm₁, hnC, -, -, -, -, -, -, -, hW₁, st1⟩ := Steps.initColdS (tb := p.tables) (e := e) (below := below) (s := s) (U := W) X.here hexec X.warmed hpl hown (t := Bundle.initS Bundle.nN) rfl rfl (by decide)
    (a' (.methodLink own ic (Bundle.initS Bundle.nN)) (by simp [npeL])) (h (.instanceMethod (Bundle.initS Bundle.nN)) (by simp [npeL, Bundle.chainSAtoms, Bundle.passSAtoms])) (bytes := Bundle.six) (maxL := 2) (h (.code (Bundle.initS Bundle.nN) Bundle.six 2 none) (by simp [npeL, Bundle.chainSAtoms, Bundle.passSAtoms]))
    (f := g) hg (a := a) (msg := msg) (rest := .ref a :: rest) hstack hd6
  cases Option.some.inj (hnC.symm.trans hP1m)
  have X₁ := X.noted hW₁
  have hAt : At (W.setVm vm₁) ({ g with stack := .ref a :: rest } : JFrame).method c below := by
    show At (W.setVm vm₁) g.method c below
    rw [hg]; exact X₁.here
  have hlen3 : (P1 :: Ps).length = 3 := by rw [List.length_cons, hlen]; rfl
  have hfr' : (W.setVm vm₁).frames.length + (P1 :: Ps).length + 3 < (e.platform.stackLimits (W.setVm vm₁).me).1 := by have := X₁.framesAbove hRframes; rw [hlen3]; omega
  have hwd' : (stackUse (.java ({ g with stack := .ref a :: rest } : JFrame) :: (W.setVm vm₁).frames.tail)).2 + 13 * (P1 :: Ps).length + 56 ≤ (e.platform.stackLimits (W.setVm vm₁).me).2 := by
    have := X₁.stackAbove (g := ({ g with stack := .ref a :: rest } : JFrame)) hsize (K := 95) hRlocals
    rw [hlen3]; omega
  obtain ⟨vm₂, hW₂, st2⟩ := npe_chain p htr (V := W.setVm vm₁) (g := { g with stack := .ref a :: rest }) (self := a) hAt hexec T L Z LZ M LM N LN X₁.warmed hmsg (u0 := u0) (sen := sen) (cell := freshCell P1.m.cls kX) (cellS := cellS) (kcell := kX)
    hcell (fun _ => by simp) (by simp) rfl hk hsel0 hcellS hneS hknownS (by rw [hkeep _ (hout' _)]; exact hu0) hv0 nC nS nP
    (Takes.of_laid hk hord tyS (by rw [Y.stackType]; exact fits_refV_array _ u0)) (Takes.of_laid hk hord tyN (by rw [htN]; rfl)) hskip hselF (by rw [hkeep _ (hout' _)]; exact hsen)
    (Takes.of_laid hk hord tyC (by rw [Y.causeType]; rfl)) (Takes.of_laid hk hord tyP (by rw [Y.suppType]; exact fits_refV_object _ sen)) (Takes.of_laid hk hord tyM (by rw [Y.msgType]; exact fits_refV_object _ ⟨msg, hmsg⟩)) Y.objLocals
    (P1 :: Ps) (fun P hP => by rcases List.mem_cons.mp hP with rfl | hP; exact L1; exact hL P hP) ⟨hlink1, hlink⟩ [] rfl hfr' hwd' hd6
  rw [npeBareV_eq T.toThrowableT N.toNpeT a u0 sen (W.setVm vm₁).cur rfl rfl] at st2
  have X2 := X₁.noted hW₂
  have ha : a < ((W.setVm vm₁).setVm vm₂).heap.size := (Array.getElem?_eq_some_iff.mp hcell).1
  have X3 := (((((X2.stored (a := a) hcell T.fCause.slot (.ref a)).storedAgain ha T.fStack.slot u0.v).storedAgain ha T.fSupp.slot sen.v).storedAgain ha N.fState.slot (.int 1)).storedAgain ha T.fStack.slot u0.v).storedAgain ha T.fMsg.slot msg
  have X4 : Stand p l e R s m₀ args below meth c (((W.setVm vm₁).setVm vm₂).setCell a ((npeBareV T.toThrowableT N.toNpeT (freshCell P1.m.cls kX) a u0 sen).setSlot T.fMsg.slot msg)) ((((((([] ++ [⟨a, T.fCause.slot⟩]) ++ [⟨a, T.fStack.slot⟩]) ++ [⟨a, T.fSupp.slot⟩]) ++ [⟨a, N.fState.slot⟩]) ++ [⟨a, T.fStack.slot⟩]) ++ [⟨a, T.fMsg.slot⟩])) cells slots := X3
  obtain ⟨hwalk, hrun, hended, hWU, hsame⟩ := X4.athrowLeaves hexec (g := { g with stack := .ref a :: rest, pc := g.pc + 3 }) hg hlocked hentered hout (a := a) (rest := rest) rfl hd9
  have hU := heapAt_setCell_self (s := (W.setVm vm₁).setVm vm₂) ((npeBareV T.toThrowableT N.toNpeT (freshCell P1.m.cls kX) a u0 sen).setSlot T.fMsg.slot msg) ha
  refine ⟨_, st1 _ (fun acts => ?_), hrun, hended, hWU, hsame.weaken (fun y hy hlt' => ?_) (Nat.le_refl _) (Nat.le_refl _), _, hU, hfound, rfl⟩
  · rw [doInvoke_state]
    exact st2 _ hwalk
  · exfalso
    have hb : y.base = a := by
      simp only [List.nil_append, List.cons_append, List.mem_cons, List.not_mem_nil, or_false] at hy
      rcases hy with rfl | rfl | rfl | rfl | rfl | rfl <;> rfl
    rw [hb] at hlt'
    exact Nat.not_lt.mpr hnew hlt'

set_option maxHeartbeats 4000000 in
/-- 'throw new NullPointerException("text")' -/
theorem vx_throwN {p : Program} {l : Launch} {e : Env} {R : Room} {s : State} {m : MethodId} {args : Array Value} {below : List Frame} {meth : Method} {c : Code} {H : Heap} {locs : List Loc} {cells slots : Nat} {Qc : Array Value → State → Outcome → State → Prop} {XC : String → State → State → Prop} {free : Addr → Prop} {ls : Array Slot} {rest : List Value}
    {cc : ByteArray} {pc : Nat} (hexec : p.tables.exec = Jvm.exec) (hb : c.code = cc) (hl : l.stackTraces = false) {own text : String} {ik is ic mc ms sa : Nat} {A : Nat → Prop}
    (hown : s.vm.findClass own = some m.cls)
    (hk : (Cond.classLink own ik Bundle.nN).before args s = true) (hini : (Cond.initialized Bundle.nN).before args s = true) (hstr : vk_R own is text sa s) (hat : ∀ w ∈ (npeL own ic).filter vx_no, w.before args s = true)
    (hgood : ∀ w ∈ Cond.classLink own ik Bundle.nN :: Cond.initialized Bundle.nN :: (npeL own ic).filter vx_no, vx_ot w = true)
    (hU : vx_Zq Bundle.tN "UNASSIGNED_STACK" Bundle.steD A s s.heap) (hN : vx_Zq Bundle.tN "SUPPRESSED_SENTINEL" Bundle.listD A s s.heap) (hS : va_S A s.heap H locs) (hsize : ls.size = c.maxLocals)
    (d0 : decode cc pc = .ok (.new ik, 3)) (d3 : decode cc (pc + 3) = .ok (.dup, 1)) (d4 : decode cc (pc + 4) = .ok (.ldc is, 2)) (d6 : decode cc (pc + 6) = .ok (.invokespecial ic, 3)) (d9 : decode cc (pc + 9) = .ok (.athrow, 1))
    (hout : ∀ x ∈ c.exceptionTable.toList, covers x (pc + 9) = false)
    (hRframes : 6 < R.frames) (hRlocals : (rest.map fun v => v.category).sum + 96 ≤ R.locals) (hRcells : cells + 1 ≤ R.cells) (hRslots : slots + 8 ≤ R.slots) (hlocks : meth.locks = false)
    (hx : ∀ t : State, s.vm.Alike t.vm → H.size ≤ t.heap.size → (∀ q : Nat, q < H.size → t.heap[q]? = H[q]?) → XC Bundle.nN s t)
    (hf : ∀ z ∈ locs, free z.base) (hc : cells + 1 ≤ mc) (hs : slots + 8 ≤ ms) :
    W p l e R s m args below meth c H locs cells slots (vx_MQ below Qc XC args s mc ms free) (F0 m pc ls rest) := by
  intro T hT X
  have htr : e.platform.stackTraces = false := (show e.platform.stackTraces = l.stackTraces by rw [X.admits.platform]).trans hl
  have Y := vx_rebase X (R' := { frames := R.frames, locals := R.locals, cells := 1, slots := 8 }) (Nat.le_refl _) (Nat.le_refl _) hRcells hRslots
  obtain ⟨s', hA⟩ : ∃ z, z = (T.setVm s.vm).setFrames (.invoking m args :: below) := ⟨_, rfl⟩
  rw [← hA] at Y
  have hvm : s'.vm = s.vm := by rw [hA]; rfl
  have hhp : s'.heap = H := by rw [hA]; exact hT
  have hW0 : s.WarmedH s'.vm := by rw [hvm]; exact State.WarmedH.refl s
  have hat' : ∀ w ∈ (npeL own ic).filter vx_no, w.before args s' = true := fun w hw => vx_ot_at hW0 hvm.symm (hgood w (List.mem_cons_of_mem _ (List.mem_cons_of_mem _ hw))) (hat w hw)
  have hk' : (Cond.classLink own ik Bundle.nN).before args s' = true := vx_ot_at hW0 hvm.symm (hgood _ List.mem_cons_self) hk
  have hini' : (Cond.initialized Bundle.nN).before args s' = true := vx_ot_at hW0 hvm.symm (hgood _ (List.mem_cons_of_mem _ List.mem_cons_self)) hini
  have hU' : vx_Zq Bundle.tN "UNASSIGNED_STACK" Bundle.steD A s' s'.heap := by rw [hhp]; exact vx_Zq.moved hW0.alike (hU.kept hS.2.1)
  have hN' : vx_Zq Bundle.tN "SUPPRESSED_SENTINEL" Bundle.listD A s' s'.heap := by rw [hhp]; exact vx_Zq.moved hW0.alike (hN.kept hS.2.1)
  have h : ∀ w ∈ npeL own ic, w.before args s' = true := vx_own hat' (vx_isRefq hU'.1) (vx_isRefq hN'.1) hU'.2.word hN'.2.word
  have hown' : s'.vm.findClass own = some m.cls := by rw [hvm]; exact hown
  have hins : (Cond.instantiable Bundle.nN 8).before args s' = true := h _ (by simp [npeL])
  obtain ⟨vm₁, cX, kX, hfX, hkX, -, -, X₁, st1⟩ := Y.newCold hexec (own := own) (C := Bundle.nN) (index := ik) (n := 8) hown' hk' hins hini'
    (g := F0 m pc ls rest) rfl (by rw [hb]; exact d0) (Nat.le_refl _) (Nat.le_refl _)
  generalize hT1 : (T.setVm vm₁).pushCell { cls := cX, slots := kX.instanceTypes.map defaultValue, vm := .none } = T1 at X₁ st1
  have hcat : (Value.ref T.heap.size).category = 1 := rfl
  have hcellA : T1.heap[T.heap.size]? = some (freshCell cX kX) := by rw [← hT1]; exact State.heap_pushCell_size _ _
  have d3' : decode c.code (pc + 3) = .ok (.dup, 1) := by rw [hb]; exact d3
  have d4' : decode c.code (pc + 4) = .ok (.ldc is, 2) := by rw [hb]; exact d4
  have hstr' : vk_R own is text sa s' := vk_R.warm hW0 hstr
  obtain ⟨U, hsteps, hrun, hend, hW, hsame, ce, hce, hcc, hcv⟩ := npe_throw X₁ hexec htr (own := own) (ic := ic) hown' h hfX hkX hcellA (by rw [hhp, hT]; exact Nat.le_refl _) (msg := .ref sa) rfl
    (g := { method := m, pc := pc + 6, locals := ls, stack := .ref sa :: .ref T.heap.size :: .ref T.heap.size :: rest, locked := none }) rfl hsize rfl rfl (rest := rest) rfl
    (by rw [hb]; exact d6) (by rw [hb]; exact d9) hout hRframes (by simp only [List.map_cons, List.sum_cons, hcat]; show _ ≤ R.locals; omega) hlocks
  obtain ⟨f1, f2⟩ := vx_frame hsame
  rw [hhp] at f1 f2
  have hWs : s.WarmedH U.vm := State.WarmedH.trans hW0 hW
  have hcl : s.vm.findClass Bundle.nN = some ce.cls := by rw [hvm] at hcc; exact hcc
  have hall : s.sameButNew ({ U with vm := s.vm } : State) locs mc ms := by
    subst hA
    obtain ⟨e1, e2⟩ := hsame
    rw [State.setFrames_setFrames] at e1
    have h2 : (T.setVm s.vm).sameButNew ({ U with vm := s.vm } : State) [] (0 + 1) (0 + 8) := ⟨e1, e2⟩
    have h3 := X.same.trans h2
    rw [List.append_nil] at h3
    exact h3.mono hc hs
  refine ⟨U, ?_, .threw T.heap.size, hrun, hend, Or.inr ⟨T.heap.size, rfl, Bundle.nN, ce, locs, hx U hWs.alike f1 (fun q hq => f2 q hq (fun z hz => nomatch hz)), hce, hcv, hcl, hWs, hall, hf⟩⟩
  refine st1 _ ?_
  show Steps p.tables e below (T1.setTop { method := m, pc := pc + 3, locals := ls, stack := .ref T.heap.size :: rest, locked := none }) _
  jvm_step X₁.here [X₁.here.top, hexec, d3', Value.category]
  exact X₁.ldcString hexec (own := own) (text := text) (index := is) (a := sa) hown' hstr'.1 hstr'.2
    (g := { method := m, pc := pc + 4, locals := ls, stack := .ref T.heap.size :: .ref T.heap.size :: rest, locked := none }) rfl d4' _ hsteps
/-! ===== contracts of methods that throw ===== -/
abbrev XT : Type := String → List Sh → Mem → Prop
def xXC (E : GE) (ad0 : Nat → Nat) (n0 : Nat) (XP : XT) : String → State → State → Prop := fun Ex st t =>
  (∃ (sh : List Sh) (M : Mem) (ad : Nat → Nat), XP Ex sh M ∧ (∀ k, okp n0 k → ad k = ad0 k) ∧ n0 ≤ sh.length ∧ Wd E ad sh M t.heap) ∧ va_F (inA E.2.2.2) st t
abbrev xMX (E : GE) (m : MM) (d mc ms n0 : Nat) (Post : PT) (XP : XT) : MX := (E, m, d, mc, ms, n0, [], fun below args s ad0 => vx_MQ below (mQ E ad0 n0 Post) (xXC E ad0 n0 XP) args s mc ms (inA E.2.2.2))
def SpX (E : GE) (m : MM) (d mc ms : Nat) (args : List Value) (sh : List Sh) (M : Mem) (Post : PT) (XP : XT) : Prop :=
  ∀ ad : Nat → Nat, vx_Met E.1 m.1 (cdW m :: BIG) (rmR d mc ms) (mPc E ad args sh M) (mQ E ad sh.length Post) (xXC E ad sh.length XP) mc ms (inA E.2.2.2)
theorem wp_toX {E : GE} {m : MM} {d mc ms n0 kc ks pc : Nat} {lv : LV} {st : List Value} {sh : List Sh} {M : Mem} {Post : PT} {XP : XT} (h : Wp (xM E m d mc ms n0 Post) kc ks pc lv st sh M) : Wp (xMX E m d mc ms n0 Post XP) kc ks pc lv st sh M := by
  intro p e R s m' args below meth c H locs ad0 ad ls C D
  exact vx_ret (h p e R s m' args below meth c H locs ad0 ad ls C D)
theorem spX_of {E : GE} {m : MM} {n d mc ms : Nat} {args : List Value} {sh : List Sh} {M : Mem} {Post : PT} {XP : XT} (hm : MC m n) (ho : m.1.cls = m.2.1) (hpn : plainName m.1.cls = true) (hlen : (lg_sl args).length ≤ m.2.2.2.1)
    (h : Wp (xMX E m d mc ms sh.length Post XP) 0 0 0 (lv_args 0 args) [] sh M) : SpX E m d mc ms args sh M Post XP := by
  intro ad
  refine vx_ofW (cc := m.2.2.1) (maxL := m.2.2.2.1) (ret := m.2.2.2.2) hpn rfl ?_
  intro p e s m' args' below meth c s₁ B hml hta hP
  obtain ⟨rfl, hok, hw, hK⟩ := hP
  have hts : ∀ w ∈ cdW m :: BIG, w.before (args.map (cv ad)).toArray s = true := atoms_spec (ws := cdW m :: BIG) B.pre
  have hown : s.vm.findClass m.1.cls = some m'.cls := findClass_of_methodNamed B.named
  rw [ho] at hown
  have hen := lv_entry (args.map (cv ad)) (n := m.2.2.2.1) (by rw [lg_sl_c]; exact hlen)
  rw [lg_entry_eq]
  rw [lv_args_c] at hen
  have het : c.exceptionTable.toList = [] := by
    cases hq : c.exceptionTable.toList with
    | nil => rfl
    | cons x r => exact absurd (hta x (by rw [hq]; exact List.mem_cons_self)) id
  exact h p e _ s m' _ below meth c s.heap [] ad ad _ ⟨⟨B.exec, B.bytes, hml, hown, fun w hw => hts w (List.mem_cons_of_mem _ hw)⟩, B.notSynchronized, B.returns, hK, Nat.le_refl _, Nat.le_refl _, rfl, rfl, het, (name_of_methodNamed B.named B.method).1⟩
    ⟨hen, hw, va_S.rf, oklv_args hok 0, oks_nil _, fun _ _ => rfl, Nat.le_refl _⟩
/-- a list of the tables' words, each good or kept by KX -/
def atOk (L : List Cond) : Prop := ∀ w ∈ L, w ∈ tables_1 ∧ (goodWord w || isOth w) = true
theorem atOk_of {L : List Cond} (ps : List Nat) (h : L.map some = ps.map (fun i => tables_1[i]?)) (g : L.all (fun w => goodWord w || isOth w) = true) : atOk L := by
  intro w hw
  refine ⟨?_, List.all_eq_true.mp g w hw⟩
  have h1 : some w ∈ L.map some := List.mem_map.mpr ⟨w, hw, rfl⟩
  rw [h] at h1
  obtain ⟨i, -, hi⟩ := List.mem_map.mp h1
  exact List.mem_of_getElem? hi
theorem oth_tab {w : Cond} (h : isOth w = true) : w.onTables = true := by
  unfold isOth at h
  split at h
  · rfl
  · rfl
  · exact absurd h (by decide)
theorem atOk.use {L : List Cond} (h : atOk L) {args : Array Value} {s : State} {B : Nat} (h1 : ∀ w ∈ BIG, w.before args s = true) (h2 : KX B s) : ∀ w ∈ L, w.before args s = true := by
  intro w hw
  obtain ⟨a, b⟩ := h w hw
  by_cases g : goodWord w = true
  · exact h1 w (List.mem_filter.mpr ⟨List.mem_append_right _ a, g⟩)
  · have b : isOth w = true := by
      rw [Bool.or_eq_true] at b
      exact b.resolve_left g
    exact va_Nw.use (oth_tab b) (h2.2.2.2.2.2.1 w (List.mem_filter.mpr ⟨a, b⟩))
theorem atOk.ot {L : List Cond} (h : atOk L) : ∀ w ∈ L, vx_ot w = true := by
  intro w hw
  obtain ⟨a, b⟩ := h w hw
  unfold vx_ot
  rw [Bool.or_eq_true] at b ⊢
  rcases b with b | b
  · exact Or.inr b
  · exact Or.inl (oth_tab b)
theorem Wd.kept {E : GE} {ad : Nat → Nat} {sh : List Sh} {M : Mem} {H H1 : Heap} (h : Wd E ad sh M H) (hq : ∀ q : Nat, q < H.size → H1[q]? = H[q]?) : Wd E ad sh M H1 :=
  ⟨h.1.kept (fun k q hk => hq _ (vx_lt h.1 hk)), h.2⟩
theorem dy_out {X : MX} {s : State} {ad0 ad : Nat → Nat} {lv : LV} {st : List Value} {sh : List Sh} {M : Mem} {H : Heap} {locs : List Loc} {ls : Array Slot} {XP : XT} {Ex : String} (D : Dy X s ad0 lv st sh M H locs ad ls) (hx : XP Ex sh M) :
    ∀ t : State, s.vm.Alike t.vm → H.size ≤ t.heap.size → (∀ q : Nat, q < H.size → t.heap[q]? = H[q]?) → xXC X.1 ad0 X.2.2.2.2.2.1 XP Ex s t := by
  obtain ⟨hl, hw, hS, ov, os, ha, hn⟩ := D
  intro t _ h1 h2
  refine ⟨⟨sh, M, ad, hx, ha, hn, hw.kept h2⟩, Nat.le_trans hS.1 h1, fun q q1 q2 => ?_⟩
  rw [h2 q (Nat.lt_of_lt_of_le q1 hS.1)]
  exact hS.2.1 q q1 q2
section WPT
variable {E : GE} {mm : MM} {d mc ms n0 kc ks pc : Nat} {lv : LV} {sh : List Sh} {M : Mem} {Post : PT} {XP : XT}
theorem wp_throwS (hlt : E.1.stackTraces = false) (ho : mm.2.1 = RX8) {cls text : String} {names : List String} {ik is ic : Nat} (hcls : Bundle.fit cls = true) (hnames : ∀ n ∈ names, Bundle.fit n = true)
    (hk : Cond.classLink RX8 ik cls ∈ BIG) (hini : Cond.initialized cls ∈ BIG) (hstr : (is, text) ∈ strL) (hat : atOk (vx_atS RX8 ic cls names))
    (d0 : decode mm.2.2.1 pc = .ok (.new ik, 3)) (d3 : decode mm.2.2.1 (pc + 3) = .ok (.dup, 1)) (d4 : decode mm.2.2.1 (pc + 4) = .ok (.ldc is, 2)) (d6 : decode mm.2.2.1 (pc + 6) = .ok (.invokespecial ic, 3)) (d9 : decode mm.2.2.1 (pc + 9) = .ok (.athrow, 1))
    (hd : names.length + 3 < d) (hdl : 13 * (names.length + 1) + 43 ≤ 40 * d) (hc : kc + 1 ≤ mc) (hs : ks + 6 ≤ ms) (hx : XP cls sh M) : Wp (xMX E mm d mc ms n0 Post XP) kc ks pc lv [] sh M := by
  intro p e R s m args below meth c H locs ad0 ad ls C D
  have hK := C.2.2.2.1.2.2
  obtain ⟨sa, hsa⟩ := hK.2.2.1 _ hstr
  have hown : s.vm.findClass RX8 = some m.cls := by rw [← ho]; exact C.1.2.2.2.1
  have hR1 : d ≤ R.frames := C.2.2.2.2.1
  have hR2 : 40 * d ≤ R.locals := C.2.2.2.2.2.1
  have hR3 : R.cells = mc := C.2.2.2.2.2.2.1
  have hR4 : R.slots = ms := C.2.2.2.2.2.2.2.1
  have hta : c.exceptionTable.toList = [] := C.2.2.2.2.2.2.2.2.1
  exact vx_throwS (own := RX8) (cls := cls) (text := text) (names := names) (ik := ik) (is := is) (ic := ic) (sa := sa) (A := inA E.2.2.2) C.1.1 C.1.2.1 hlt hown hcls hnames (C.1.2.2.2.2 _ hk) (C.1.2.2.2.2 _ hini) hsa (hat.use C.1.2.2.2.2 hK)
    (fun w hw => by
      rcases List.mem_cons.mp hw with rfl | hw
      · unfold vx_ot; rw [(List.mem_filter.mp hk).2, Bool.or_true]
      · rcases List.mem_cons.mp hw with rfl | hw
        · unfold vx_ot; rw [(List.mem_filter.mp hini).2, Bool.or_true]
        · exact hat.ot w hw) hK.2.2.2.1 hK.2.2.2.2.1 D.2.2.1 (D.1.1.trans C.1.2.2.1.symm) d0 d3 d4 d6 d9 (by rw [hta]; exact fun x hx => nomatch hx)
    (by omega) (by simp only [List.map_nil, List.sum_nil]; omega) (by omega) (by omega) C.2.1 (dy_out (X := xMX E mm d mc ms n0 Post XP) D hx) D.2.2.1.2.2 hc hs
theorem wp_throwN (hlt : E.1.stackTraces = false) (ho : mm.2.1 = RX8) {text : String} {ik is ic : Nat}
    (hk : Cond.classLink RX8 ik Bundle.nN ∈ BIG) (hini : Cond.initialized Bundle.nN ∈ BIG) (hstr : (is, text) ∈ strL) (hat : atOk ((npeL RX8 ic).filter vx_no))
    (d0 : decode mm.2.2.1 pc = .ok (.new ik, 3)) (d3 : decode mm.2.2.1 (pc + 3) = .ok (.dup, 1)) (d4 : decode mm.2.2.1 (pc + 4) = .ok (.ldc is, 2)) (d6 : decode mm.2.2.1 (pc + 6) = .ok (.invokespecial ic, 3)) (d9 : decode mm.2.2.1 (pc + 9) = .ok (.athrow, 1))
    (hd : 6 < d) (hc : kc + 1 ≤ mc) (hs : ks + 8 ≤ ms) (hx : XP Bundle.nN sh M) : Wp (xMX E mm d mc ms n0 Post XP) kc ks pc lv [] sh M := by
  intro p e R s m args below meth c H locs ad0 ad ls C D
  have hK := C.2.2.2.1.2.2
  obtain ⟨sa, hsa⟩ := hK.2.2.1 _ hstr
  have hown : s.vm.findClass RX8 = some m.cls := by rw [← ho]; exact C.1.2.2.2.1
  have hR1 : d ≤ R.frames := C.2.2.2.2.1
  have hR2 : 40 * d ≤ R.locals := C.2.2.2.2.2.1
  have hR3 : R.cells = mc := C.2.2.2.2.2.2.1
  have hR4 : R.slots = ms := C.2.2.2.2.2.2.2.1
  have hta : c.exceptionTable.toList = [] := C.2.2.2.2.2.2.2.2.1
  exact vx_throwN (own := RX8) (text := text) (ik := ik) (is := is) (ic := ic) (sa := sa) (A := inA E.2.2.2) C.1.1 C.1.2.1 hlt hown (C.1.2.2.2.2 _ hk) (C.1.2.2.2.2 _ hini) hsa (hat.use C.1.2.2.2.2 hK)
    (fun w hw => by
      rcases List.mem_cons.mp hw with rfl | hw
      · unfold vx_ot; rw [(List.mem_filter.mp hk).2, Bool.or_true]
      · rcases List.mem_cons.mp hw with rfl | hw
        · unfold vx_ot; rw [(List.mem_filter.mp hini).2, Bool.or_true]
        · exact hat.ot w hw) hK.2.2.2.1 hK.2.2.2.2.1 D.2.2.1 (D.1.1.trans C.1.2.2.1.symm) d0 d3 d4 d6 d9 (by rw [hta]; exact fun x hx => nomatch hx)
    (by omega) (by simp only [List.map_nil, List.sum_nil]; omega) (by omega) (by omega) C.2.1 (dy_out (X := xMX E mm d mc ms n0 Post XP) D hx) D.2.2.1.2.2 hc hs
end WPT
