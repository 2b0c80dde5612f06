/-! ===== contracts and calls ===== -/
theorem metOfW {l : Launch} {y : MethodName} {ws ws' : List Cond} {rm : Room} {Pc : Array Value → State → Prop} {Qc : Array Value → State → Outcome → State → Prop} {mc ms : Nat} {free : Addr → Prop} {cc : ByteArray} {maxL : Nat} {ret : Option FieldType}
    (hy : plainFor y = true) (hw : ws = Cond.code y cc maxL ret :: ws')
    (body : ∀ p e s m args below meth c s₁, BodyLoose p l y (headSpec ws rm) cc maxL ret e s m args below meth c s₁ → c.maxLocals = maxL → Pc args s →
      W p l e (headSpec ws rm).room s m args below meth c s.heap [] 0 0 (MQ below Qc args s mc ms free) (entryFrame m args maxL)) : Met l y ws rm Pc Qc mc ms free := by
  refine MetFree.of_bodySF (code := cc) (maxLocals := maxL) (ret := ret) hy ?_ ?_
  · intro args s m h hn
    obtain ⟨meth, c, h1, h2, h3, h4, h5, h6, -, -⟩ := Cond.code_spec hn (atoms_spec (ws := ws) h _ (by rw [hw]; exact List.mem_cons_self))
    exact ⟨meth, c, h1, h2, h3, h4, h5, h6⟩
  · intro p e s m args below meth c s₁ B hml hP _
    have hh0 : s₁.heap = s.heap := by rw [B.state]; rfl
    obtain ⟨t, a1, o, b1, b2, b3⟩ := body p e s m args below meth c s₁ B hml hP s₁ hh0 (Stand.of_body B)
    exact ⟨t, o, a1, b1, b2, ⟨b3.1, b3.2⟩⟩
abbrev PT : Type := Option Value → List Sh → Mem → Prop
def rmR (d mc ms : Nat) : Room := { frames := d, cells := mc, slots := ms, locals := 40 * d }
def mPc (E : GE) (ad : Nat → Nat) (args : List Value) (sh : List Sh) (M : Mem) : Array Value → State → Prop := fun a U => a = (args.map (cv ad)).toArray ∧ oks sh.length args ∧ Wd E ad sh M U.heap ∧ KW E U
def mQ (E : GE) (ad0 : Nat → Nat) (n0 : Nat) (Post : PT) : Array Value → State → Outcome → State → Prop := fun _ st o t =>
  (∃ (v : Option Value) (sh : List Sh) (M : Mem) (ad : Nat → Nat), o = .returned (v.map (cv ad)) ∧ Post v sh M ∧ (∀ k, okp n0 k → ad k = ad0 k) ∧ n0 ≤ sh.length ∧ oks sh.length v.toList ∧ Wd E ad sh M t.heap) ∧ va_F (inA E.2.2.2) st t
def mQQ (E : GE) (mc ms n0 : Nat) (Post : PT) : QT := fun below args s ad0 => MQ below (mQ E ad0 n0 Post) args s mc ms (inA E.2.2.2)
/-- the contract of method m at these arguments and this memory -/
def Sp (E : GE) (m : MM) (d mc ms : Nat) (args : List Value) (sh : List Sh) (M : Mem) (Post : PT) : Prop :=
  ∀ ad : Nat → Nat, Met E.1 m.1 (cdW m :: BIG) (rmR d mc ms) (mPc E ad args sh M) (mQ E ad sh.length Post) mc ms (inA E.2.2.2)
abbrev xM (E : GE) (m : MM) (d mc ms n0 : Nat) (Post : PT) : MX := (E, m, d, mc, ms, n0, [], mQQ E mc ms n0 Post)
theorem lv_args_c (ad : Nat → Nat) (args : List Value) : ∀ i, lv_args i (args.map (cv ad)) = clv ad (lv_args i args) := by
  induction args with
  | nil => intro i; rfl
  | cons v vs ih => intro i; simp only [List.map_cons, lv_args, clv, cv_cat]; rw [ih]; rfl
theorem lg_sl_c (ad : Nat → Nat) (args : List Value) : (lg_sl (args.map (cv ad))).length = (lg_sl args).length := by
  induction args with
  | nil => rfl
  | cons v vs ih =>
    simp only [lg_sl, List.map_cons, List.flatMap_cons, List.length_append] at ih ⊢
    rw [ih, cv_cat]
    by_cases h : v.category = 2 <;> simp [h]
theorem oklv_args {n : Nat} {args : List Value} (h : oks n args) : ∀ i, oklv n (lv_args i args) := by
  induction args with
  | nil => intro i q hq; cases hq
  | cons v vs ih =>
    intro i q hq
    rcases List.mem_cons.mp hq with rfl | hq
    · exact (oks_cons.mp h).1
    · exact ih (oks_t h) _ q hq
theorem sp_of {E : GE} {m : MM} {n d mc ms : Nat} {args : List Value} {sh : List Sh} {M : Mem} {Post : PT} (hm : MC m n) (ho : m.1.cls = m.2.1) (hlen : (lg_sl args).length ≤ m.2.2.2.1)
    (h : Wp (xM E m d mc ms sh.length Post) 0 0 0 (lv_args 0 args) [] sh M) : Sp E m d mc ms args sh M Post := by
  intro ad
  refine metOfW (cc := m.2.2.1) (maxL := m.2.2.2.1) (ret := m.2.2.2.2) hm.2.2.2 rfl ?_
  intro p e s m' args' below meth c s₁ B hml hP
  obtain ⟨rfl, hok, hw, hK⟩ := hP
  have hts : ∀ w ∈ cdW m :: BIG, w.before (args.map (cv ad)).toArray s = true := atoms_spec (ws := cdW m :: BIG) B.pre
  have hcd : (Cond.code m.1 m.2.2.1 m.2.2.2.1 m.2.2.2.2).before (args.map (cv ad)).toArray s = true := hts _ List.mem_cons_self
  have hown : s.vm.findClass m.1.cls = some m'.cls := findClass_of_methodNamed B.named
  rw [ho] at hown
  have hen := lv_entry (args.map (cv ad)) (n := m.2.2.2.1) (by rw [lg_sl_c]; exact hlen)
  rw [lg_entry_eq]
  rw [lv_args_c] at hen
  have het : c.exceptionTable.toList = [] := by
    have := BodyLoose.noHandlers B hcd
    cases hq : c.exceptionTable with
    | mk l => rw [hq] at this; simpa using this
  exact h p e _ s m' _ below meth c s.heap [] ad ad _ ⟨⟨B.exec, B.bytes, hml, hown, fun w hw => hts w (List.mem_cons_of_mem _ hw)⟩, B.notSynchronized, B.returns, hK, Nat.le_refl _, Nat.le_refl _, rfl, rfl, het, (name_of_methodNamed B.named B.method).1⟩
    ⟨hen, hw, va_S.rf, oklv_args hok 0, oks_nil _, fun _ _ => rfl, Nat.le_refl _⟩
section WPC
variable {X : MX} {kc ks pc : Nat} {lv : LV} {rest : List Value} {sh : List Sh} {M : Mem}
theorem wp_run {p : Program} {e : Env} {R : Room} {s : State} {m : MethodId} {args : Array Value} {below : List Frame} {meth : Method} {c : Code} {H : Heap} {locs : List Loc} {ad0 ad : Nat → Nat} {ls : Array Slot} {st0 st : List Value} {mc' ms' : Nat} {a : Array Value} {Post : PT}
    (C : Cx X p R s m args meth c) (D : Dy X s ad0 lv st sh M H locs ad ls) (hok : oks sh.length rest)
    (hr : va_Run p X.1.1 e R s m args below meth c H locs kc ks mc' ms' (F0 m pc ls st0) (rest.map (cv ad)) (mQ X.1 ad sh.length Post a) (inA X.1.2.2.2))
    (k : ∀ (v : Option Value) (sh' : List Sh) (M' : Mem), Post v sh' M' → Wp X (kc + mc') (ks + ms') (pc + 3) lv (v.toList ++ rest) sh' M') :
    W p X.1.1 e R s m args below meth c H locs kc ks (X.2.2.2.2.2.2.2 below args s ad0) (F0 m pc ls st0) := by
  obtain ⟨hl, hw, hS, ov, -, ha, hn⟩ := D
  intro T hT XX
  obtain ⟨v, st₀, t, T', L, h0, X', hL, e1, e2, hq, stp⟩ := hr T hT XX
  obtain ⟨⟨v', sh', M', ad', hv, hp, hag, hn', hov, hw'⟩, hF⟩ := hq
  have hv : v = v'.map (cv ad') := by injection hv
  have hlv : clv ad' lv = clv ad lv := clv_eq hag ov
  have hst : (v'.toList ++ rest).map (cv ad') = v.toList ++ rest.map (cv ad) := by
    rw [List.map_append, cvs_eq hag hok, hv]
    cases v' <;> rfl
  have D' : Dy X s ad0 lv (v'.toList ++ rest) sh' M' T'.heap (locs ++ L) ad' ls := by
    refine ⟨by rw [hlv]; exact hl, by rw [e1]; exact hw', ?_, fun q hq => okv_mono hn' (ov q hq), ?_, fun q hq => ?_, Nat.le_trans hn hn'⟩
    · refine ⟨?_, ?_, ?_⟩
      · rw [e1]
        refine Nat.le_trans hS.1 ?_
        rw [← h0]
        exact hF.1
      · intro q h1 h2
        rw [e1, ← hS.2.1 q h1 h2, ← h0]
        refine hF.2 q ?_ h2
        rw [h0]
        exact Nat.lt_of_lt_of_le h1 hS.1
      · intro q hq
        rcases List.mem_append.mp hq with h | h
        · exact hS.2.2 q h
        · exact hL q h
    · intro w hw
      rcases List.mem_append.mp hw with h | h
      · exact hov w h
      · exact okv_mono hn' (hok w h)
    · rw [hag q (okp_mono hn hq), ha q hq]
  obtain ⟨tf, a1, b1⟩ := k v' sh' M' hp p e R s m args below meth c T'.heap (locs ++ L) ad0 ad' ls C D' T' rfl X'
  refine ⟨tf, stp tf ?_, b1⟩
  rw [hst] at a1
  exact a1
theorem room_ok {X : MX} {R : Room} {d' mc' ms' maxL : Nat} (h1 : X.2.2.1 ≤ R.frames) (h2 : 40 * X.2.2.1 ≤ R.locals) (hd : d' + 1 ≤ X.2.2.1) (hm : maxL ≤ 21) : (rmR d' mc' ms').frames + 1 ≤ R.frames ∧ 8 + (maxL + 11) + (rmR d' mc' ms').locals ≤ R.locals := by
  simp only [rmR]
  omega
theorem cats_c (ad : Nat → Nat) (l : List Value) : ((l.map (cv ad)).map fun v => v.category) = l.map fun v => v.category := by
  rw [List.map_map]
  exact List.map_congr_left fun v _ => cv_cat ad v
theorem oks_app {n : Nat} {a b : List Value} : oks n (a ++ b) ↔ oks n a ∧ oks n b := by simp only [oks, List.forall_mem_append]
theorem oks_rev {n : Nat} {a : List Value} : oks n a.reverse ↔ oks n a := by simp only [oks, List.mem_reverse]
theorem good_big : GoodIn BIG BIG := fun _ h => big_good h
theorem good_cons {w : Cond} {l : List Cond} (h : w ∈ BIG) (t : GoodIn BIG l) : GoodIn BIG (w :: l) := fun v hv => by
  rcases List.mem_cons.mp hv with rfl | hv
  · exact big_good h
  · exact t v hv
/-- an object's place: its class by name -/
def isO (sh : List Sh) (o : Nat) (C : String) : Prop := ∃ (ci : Nat) (q : vw_C), sh[o]? = some (.inl ci) ∧ clsL[ci]? = some q ∧ q.1 = C
theorem wp_callV {idx n b d' mc' ms' : Nat} {m' : MM} {As : List Value} {Post : PT} (hd : decode X.2.1.2.2.1 pc = .ok (.invokevirtual idx, 3)) (hl : Cond.methodLink X.2.1.2.1 idx m'.1 ∈ BIG) (hv : MV m' n) (hn : As.length = n)
    (hb : isO sh b m'.1.cls) (hs : Sp X.1 m' d' mc' ms' (.ref b :: As) sh M Post) (hdd : d' + 1 ≤ X.2.2.1) (hmx : m'.2.2.2.1 ≤ 21) (hW : (rest.map fun v => v.category).sum ≤ 8) (hc1 : kc + mc' ≤ X.2.2.2.1) (hc2 : ks + ms' ≤ X.2.2.2.2.1)
    (k : ∀ (v : Option Value) (sh' : List Sh) (M' : Mem), Post v sh' M' → Wp X (kc + mc') (ks + ms') (pc + 3) lv (v.toList ++ rest) sh' M') :
    Wp X kc ks pc lv (As.reverse ++ .ref b :: rest) sh M := by
  intro p e R s m args below meth c H locs ad0 ad ls C D
  obtain ⟨hl0, hw, hS, ov, os, ha, hnn⟩ := id D
  have oA : oks sh.length As := oks_rev.mp (oks_app.mp os).1
  have oB := oks_cons.mp (oks_app.mp os).2
  obtain ⟨ci, q, hb1, hb2, hb3⟩ := hb
  have hrec := va_recv C.2.2.2.1.1 hw.1 hb2 (wsOf_get hb1)
  rw [hb3] at hrec
  refine wp_run (Post := Post) (st := As.reverse ++ .ref b :: rest) C D oB.2
    (va_runV (C := m'.1.cls) (As := As.map (cv ad)) (rest := rest.map (cv ad)) C.1 (hs ad)
      (cwV n C.1.2.2.2.2 (good_cons hl (good_cons hv.2.1 (good_cons hv.2.2 (good_cons hv.1.2.1 (good_cons hv.1.1 good_big))))) rfl rfl rfl ⟨rfl, hv.1.2.2.1.1, hv.1.2.2.1.2.1, hv.1.2.2.1.2.2⟩ (room_ok C.2.2.2.2.1 C.2.2.2.2.2.1 hdd hmx))
      ⟨fun a U g mk hq => ?_, hrec, fun U hU hWm => ⟨rfl, oks_cons.mpr ⟨oB.1, oA⟩, by rw [hU]; exact hw, KW.go C.2.2.2.1 hS hU hWm⟩⟩
      rfl (by rw [List.length_map]; exact hn) hl0.1 (by simp [cv]) (lv_room (by rw [cats_c]; exact hW)) hd ⟨by rw [C.2.2.2.2.2.2.1]; exact hc1, by rw [C.2.2.2.2.2.2.2.1]; exact hc2⟩) k
  obtain ⟨q1, q2, q3, q4⟩ := hq
  exact ⟨q1, q2, q3, KW.go (U := U.calling g mk a) (H := U.heap) (locs := []) q4 va_S.rf rfl (State.WarmedH.refl U)⟩
end WPC
