/-! ===== the law's helpers: calls that may throw, caught ===== -/
theorem RC_eq {M M1 : Mem} {tp gn : List Nat} {q : QQ} {o : Option (List Nat)} {dc : Nat → List (List Nat)} (h : RC M tp gn q o dc) (k : ∀ p, p < 121 → EqP M M1 p) : RC M1 tp gn q o dc := by
  obtain ⟨hg, ht, hd, ⟨tq, q1, q2, q3, q4⟩, ho, hw⟩ := h
  have hgl : ∀ x ∈ gCL, x.1 < 121 := by decide
  refine ⟨⟨fun x hx => ((k _ (hgl x hx)).2.1 _).trans (hg.1 x hx), rcTr_eq hg.2.1 (fun p h1 h2 => k p (by omega)), rcTr_eq hg.2.2 (fun p h1 h2 => k p (by omega))⟩, rcT_eq ht ((k 0 (by decide)).1 1) (k 1 (by decide)), rcD_eq hd ((k 0 (by decide)).1 4) (k 3 (by decide)),
    ⟨tq, ((k 0 (by decide)).2.1 _).trans q1, ((k 56 (by decide)).2.1 _).trans q2, q3, cTree_eq q4 (fun p h1 h2 => k p (by omega))⟩, rcO_eq ho (fun p h1 h2 => k p (by omega)), rcW_eq hw (fun p h1 h2 => k p (by omega))⟩
theorem mNode_eq {M M1 : Mem} {k : Nat} {x : ND} (h : mNode 132 M k x) (e : ∀ p, 121 ≤ p → p ≤ 152 → EqP M M1 p) : mNode 132 M1 k x := by
  obtain ⟨e0, e1, e2, e3, e4, e5, e6, e7⟩ := h
  exact ⟨((e 132 (by decide) (by decide)).2.2.1 _).trans e0, ((e 133 (by decide) (by decide)).2.2.1 _).trans e1, ((e 134 (by decide) (by decide)).2.2.1 _).trans e2, ((e 135 (by decide) (by decide)).2.2.1 _).trans e3, ((e 136 (by decide) (by decide)).2.2.1 _).trans e4, ((e 137 (by decide) (by decide)).2.2.1 _).trans e5, ((e 138 (by decide) (by decide)).2.2.1 _).trans e6,
    fun j hj => ⟨((e 139 (by decide) (by decide)).2.2.1 _).trans (e7 j hj).1, fun i hi => ((e 140 (by decide) (by decide)).2.2.1 _).trans ((e7 j hj).2 i hi)⟩⟩
theorem RM_eq {M M1 : Mem} {tp gn : List Nat} {q : QQ} {o : Option (List Nat)} {dc : Nat → List (List Nat)} (h : RM M tp gn q o dc) (e : ∀ p, 121 ≤ p → p ≤ 152 → EqP M M1 p) : RM M1 tp gn q o dc := by
  obtain ⟨hg, ht, hd, hq, ho, hw⟩ := h
  have e121 := e 121 (by decide) (by decide)
  refine ⟨fun f => (e121.2.1 f).trans (hg f), ⟨(e121.1 _).trans ht.1, ht.2.1, fun i hi => ⟨((e 122 (by decide) (by decide)).2.2.1 _).trans (ht.2.2 i hi).1, (ht.2.2 i hi).2⟩⟩, ⟨(e121.1 _).trans hd.1, hd.2.1, fun i hi => ((e 142 (by decide) (by decide)).2.2.1 _).trans (hd.2.2 i hi)⟩,
    ⟨(e121.1 _).trans hq.1, hq.2.1, fun k hk => mNode_eq (hq.2.2 k hk) e⟩, ⟨(e121.1 _).trans ho.1, fun l hl => ⟨(ho.2 l hl).1, fun i hi => ((e 143 (by decide) (by decide)).2.2.1 _).trans ((ho.2 l hl).2 i hi)⟩⟩, fun r hr => ?_⟩
  obtain ⟨a, b, c⟩ := hw r hr
  exact ⟨((e 144 (by decide) (by decide)).2.2.1 _).trans a, b, fun p hp => ⟨((e 145 (by decide) (by decide)).2.2.1 _).trans (c p hp).1, (c p hp).2.1, fun i hi => ((e 146 (by decide) (by decide)).2.2.1 _).trans ((c p hp).2.2 i hi)⟩⟩
/-- nothing but the class's places and the law's row has changed -/
def Out2 (M M1 : Mem) : Prop := ∀ p, 121 ≤ p → p ≤ 152 → EqP M M1 p
theorem sL_eq {M : Mem} {p i : Nat} {x : Int64} {r : Nat} (h : r ≠ p) : EqP M (sL M p i x) r := ⟨fun _ => rfl, fun _ => rfl, fun _ => rfl, fun j => by rw [aL_sL, if_neg (fun z => h z.1)], fun _ => rfl⟩
def cdH (m : MM) (hh : List (Nat × Nat × Nat × Nat)) : Cond := .codeWith m.1 m.2.2.1 m.2.2.2.1 m.2.2.2.2 hh
abbrev xH (E : GE) (m : MM) (hh : List (Nat × Nat × Nat × Nat)) (d mc ms n0 : Nat) (Post : PT) : MX := (E, m, d, mc, ms, n0, tableOf hh, mQQ E mc ms n0 Post)
def SpH (E : GE) (m : MM) (hh : List (Nat × Nat × Nat × Nat)) (d mc ms : Nat) (args : List Value) (sh : List Sh) (M : Mem) (Post : PT) : Prop :=
  ∀ ad : Nat → Nat, Met E.1 m.1 (cdH m hh :: BIG) (rmR d mc ms) (mPc E ad args sh M) (mQ E ad sh.length Post) mc ms (inA E.2.2.2)
theorem metOfWH {l : Launch} {y : MethodName} {ws ws' : List Cond} {rm : Room} {Pc : Array Value → State → Prop} {Qc : Array Value → State → Outcome → State → Prop} {mc ms : Nat} {free : Addr → Prop} {cc : ByteArray} {maxL : Nat} {ret : Option FieldType} {hh : List (Nat × Nat × Nat × Nat)}
    (hy : plainName y.cls = true) (hw : ws = Cond.codeWith y cc maxL ret hh :: ws')
    (body : ∀ p e s m args below meth c s₁, BodyLoose p l y (headSpec ws rm) cc maxL ret e s m args below meth c s₁ → c.maxLocals = maxL → Pc args s →
      W p l e (headSpec ws rm).room s m args below meth c s.heap [] 0 0 (MQ below Qc args s mc ms free) (entryFrame m args maxL)) : Met l y ws rm Pc Qc mc ms free := by
  refine MetFree.of_bodyS (code := cc) (maxLocals := maxL) (ret := ret) hy ?_ ?_
  · intro args s m h hn
    obtain ⟨m9, meth, c, hn9, h1, h2, h3, h4, -, h5, h6, -⟩ := Cond.codeWith_spec (atoms_spec (ws := ws) h _ (by rw [hw]; exact List.mem_cons_self))
    cases hn.symm.trans hn9
    exact ⟨meth, c, h1, h2, h3, h4, h5, h6⟩
  · intro p e s m args below meth c s₁ B hml hP _
    have hh0 : s₁.heap = s.heap := by rw [B.state]; rfl
    obtain ⟨t, a1, o, b1, b2, b3⟩ := body p e s m args below meth c s₁ B hml hP s₁ hh0 (Stand.of_body B)
    exact ⟨t, o, a1, b1, b2, ⟨b3.1, b3.2⟩⟩
theorem spH_of {E : GE} {m : MM} {hh : List (Nat × Nat × Nat × Nat)} {d mc ms : Nat} {args : List Value} {sh : List Sh} {M : Mem} {Post : PT} (ho : m.1.cls = m.2.1) (hpn : plainName m.1.cls = true) (hlen : (lg_sl args).length ≤ m.2.2.2.1)
    (h : Wp (xH E m hh d mc ms sh.length Post) 0 0 0 (lv_args 0 args) [] sh M) : SpH E m hh d mc ms args sh M Post := by
  intro ad
  refine metOfWH (cc := m.2.2.1) (maxL := m.2.2.2.1) (ret := m.2.2.2.2) (hh := hh) hpn rfl ?_
  intro p e s m' args' below meth c s₁ B hml hP
  obtain ⟨rfl, hok, hw, hK⟩ := hP
  have hts : ∀ w ∈ cdH m hh :: BIG, w.before (args.map (cv ad)).toArray s = true := atoms_spec (ws := cdH m hh :: BIG) B.pre
  have hown : s.vm.findClass m.1.cls = some m'.cls := findClass_of_methodNamed B.named
  rw [ho] at hown
  have hen := lv_entry (args.map (cv ad)) (n := m.2.2.2.1) (by rw [lg_sl_c]; exact hlen)
  rw [lg_entry_eq]
  rw [lv_args_c] at hen
  have het : c.exceptionTable.toList = tableOf hh := vx_table (x := m.1) B (hts _ List.mem_cons_self)
  exact h p e _ s m' _ below meth c s.heap [] ad ad _ ⟨⟨B.exec, B.bytes, hml, hown, fun w hw => hts w (List.mem_cons_of_mem _ hw)⟩, B.notSynchronized, B.returns, hK, Nat.le_refl _, Nat.le_refl _, rfl, rfl, het, (name_of_methodNamed B.named B.method).1⟩
    ⟨hen, hw, va_S.rf, oklv_args hok 0, oks_nil _, fun _ _ => rfl, Nat.le_refl _⟩
theorem wp_ireturnH {E : GE} {mm : MM} {hh : List (Nat × Nat × Nat × Nat)} {d mc ms n0 kc ks pc : Nat} {lv : LV} {sh : List Sh} {M : Mem} {Post : PT} {x : Int32} {ty : FieldType} (hd : decode mm.2.2.1 pc = .ok (.ireturn, 1)) (hr : mm.2.2.2.2 = some ty) (hx : narrow ty (.int x) = .int x) (hc : kc ≤ mc) (hs : ks ≤ ms) (hp : Post (some (.int x)) sh M) : Wp (xH E mm hh d mc ms n0 Post) kc ks pc lv [.int x] sh M := by
  intro p e R s m args below meth c H locs ad0 ad ls C ⟨hl, hw, hS, ov, os, ha, hn⟩
  refine W.widen hc hs ?_
  exact W.zret (free := inA E.2.2.2) C.1.1 C.1.2.1 (C.2.2.1.trans hr) hx (fun t ht hW => ⟨⟨some (.int x), sh, M, ad, rfl, hp, ha, hn, os, by rw [ht]; exact hw⟩, hS.F ht⟩) hS.2.2 hd C.2.1
/-- where a thing thrown at pc is caught, and how it goes on -/
def Hand (X : MX) (kc ks pc : Nat) (Ex : String) (sh : List Sh) (M : Mem) : Prop := ∃ (pre : List ExceptionTableEntry) (x : ExceptionTableEntry) (suf : List ExceptionTableEntry) (name : String) (i len : Nat), X.2.2.2.2.2.2.1 = pre ++ x :: suf ∧
  (∀ z ∈ pre, covers z pc = false ∨ (z.catchType ≠ 0 ∧ ∃ nm : String, Cond.classLink X.2.1.2.1 z.catchType nm ∈ BIG ∧ (Ex, nm) ∈ ncL)) ∧ covers x pc = true ∧ x.catchType ≠ 0 ∧ Cond.classLink X.2.1.2.1 x.catchType name ∈ BIG ∧ Cond.castable Ex name ∈ othW ∧
  ((decode X.2.1.2.2.1 x.handlerPc = .ok (.astore i, 2) ∧ len = 2) ∨ ∃ n : Fin 4, decode X.2.1.2.2.1 x.handlerPc = .ok (.astore_n n, 1) ∧ (n : Nat) = i ∧ len = 1) ∧ i < X.2.1.2.2.2.1 ∧ Wp X kc ks (x.handlerPc + len) [] [] sh M
theorem wp_callVX {X : MX} {kc ks pc : Nat} {lv : LV} {rest : List Value} {sh : List Sh} {M : Mem} {idx n b d' mc' ms' : Nat} {m' : MM} {As : List Value} {Post : PT} {XP : XT} (hd : decode X.2.1.2.2.1 pc = .ok (.invokevirtual idx, 3)) (hl : Cond.methodLink X.2.1.2.1 idx m'.1 ∈ BIG) (hv : MV m' n) (hn : As.length = n)
    (hb : isO sh b m'.1.cls) (hs : SpX X.1 m' d' mc' ms' (.ref b :: As) sh M Post XP) (hdd : d' + 1 ≤ X.2.2.1) (hmx : m'.2.2.2.1 ≤ 21) (hW : (rest.map fun v => v.category).sum ≤ 8) (hc1 : kc + mc' ≤ X.2.2.2.1) (hc2 : ks + ms' ≤ X.2.2.2.2.1)
    (k : ∀ (v : Option Value) (sh' : List Sh) (M' : Mem), Post v sh' M' → Wp X (kc + mc') (ks + ms') (pc + 3) lv (v.toList ++ rest) sh' M')
    (kx : ∀ (Ex : String) (sh' : List Sh) (M' : Mem), XP Ex sh' M' → Hand X (kc + mc') (ks + ms') pc Ex sh' M') :
    Wp X kc ks pc lv (As.reverse ++ .ref b :: rest) sh M := by
  intro p e R s m args below meth c H locs ad0 ad ls C D
  obtain ⟨hl0, hw, hS, ov, os, ha, hnn⟩ := id D
  have oA : oks sh.length As := oks_rev.mp (oks_app.mp os).1
  have oB := oks_cons.mp (oks_app.mp os).2
  obtain ⟨ci, q, hb1, hb2, hb3⟩ := hb
  have hrec := va_recv C.2.2.2.1.1 hw.1 hb2 (wsOf_get hb1)
  rw [hb3] at hrec
  have hok := oB.2
  have hr := vx_runV (e := e) (below := below) (meth := meth) (locs := locs) (cells := kc) (slots := ks) (g := F0 m pc ls ((As.reverse ++ .ref b :: rest).map (cv ad))) (C := m'.1.cls) (As := As.map (cv ad)) (rest := rest.map (cv ad)) C.1 (hs ad)
      (cwV n C.1.2.2.2.2 (good_cons hl (good_cons hv.2.1 (good_cons hv.2.2 (good_cons hv.1.2.1 (good_cons hv.1.1 good_big))))) rfl rfl rfl ⟨rfl, hv.1.2.2.1.1, hv.1.2.2.1.2.1, hv.1.2.2.1.2.2⟩ (room_ok C.2.2.2.2.1 C.2.2.2.2.2.1 hdd hmx))
      ⟨blind_mPc _ _ _ _ _, hrec, fun U hU hWm => ⟨rfl, oks_cons.mpr ⟨oB.1, oA⟩, by rw [hU]; exact hw, KW.go C.2.2.2.1 hS hU hWm⟩⟩
      rfl (by rw [List.length_map]; exact hn) hl0.1 (by simp [cv]) (lv_room (by rw [cats_c]; exact hW)) hd ⟨by rw [C.2.2.2.2.2.2.1]; exact hc1, by rw [C.2.2.2.2.2.2.2.1]; exact hc2⟩
  intro T hT XX
  rcases hr T hT XX with ⟨v, st₀, t, T', L, h0, X', hL, e1, e2, hq, stp⟩ | ⟨qa, st₀, t, T', L, Ex, ce, h0, X', hL, e1, e2, hxc, hce, hcv, hcl, stp⟩
  · obtain ⟨⟨v', sh', M', ad', hv, hp, hag, hn', hov, hw'⟩, hF⟩ := hq
    have hv : v = v'.map (cv ad') := by injection hv
    have hlv : clv ad' lv = clv ad lv := clv_eq hag ov
    have hst : (v'.toList ++ rest).map (cv ad') = v.toList ++ rest.map (cv ad) := by
      rw [List.map_append, cvs_eq hag hok, hv]
      cases v' <;> rfl
    have D' : Dy X s ad0 lv (v'.toList ++ rest) sh' M' T'.heap (locs ++ L) ad' ls := by
      refine ⟨by rw [hlv]; exact hl0, by rw [e1]; exact hw', (vx_keep (A1 := inA X.1.2.2.2) (free := inA X.1.2.2.2) h0 e1 hS (fun _ _ z => z) (fun _ z => z) hL hF).2.2, fun q hq => okv_mono hn' (ov q hq), ?_, fun q hq => ?_, Nat.le_trans hnn hn'⟩
      · intro w hw
        rcases List.mem_append.mp hw with h | h
        · exact hov w h
        · exact okv_mono hn' (hok w h)
      · rw [hag q (okp_mono hnn hq), ha q hq]
    obtain ⟨tf, a1, b1⟩ := k v' sh' M' hp p e R s m args below meth c T'.heap (locs ++ L) ad0 ad' ls C D' T' rfl X'
    refine ⟨tf, stp tf ?_, b1⟩
    rw [hst] at a1
    exact a1
  · obtain ⟨⟨sh', M', ad', hp, hag, hn', hw'⟩, hF⟩ := hxc
    obtain ⟨pre, x, suf, name, i, len, g1, g2, g3, g4, g5, g6, g7, g8, g9⟩ := kx Ex sh' M' hp
    have hl0' : lv_has ls X.2.1.2.2.2.1 [] := ⟨hl0.1, hl0.2.1, fun q hq => nomatch hq⟩
    have D' : ∀ ls', lv_has ls' X.2.1.2.2.2.1 [] → Dy X s ad0 [] [] sh' M' T'.heap (locs ++ L) ad' ls' := fun ls' hls' =>
      ⟨hls', by rw [e1]; exact hw', (vx_keep (A1 := inA X.1.2.2.2) (free := inA X.1.2.2.2) h0 e1 hS (fun _ _ z => z) (fun _ z => z) hL hF).2.2, (fun q hq => nomatch hq), oks_nil _, fun q hq => by rw [hag q (okp_mono hnn hq), ha q hq], Nat.le_trans hnn hn'⟩
    have hK := C.2.2.2.1.2.2
    have hcast : (Cond.castable Ex name).before args s = true := va_Nw.use rfl (hK.2.2.2.2.2.1 _ g6)
    have hW1 : W p X.1.1 e R s m args below meth c T'.heap (locs ++ L) (kc + mc') (ks + ms') (X.2.2.2.2.2.2.2 below args s ad0) (F0 m x.handlerPc ls [.ref qa]) := by
      rcases g7 with ⟨gd, rfl⟩ | ⟨nn, gd, gi, rfl⟩
      · exact lv_astore C.1.1 C.1.2.1 gd hl0' g8 rfl (fun ls' hls' => g9 p e R s m args below meth c T'.heap (locs ++ L) ad0 ad' ls' C (D' ls' ⟨hls'.1, hls'.2.1, fun q hq => nomatch hq⟩))
      · exact lv_astore_n C.1.1 C.1.2.1 gd gi hl0' g8 rfl (fun ls' hls' => g9 p e R s m args below meth c T'.heap (locs ++ L) ad0 ad' ls' C (D' ls' ⟨hls'.1, hls'.2.1, fun q hq => nomatch hq⟩))
    have hcw := vx_catch (pc := pc) (rest := rest.map (cv ad)) (name := name) C.1.2.2.2.1 pre x suf (C.2.2.2.2.2.2.2.2.1.trans g1)
      (fun z hz => (g2 z hz).imp id (fun ⟨z0, nm, z1, z2⟩ => ⟨z0, nm, C.1.2.2.2.2 _ z1, hK.2.2.2.2.2.2 _ z2⟩)) g3 g4 (C.1.2.2.2.2 _ g5) hcast (H := T'.heap) (by rw [e1]; exact hce) hcv hcl hW1
    obtain ⟨t2, a1, b1⟩ := hcw T' rfl X'
    exact ⟨t2, stp.trans a1, b1⟩
/-- a static call of a method with handlers of its own -/
theorem wp_callSH {X : MX} {kc ks pc : Nat} {lv : LV} {rest : List Value} {sh : List Sh} {M : Mem} {idx n d' mc' ms' : Nat} {m' : MM} {hh : List (Nat × Nat × Nat × Nat)} {As : List Value} {Post : PT} (hd : decode X.2.1.2.2.1 pc = .ok (.invokestatic idx, 3)) (hl : Cond.methodLink X.2.1.2.1 idx m'.1 ∈ BIG) (hc : cdH m' hh ∈ BIG) (hi : Cond.initialized m'.1.cls ∈ BIG) (hst : Cond.static m'.1 ∈ BIG) (hok : okName m'.1 n) (hn : As.length = n)
    (hs : SpH X.1 m' hh d' mc' ms' As sh M Post) (hdd : d' + 1 ≤ X.2.2.1) (hmx : m'.2.2.2.1 ≤ 21) (hW : (rest.map fun v => v.category).sum ≤ 8) (hc1 : kc + mc' ≤ X.2.2.2.1) (hc2 : ks + ms' ≤ X.2.2.2.2.1)
    (k : ∀ (v : Option Value) (sh' : List Sh) (M' : Mem), Post v sh' M' → Wp X (kc + mc') (ks + ms') (pc + 3) lv (v.toList ++ rest) sh' M') :
    Wp X kc ks pc lv (As.reverse ++ rest) sh M := by
  intro p e R s m args below meth c H locs ad0 ad ls C D
  obtain ⟨hl0, hw, hS, ov, os, ha, hnn⟩ := id D
  have oA : oks sh.length As := oks_rev.mp (oks_app.mp os).1
  have oB := (oks_app.mp os).2
  refine wp_run (Post := Post) (st := As.reverse ++ rest) C D oB
    (vx_runSW (hh := hh) (As := As.map (cv ad)) (rest := rest.map (cv ad)) C.1 (hs ad)
      (vx_cwSW n C.1.2.2.2.2 (good_cons hl (good_cons hst (good_cons hi (good_cons hc good_big)))) rfl rfl rfl ⟨hok.1, hok.2.1, hok.2.2⟩ (room_ok C.2.2.2.2.1 C.2.2.2.2.2.1 hdd hmx))
      ⟨blind_mPc _ _ _ _ _, fun U hU hWm => ⟨rfl, oA, by rw [hU]; exact hw, KW.go C.2.2.2.1 hS hU hWm⟩⟩
      rfl (by rw [List.length_map]; exact hn) hl0.1 (by simp) (lv_room (by rw [cats_c]; exact hW)) hd ⟨by rw [C.2.2.2.2.2.2.1]; exact hc1, by rw [C.2.2.2.2.2.2.2.1]; exact hc2⟩) k
