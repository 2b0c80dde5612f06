/-! ===== further calls, returns, making ===== -/
theorem blind_mPc (E : GE) (ad : Nat → Nat) (args : List Value) (sh : List Sh) (M : Mem) : FrameBlind (mPc E ad args sh M) := fun a U g mk hq => by
  obtain ⟨q1, q2, q3, q4⟩ := hq
  exact ⟨q1, q2, q3, KW.go (U := U.calling g mk a) (H := U.heap) (locs := []) q4 va_S.rf rfl (State.WarmedH.refl U)⟩
section WPD
variable {X : MX} {kc ks pc : Nat} {lv : LV} {st rest : List Value} {sh : List Sh} {M : Mem}
theorem wp_callS {idx n d' mc' ms' : Nat} {m' : MM} {As : List Value} {Post : PT} (hd : decode X.2.1.2.2.1 pc = .ok (.invokestatic idx, 3)) (hl : Cond.methodLink X.2.1.2.1 idx m'.1 ∈ BIG) (hv : MS m' n) (hn : As.length = n)
    (hs : Sp X.1 m' d' mc' ms' As sh M Post) (hdd : d' + 1 ≤ X.2.2.1) (hmx : m'.2.2.2.1 ≤ 21) (hW : (rest.map fun v => v.category).sum ≤ 8) (hc1 : kc + mc' ≤ X.2.2.2.1) (hc2 : ks + ms' ≤ X.2.2.2.2.1)
    (k : ∀ (v : Option Value) (sh' : List Sh) (M' : Mem), Post v sh' M' → Wp X (kc + mc') (ks + ms') (pc + 3) lv (v.toList ++ rest) sh' M') :
    Wp X kc ks pc lv (As.reverse ++ rest) sh M := by
  intro p e R s m args below meth c H locs ad0 ad ls C D
  obtain ⟨hl0, hw, hS, ov, os, ha, hnn⟩ := id D
  have oA : oks sh.length As := oks_rev.mp (oks_app.mp os).1
  have oB := (oks_app.mp os).2
  refine wp_run (Post := Post) (st := As.reverse ++ rest) C D oB
    (va_runS (As := As.map (cv ad)) (rest := rest.map (cv ad)) C.1 (hs ad)
      (va_cwS n C.1.2.2.2.2 (good_cons hl (good_cons hv.2 (good_cons hv.1.2.1 (good_cons hv.1.1 good_big)))) rfl rfl rfl ⟨hv.1.2.2.1.1, hv.1.2.2.1.2.1, hv.1.2.2.1.2.2⟩ (room_ok C.2.2.2.2.1 C.2.2.2.2.2.1 hdd hmx))
      ⟨blind_mPc _ _ _ _ _, fun U hU hWm => ⟨rfl, oA, by rw [hU]; exact hw, KW.go C.2.2.2.1 hS hU hWm⟩⟩
      rfl (by rw [List.length_map]; exact hn) hl0.1 (by simp) (lv_room (by rw [cats_c]; exact hW)) hd ⟨by rw [C.2.2.2.2.2.2.1]; exact hc1, by rw [C.2.2.2.2.2.2.2.1]; exact hc2⟩) k
theorem wp_callI {idx n b d' mc' ms' : Nat} {m' : MM} {As : List Value} {Post : PT} (hd : decode X.2.1.2.2.1 pc = .ok (.invokespecial idx, 3)) (hl : Cond.methodLink X.2.1.2.1 idx m'.1 ∈ BIG) (hv : MI m' n) (hn : As.length = n)
    (hs : Sp X.1 m' d' mc' ms' (.ref b :: As) sh M Post) (hdd : d' + 1 ≤ X.2.2.1) (hmx : m'.2.2.2.1 ≤ 21) (hW : (rest.map fun v => v.category).sum ≤ 8) (hc1 : kc + mc' ≤ X.2.2.2.1) (hc2 : ks + ms' ≤ X.2.2.2.2.1)
    (k : ∀ (v : Option Value) (sh' : List Sh) (M' : Mem), Post v sh' M' → Wp X (kc + mc') (ks + ms') (pc + 3) lv (v.toList ++ rest) sh' M') :
    Wp X kc ks pc lv (As.reverse ++ .ref b :: rest) sh M := by
  intro p e R s m args below meth c H locs ad0 ad ls C D
  obtain ⟨hl0, hw, hS, ov, os, ha, hnn⟩ := id D
  obtain ⟨my, mo, mcc, mL, mr⟩ := m'
  obtain ⟨⟨v1, v2, v3, v4⟩, v5, v6, v7⟩ := hv
  have v7 : mr = none := v7
  subst v7
  have oA : oks sh.length As := oks_rev.mp (oks_app.mp os).1
  have oB := oks_cons.mp (oks_app.mp os).2
  refine wp_run (Post := Post) (st := As.reverse ++ .ref b :: rest) C D oB.2
    (va_runI (As := As.map (cv ad)) (rest := rest.map (cv ad)) C.1 (hs ad)
      (cwI n C.1.2.2.2.2 (good_cons v1 good_big) rfl rfl rfl (C.1.2.2.2.2 _ v2) (C.1.2.2.2.2 _ hl) (C.1.2.2.2.2 _ v5) v6 ⟨v3.1, v3.2.1, v3.2.2⟩ (room_ok C.2.2.2.2.1 C.2.2.2.2.2.1 hdd hmx))
      ⟨blind_mPc _ _ _ _ _, fun U hU hWm => ⟨rfl, oks_cons.mpr ⟨oB.1, oA⟩, by rw [hU]; exact hw, KW.go C.2.2.2.1 hS hU hWm⟩⟩
      rfl (by rw [List.length_map]; exact hn) hl0.1 (by simp [cv]) (lv_room (by rw [cats_c]; exact hW)) hd ⟨by rw [C.2.2.2.2.2.2.1]; exact hc1, by rw [C.2.2.2.2.2.2.2.1]; exact hc2⟩) k
theorem wp_callIN {idx n b d' mc' ms' : Nat} {m' : MM} {As : List Value} {Post : PT} (hd : decode X.2.1.2.2.1 pc = .ok (.invokespecial idx, 3)) (hl : (X.2.1.2.1, idx, m'.1) ∈ nestL) (hv : MI m' n) (hn : As.length = n)
    (hs : Sp X.1 m' d' mc' ms' (.ref b :: As) sh M Post) (hdd : d' + 1 ≤ X.2.2.1) (hmx : m'.2.2.2.1 ≤ 21) (hW : (rest.map fun v => v.category).sum ≤ 8) (hc1 : kc + mc' ≤ X.2.2.2.1) (hc2 : ks + ms' ≤ X.2.2.2.2.1)
    (k : ∀ (v : Option Value) (sh' : List Sh) (M' : Mem), Post v sh' M' → Wp X (kc + mc') (ks + ms') (pc + 3) lv (v.toList ++ rest) sh' M') :
    Wp X kc ks pc lv (As.reverse ++ .ref b :: rest) sh M := by
  intro p e R s m args below meth c H locs ad0 ad ls C D
  obtain ⟨hl0, hw, hS, ov, os, ha, hnn⟩ := id D
  obtain ⟨my, mo, mcc, mL, mr⟩ := m'
  obtain ⟨⟨v1, v2, v3, v4⟩, v5, v6, v7⟩ := hv
  have v7 : mr = none := v7
  subst v7
  have oA : oks sh.length As := oks_rev.mp (oks_app.mp os).1
  have oB := oks_cons.mp (oks_app.mp os).2
  refine wp_run (Post := Post) (st := As.reverse ++ .ref b :: rest) C D oB.2
    (va_runIN (As := As.map (cv ad)) (rest := rest.map (cv ad)) C.1 (hs ad)
      ⟨va_cnB n C.1.2.2.2.2 (good_cons v1 good_big) rfl rfl rfl (C.2.2.2.1.2.2.1 _ hl) (C.1.2.2.2.2 _ v2) ⟨v3.1, v3.2.1, v3.2.2⟩ (room_ok C.2.2.2.2.1 C.2.2.2.2.2.1 hdd hmx), v6, C.1.2.2.2.2 _ v5⟩
      ⟨blind_mPc _ _ _ _ _, fun U hU hWm => ⟨rfl, oks_cons.mpr ⟨oB.1, oA⟩, by rw [hU]; exact hw, KW.go C.2.2.2.1 hS hU hWm⟩⟩
      rfl (by rw [List.length_map]; exact hn) hl0.1 (by simp [cv]) (lv_room (by rw [cats_c]; exact hW)) hd ⟨by rw [C.2.2.2.2.2.2.1]; exact hc1, by rw [C.2.2.2.2.2.2.2.1]; exact hc2⟩) k
/-! ### returns -/
end WPD
section WPR
variable {E : GE} {mm : MM} {d mc ms n0 : Nat} {Post : PT} {kc ks pc : Nat} {lv : LV} {sh : List Sh} {M : Mem}
theorem wp_ret0 (hd : decode mm.2.2.1 pc = .ok (.return_, 1)) (hr : mm.2.2.2.2 = none) (hc : kc ≤ mc) (hs : ks ≤ ms) (hp : Post none sh M) : Wp (xM E mm d mc ms n0 Post) kc ks pc lv [] sh M := by
  intro p e R s m args below meth c H locs ad0 ad ls C ⟨hl, hw, hS, ov, os, ha, hn⟩
  refine W.widen hc hs ?_
  exact W.vret (free := inA E.2.2.2) C.1.1 C.1.2.1 (C.2.2.1.trans hr) (fun t ht hW => ⟨⟨none, sh, M, ad, rfl, hp, ha, hn, oks_nil _, by rw [ht]; exact hw⟩, hS.F ht⟩) hS.2.2 hd C.2.1
theorem wp_ireturn {x : Int32} {ty : FieldType} (hd : decode mm.2.2.1 pc = .ok (.ireturn, 1)) (hr : mm.2.2.2.2 = some ty) (hx : narrow ty (.int x) = .int x) (hc : kc ≤ mc) (hs : ks ≤ ms) (hp : Post (some (.int x)) sh M) : Wp (xM E mm d mc ms n0 Post) kc ks pc lv [.int x] sh M := by
  intro p e R s m args below meth c H locs ad0 ad ls C ⟨hl, hw, hS, ov, os, ha, hn⟩
  refine W.widen hc hs ?_
  exact W.zret (free := inA E.2.2.2) C.1.1 C.1.2.1 (C.2.2.1.trans hr) hx (fun t ht hW => ⟨⟨some (.int x), sh, M, ad, rfl, hp, ha, hn, os, by rw [ht]; exact hw⟩, hS.F ht⟩) hS.2.2 hd C.2.1
theorem wp_lreturn {x : Int64} (hd : decode mm.2.2.1 pc = .ok (.lreturn, 1)) (hr : mm.2.2.2.2 = some .long) (hc : kc ≤ mc) (hs : ks ≤ ms) (hp : Post (some (.long x)) sh M) : Wp (xM E mm d mc ms n0 Post) kc ks pc lv [.long x] sh M := by
  intro p e R s m args below meth c H locs ad0 ad ls C ⟨hl, hw, hS, ov, os, ha, hn⟩
  refine W.widen hc hs ?_
  exact W.lret (free := inA E.2.2.2) C.1.1 C.1.2.1 (C.2.2.1.trans hr) (fun t ht hW => ⟨⟨some (.long x), sh, M, ad, rfl, hp, ha, hn, os, by rw [ht]; exact hw⟩, hS.F ht⟩) hS.2.2 hd C.2.1
theorem wp_areturn {x : Nat} {nm : String} (hd : decode mm.2.2.1 pc = .ok (.areturn, 1)) (hr : mm.2.2.2.2 = some (.object nm)) (hc : kc ≤ mc) (hs : ks ≤ ms) (hp : Post (some (.ref x)) sh M) : Wp (xM E mm d mc ms n0 Post) kc ks pc lv [.ref x] sh M := by
  intro p e R s m args below meth c H locs ad0 ad ls C ⟨hl, hw, hS, ov, os, ha, hn⟩
  refine W.widen hc hs ?_
  exact W.aret (free := inA E.2.2.2) C.1.1 C.1.2.1 (C.2.2.1.trans hr) (Or.inl ⟨nm, rfl⟩) (Or.inr ⟨ad x, rfl⟩) (fun t ht hW => ⟨⟨some (.ref x), sh, M, ad, rfl, hp, ha, hn, os, by rw [ht]; exact hw⟩, hS.F ht⟩) hS.2.2 hd C.2.1
end WPR
