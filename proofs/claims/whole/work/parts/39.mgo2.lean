/-! ===== the model reads: a clause more ===== -/
theorem mN_ki {M : Mem} {k v : Nat} {x : ND} (h : mNode 123 M k x) (hc : nCo x = 3) : mNode 123 (sA M 129 k (nI v)) k (nsKi x v) := by
  obtain ⟨e0, e1, e2, e3, e4, e5, e6, e7⟩ := h
  refine ⟨?_, ?_, ?_, ?_, ?_, ?_, ?_, fun j hj => ⟨?_, fun i hi => ?_⟩⟩
  · rw [aI_sA, if_neg (by omega)]; exact e0
  · rw [aI_sA, if_neg (by omega)]; exact e1
  · rw [aI_sA, if_neg (by omega)]; exact e2
  · rw [aI_sA, if_neg (by omega)]; exact e3
  · rw [aI_sA, if_neg (by omega)]; exact e4
  · rw [aI_sA, if_neg (by omega)]; exact e5
  · rw [aI_sA, if_pos ⟨rfl, rfl⟩, if_pos (show nCo (nsKi x v) = 3 from hc)]; rfl
  · rw [aI_sA, if_neg (by omega)]; exact (e7 j hj).1
  · rw [aI_sA, if_neg (by omega)]; exact (e7 j hj).2 i hi
theorem mNew_at {M : Mem} {k : Nat} {g : Int32} : aI (mNew M k g) 123 k = 3 ∧ aI (mNew M k g) 124 k = 0 ∧ aI (mNew M k g) 125 k = 1 ∧ aI (mNew M k g) 126 k = -1 ∧ aI (mNew M k g) 127 k = -1 ∧ aI (mNew M k g) 128 k = g ∧ aI (mNew M k g) 129 k = 0 := by
  unfold mNew
  simp [aI_sA, aI_sI]
theorem qNd_add {s : RS} {j : Nat} (m : Int32) : qNd (rAdd s m) j = if j = qOp s then nsKi (qNd s (qOp s)) (nKi (qNd s (qOp s)) + 1) else if j = qCn s then mkN 0 m 1 (-1) 0 (nI (qOp s)) 0 [] else qNd s j := by
  show va_up (va_up (qNd s) (qCn s) _) (qOp s) _ j = _
  by_cases h : j = qOp s
  · subst h; rw [va_up_self, if_pos rfl]
  · rw [va_up_ne _ _ h, if_neg h]
    by_cases h2 : j = qCn s
    · subst h2; rw [va_up_self, if_pos rfl]
    · rw [va_up_ne _ _ h2, if_neg h2]
set_option maxRecDepth 100000 in
set_option maxHeartbeats 4000000 in
theorem go_node (E : GE) {M M1 : Mem} {tp : List Nat} {a : Nat} {s : RS} (hI : GI M M1 tp a s) (hst : qSt s = 0) (hcn : qCn s < 25) (hbg : a < tp.length ∧ tp.getD a 0 ≠ 32 ∧ tp.getD a 0 ≠ 41) (ih : ∀ (a : Nat) (s1 : RS) (M1 : Mem), GI M M1 tp a s1 → 2 * (25 - qCn s1) + qDep s1 < 2 * (25 - qCn s) + qDep s → Wp (XGo E M tp) 0 0 23 [(0, .ref 121), (1, .int (nI (qOp s1))), (2, .int (nI (qDep s1)))] [] SH M1) : Wp (XGo E M tp) 0 0 268 [(0, .ref 121), (1, .int (nI (qOp s))), (2, .int (nI (qDep s)))] [] SH M1 := by
  obtain ⟨hF, hP, hC, h24, h3, hmn, hkc, hhd⟩ := hI
  have hG := hP.1
  have hT := hP.2.1
  have hb := tp_lt hT
  have h240 := hT.2.1
  have hg := hC.2.1
  have hop := hg.2.1
  have hd5 := hg.1
  have hin : vp_in (nI (qOp s)) 25 := vp_in_nI (by omega) (by decide)
  have hcl : (nI (qOp s)).toNatClampNeg = qOp s := nI_clamp (by omega)
  have hco : nCo (qNd s (qOp s)) = 3 := chn_core hg.2.2.2.2.1 hg.2.2.2.1
  obtain ⟨hF2, hN2⟩ := mNew_F (M := M1) (k := qCn s) (g := nI (qOp s))
  obtain ⟨n123, n124, n125, n126, n127, n128, n129⟩ := mNew_at (M := M1) (k := qCn s) (g := nI (qOp s))
  have hrow2 : ∀ j, j < qCn s → mNode 123 (mNew M1 (qCn s) (nI (qOp s))) j (qNd s j) := fun j hj => mNode_nf (hmn j hj) hN2 (by omega) (hg.2.2.2.2.2 j hj).1
  have ect : aI (mNew M1 (qCn s) (nI (qOp s))) 129 (qOp s) + 1 = nI (nKi (qNd s (qOp s)) + 1) := by rw [mN_ct (hrow2 _ hop) hco, nI_1]
  have hok0 : ∀ j, j < qCn s → okN (qNd (rAdd s 0) j) := fun j hj => by
    rw [qNd_add]
    by_cases e : j = qOp s
    · rw [if_pos e]; exact (hg.2.2.2.2.2 _ hop).1
    · rw [if_neg e, if_neg (by omega)]; exact (hg.2.2.2.2.2 j hj).1
  obtain ⟨M3, hM3⟩ : ∃ M3, M3 = sA (mNew M1 (qCn s) (nI (qOp s))) 129 (qOp s) (nI (nKi (qNd s (qOp s)) + 1)) := ⟨_, rfl⟩
  have hrow3 : ∀ j, j < qCn s → mNode 123 M3 j (qNd (rAdd s 0) j) := fun j hj => by
    rw [qNd_add, hM3]
    by_cases e : j = qOp s
    · rw [if_pos e, e]; exact mN_ki (hrow2 _ hop) hco
    · rw [if_neg e, if_neg (by omega)]
      exact mNode_nf (k := qOp s) (hrow2 j hj) (NF.rf.sA (by unfold inK; omega)) e (hg.2.2.2.2.2 j hj).1
  have hF3 : mPF M M3 := by rw [hM3]; exact (hF.tr hF2).sA (by simp)
  have g24 : fI M3 121 24 = 0 := by rw [hM3]; unfold mNew; simp only [fI_sA, fI_sI]; simp; exact h24
  have g3 : fI M3 121 3 = nI (qCn s + 1) := by rw [hM3]; unfold mNew; simp only [fI_sA, fI_sI]; simp
  have hP3 : Ps M3 tp a := hP.fr (show mPF M1 M3 by rw [hM3]; exact hF2.sA (by simp)) (by rw [hM3]; unfold mNew; simp only [fI_sA, fI_sI]; simp; exact hP.2.2.1) hP.2.2.2
  have k3 : ∀ p, aI M3 p (qCn s) = aI (mNew M1 (qCn s) (nI (qOp s))) p (qCn s) := fun p => by rw [hM3, aI_sA, if_neg (by omega)]
  have hpt3 : mPt M3 (qCn s) (rCur (rAdd s 0)) := by
    rw [rCur_add hop]
    exact ⟨(k3 124).trans n124, (k3 125).trans n125, (k3 126).trans n126, (k3 128).trans n128⟩
  have hkc0 : kch (qNd (rAdd s 0)) (qDep s) (qOp s) := kch_congr _ _ (fun j hj => by
    rw [qNd_add]
    by_cases e : j = qOp s
    · rw [if_pos e, e]; exact ⟨rfl, fun _ => Nat.succ_pos _⟩
    · rw [if_neg e, if_neg (by omega)]; exact ⟨rfl, fun h => h⟩) hkc
  have hki0 : 0 < nKi (qNd (rAdd s 0) (qOp s)) := by rw [qNd_add, if_pos rfl]; exact Nat.succ_pos _
  have J291 : ∀ (M4 : Mem) (a1 : Nat) (s1 u1 : RS), gMk M3 tp (qCn s) s M4 a1 s1 u1 → hCol tp a1 u1 → Wp (XGo E M tp) 0 0 291 [(4, .int (nI (qCn s))), (0, .ref 121), (1, .int (nI (qOp s))), (2, .int (nI (qDep s)))] [] SH M4 := by
    intro M4 a1 s1 u1 hg1 hcol
    obtain ⟨hF4, hN4, h24', h3', hP4, hC4, hPC4, hpt4, hro4, hbd4, hen4, hSF4, har4⟩ := hg1
    obtain ⟨e1, e2, e3, e4, e5⟩ := hSF4
    have e1 : qDep u1 = qDep s := e1
    have e2 : qOp u1 = qOp s := e2
    have e3 : qCn u1 = qCn s + 1 := e3
    have e4 : qCu u1 = qCn s := e4
    have e5 : ∀ j, j ≠ qCn s → qNd u1 j = qNd (rAdd s 0) j := e5
    have J305 : ∀ y : Int32, (y = 1 ∧ (a1 < tp.length ∧ tp.getD a1 0 = 40)) ∨ (y = 0 ∧ ¬ (a1 < tp.length ∧ tp.getD a1 0 = 40)) → Wp (XGo E M tp) 0 0 305 [(4, .int (nI (qCn s))), (0, .ref 121), (1, .int (nI (qOp s))), (2, .int (nI (qDep s)))] [.int y] SH M4 := by
      intro y hy
      refine wp_istore dX9_goAlong_305 (Nat.le_of_ble_eq_true rfl) ?_
      refine wp_aload_n dX9_goAlong_307 rfl ?_
      refine wp_iload dX9_goAlong_308 rfl ?_
      refine wp_iload_n dX9_goAlong_310 rfl ?_
      rw [← e1]
      refine wp_cV2p dX9_goAlong_311 ml_X9_181 vX9_core ⟨8, (RX9, TX9, 39), rfl, rfl, rfl⟩ (cX9_core_ E (qCn s) tp a1 s1 M4 hP4 hC4 hcn u1 hPC4 hpt4 ((hro4 123 (by omega)).trans ((k3 123).trans n123)) ((hro4 127 (by omega)).trans ((k3 127).trans n127)) ((hro4 129 (by omega)).trans ((k3 129).trans n129)) hbd4 hen4 hcol (by rw [h3', g3, e3]) (by omega) (by omega)) (Nat.le_of_ble_eq_true rfl) (Nat.le_of_ble_eq_true rfl) (Nat.le_of_ble_eq_true rfl) (Nat.le_refl _) (Nat.le_refl _) (fun v sh1 M1 hq => ?_)
      obtain ⟨rfl, hF5, hN5, hq⟩ := hq
      rcases hq with ⟨rfl, hbd⟩ | ⟨rfl, k24, k3', a2, s2, hP5, hC5, hmn5, hcase⟩
      · refine wp_istore dX9_goAlong_314 (Nat.le_of_ble_eq_true rfl) ?_
        refine wp_iload dX9_goAlong_316 rfl ?_
        refine wp_if_eq (tgt := 332) dX9_goAlong_318 (by decide) (fun c => ?_) (fun c => absurd rfl c)
        refine wp_goto (tgt := 23) dX9_goAlong_332 (by decide) ?_
        exact wp_lv (go_bad E _ _ _ ((hF3.tr hF4).tr hF5) hbd) (by repeat (first | exact trivial | refine ⟨rfl, ?_⟩))
      · refine wp_istore dX9_goAlong_314 (Nat.le_of_ble_eq_true rfl) ?_
        refine wp_iload dX9_goAlong_316 rfl ?_
        refine wp_if_eq (tgt := 332) dX9_goAlong_318 (by decide) (fun c318 => absurd c318 (by decide)) (fun c318 => ?_)
        refine wp_iload dX9_goAlong_321 rfl ?_
        refine wp_if_eq (tgt := 332) dX9_goAlong_323 (by decide) (fun c323 => ?_) (fun c323 => ?_)
        · refine wp_goto (tgt := 23) dX9_goAlong_332 (by decide) ?_
          rcases hcase with ⟨h40, -⟩ | ⟨h40, hdn, hnx, hSF5⟩
          · rcases hy with hy | hy
            · exact absurd c323 (by rw [hy.1]; decide)
            · exact absurd h40 hy.2
          obtain ⟨d1, d2, d3, d4, d5⟩ := hSF5
          have hne : ∀ j, j ≠ qCn s → qNd s2 j = qNd (rAdd s 0) j := fun j hj => (d5 j (by rw [e4]; exact hj)).trans (e5 j hj)
          have hG5 : GI M M1 tp a2 s2 := by
            refine ⟨(hF3.tr hF4).tr hF5, hP5, hC5, k24.trans (h24'.trans g24), k3'.trans (h3'.trans (g3.trans (by rw [d3, e3]))), fun j hj => ?_, ?_, Or.inr ⟨hdn, hnx, ?_⟩⟩
            · rw [d3, e3] at hj
              by_cases q : j = qCn s
              · have : rCur s2 = qNd s2 j := by unfold rCur; rw [d4, e4, q]
                rw [← this, q]; exact hmn5
              · rw [hne j q]
                exact mNode_nf (mNode_nf (hrow3 j (by omega)) hN4 q (hok0 j (by omega))) hN5 q (hok0 j (by omega))
            · rw [d1, d2, e1, e2]
              exact kch_congr _ _ (fun j hj => by rw [hne j (by omega)]; exact ⟨rfl, fun h => h⟩) hkc0
            · rw [d2, e2, hne _ (by omega)]; exact hki0
          have h := ih a2 s2 _ hG5 (by rw [d3, e3, d1, e1]; omega)
          rw [d1, d2, e1, e2] at h
          rw [e1]
          exact wp_lv h (by repeat (first | exact trivial | refine ⟨rfl, ?_⟩))
        · refine wp_iload dX9_goAlong_326 rfl ?_
          refine wp_istore_n dX9_goAlong_328 (Nat.le_of_ble_eq_true rfl) ?_
          refine wp_iinc dX9_goAlong_329 rfl (i_pos1 _) (Nat.le_of_ble_eq_true rfl) ?_
          refine wp_goto (tgt := 23) dX9_goAlong_332 (by decide) ?_
          rcases hcase with ⟨h40, hs2⟩ | ⟨h40, hdn, hnx, hSF5⟩
          rotate_left 1
          · rcases hy with hy | hy
            · exact absurd hy.2 h40
            · exact absurd hy.1 c323
          have d1 : qDep s2 = qDep s + 1 := by rw [hs2]; show qDep u1 + 1 = _; rw [e1]
          have d2 : qOp s2 = qCn s := by rw [hs2]; show qCn u1 - 1 = _; rw [e3]; rfl
          have d3 : qCn s2 = qCn s + 1 := by rw [hs2]; exact e3
          have d4 : qCu s2 = qCn s := by rw [hs2]; exact e4
          have d6 : qNd s2 (qCn s) = nsDe (nsCo (rCur u1) 3) (-1) := by rw [hs2]; show va_up (qNd u1) (qCu u1) _ (qCn s) = _; rw [e4, va_up_self]
          have hne : ∀ j, j ≠ qCn s → qNd s2 j = qNd (rAdd s 0) j := fun j hj => by
            rw [hs2]; show va_up (qNd u1) (qCu u1) _ j = _
            rw [va_up_ne _ _ (by rw [e4]; exact hj)]; exact e5 j hj
          have hG5 : GI M M1 tp a2 s2 := by
            refine ⟨(hF3.tr hF4).tr hF5, hP5, hC5, k24.trans (h24'.trans g24), k3'.trans (h3'.trans (g3.trans (by rw [d3]))), fun j hj => ?_, ?_, Or.inl (by rw [hs2]; rfl)⟩
            · rw [d3] at hj
              by_cases q : j = qCn s
              · have : rCur s2 = qNd s2 j := by unfold rCur; rw [d4, q]
                rw [← this, q]; exact hmn5
              · rw [hne j q]
                exact mNode_nf (mNode_nf (hrow3 j (by omega)) hN4 q (hok0 j (by omega))) hN5 q (hok0 j (by omega))
            · rw [d1, d2]
              refine ⟨qOp s, hop, by rw [d6]; exact har4, by rw [hne _ (by omega)]; exact hki0, ?_⟩
              exact kch_congr _ _ (fun j hj => by rw [hne j (by omega)]; exact ⟨rfl, fun h => h⟩) hkc0
          have h := ih a2 s2 _ hG5 (by rw [d3, d1]; omega)
          rw [d1, d2, ← nI_1] at h
          rw [e1]
          exact wp_lv h (by repeat (first | exact trivial | refine ⟨rfl, ?_⟩))
    refine wp_aload_n dX9_goAlong_291 rfl ?_
    refine wp_cV0i dX9_goAlong_292 ml_X9_134 vX9_here ⟨8, (RX9, TX9, 39), rfl, rfl, rfl⟩ (cX9_hereN E M4 tp a1 hP4) (Nat.le_of_ble_eq_true rfl) (Nat.le_of_ble_eq_true rfl) (Nat.le_of_ble_eq_true rfl) ?_
    refine wp_bipush (v := 40) dX9_goAlong_295 (by decide) ?_
    refine wp_icmp_ne (tgt := 304) dX9_goAlong_297 (by decide) (fun c297 => ?_) (fun c297 => ?_)
    · refine wp_iconst (v := 0) dX9_goAlong_304 rfl ?_
      exact J305 0 (Or.inr ⟨rfl, fun h => c297 ((hv_is (hb a1) (by decide)).mpr h)⟩)
    · refine wp_iconst (v := 1) dX9_goAlong_300 rfl ?_
      refine wp_goto (tgt := 305) dX9_goAlong_301 (by decide) ?_
      exact J305 1 (Or.inl ⟨rfl, (hv_is (c := 40) (hb a1) (by decide)).mp c297⟩)
  refine wp_aload_n dX9_goAlong_268 rfl ?_
  refine wp_iload_n dX9_goAlong_269 rfl ?_
  refine wp_cV1i dX9_goAlong_270 ml_X9_173 vX9_newNode ⟨8, (RX9, TX9, 39), rfl, rfl, rfl⟩ (cX9_newNode_ E (qCn s) (nI (qOp s)) M1 hG hcn h3) (Nat.le_of_ble_eq_true rfl) (Nat.le_of_ble_eq_true rfl) (Nat.le_of_ble_eq_true rfl) ?_
  have hG2 := hG.fr hF2
  refine wp_istore dX9_goAlong_273 (Nat.le_of_ble_eq_true rfl) ?_
  refine wp_aload_n dX9_goAlong_275 rfl ?_
  refine wp_getR dX9_goAlong_276 fl_X9_35 rfl rfl (hG2 10) ?_
  refine wp_iload_n dX9_goAlong_279 rfl ?_
  refine wp_dup2 dX9_goAlong_280 rfl rfl ?_
  refine wp_iaload dX9_goAlong_281 rfl hin ?_
  refine wp_iconst (v := 1) dX9_goAlong_282 rfl ?_
  refine wp_iadd dX9_goAlong_283 ?_
  refine wp_iastore dX9_goAlong_284 rfl hin ?_
  rw [hcl, ect, ← hM3]
  refine wp_aload_n dX9_goAlong_285 rfl ?_
  refine wp_iload dX9_goAlong_286 rfl ?_
  refine wp_cV1p dX9_goAlong_288 ml_X9_177 vX9_marks ⟨8, (RX9, TX9, 39), rfl, rfl, rfl⟩ (cX9_marks_ E (qCn s) tp a s M3 hP3 hC hcn hst hcn hpt3 hbg) (Nat.le_of_ble_eq_true rfl) (Nat.le_of_ble_eq_true rfl) (Nat.le_of_ble_eq_true rfl) (Nat.le_refl _) (Nat.le_refl _) (fun v sh1 M1 hq => ?_)
  obtain ⟨rfl, rfl, a1, s1, u1, hg1, hcol1⟩ := hq
  exact wp_lv (J291 _ a1 s1 u1 hg1 hcol1) (by repeat (first | exact trivial | refine ⟨rfl, ?_⟩))
