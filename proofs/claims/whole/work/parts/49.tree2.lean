/-! ===== .. and stays so ===== -/
theorem rCore_go (u : RS) (b n : Nat) : rCore (rGo u n) b = rCore u b := rfl
theorem T_add {s : RS} {c : Nat} {ma : Int32} (hA : aOk s) (h : tOk s c) (h0 : qSt s = 0) (h25 : qCn s < 25) (hma : ma = 0 ∨ ma = 1 ∨ ma = 2) : tOk (rGo (rAdd s ma) 1) (c + if ma = 0 then 0 else 1) := by
  obtain ⟨h1, h2, h3, h4, h5⟩ := h
  have g := hA.1
  have hop := g.2.1
  have hcur := rCur_add (ma := ma) hop
  have hnd : ∀ j, j < qCn s → (j = qOp s → qNd (rAdd s ma) j = nsKi (qNd s j) (nKi (qNd s j) + 1)) ∧ (j ≠ qOp s → qNd (rAdd s ma) j = qNd s j) := fun j hj => by
    rw [qNd_add]
    refine ⟨fun e => by rw [if_pos e, e], fun e => by rw [if_neg e, if_neg (by omega)]⟩
  have hk : ∀ j, j < qCn s → nAr (qNd (rAdd s ma) j) = nAr (qNd s j) ∧ (nCo (qNd (rAdd s ma) j) = 3 ↔ nCo (qNd s j) = 3) ∧ (0 < nKi (qNd s j) → 0 < nKi (qNd (rAdd s ma) j)) ∧ cst (qNd (rAdd s ma) j) = cst (qNd s j) ∧ (nOk (qNd s j) → nOk (qNd (rAdd s ma) j)) ∧ (rt (qNd s j) → rt (qNd (rAdd s ma) j)) := fun j hj => by
    by_cases e : j = qOp s
    · rw [(hnd j hj).1 e]; exact ⟨rfl, Iff.rfl, fun _ => Nat.succ_pos _, rfl, fun q => q, fun q => q⟩
    · rw [(hnd j hj).2 e]; exact ⟨rfl, Iff.rfl, fun q => q, rfl, fun q => q, fun q => q⟩
  have hnew : qNd (rAdd s ma) (qCn s) = mkN 0 ma 1 (-1) 0 (nI (qOp s)) 0 [] := hcur
  obtain ⟨t1, ⟨t2, m, t3, t4⟩, t5, t6⟩ := h1
  have eo := opk_congr (hk (qCn s - 1) (by omega)).1 (hk (qCn s - 1) (by omega)).2.1
  have hg1 := gOk_add (ma := ma) g h25
  have hanc : anc (qNd (rAdd s ma)) m (opk (qNd (rAdd s ma)) (qCn s - 1)) (qOp s) := by
    rw [eo]; exact anc_congr m _ _ (fun j hj => (hk j (by omega)).1) t3
  have hki : 0 < nKi (qNd (rAdd s ma) (qOp s)) := by rw [(hnd _ hop).1 rfl]; exact Nat.succ_pos _
  refine ⟨⟨fun k k1 k2 => ?_, ⟨?_, 0, ?_, ?_⟩, (hk 0 (by omega)).2.2.2.2.2 t5, fun q => ?_⟩, fun k k1 k2 k3 => ?_, fun _ => ?_, ?_, ?_⟩
  · have k2 : k < qCn s + 1 := k2
    by_cases e : k = qCn s
    · rw [e]
      refine ⟨qOp s, qDep s, m, hop, by show nAr (qNd (rAdd s ma) (qCn s)) = _; rw [hnew]; rfl, g.1, hg1.2.2.2.1, by omega, ?_, hanc, hki⟩
      show opk (qNd (rAdd s ma)) (qCn s - 1) < qCn s
      rw [eo]; exact t2
    · exact PTk_congr k1 (t1 k k1 (by omega)) (fun j hj => ⟨(hk j (by omega)).1, (hk j (by omega)).2.1, (hk j (by omega)).2.2.1⟩) (hk k (by omega)).1
  · show opk (qNd (rAdd s ma)) (qCn s + 1 - 1) < qCn s + 1
    rw [Nat.add_sub_cancel]
    unfold opk
    rw [hnew, if_neg (show ¬ nCo (mkN 0 ma 1 (-1) 0 (nI (qOp s)) 0 []) = 3 from (show ¬ (0 : Int32) = 3 by decide))]
    show (nI (qOp s)).toNatClampNeg < _
    rw [nI_clamp (by omega)]; omega
  · show opk (qNd (rAdd s ma)) (qCn s + 1 - 1) = qOp s
    rw [Nat.add_sub_cancel]
    unfold opk
    rw [hnew, if_neg (show ¬ nCo (mkN 0 ma 1 (-1) 0 (nI (qOp s)) 0 []) = 3 from (show ¬ (0 : Int32) = 3 by decide))]
    show (nI (qOp s)).toNatClampNeg = _
    exact nI_clamp (by omega)
  · show 0 + qDep s ≤ 5
    have := g.1
    omega
  · have q : nKi (qNd (rAdd s ma) (qOp s)) = 0 := q
    omega
  · have k2 : k < qCn s + 1 := k2
    rcases k3 with k3 | k3
    · exact absurd k3 (show ¬ (1 : Nat) = 0 by decide)
    · have k3 : k ≠ qCn s := k3
      exact (hk k (by omega)).2.2.2.2.1 (h2 k k1 (by omega) (Or.inl h0))
  · show nH (rCur (rAdd s ma))
    rw [hcur]
    exact ⟨hma, ⟨1, by decide, rfl⟩, Or.inl rfl⟩
  · show nCo (rCur (rAdd s ma)) = 0 ∧ nWo (rCur (rAdd s ma)) = [] ∧ nDe (rCur (rAdd s ma)) = 0
    rw [hcur]; exact ⟨rfl, rfl, rfl⟩
  · show tc (qNd (rAdd s ma)) (qCn s + 1) ≤ _ + (qDep s : Int) + 0
    have e1 : tc (qNd (rAdd s ma)) (qCn s + 1) = tc (qNd (rAdd s ma)) (qCn s) + (sep (qCn s) (qNd (rAdd s ma) (qCn s)) + cst (qNd (rAdd s ma) (qCn s))) := by
      show _ + (if qCn s = 0 then 0 else _) = _
      rw [if_neg (by omega)]
    have e2 : tc (qNd (rAdd s ma)) (qCn s) = tc (qNd s) (qCn s) := tc_congr _ (fun j _ hj => by
      have : sep j (qNd (rAdd s ma) j) = sep j (qNd s j) := by unfold sep; rw [(hk j hj).1]
      rw [this, (hk j hj).2.2.2.1])
    have e3 : cst (qNd (rAdd s ma) (qCn s)) = if ma = 0 then 0 else 1 := by
      rw [hnew]
      show ((if ma = 0 then 0 else 1) + 0) + (0 + 0) + 0 = _
      split <;> rfl
    have e4 : sep (qCn s) (qNd (rAdd s ma) (qCn s)) + off s ≤ 0 := by
      rw [hnew]
      have eof : off s = if 0 < nKi (qNd s (qOp s)) then -1 else 0 := by simp only [off, h0]
      rw [eof]
      unfold sep
      show (if nI (qOp s) = nI (qCn s - 1) then (0 : Int) else 1) + _ ≤ 0
      by_cases c : 0 < nKi (qNd s (qOp s))
      · rw [if_pos c]; split <;> omega
      · rw [if_neg c, if_pos (by rw [← t6 (by omega), Nat.add_sub_cancel])]; decide
    rw [e1, e2, e3]
    by_cases c : ma = 0
    · rw [if_pos c, if_pos c]; omega
    · rw [if_neg c, if_neg c]; push_cast; omega
theorem cr_w0 {x : ND} (h0 : nCo x = 0) (hw : nWo x = []) (hd : nDe x = 0) : cr x = 0 := by
  unfold cr
  rw [h0, hw, hd]; rfl
theorem core_nd {u : RS} {x : ND} {n m : Nat} : ∀ j, qNd (rWord (rNd u x) n m) j = if j = qCu u then x else qNd u j := fun j => by
  show va_up (qNd u) (qCu u) x j = _
  split
  · next e => rw [e, va_up_self]
  · next e => rw [va_up_ne _ _ e]
theorem T_core {u : RS} {b c : Nat} (h : tOk u c) (hst : qSt u = 1 ∨ qSt u = 2) (hc : 0 < qCu u ∧ qCu u < qCn u) (hl : qCu u + 1 = qCn u) (hki : nKi (rCur u) = 0) (hb : (b = 40 ∧ qDep u < 5) ∨ (b ≠ 40 ∧ (isSg b ∨ b = 34 ∨ b = 91 ∨ b = 123))) : tOk (rCore u b) (c + 1) := by
  have hst0 : qSt u ≠ 0 := by omega
  have hx : nCo (rCur u) = 0 ∧ nWo (rCur u) = [] ∧ nDe (rCur u) = 0 := by
    have := h.2.2.2.1
    unfold curOk at this
    rcases hst with e | e <;> (simp only [e] at this; exact this)
  have hof : off u = 0 := by rcases hst with e | e <;> simp only [off, e]
  have hcr := cr_w0 hx.1 hx.2.1 hx.2.2
  have hH := h.2.2.1 hst0
  have hne3 : ¬ nCo (rCur u) = 3 := by rw [hx.1]; decide
  unfold rCore
  by_cases e40 : b = 40
  · rw [if_pos e40]
    have hd5 : qDep u < 5 := by omega
    obtain ⟨⟨t1, ⟨t2, m, t3, t4⟩, t5, t6⟩, h2, h3, h4, h5⟩ := h
    have hn : ∀ j, qNd (rOpen u) j = if j = qCu u then nsDe (nsCo (rCur u) 3) (-1) else qNd u j := fun j => by
      show va_up (qNd u) (qCu u) _ j = _
      split
      · next e => rw [e, va_up_self]
      · next e => rw [va_up_ne _ _ e]
    have hne : ∀ j, j ≠ qCu u → qNd (rOpen u) j = qNd u j := fun j hj => by rw [hn j, if_neg hj]
    have hat : qNd (rOpen u) (qCu u) = nsDe (nsCo (rCur u) 3) (-1) := by rw [hn, if_pos rfl]
    have ecu : qCn u - 1 = qCu u := by omega
    have hopk : opk (qNd (rOpen u)) (qCn u - 1) = qCn u - 1 := by
      unfold opk
      rw [ecu, hat, if_pos (show nCo (nsDe (nsCo (rCur u) 3) (-1)) = 3 from rfl)]
    refine ⟨⟨fun k k1 k2 => ?_, ⟨?_, 0, hopk, ?_⟩, ?_, fun _ => ?_⟩, fun k k1 k2 _ => ?_, fun q => absurd rfl q, trivial, ?_⟩
    · have k2 : k < qCn u := k2
      refine PTk_congr k1 (t1 k k1 k2) (fun j hj => ?_) ?_
      · rw [hne j (by omega)]; exact ⟨rfl, Iff.rfl, fun q => q⟩
      · by_cases e : k = qCu u
        · rw [e, hat]; rfl
        · rw [hne k e]
    · show opk (qNd (rOpen u)) (qCn u - 1) < qCn u
      rw [hopk]; omega
    · show 0 + (qDep u + 1) ≤ 5; omega
    · rw [hne 0 (by omega)]; exact t5
    · show qCn u - 1 + 1 = qCn u; omega
    · by_cases e : k = qCu u
      · rw [e, hat]
        exact ⟨hH, Or.inr (Or.inr (Or.inr ⟨rfl, hx.2.1, Or.inl rfl⟩))⟩
      · rw [hne k e]; exact h2 k k1 k2 (Or.inr e)
    · show tc (qNd (rOpen u)) (qCn u) ≤ ((c + 1 : Nat) : Int) + ((qDep u + 1 : Nat) : Int) + (if 0 < nKi (qNd (rOpen u) (qCn u - 1)) then -1 else 0)
      rw [tc_up hc.1 hn rfl _ hc.2, ecu, hat, if_neg (show ¬ 0 < nKi (nsDe (nsCo (rCur u) 3) (-1)) by show ¬ 0 < nKi (rCur u); omega)]
      have e1 : cst (nsDe (nsCo (rCur u) 3) (-1)) = hdc (rCur u) + 2 + bc (nBo (rCur u)) := rfl
      have e2 : cst (qNd u (qCu u)) = hdc (rCur u) + cr (rCur u) + bc (nBo (rCur u)) := rfl
      rw [e1, e2, hcr]
      push_cast
      omega
  · rw [if_neg e40]
    by_cases e34 : b = 34
    · rw [if_pos e34]
      have hcur : rCur (rWord (rNd u (nsCo (rCur u) 1)) 0 5) = nsCo (rCur u) 1 := rCur_nd u _
      refine T_step (x := nsCo (rCur u) 1) h hst0 (show (5 : Nat) ≠ 0 by decide) hc rfl rfl rfl rfl core_nd rfl ⟨fun q => absurd q (show ¬ (1 : Int32) = 3 by decide), fun q => absurd q hne3⟩ rfl hH ?_ ?_
      · show nCo (rCur (rWord (rNd u (nsCo (rCur u) 1)) 0 5)) = 1 ∧ nWo (rCur (rWord (rNd u (nsCo (rCur u) 1)) 0 5)) = [] ∧ nDe (rCur (rWord (rNd u (nsCo (rCur u) 1)) 0 5)) = 0
        rw [hcur]; exact ⟨rfl, hx.2.1, hx.2.2⟩
      · have e1 : cr (nsCo (rCur u) 1) = 2 := by
          unfold cr
          rw [show nCo (nsCo (rCur u) 1) = 1 from rfl, show nWo (nsCo (rCur u) 1) = [] from hx.2.1, show nDe (nsCo (rCur u) 1) = 0 from hx.2.2]; rfl
        show hdc (rCur u) + cr (nsCo (rCur u) 1) + bc (nBo (rCur u)) + off u ≤ hdc (rCur u) + cr (rCur u) + bc (nBo (rCur u)) + 1 + 1
        omega
    · rw [if_neg e34]
      by_cases e91 : b = 91 ∨ b = 123
      · rw [if_pos e91]
        obtain ⟨v, hv⟩ : ∃ v : Int32, v = (if b = 123 then 1 else 0) := ⟨_, rfl⟩
        have hv2 : ∃ d, d ≤ 1 ∧ v = nI d := by
          by_cases e : b = 123
          · rw [if_pos e] at hv; exact ⟨1, by decide, hv⟩
          · rw [if_neg e] at hv; exact ⟨0, by decide, hv⟩
        rw [← hv]
        have hcur : rCur (rWord (rNd u (nsDe (nsCo (rCur u) 2) v)) 0 10) = nsDe (nsCo (rCur u) 2) v := rCur_nd u _
        refine T_step (x := nsDe (nsCo (rCur u) 2) v) h hst0 (show (10 : Nat) ≠ 0 by decide) hc rfl rfl rfl rfl core_nd rfl ⟨fun q => absurd q (show ¬ (2 : Int32) = 3 by decide), fun q => absurd q hne3⟩ rfl hH ?_ ?_
        · show nCo (rCur (rWord (rNd u (nsDe (nsCo (rCur u) 2) v)) 0 10)) = 2 ∧ (nWo (rCur (rWord (rNd u (nsDe (nsCo (rCur u) 2) v)) 0 10))).length = 0 ∧ allW isLt (nWo (rCur (rWord (rNd u (nsDe (nsCo (rCur u) 2) v)) 0 10))) ∧ (∃ d, d ≤ 1 ∧ nDe (rCur (rWord (rNd u (nsDe (nsCo (rCur u) 2) v)) 0 10)) = nI d) ∧ 0 ≤ 1
          rw [hcur]
          have : nWo (nsDe (nsCo (rCur u) 2) v) = [] := hx.2.1
          rw [this]
          exact ⟨rfl, rfl, fun w hw => (nomatch hw), hv2, by decide⟩
        · have e1 : cr (nsDe (nsCo (rCur u) 2) v) = 4 := by
            unfold cr
            rw [show nCo (nsDe (nsCo (rCur u) 2) v) = 2 from rfl, show nWo (nsDe (nsCo (rCur u) 2) v) = [] from hx.2.1]; rfl
          show hdc (rCur u) + cr (nsDe (nsCo (rCur u) 2) v) + bc (nBo (rCur u)) + off u ≤ hdc (rCur u) + cr (rCur u) + bc (nBo (rCur u)) + 1 + 3
          omega
      · rw [if_neg e91]
        have hsg : isSg b := by omega
        have hcur : rCur (rSign (rWord u 0 3) b) = nsWo (rCur u) [[b]] := fld_sg hx.2.1
        have hnx : ∀ j, qNd (rSign (rWord u 0 3) b) j = if j = qCu u then nsWo (rCur u) [[b]] else qNd u j := fun j => by
          rw [sgn_nd]
          have e1 : nsWo (rCur (rWord u 0 3)) (addB (nWo (rCur (rWord u 0 3))) (qWn (rWord u 0 3)) b) = nsWo (rCur u) [[b]] := by
            have : nWo (rCur (rWord u 0 3)) = [] := hx.2.1
            rw [this]; rfl
          rw [e1]; rfl
        refine T_step (x := nsWo (rCur u) [[b]]) h hst0 (show (3 : Nat) ≠ 0 by decide) hc rfl rfl rfl rfl hnx rfl Iff.rfl rfl hH ?_ ?_
        · show nCo (rCur (rSign (rWord u 0 3) b)) = 0 ∧ (nWo (rCur (rSign (rWord u 0 3) b))).length = 1 ∧ allW isSg (nWo (rCur (rSign (rWord u 0 3) b))) ∧ nDe (rCur (rSign (rWord u 0 3) b)) = 0
          rw [hcur]
          refine ⟨hx.1, rfl, fun w hw => ?_, hx.2.2⟩
          have hw : w ∈ [[b]] := hw
          rw [List.mem_singleton.mp hw]
          exact ⟨by simp, fun y hy => by rw [List.mem_singleton.mp hy]; exact hsg⟩
        · have e1 : cr (nsWo (rCur u) [[b]]) = 1 := by
            unfold cr
            rw [show nCo (nsWo (rCur u) [[b]]) = 0 from hx.1, show nWo (nsWo (rCur u) [[b]]) = [[b]] from rfl, show nDe (nsWo (rCur u) [[b]]) = 0 from hx.2.2]; rfl
          show hdc (rCur u) + cr (nsWo (rCur u) [[b]]) + bc (nBo (rCur u)) + off u ≤ hdc (rCur u) + cr (rCur u) + bc (nBo (rCur u)) + 1 + 0
          omega
/-- a letter or a sign more -/
theorem T_sign {s : RS} {b c n : Nat} (h : tOk s c) (hst : qSt s ≠ 0) (hn : n ≠ 0) (hc : 0 < qCu s ∧ qCu s < qCn s) (h3 : ¬ nCo (rCur s) = 3) (hcu : curOk (rGo (rSign s b) n)) (hof : off s + (if nCo (rCur s) = 1 ∧ (nWo (rCur s)).length ≤ qWn s ∧ 0 < (nWo (rCur s)).length then 1 else 0) ≤ off (rGo (rSign s b) n)) : tOk (rGo (rSign s b) n) (c + 1) := by
  refine T_step (x := nsWo (rCur s) (addB (nWo (rCur s)) (qWn s) b)) h hst hn hc rfl rfl rfl rfl sgn_nd rfl Iff.rfl rfl (h.2.2.1 hst) hcu ?_
  have e1 : cr (nsWo (rCur s) (addB (nWo (rCur s)) (qWn s) b)) = cr (rCur s) + 1 + (if nCo (rCur s) = 1 ∧ (nWo (rCur s)).length ≤ qWn s ∧ 0 < (nWo (rCur s)).length then 1 else 0) := by
    unfold cr
    rw [if_neg (show ¬ nCo (nsWo (rCur s) (addB (nWo (rCur s)) (qWn s) b)) = 3 from h3), if_neg h3]
    rw [show nCo (nsWo (rCur s) (addB (nWo (rCur s)) (qWn s) b)) = nCo (rCur s) from rfl, show nWo (nsWo (rCur s) (addB (nWo (rCur s)) (qWn s) b)) = addB (nWo (rCur s)) (qWn s) b from rfl, show nDe (nsWo (rCur s) (addB (nWo (rCur s)) (qWn s) b)) = nDe (rCur s) from rfl, slen_addB, addB_l]
    by_cases e : nCo (rCur s) = 1
    · rw [if_pos e, if_pos e]
      by_cases c : qWn s < (nWo (rCur s)).length
      · have hP : ¬ (nCo (rCur s) = 1 ∧ (nWo (rCur s)).length ≤ qWn s ∧ 0 < (nWo (rCur s)).length) := fun q => by omega
        rw [if_pos c, if_neg hP]; push_cast; omega
      · rw [if_neg c]
        by_cases c0 : 0 < (nWo (rCur s)).length
        · have hP : nCo (rCur s) = 1 ∧ (nWo (rCur s)).length ≤ qWn s ∧ 0 < (nWo (rCur s)).length := ⟨e, by omega, c0⟩
          rw [if_pos hP]; push_cast; omega
        · have hP : ¬ (nCo (rCur s) = 1 ∧ (nWo (rCur s)).length ≤ qWn s ∧ 0 < (nWo (rCur s)).length) := fun q => by omega
          rw [if_neg hP]; push_cast; omega
    · have hP : ¬ (nCo (rCur s) = 1 ∧ (nWo (rCur s)).length ≤ qWn s ∧ 0 < (nWo (rCur s)).length) := fun q => e q.1
      rw [if_neg e, if_neg e, if_neg hP]
      split <;> (push_cast; omega)
  show hdc (rCur s) + cr (nsWo (rCur s) (addB (nWo (rCur s)) (qWn s) b)) + bc (nBo (rCur s)) + off s ≤ hdc (rCur s) + cr (rCur s) + bc (nBo (rCur s)) + 1 + off (rGo (rSign s b) n)
  omega
