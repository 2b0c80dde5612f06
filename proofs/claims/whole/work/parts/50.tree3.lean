/-! ===== every byte keeps it ===== -/
theorem T_boo {s : RS} {c n v : Nat} (h : tOk s c) (hst : qSt s ≠ 0) (hc : 0 < qCu s ∧ qCu s < qCn s) (hok : cOkC (rCur s)) (hv : v ≤ 99) (hn : (n = 17 ∧ v ≤ 9 ∧ off s = bc (nBo (rCur s)) - 1) ∨ (n = 18 ∧ off s = bc (nBo (rCur s)) - 2)) : tOk (rBoo s (nI v) n) (c + 1) := by
  have hcur : rCur (rGo (rNd s (nsBo (rCur s) (nI v))) n) = nsBo (rCur s) (nI v) := rCur_nd s _
  have hH := h.2.2.1 hst
  refine T_step (x := nsBo (rCur s) (nI v)) h hst (show n ≠ 0 by omega) hc rfl rfl rfl rfl upd_nd rfl Iff.rfl rfl ⟨hH.1, ⟨v, hv, rfl⟩, hH.2.2⟩ ?_ ?_
  · rcases hn with ⟨rfl, h9, -⟩ | ⟨rfl, -⟩
    · show cOkC (rCur (rNd s (nsBo (rCur s) (nI v)))) ∧ ∃ b, b ≤ 9 ∧ nBo (rCur (rNd s (nsBo (rCur s) (nI v)))) = nI b
      rw [rCur_nd]; exact ⟨hok, v, h9, rfl⟩
    · show cOkC (rCur (rNd s (nsBo (rCur s) (nI v))))
      rw [rCur_nd]; exact hok
  · show hdc (rCur s) + cr (rCur s) + bc (nI v) + off s ≤ hdc (rCur s) + cr (rCur s) + bc (nBo (rCur s)) + 1 + off (rGo (rNd s (nsBo (rCur s) (nI v))) n)
    rcases hn with ⟨rfl, -, e⟩ | ⟨rfl, e⟩
    · have : off (rGo (rNd s (nsBo (rCur s) (nI v))) 17) = bc (nI v) - 2 := by
        show bc (nBo (rCur (rNd s (nsBo (rCur s) (nI v))))) - 2 = _
        rw [rCur_nd]; rfl
      omega
    · have : off (rGo (rNd s (nsBo (rCur s) (nI v))) 18) = bc (nI v) - 3 := by
        show bc (nBo (rCur (rNd s (nsBo (rCur s) (nI v))))) - 3 = _
        rw [rCur_nd]; rfl
      omega
theorem T_let {s s1 : RS} {b c n : Nat} (h : tOk s c) (hst : qSt s ≠ 0) (hn : n ≠ 0) (hc : 0 < qCu s ∧ qCu s < qCn s) (h3 : ¬ nCo (rCur s) = 3) (hcu : isLt b → curOk (rGo (rSign s b) n)) (hof : off s + (if nCo (rCur s) = 1 ∧ (nWo (rCur s)).length ≤ qWn s ∧ 0 < (nWo (rCur s)).length then 1 else 0) ≤ off (rGo (rSign s b) n)) (hs : rLet s b n = some s1) : tOk s1 (c + 1) := by
  unfold rLet at hs
  split at hs
  · next hl => cases hs; exact T_sign h hst hn hc h3 (hcu hl.2) hof
  · cases hs
theorem cur_sign (s : RS) (b n : Nat) : nCo (rCur (rGo (rSign s b) n)) = nCo (rCur s) ∧ nWo (rCur (rGo (rSign s b) n)) = addB (nWo (rCur s)) (qWn s) b ∧ nDe (rCur (rGo (rSign s b) n)) = nDe (rCur s) := by
  have : rCur (rGo (rSign s b) n) = nsWo (rCur s) (addB (nWo (rCur s)) (qWn s) b) := rCur_sign s b
  rw [this]; exact ⟨rfl, rfl, rfl⟩
theorem tOk_dl {s s1 : RS} {b c : Nat} (hA : aOk s) (h : tOk s c) (hs : dl s b = some s1) : tOk s1 (c + 1) := by
  obtain ⟨g, so, h18, hc⟩ := hA
  have hcu := h.2.2.2.1
  have hp := h.2.2.2.2
  unfold curOk at hcu
  unfold stOk at so
  have hall : qSt s = 0 ∨ qSt s = 1 ∨ qSt s = 2 ∨ qSt s = 3 ∨ qSt s = 4 ∨ qSt s = 5 ∨ qSt s = 6 ∨ qSt s = 7 ∨ qSt s = 8 ∨ qSt s = 9 ∨ qSt s = 10 ∨ qSt s = 11 ∨ qSt s = 12 ∨ qSt s = 13 ∨ qSt s = 14 ∨ qSt s = 15 ∨ qSt s = 16 ∨ qSt s = 17 ∨ qSt s = 18 := by omega
  rcases hall with e | e | e | e | e | e | e | e | e | e | e | e | e | e | e | e | e | e | e
  -- 0
  · rw [dln e] at hs
    have hs : rGap s b = some s1 := hs
    have hof : off s = if 0 < nKi (qNd s (qOp s)) then -1 else 0 := by simp only [off, e]
    have hle : off s ≤ 0 := by rw [hof]; split <;> decide
    have hD : ∀ k, 1 ≤ k → k < qCn s → nOk (qNd s k) := fun k k1 k2 => h.2.1 k k1 k2 (Or.inl e)
    unfold rGap at hs
    split at hs
    · cases hs
      refine ⟨h.1, h.2.1, h.2.2.1, h.2.2.2.1, ?_⟩
      push_cast; omega
    · split at hs
      · split at hs
        · exact T_close g h.1 hD (by omega) hs
        · cases hs
      · split at hs
        · next hb =>
          split at hs
          · next h25 =>
            cases hs
            have := T_add (ma := if b = 43 then 1 else 2) ⟨g, by unfold stOk; exact so, h18, hc⟩ h e (by omega) (by split <;> simp)
            have hne : ¬ (if b = 43 then (1 : Int32) else 2) = 0 := by split <;> decide
            rw [if_neg hne] at this
            exact this
          · cases hs
        · split at hs
          · next hcan =>
            cases hs
            have h25 : qCn s < 25 := by rcases hcan with q | q <;> omega
            have hadd := T_add (ma := 0) ⟨g, by unfold stOk; exact so, h18, hc⟩ h e h25 (Or.inl rfl)
            rw [if_pos rfl, Nat.add_zero] at hadd
            have hcur := rCur_add (ma := 0) g.2.1
            rw [← rCore_go (rAdd s 0) b 1]
            refine T_core hadd (Or.inl rfl) ⟨show 0 < qCn s by have := g.2.1; omega, Nat.lt_succ_self _⟩ rfl (by show nKi (rCur (rAdd s 0)) = 0; rw [hcur]; rfl) ?_
            rcases hcan with q | q
            · exact Or.inl ⟨q.1, q.2.1⟩
            · exact Or.inr ⟨q.1, q.2.2⟩
          · cases hs
  -- 1, 2
  · rw [dl_12 (Or.inl e)] at hs
    simp only [e] at so
    split at hs
    · next hcan =>
      cases hs
      refine T_core h (Or.inl e) (hc (by omega)) so.2.1 so.1.2.1 ?_
      rcases hcan with q | q
      · exact Or.inl ⟨q.1, q.2.1⟩
      · exact Or.inr ⟨q.1, q.2.2⟩
    · cases hs
  · rw [dl_12 (Or.inr e)] at hs
    simp only [e] at so
    split at hs
    · next hcan =>
      cases hs
      refine T_core h (Or.inr e) (hc (by omega)) so.2.1 so.1.2.1 ?_
      rcases hcan with q | q
      · exact Or.inl ⟨q.1, q.2.1⟩
      · exact Or.inr ⟨q.1, q.2.2⟩
    · cases hs
  -- 3
  · rw [dl3 e] at hs
    have hc := hc (by omega)
    simp only [e] at so hcu
    have hof : off s = 0 := by simp only [off, e]
    have h0 : qSt s ≠ 0 := by omega
    have h3 : ¬ nCo (rCur s) = 3 := by rw [hcu.1]; decide
    have ho : nOk (rCur s) := ⟨h.2.2.1 h0, Or.inl ⟨hcu.1, hcu.2.1, hcu.2.2.1, 0, by decide, hcu.2.2.2⟩⟩
    unfold rIn at hs
    split at hs
    · next hsg =>
      split at hs
      · cases hs
        obtain ⟨k1, k2, k3⟩ := cur_sign s b 3
        have eg : rSign s b = rGo (rSign s b) 3 := by
          have : rGo (rSign s b) (qSt (rSign s b)) = rSign s b := rfl
          rw [show qSt (rSign s b) = 3 from e] at this
          exact this.symm
        rw [eg]
        refine T_sign h h0 (by decide) hc h3 ?_ ?_
        · show nCo (rCur (rGo (rSign s b) 3)) = 0 ∧ (nWo (rCur (rGo (rSign s b) 3))).length = 1 ∧ allW isSg (nWo (rCur (rGo (rSign s b) 3))) ∧ nDe (rCur (rGo (rSign s b) 3)) = 0
          rw [k1, k2, k3, addB_l, so.2.2.1, hcu.2.1]
          exact ⟨hcu.1, rfl, allW_set hcu.2.2.1 hsg, hcu.2.2.2⟩
        · have hP : ¬ (nCo (rCur s) = 1 ∧ (nWo (rCur s)).length ≤ qWn s ∧ 0 < (nWo (rCur s)).length) := fun q => by rw [hcu.1] at q; exact absurd q.1 (by decide)
          rw [if_neg hP, hof]
          show (0 : Int) + 0 ≤ 0
          decide
      · cases hs
    · split at hs
      · split at hs
        · next hf =>
          cases hs
          have hw := so.2.2.2.2.1
          have hl1 : (nWd (rCur s) (qWn s)).length = 1 := by rw [← hw.2.2.1]; exact hf.1
          obtain ⟨w, hww⟩ : ∃ w, nWo (rCur s) = [w] := by
            match hh : nWo (rCur s), hcu.2.1 with
            | [w], _ => exact ⟨w, rfl⟩
          have hsl : slen (nWo (rCur s)) = 1 := by
            rw [so.2.2.1] at hl1
            unfold nWd at hl1
            rw [hww] at hl1 ⊢
            exact hl1
          have hv : nI (rFst s) - 97 = nI (rFst s - 97) := nI_48 (k := 97) hf.2.2.1 (by omega)
          rw [hv]
          have hcur : rCur (rGo (rNd s (nsWo (nsFi (rCur s) (nI (rFst s - 97))) [])) 2) = nsWo (nsFi (rCur s) (nI (rFst s - 97))) [] := rCur_nd s _
          have hH := h.2.2.1 h0
          refine T_step (x := nsWo (nsFi (rCur s) (nI (rFst s - 97))) []) h h0 (show (2 : Nat) ≠ 0 by decide) hc rfl rfl rfl rfl upd_nd rfl Iff.rfl rfl ⟨hH.1, hH.2.1, Or.inr ⟨rFst s - 97, by omega, rfl⟩⟩ ?_ ?_
          · show nCo (rCur (rGo (rNd s (nsWo (nsFi (rCur s) (nI (rFst s - 97))) [])) 2)) = 0 ∧ nWo (rCur (rGo (rNd s (nsWo (nsFi (rCur s) (nI (rFst s - 97))) [])) 2)) = [] ∧ nDe (rCur (rGo (rNd s (nsWo (nsFi (rCur s) (nI (rFst s - 97))) [])) 2)) = 0
            rw [hcur]; exact ⟨hcu.1, rfl, hcu.2.2.2⟩
          · have e1 : cr (nsWo (nsFi (rCur s) (nI (rFst s - 97))) []) = 0 := cr_w0 hcu.1 rfl hcu.2.2.2
            have e2 : cr (rCur s) = 1 := by
              unfold cr
              rw [hcu.1, hsl, hcu.2.2.2]; rfl
            have e3 : hdc (nsWo (nsFi (rCur s) (nI (rFst s - 97))) []) ≤ (if nMa (rCur s) = 0 then 0 else 1) + 2 := by
              show (if nMa (rCur s) = 0 then (0 : Int) else 1) + (if nI (rFst s - 97) = -1 then 0 else 2) ≤ _
              split <;> split <;> omega
            have e4 : hdc (rCur s) = (if nMa (rCur s) = 0 then 0 else 1) + 0 := by
              unfold hdc; rw [hf.2.1]; rfl
            show hdc (nsWo (nsFi (rCur s) (nI (rFst s - 97))) []) + cr (nsWo (nsFi (rCur s) (nI (rFst s - 97))) []) + bc (nBo (rCur s)) + off s ≤ hdc (rCur s) + cr (rCur s) + bc (nBo (rCur s)) + 1 + 0
            rw [e1, e2, e4, hof]
            omega
        · cases hs
      · split at hs
        · split at hs
          · cases hs
            exact T_go h h0 (by decide) hc (show _ ∧ _ from ⟨hcu.1, hcu.2⟩) (by rw [hof]; show (0 : Int) ≤ 1 + -1; decide)
          · cases hs
        · exact T_tail g h h0 hc ho hof hs
  -- 4
  · rw [dln e] at hs
    have hc := hc (by omega)
    simp only [e] at hcu
    exact T_det h (by omega) hc (by simp only [off, e]) (by decide) (by decide) (fun d _ h2 => Or.inl ⟨hcu.1, hcu.2.1, hcu.2.2.1, d, h2, rfl⟩) hs
  -- 5
  · rw [dln e] at hs
    have hc := hc (by omega)
    simp only [e] at so hcu
    have h3 : ¬ nCo (rCur s) = 3 := by rw [hcu.1]; decide
    obtain ⟨k1, k2, k3⟩ := cur_sign s b 6
    refine T_let (n := 6) h (by omega) (by decide) hc h3 (fun hl => ?_) ?_ hs
    · show nCo (rCur (rGo (rSign s b) 6)) = 1 ∧ 1 ≤ (nWo (rCur (rGo (rSign s b) 6))).length ∧ allW isLt (nWo (rCur (rGo (rSign s b) 6))) ∧ nDe (rCur (rGo (rSign s b) 6)) = 0
      rw [k1, k2, k3, addB_l, hcu.2.1]
      exact ⟨hcu.1, by rw [if_neg (show ¬ qWn s < ([] : List (List Nat)).length from Nat.not_lt_zero _)]; exact Nat.le_refl _, allW_set (fun w hw => nomatch hw) hl, hcu.2.2⟩
    · have hP : ¬ (nCo (rCur s) = 1 ∧ (nWo (rCur s)).length ≤ qWn s ∧ 0 < (nWo (rCur s)).length) := fun q => by rw [hcu.2.1] at q; exact absurd q.2.2 (by decide)
      rw [if_neg hP]
      simp only [off, e]
      show (1 : Int) + 0 ≤ 1
      decide
  -- 6
  · rw [dln e] at hs
    have hs : rQuo s b = some s1 := hs
    have hc := hc (by omega)
    simp only [e] at so hcu
    have hof : off s = 1 := by simp only [off, e]
    have h3 : ¬ nCo (rCur s) = 3 := by rw [hcu.1]; decide
    unfold rQuo at hs
    split at hs
    · cases hs
      exact T_go h (by omega) (by decide) hc (show _ ∧ _ from ⟨hcu.1, hcu.2⟩) (by rw [hof]; show (1 : Int) ≤ 1 + 0; decide)
    · split at hs
      · split at hs
        · cases hs
          exact T_go h (by omega) (by decide) hc (show _ ∧ _ from ⟨hcu.1, hcu.2⟩) (by rw [hof]; show (1 : Int) ≤ 1 + 0; decide)
        · cases hs
      · obtain ⟨k1, k2, k3⟩ := cur_sign s b 6
        have hwl := so.2.1.2.2.2.2 so.2.2
        refine T_let (n := 6) h (by omega) (by decide) hc h3 (fun hl => ?_) ?_ hs
        · show nCo (rCur (rGo (rSign s b) 6)) = 1 ∧ 1 ≤ (nWo (rCur (rGo (rSign s b) 6))).length ∧ allW isLt (nWo (rCur (rGo (rSign s b) 6))) ∧ nDe (rCur (rGo (rSign s b) 6)) = 0
          rw [k1, k2, k3, addB_l]
          exact ⟨hcu.1, by split <;> omega, allW_set hcu.2.2.1 hl, hcu.2.2.2⟩
        · have hP : ¬ (nCo (rCur s) = 1 ∧ (nWo (rCur s)).length ≤ qWn s ∧ 0 < (nWo (rCur s)).length) := fun q => by omega
          rw [if_neg hP, hof]
          show (1 : Int) + 0 ≤ 1
          decide
  -- 7
  · rw [dln e] at hs
    have hs : rQGap s b = some s1 := hs
    have hc := hc (by omega)
    simp only [e] at so hcu
    have hof : off s = 0 := by simp only [off, e]
    have h3 : ¬ nCo (rCur s) = 3 := by rw [hcu.1]; decide
    unfold rQGap at hs
    split at hs
    · cases hs
      refine ⟨h.1, h.2.1, h.2.2.1, h.2.2.2.1, ?_⟩
      push_cast; omega
    · split at hs
      · next hl =>
        cases hs
        obtain ⟨k1, k2, k3⟩ := cur_sign (rWord s (qWn s + 1) 6) b 6
        have hx : nWo (rCur (rWord s (qWn s + 1) 6)) = nWo (rCur s) := rfl
        have eg : rSign (rWord s (qWn s + 1) 6) b = rGo (rSign (rWord s (qWn s + 1) 6) b) 6 := rfl
        rw [eg]
        refine T_step (x := nsWo (rCur s) (addB (nWo (rCur s)) (qWn s + 1) b)) h (by omega) (show (6 : Nat) ≠ 0 by decide) hc rfl rfl rfl rfl (fun j => sgn_nd (s := rWord s (qWn s + 1) 6) j) rfl Iff.rfl rfl (h.2.2.1 (by omega)) ?_ ?_
        · show nCo (rCur (rGo (rSign (rWord s (qWn s + 1) 6) b) 6)) = 1 ∧ 1 ≤ (nWo (rCur (rGo (rSign (rWord s (qWn s + 1) 6) b) 6))).length ∧ allW isLt (nWo (rCur (rGo (rSign (rWord s (qWn s + 1) 6) b) 6))) ∧ nDe (rCur (rGo (rSign (rWord s (qWn s + 1) 6) b) 6)) = 0
          rw [k1, k2, k3, addB_l, hx]
          exact ⟨hcu.1, by split <;> omega, allW_set hcu.2.2.1 hl, hcu.2.2.2⟩
        · have e1 : cr (nsWo (rCur s) (addB (nWo (rCur s)) (qWn s + 1) b)) ≤ cr (rCur s) + 2 := by
            unfold cr
            rw [show nCo (nsWo (rCur s) (addB (nWo (rCur s)) (qWn s + 1) b)) = 1 from hcu.1, show nWo (nsWo (rCur s) (addB (nWo (rCur s)) (qWn s + 1) b)) = addB (nWo (rCur s)) (qWn s + 1) b from rfl, show nDe (nsWo (rCur s) (addB (nWo (rCur s)) (qWn s + 1) b)) = nDe (rCur s) from rfl, hcu.1, slen_addB, addB_l]
            rw [if_neg (show ¬ (1 : Int32) = 3 by decide), if_pos (show (1 : Int32) = 1 from rfl), if_neg (show ¬ (1 : Int32) = 3 by decide), if_pos (show (1 : Int32) = 1 from rfl)]
            split <;> (push_cast; omega)
          show hdc (rCur s) + cr (nsWo (rCur s) (addB (nWo (rCur s)) (qWn s + 1) b)) + bc (nBo (rCur s)) + off s ≤ hdc (rCur s) + cr (rCur s) + bc (nBo (rCur s)) + 1 + 1
          omega
      · cases hs
  -- 8
  · rw [dln e] at hs
    have hs : (if b = 126 then some (rGo s 9) else rTail s b) = some s1 := hs
    have hc := hc (by omega)
    simp only [e] at hcu
    have hof : off s = 0 := by simp only [off, e]
    split at hs
    · cases hs
      exact T_go h (by omega) (by decide) hc (show _ ∧ _ from ⟨hcu.1, hcu.2⟩) (by rw [hof]; show (0 : Int) ≤ 1 + -1; decide)
    · exact T_tail g h (by omega) hc ⟨h.2.2.1 (by omega), Or.inr (Or.inl ⟨hcu.1, hcu.2.1, hcu.2.2.1, 0, by decide, hcu.2.2.2⟩)⟩ hof hs
  -- 9
  · rw [dln e] at hs
    have hc := hc (by omega)
    simp only [e] at hcu
    exact T_det h (by omega) hc (by simp only [off, e]) (by decide) (by decide) (fun d _ h2 => Or.inr (Or.inl ⟨hcu.1, hcu.2.1, hcu.2.2.1, d, h2, rfl⟩)) hs
  -- 10
  · rw [dln e] at hs
    have hc := hc (by omega)
    simp only [e] at so hcu
    have h3 : ¬ nCo (rCur s) = 3 := by rw [hcu.1]; decide
    obtain ⟨k1, k2, k3⟩ := cur_sign s b 11
    refine T_let (n := 11) h (by omega) (by decide) hc h3 (fun hl => ?_) ?_ hs
    · show nCo (rCur (rGo (rSign s b) 11)) = 2 ∧ (nWo (rCur (rGo (rSign s b) 11))).length = qWn s + 1 ∧ allW isLt (nWo (rCur (rGo (rSign s b) 11))) ∧ (∃ d, d ≤ 1 ∧ nDe (rCur (rGo (rSign s b) 11)) = nI d) ∧ qWn s ≤ 1
      rw [k1, k2, k3, addB_l, hcu.2.1, if_neg (Nat.lt_irrefl _)]
      exact ⟨hcu.1, rfl, allW_set hcu.2.2.1 hl, hcu.2.2.2⟩
    · have hP : ¬ (nCo (rCur s) = 1 ∧ (nWo (rCur s)).length ≤ qWn s ∧ 0 < (nWo (rCur s)).length) := fun q => by rw [hcu.1] at q; exact absurd q.1 (by decide)
      rw [if_neg hP]
      have hof : off s = if qWn s = 0 then 3 else 1 := by simp only [off, e]
      rw [hof, Int.add_zero]
      exact Int.le_refl _
  -- 11
  · rw [dln e] at hs
    have hs : rSpan s b = some s1 := hs
    have hc := hc (by omega)
    simp only [e] at so hcu
    have hof : off s = if qWn s = 0 then 3 else 1 := by simp only [off, e]
    have h3 : ¬ nCo (rCur s) = 3 := by rw [hcu.1]; decide
    unfold rSpan at hs
    split at hs
    · next h0 =>
      cases hs
      refine T_go h (by omega) (by decide) hc (show _ ∧ _ from ⟨hcu.1, by show (nWo (rCur s)).length = 1; rw [hcu.2.1, h0.1], hcu.2.2.1, hcu.2.2.2.1⟩) ?_
      rw [hof, if_pos h0.1]
      show (3 : Int) ≤ 1 + 2
      decide
    · by_cases hq : qWn s = 1 ∧ b = (if nDe (rCur s) = 1 then 125 else 93)
      · rw [if_pos hq] at hs
        cases hs
        refine T_go h (by omega) (by decide) hc (show cOkC (rCur s) from Or.inr (Or.inr (Or.inl ⟨hcu.1, by rw [hcu.2.1, hq.1], hcu.2.2.1, hcu.2.2.2.1⟩))) ?_
        rw [hof, if_neg (by omega)]
        show (1 : Int) ≤ 1 + 0
        decide
      · rw [if_neg hq] at hs
        obtain ⟨k1, k2, k3⟩ := cur_sign s b 11
        refine T_let (n := 11) h (by omega) (by decide) hc h3 (fun hl => ?_) ?_ hs
        · show nCo (rCur (rGo (rSign s b) 11)) = 2 ∧ (nWo (rCur (rGo (rSign s b) 11))).length = qWn s + 1 ∧ allW isLt (nWo (rCur (rGo (rSign s b) 11))) ∧ (∃ d, d ≤ 1 ∧ nDe (rCur (rGo (rSign s b) 11)) = nI d) ∧ qWn s ≤ 1
          rw [k1, k2, k3, addB_l, hcu.2.1, if_pos (Nat.lt_succ_self _)]
          exact ⟨hcu.1, rfl, allW_set hcu.2.2.1 hl, hcu.2.2.2⟩
        · have hP : ¬ (nCo (rCur s) = 1 ∧ (nWo (rCur s)).length ≤ qWn s ∧ 0 < (nWo (rCur s)).length) := fun q => by rw [hcu.1] at q; exact absurd q.1 (by decide)
          rw [if_neg hP, hof, Int.add_zero]
          exact Int.le_refl _
  -- 12
  · rw [dln e] at hs
    have hs : (if b = 46 then some (rWord s 1 10) else none) = some s1 := hs
    have hc := hc (by omega)
    simp only [e] at hcu
    split at hs
    · cases hs
      refine T_step (x := rCur s) h (by omega) (show (10 : Nat) ≠ 0 by decide) hc rfl rfl rfl rfl (fun j => go_nd (s := s) (n := 10) j) rfl Iff.rfl rfl (h.2.2.1 (by omega)) (show _ ∧ _ from ⟨hcu.1, hcu.2.1, hcu.2.2.1, hcu.2.2.2, Nat.le_refl 1⟩) ?_
      have hof : off s = 2 := by simp only [off, e]
      rw [hof]
      show cst (rCur s) + 2 ≤ cst (rCur s) + 1 + 1
      omega
    · cases hs
  -- 13
  · rw [dln e] at hs
    have hs : (if b = 64 then some (rGo s 14) else rTail s b) = some s1 := hs
    have hc := hc (by omega)
    simp only [e] at hcu
    have hof : off s = 0 := by simp only [off, e]
    split at hs
    · cases hs
      exact T_go h (by omega) (by decide) hc (show _ ∧ _ from hcu) (by rw [hof]; show (0 : Int) ≤ 1 + -1; decide)
    · exact T_tail g h (by omega) hc ⟨h.2.2.1 (by omega), hcu.2⟩ hof hs
  -- 14
  · rw [dln e] at hs
    have hc := hc (by omega)
    simp only [e] at hcu
    have hw : nWo (rCur s) = [] := by
      rcases hcu.2 with q | q | q | q
      · exact absurd (q.1.symm.trans hcu.1) (by decide)
      · exact absurd (q.1.symm.trans hcu.1) (by decide)
      · exact absurd (q.1.symm.trans hcu.1) (by decide)
      · exact q.2.1
    exact T_det h (by omega) hc (by simp only [off, e]) (by decide) (by decide) (fun d h1 h2 => Or.inr (Or.inr (Or.inr ⟨hcu.1, hw, Or.inr ⟨d, by omega, by omega, rfl⟩⟩))) hs
  -- 15
  · rw [dln e] at hs
    have hc := hc (by omega)
    simp only [e] at hcu
    exact T_tail g h (by omega) hc ⟨h.2.2.1 (by omega), hcu⟩ (by simp only [off, e]) hs
  -- 16
  · rw [dln e] at hs
    have hs : (if isFg b then some (rBoo s (nI b - 48) 17) else none) = some s1 := hs
    have hc := hc (by omega)
    simp only [e] at hcu
    split at hs
    · next hf =>
      cases hs
      have ev : nI b - 48 = nI (b - 48) := nI_48 (k := 48) hf.1 (by omega)
      rw [ev]
      exact T_boo h (by omega) hc hcu (by omega) (Or.inl ⟨rfl, by omega, by simp only [off, e]⟩)
    · cases hs
  -- 17
  · rw [dln e] at hs
    have hs : (if isFg b then some (rBoo s (10 * nBo (rCur s) + nI b - 48) 18) else rEnd s b) = some s1 := hs
    have hc := hc (by omega)
    simp only [e] at hcu
    have hof : off s = bc (nBo (rCur s)) - 2 := by simp only [off, e]
    obtain ⟨hok, x, hx9, hx⟩ := hcu
    split at hs
    · next hf =>
      cases hs
      have ev : 10 * nBo (rCur s) + nI b - 48 = nI (10 * x + b - 48) := by
        rw [hx, show (10 : Int32) = nI 10 from rfl, pk_mul, nI_add]
        exact nI_48 (k := 48) (by omega) (by omega)
      rw [ev]
      exact T_boo h (by omega) hc hok (by omega) (Or.inr ⟨rfl, hof⟩)
    · refine T_end g h.1 (T_done h ⟨h.2.2.1 (by omega), hok⟩) ?_ hs
      have : bc (nBo (rCur s)) ≤ 2 := bc_2 (by rw [hx]; exact nI_le (b := 9) hx9 (by decide))
      omega
  -- 18
  · rw [dln e] at hs
    have hs : rEnd s b = some s1 := hs
    simp only [e] at hcu
    refine T_end g h.1 (T_done h ⟨h.2.2.1 (by omega), hcu⟩) ?_ hs
    have hof : off s = bc (nBo (rCur s)) - 3 := by simp only [off, e]
    have := bc_3 (nBo (rCur s))
    omega
theorem tOk_r0 : tOk r0 0 := by
  refine ⟨⟨fun k k1 k2 => ?_, ⟨show opk (fun _ => nd0) 0 < 1 by decide, 0, show opk (fun _ => nd0) 0 = 0 by decide, by decide⟩, ⟨rfl, rfl, rfl, rfl, rfl, rfl, rfl⟩, fun _ => rfl⟩, fun k k1 k2 => ?_, fun q => absurd rfl q, trivial, ?_⟩
  · have k2 : k < 1 := k2
    omega
  · have k2 : k < 1 := k2
    omega
  · show tc (fun _ => nd0) 1 ≤ 0 + 0 + off r0
    decide
theorem run_tOk : ∀ (l : List Nat) (s s1 : RS) (c : Nat), aOk s → tOk s c → run s l = some s1 → tOk s1 (c + l.length)
  | [], s, s1, c, _, h, e => by cases e; exact h
  | b :: r, s, s1, c, hA, h, e => by
    have e : (match dl s b with | none => none | some s2 => run s2 r) = some s1 := e
    cases hd : dl s b with
    | none => rw [hd] at e; cases e
    | some s2 =>
      rw [hd] at e
      have := run_tOk r s2 s1 (c + 1) (aOk_dl hA hd) (tOk_dl hA h hd) e
      rw [show c + (b :: r).length = c + 1 + r.length by simp; omega]
      exact this
/-- the query: none yet, or a tree that was read -/
def QOk (q : QQ) : Prop := q.1 = 0 ∨ (1 ≤ q.1 ∧ q.1 ≤ 25 ∧ TreeOk q.2 q.1 ∧ rt (q.2 0) ∧ (∀ k, 1 ≤ k → k < q.1 → nOk (q.2 k)) ∧ (∀ k, k < q.1 → okN (q.2 k) ∧ nKi (q.2 k) ≤ 25) ∧ tc q.2 q.1 ≤ 240 ∧ opk q.2 (q.1 - 1) < q.1 ∧ ∃ m, m ≤ 5 ∧ anc q.2 m (opk q.2 (q.1 - 1)) 0)
theorem QOk_run {l : List Nat} {s : RS} (hl : l.length ≤ 240) (h : run r0 l = some s) (hw : rWhole s) : QOk (qCn s, qNd s) := by
  have hA := run_ok l r0 s aOk_r0 h
  have hT := run_tOk l r0 s 0 aOk_r0 tOk_r0 h
  have g := hA.1
  obtain ⟨hd, hst⟩ := hw
  have hcu := hT.2.2.2.1
  have hp := hT.2.2.2.2
  have hop : qOp s = 0 := by have := g.2.2.2.1; rw [hd] at this; exact this
  have h2 : 1 ≤ qCn s := by have := g.2.1; omega
  unfold curOk at hcu
  rw [hd] at hp
  have hl' : ((0 + l.length : Nat) : Int) ≤ 240 := by omega
  have hboth : (∀ k, 1 ≤ k → k < qCn s → nOk (qNd s k)) ∧ tc (qNd s) (qCn s) ≤ 240 := by
    rcases hst with q | q | q | q | q | q | q
    · refine ⟨fun k k1 k2 => hT.2.1 k k1 k2 (Or.inl q.1), ?_⟩
      have hof : off s = if 0 < nKi (qNd s (qOp s)) then -1 else 0 := by simp only [off, q.1]
      have : off s ≤ 0 := by rw [hof]; split <;> decide
      omega
    · have hof : off s = 0 := by simp only [off, q]
      simp only [q] at hcu
      exact ⟨T_done hT ⟨hT.2.2.1 (by omega), Or.inl ⟨hcu.1, hcu.2.1, hcu.2.2.1, 0, by decide, hcu.2.2.2⟩⟩, by omega⟩
    · have hof : off s = 0 := by simp only [off, q]
      simp only [q] at hcu
      exact ⟨T_done hT ⟨hT.2.2.1 (by omega), Or.inr (Or.inl ⟨hcu.1, hcu.2.1, hcu.2.2.1, 0, by decide, hcu.2.2.2⟩)⟩, by omega⟩
    · have hof : off s = 0 := by simp only [off, q]
      simp only [q] at hcu
      exact ⟨T_done hT ⟨hT.2.2.1 (by omega), hcu.2⟩, by omega⟩
    · have hof : off s = 0 := by simp only [off, q]
      simp only [q] at hcu
      exact ⟨T_done hT ⟨hT.2.2.1 (by omega), hcu⟩, by omega⟩
    · have hof : off s = bc (nBo (rCur s)) - 2 := by simp only [off, q]
      simp only [q] at hcu
      obtain ⟨hok, x, hx9, hx⟩ := hcu
      have : bc (nBo (rCur s)) ≤ 2 := bc_2 (by rw [hx]; exact nI_le (b := 9) hx9 (by decide))
      exact ⟨T_done hT ⟨hT.2.2.1 (by omega), hok⟩, by omega⟩
    · have hof : off s = bc (nBo (rCur s)) - 3 := by simp only [off, q]
      simp only [q] at hcu
      have := bc_3 (nBo (rCur s))
      exact ⟨T_done hT ⟨hT.2.2.1 (by omega), hcu⟩, by omega⟩
  exact Or.inr ⟨h2, g.2.2.1, hT.1.1, hT.1.2.2.1, hboth.1, fun k hk => ⟨(g.2.2.2.2.2 k hk).1, by show nKi (qNd s k) ≤ 25; have := (g.2.2.2.2.2 k hk).2; have := g.2.2.1; omega⟩, hboth.2, hT.1.2.1.1, by
    obtain ⟨m, h1, h2⟩ := hT.1.2.1.2
    rw [hop] at h1
    exact ⟨m, by omega, h1⟩⟩
theorem rdS_run {tp : List Nat} {a : Nat} {s : RS} (h : rdS tp = (a, some s)) : run r0 tp = some s ∧ rWhole s := by
  cases e : run r0 tp with
  | some s1 =>
    rw [rdS_end e] at h
    by_cases c : rWhole s1
    · rw [if_pos c] at h
      injection h with _ h
      injection h with h
      rw [h] at c ⊢; exact ⟨rfl, c⟩
    · rw [if_neg c] at h; cases h
  | none =>
    have : ∀ (l : List Nat) (s0 : RS) (i : Nat), run s0 l = none → (rdGo s0 l i).2 = none := by
      intro l
      induction l with
      | nil => intro s0 i h; cases h
      | cons b r ih =>
        intro s0 i h
        have h : (match dl s0 b with | none => none | some s1 => run s1 r) = none := h
        show (match dl s0 b with | none => (i, none) | some s1 => rdGo s1 r (i + 1)).2 = none
        cases hd : dl s0 b with
        | none => rfl
        | some s1 => rw [hd] at h; exact ih s1 (i + 1) h
    have h2 := this tp r0 0 e
    have : (rdS tp).2 = none := h2
    rw [h] at this; cases this
theorem QOk_rd {tp : List Nat} {q : QQ} (hl : tp.length ≤ 240) (h : QOk q) : QOk (rdQ tp q) := by
  unfold rdQ
  match e : rdS tp with
  | (_, none) => exact h
  | (a, some s) => exact QOk_run hl (rdS_run e).1 (rdS_run e).2
theorem lnP_len (tp : List Nat) : (lnP tp).1.length ≤ tp.length := by
  have : ∀ (l K : List (Nat × Nat)) (g : List Nat) (s : RS), (lnK s l K g).1.length ≤ l.length + K.length := by
    intro l
    induction l with
    | nil => intro K g s; exact Nat.le_add_left _ _
    | cons x r ih =>
      intro K g s
      show (match dl s x.2 with | none => lnK s r K (g ++ [x.1]) | some s1 => lnK s1 r (K ++ [x]) g).1.length ≤ (x :: r).length + K.length
      cases dl s x.2 with
      | none => have := ih K (g ++ [x.1]) s; simp only [List.length_cons]; omega
      | some s1 => have := ih (K ++ [x]) g s1; rw [List.length_append] at this; simp only [List.length_cons, List.length_nil] at this ⊢; omega
  have h := this (prs tp 0) [] [] r0
  rw [prs_len] at h
  exact h
theorem QOk_ln {tp : List Nat} {q : QQ} (hl : tp.length ≤ 240) (h : QOk q) : QOk (lnQ tp q) := by
  unfold lnQ
  by_cases e : lnW tp = 0
  · have : lnR tp = none := by unfold lnR; rw [if_pos e]
    rw [this]; exact h
  · obtain ⟨s, h1, h2, h3⟩ := lnR_some e
    rw [h1]
    refine QOk_run ?_ h2 h3
    rw [List.length_take, byts_len]
    have := lnP_len tp
    omega
