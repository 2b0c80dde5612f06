/-! ===== what stays true of the automaton ===== -/
def gOk (s : RS) : Prop := qDep s ≤ 5 ∧ qOp s < qCn s ∧ qCn s ≤ 25 ∧ chn (qNd s) (qDep s) (qOp s) ∧ nCo (qNd s 0) = 3 ∧ ∀ k, k < qCn s → okN (qNd s k) ∧ nKi (qNd s k) ≤ qCn s
def stOk (s : RS) : Prop := match qSt s with
  | 0 => True
  | 1 => (nCo (rCur s) = 0 ∧ nKi (rCur s) = 0 ∧ nWo (rCur s) = []) ∧ qCu s + 1 = qCn s ∧ nAr (rCur s) = nI (qOp s) ∧ qOp s < qCu s
  | 2 => (nCo (rCur s) = 0 ∧ nKi (rCur s) = 0 ∧ nWo (rCur s) = []) ∧ qCu s + 1 = qCn s ∧ nAr (rCur s) = nI (qOp s) ∧ qOp s < qCu s
  | 3 => nCo (rCur s) = 0 ∧ nKi (rCur s) = 0 ∧ qWn s = 0 ∧ 0 < qSg s ∧ wOk s ∧ qCu s + 1 = qCn s ∧ nAr (rCur s) = nI (qOp s) ∧ qOp s < qCu s
  | 5 => nCo (rCur s) = 1 ∧ wOk s ∧ qSg s = 0 ∧ qWn s = 0
  | 6 => nCo (rCur s) = 1 ∧ wOk s ∧ 0 < qSg s
  | 7 => nCo (rCur s) = 1 ∧ qWn s + 1 ≤ 4 ∧ qWn s + 1 = (nWo (rCur s)).length
  | 10 => nCo (rCur s) = 2 ∧ wOk s ∧ qWn s ≤ 1
  | 11 => nCo (rCur s) = 2 ∧ wOk s ∧ 0 < qSg s ∧ qWn s ≤ 1
  | 12 => nCo (rCur s) = 2 ∧ (nWo (rCur s)).length = 1
  | _ => True
def aOk (s : RS) : Prop := gOk s ∧ stOk s ∧ qSt s ≤ 18 ∧ (qSt s ≠ 0 → 0 < qCu s ∧ qCu s < qCn s)
theorem chn_congr {nd nd1 : Nat → ND} : ∀ (d o : Nat), (∀ k, k ≤ o → nCo (nd k) = 3 → nCo (nd1 k) = 3 ∧ nAr (nd1 k) = nAr (nd k)) → chn nd d o → chn nd1 d o
  | 0, _, _, h => h
  | d + 1, o, hc, ⟨h1, h2, a, h3, h4, h5⟩ => ⟨h1, (hc o (Nat.le_refl _) h2).1, a, h3, (hc o (Nat.le_refl _) h2).2.trans h4, chn_congr d a (fun k hk => hc k (by omega)) h5⟩
theorem chn_core {nd : Nat → ND} {d o : Nat} (h0 : nCo (nd 0) = 3) (h : chn nd d o) : nCo (nd o) = 3 := by
  cases d with
  | zero => have : o = 0 := h
            rw [this]; exact h0
  | succ d => exact h.2.1
theorem gOk_nd {s : RS} {x : ND} (h : gOk s) (hc : qCu s < qCn s) (h0 : 0 < qCu s) (hco : nCo (rCur s) = 3 → nCo x = 3) (har : nAr x = nAr (rCur s)) (ho : okN x) (hk : nKi x ≤ qCn s) : gOk (rNd s x) := by
  obtain ⟨a, b, c, d, e, f⟩ := h
  refine ⟨a, b, c, ?_, ?_, ?_⟩
  · refine chn_congr _ _ (fun k hk h3 => ?_) d
    show nCo (va_up (qNd s) (qCu s) x k) = 3 ∧ nAr (va_up (qNd s) (qCu s) x k) = _
    by_cases e1 : k = qCu s
    · subst e1; rw [va_up_self]; exact ⟨hco h3, har⟩
    · rw [va_up_ne _ _ e1]; exact ⟨h3, rfl⟩
  · show nCo (va_up (qNd s) (qCu s) x 0) = 3
    rw [va_up_ne _ _ (by omega)]; exact e
  · intro k hk
    show okN (va_up (qNd s) (qCu s) x k) ∧ _
    by_cases e1 : k = qCu s
    · subst e1
      have : nKi (qNd (rNd s x) (qCu s)) = nKi x := congrArg nKi (va_up_self _ _ _)
      rw [va_up_self, this]
      exact ⟨ho, by assumption⟩
    · have : nKi (qNd (rNd s x) k) = nKi (qNd s k) := congrArg nKi (va_up_ne _ _ e1)
      rw [va_up_ne _ _ e1, this]; exact f k hk
theorem gOk_close {s s1 : RS} (h : gOk s) (hs : rClose s = some s1) : gOk s1 ∧ qSt s1 = 13 ∧ 0 < qCu s1 ∧ qCu s1 < qCn s1 := by
  unfold rClose at hs
  split at hs
  · cases hs
  · next hz =>
    cases hs
    obtain ⟨a, b, c, d, e, f⟩ := h
    obtain ⟨dd, hdd⟩ : ∃ dd, qDep s = dd + 1 := ⟨qDep s - 1, by omega⟩
    rw [hdd] at d
    obtain ⟨o1, o2, aa, ha, har, hch⟩ := d
    have hcl : (nAr (qNd s (qOp s))).toNatClampNeg = aa := by rw [har]; exact nI_clamp (by omega)
    refine ⟨⟨?_, ?_, c, ?_, e, f⟩, rfl, o1, b⟩
    · show qDep s - 1 ≤ 5; omega
    · show (nAr (qNd s (qOp s))).toNatClampNeg < qCn s; rw [hcl]; omega
    · show chn (qNd s) (qDep s - 1) (nAr (qNd s (qOp s))).toNatClampNeg
      rw [hcl, hdd]; exact hch
theorem okN_add {x : ND} {j b : Nat} (h : okN x) (hj : j ≤ (nWo x).length) (h4 : j ≤ 4) (h8 : (nWd x j).length < 8) (hb : b < 256) (hb0 : 0 < b) : okN (nsWo x (addB (nWo x) j b)) := by
  refine ⟨?_, fun w hw => ?_⟩
  · show (addB (nWo x) j b).length ≤ 5
    rw [addB_len hj]
    have := h.1
    split <;> omega
  · have hw : w ∈ addB (nWo x) j b := hw
    unfold addB at hw
    split at hw
    · next hl =>
      rcases List.mem_or_eq_of_mem_set hw with hw | hw
      · exact h.2 w hw
      · subst hw
        have hm : (nWo x).getD j [] ∈ nWo x := by
          rw [List.getD_eq_getElem?_getD, List.getElem?_eq_getElem hl]
          exact List.getElem_mem hl
        have := h.2 _ hm
        refine ⟨by rw [List.length_append]; have : ((nWo x).getD j []).length < 8 := h8; simp only [List.length_singleton]; omega, fun y hy => ?_⟩
        rcases List.mem_append.mp hy with hy | hy
        · exact this.2 y hy
        · simp at hy; subst hy; exact ⟨hb, hb0⟩
    · rcases List.mem_append.mp hw with hw | hw
      · exact h.2 w hw
      · simp at hw; subst hw
        exact ⟨show 1 ≤ 8 by decide, fun y hy => by simp at hy; subst hy; exact ⟨hb, hb0⟩⟩
theorem wOk_le {s : RS} (h : wOk s) : qWn s ≤ (nWo (rCur s)).length := by
  obtain ⟨k1, k2, k3, k4, k5⟩ := h
  rcases Nat.eq_zero_or_pos (qSg s) with q | q
  · exact Nat.le_of_eq (k4 q)
  · have := k5 q; omega
theorem rCur_sign (s : RS) (b : Nat) : rCur (rSign s b) = nsWo (rCur s) (addB (nWo (rCur s)) (qWn s) b) := va_up_self _ _ _
theorem rCur_nd (s : RS) (x : ND) : rCur (rNd s x) = x := va_up_self _ _ _
theorem gOk_sign {s : RS} {b : Nat} (h : gOk s) (hw : wOk s) (h8 : qSg s < 8) (hb : b < 256) (hb0 : 0 < b) (hc : qCu s < qCn s) (h0 : 0 < qCu s) : gOk (rSign s b) :=
  gOk_nd (s := s) h hc h0 (fun h => h) rfl (okN_add (h.2.2.2.2.2 _ hc).1 (wOk_le hw) hw.2.1 (by rw [← hw.2.2.1]; exact h8) hb hb0) (h.2.2.2.2.2 _ hc).2
theorem wOk_sign {s : RS} {b : Nat} (hw : wOk s) (h8 : qSg s < 8) : wOk (rSign s b) := by
  have hle := wOk_le hw
  obtain ⟨k1, k2, k3, k4, k5⟩ := hw
  refine ⟨?_, k2, ?_, ?_, ?_⟩
  · show qSg s + 1 ≤ 8; omega
  · show qSg s + 1 = (nWd (rCur (rSign s b)) (qWn s)).length
    rw [rCur_sign, nWd_nsWo, getD_addB hle, if_pos rfl, List.length_append, k3]
    rfl
  · intro h; exact absurd h (Nat.succ_ne_zero _)
  · intro _
    show qWn s + 1 = (nWo (rCur (rSign s b))).length
    rw [rCur_sign]
    show _ = (addB (nWo (rCur s)) (qWn s) b).length
    rw [addB_len hle]
    rcases Nat.eq_zero_or_pos (qSg s) with q | q
    · have := k4 q; rw [if_neg (by omega)]; omega
    · have := k5 q; rw [if_pos (by omega)]; omega
theorem gOk_add {s : RS} {ma : Int32} (h : gOk s) (h25 : qCn s < 25) : gOk (rAdd s ma) := by
  obtain ⟨a, b, c, d, e, f⟩ := h
  have hco : nCo (qNd s (qOp s)) = 3 := chn_core e d
  have hnd : ∀ k, qNd (rAdd s ma) k = if k = qOp s then nsKi (qNd s (qOp s)) (nKi (qNd s (qOp s)) + 1) else if k = qCn s then mkN 0 ma 1 (-1) 0 (nI (qOp s)) 0 [] else qNd s k := fun k => rfl
  refine ⟨a, ?_, ?_, ?_, ?_, ?_⟩
  · show qOp s < qCn s + 1; omega
  · show qCn s + 1 ≤ 25; omega
  · refine chn_congr _ _ (fun k hk h3 => ?_) d
    have hk : k ≤ qOp s := hk
    rw [hnd]
    by_cases e1 : k = qOp s
    · subst e1; rw [if_pos rfl]; exact ⟨h3, rfl⟩
    · rw [if_neg e1, if_neg (by omega)]; exact ⟨h3, rfl⟩
  · rw [hnd]
    by_cases e1 : 0 = qOp s
    · rw [if_pos e1]; exact hco
    · rw [if_neg e1, if_neg (by omega)]; exact e
  · intro k hk
    have hk : k < qCn s + 1 := hk
    show _ ∧ _ ≤ qCn s + 1
    rw [hnd]
    by_cases e1 : k = qOp s
    · rw [if_pos e1]
      refine ⟨(f _ b).1, ?_⟩
      have := (f _ b).2
      show nKi (qNd s (qOp s)) + 1 ≤ _
      omega
    · rw [if_neg e1]
      by_cases e2 : k = qCn s
      · rw [if_pos e2]; exact ⟨okN_new _ _, Nat.zero_le _⟩
      · rw [if_neg e2]
        have := f k (by omega)
        exact ⟨this.1, by omega⟩
theorem gOk_open {s : RS} (h : gOk s) (hd : qDep s < 5) (hcu : qCu s + 1 = qCn s) (har : nAr (rCur s) = nI (qOp s)) (hop : qOp s < qCu s) : gOk (rOpen s) := by
  have h0 : 0 < qCu s := by omega
  have g := gOk_nd (s := s) (x := nsDe (nsCo (rCur s) 3) (-1)) h (by omega) h0 (fun _ => rfl) rfl (h.2.2.2.2.2 _ (by omega)).1 (h.2.2.2.2.2 _ (by omega)).2
  obtain ⟨a, b, c, d, e, f⟩ := g
  refine ⟨?_, ?_, c, ?_, e, f⟩
  · show qDep s + 1 ≤ 5; omega
  · show qCn s - 1 < qCn s; omega
  · show chn (va_up (qNd s) (qCu s) (nsDe (nsCo (rCur s) 3) (-1))) (qDep s + 1) (qCn s - 1)
    rw [show qCn s - 1 = qCu s by omega]
    refine ⟨h0, ?_, qOp s, hop, ?_, d⟩
    · rw [va_up_self]; rfl
    · rw [va_up_self]; exact har

theorem aOk_go {s : RS} {n : Nat} (h : gOk s) (hn : n ≤ 18) (hs : stOk (rGo s n)) (hc : n ≠ 0 → 0 < qCu s ∧ qCu s < qCn s) : aOk (rGo s n) := ⟨h, hs, hn, hc⟩
theorem aOk_end {s s1 : RS} {b : Nat} (h : gOk s) (hs : rEnd s b = some s1) : aOk s1 := by
  unfold rEnd at hs
  split at hs
  · cases hs; exact aOk_go h (by decide) trivial (fun q => absurd rfl q)
  · split at hs
    · obtain ⟨g, e, c⟩ := gOk_close h hs
      refine ⟨g, ?_, by omega, fun _ => c⟩
      unfold stOk; rw [e]; trivial
    · cases hs
theorem aOk_tail {s s1 : RS} {b : Nat} (h : gOk s) (hc : 0 < qCu s ∧ qCu s < qCn s) (hs : rTail s b = some s1) : aOk s1 := by
  unfold rTail at hs
  split at hs
  · cases hs; exact aOk_go h (by decide) trivial (fun _ => hc)
  · exact aOk_end h hs
theorem aOk_det {s s1 : RS} {b lo hi : Nat} (h : gOk s) (hc : 0 < qCu s ∧ qCu s < qCn s) (hs : rDet s b lo hi = some s1) : aOk s1 := by
  unfold rDet at hs
  split at hs
  · cases hs
    exact aOk_go (gOk_nd h hc.2 hc.1 (fun h => h) rfl (h.2.2.2.2.2 _ hc.2).1 (h.2.2.2.2.2 _ hc.2).2) (by decide) trivial (fun _ => hc)
  · cases hs
theorem aOk_boo {s : RS} {x : Int32} {n : Nat} (h : gOk s) (hc : 0 < qCu s ∧ qCu s < qCn s) (hn : n = 17 ∨ n = 18) : aOk (rBoo s x n) := by
  have g := gOk_nd (s := s) (x := nsBo (rCur s) x) h hc.2 hc.1 (fun h => h) rfl (h.2.2.2.2.2 _ hc.2).1 (h.2.2.2.2.2 _ hc.2).2
  rcases hn with rfl | rfl <;> exact aOk_go g (by decide) trivial (fun _ => hc)
theorem lt_pos {b : Nat} (h : isLt b) : 0 < b ∧ b < 256 := by omega
theorem sg_pos {b : Nat} (h : isSg b) : 0 < b ∧ b < 256 := by omega
theorem nCo_sign (s : RS) (b : Nat) : nCo (rCur (rSign s b)) = nCo (rCur s) := by rw [rCur_sign]; rfl
theorem nAr_sign (s : RS) (b : Nat) : nAr (rCur (rSign s b)) = nAr (rCur s) := by rw [rCur_sign]; rfl
theorem nKi_sign (s : RS) (b : Nat) : nKi (rCur (rSign s b)) = nKi (rCur s) := by rw [rCur_sign]; rfl
/-- a letter more of a quote's or span's word -/
theorem aOk_let {s s1 : RS} {b n : Nat} (h : gOk s) (hc : 0 < qCu s ∧ qCu s < qCn s) (hw : wOk s) (hn : n = 6 ∧ nCo (rCur s) = 1 ∨ n = 11 ∧ nCo (rCur s) = 2 ∧ qWn s ≤ 1) (hs : rLet s b n = some s1) : aOk s1 := by
  unfold rLet at hs
  split at hs
  · next hq =>
    cases hs
    have hp := lt_pos hq.2
    have g := gOk_sign (b := b) h hw hq.1 hp.2 hp.1 hc.2 hc.1
    have w := wOk_sign (b := b) hw hq.1
    rcases hn with ⟨rfl, hco⟩ | ⟨rfl, hco, hwn⟩
    · exact aOk_go g (by decide) ⟨(nCo_sign s b).trans hco, w, Nat.succ_pos _⟩ (fun _ => hc)
    · exact aOk_go g (by decide) ⟨(nCo_sign s b).trans hco, w, Nat.succ_pos _, hwn⟩ (fun _ => hc)
  · cases hs
/-- a core begins at a fresh clause -/
theorem aOk_core {s : RS} {b : Nat} (h : gOk s) (hf : nCo (rCur s) = 0 ∧ nKi (rCur s) = 0 ∧ nWo (rCur s) = []) (hcu : qCu s + 1 = qCn s) (har : nAr (rCur s) = nI (qOp s)) (hop : qOp s < qCu s) (hc : (b = 40 ∧ qDep s < 5) ∨ (b ≠ 40 ∧ (isSg b ∨ b = 34 ∨ b = 91 ∨ b = 123))) : aOk (rCore s b) := by
  have h0 : 0 < qCu s ∧ qCu s < qCn s := by omega
  unfold rCore
  split
  · next e =>
    rcases hc with hc | hc
    · exact ⟨gOk_open h hc.2 hcu har hop, trivial, Nat.zero_le _, fun q => absurd rfl q⟩
    · exact absurd e hc.1
  · next e40 =>
    split
    · have g := gOk_nd (s := s) (x := nsCo (rCur s) 1) h h0.2 h0.1 (fun h3 => by rw [hf.1] at h3; exact absurd h3 (by decide)) rfl (h.2.2.2.2.2 _ h0.2).1 (h.2.2.2.2.2 _ h0.2).2
      have hcur : rCur (rNd s (nsCo (rCur s) 1)) = nsCo (rCur s) 1 := rCur_nd _ _
      have hwo : nWo (rCur (rNd s (nsCo (rCur s) 1))) = [] := by rw [hcur]; exact hf.2.2
      have w := wOk_word (s := rNd s (nsCo (rCur s) 1)) 0 5 (by decide) (by rw [hwo]; rfl)
      refine ⟨g, ⟨?_, w, rfl, rfl⟩, show 5 ≤ 18 by decide, fun _ => h0⟩
      show nCo (rCur (rNd s (nsCo (rCur s) 1))) = 1
      rw [hcur]; rfl
    · split
      · have g := gOk_nd (s := s) (x := nsDe (nsCo (rCur s) 2) (if b = 123 then 1 else 0)) h h0.2 h0.1 (fun h3 => by rw [hf.1] at h3; exact absurd h3 (by decide)) rfl (h.2.2.2.2.2 _ h0.2).1 (h.2.2.2.2.2 _ h0.2).2
        have hcur : rCur (rNd s (nsDe (nsCo (rCur s) 2) (if b = 123 then 1 else 0))) = nsDe (nsCo (rCur s) 2) (if b = 123 then 1 else 0) := rCur_nd _ _
        have hwo : nWo (rCur (rNd s (nsDe (nsCo (rCur s) 2) (if b = 123 then 1 else 0)))) = [] := by rw [hcur]; exact hf.2.2
        have w := wOk_word (s := rNd s (nsDe (nsCo (rCur s) 2) (if b = 123 then 1 else 0))) 0 10 (by decide) (by rw [hwo]; rfl)
        refine ⟨g, ⟨?_, w, Nat.zero_le _⟩, show 10 ≤ 18 by decide, fun _ => h0⟩
        show nCo (rCur (rNd s (nsDe (nsCo (rCur s) 2) (if b = 123 then 1 else 0)))) = 2
        rw [hcur]; rfl
      · next e34 esp =>
        have hsg : isSg b := by
          rcases hc with hc | hc
          · exact absurd hc.1 e40
          · rcases hc.2 with q | q | q | q
            · exact q
            · exact absurd q e34
            · exact absurd (Or.inl q) esp
            · exact absurd (Or.inr q) esp
        have hp := sg_pos hsg
        have w0 := wOk_word (s := s) 0 3 (by decide) (by rw [hf.2.2]; rfl)
        have g0 : gOk (rWord s 0 3) := h
        have g := gOk_sign (b := b) g0 w0 (show 0 < 8 by decide) hp.2 hp.1 h0.2 h0.1
        have w := wOk_sign (b := b) w0 (show 0 < 8 by decide)
        exact ⟨g, ⟨(nCo_sign _ b).trans hf.1, (nKi_sign _ b).trans hf.2.1, rfl, Nat.succ_pos _, w, hcu, (nAr_sign _ b).trans har, hop⟩, show 3 ≤ 18 by decide, fun _ => h0⟩
theorem aOk_gap {s s1 : RS} {b : Nat} (h : gOk s) (hst : qSt s = 0) (hs : rGap s b = some s1) : aOk s1 := by
  have hstOk : stOk s := by unfold stOk; rw [hst]; trivial
  unfold rGap at hs
  split at hs
  · cases hs; exact ⟨h, hstOk, by omega, fun q => absurd hst q⟩
  · split at hs
    · split at hs
      · obtain ⟨g, e, c⟩ := gOk_close h hs
        refine ⟨g, ?_, by omega, fun _ => c⟩
        unfold stOk; rw [e]; trivial
      · cases hs
    · have hop := h.2.1
      split at hs
      · split at hs
        · cases hs
          have hcur := rCur_add (ma := if b = 43 then 1 else 2) hop
          refine aOk_go (gOk_add h (by omega)) (by decide) ⟨⟨?_, ?_, ?_⟩, rfl, ?_, hop⟩ (fun _ => ⟨show 0 < qCn s by omega, Nat.lt_succ_self _⟩)
          · show nCo (rCur (rAdd s _)) = 0; rw [hcur]; rfl
          · show nKi (rCur (rAdd s _)) = 0; rw [hcur]; rfl
          · show nWo (rCur (rAdd s _)) = []; rw [hcur]; rfl
          · show nAr (rCur (rAdd s _)) = nI (qOp s); rw [hcur]; rfl
        · cases hs
      · split at hs
        · next hcan =>
          cases hs
          have hlt : qCn s < 25 := by rcases hcan with h | h <;> omega
          have hcur := rCur_add (ma := 0) hop
          refine aOk_core (gOk_add h hlt) ⟨by rw [hcur]; rfl, by rw [hcur]; rfl, by rw [hcur]; rfl⟩ rfl (by rw [hcur]; rfl) hop ?_
          rcases hcan with q | q
          · exact Or.inl ⟨q.1, q.2.1⟩
          · exact Or.inr ⟨q.1, q.2.2⟩
        · cases hs
theorem aOk_in {s s1 : RS} {b : Nat} (h : gOk s) (hst : qSt s = 3) (hok : stOk s) (hc : 0 < qCu s ∧ qCu s < qCn s) (hs : rIn s b = some s1) : aOk s1 := by
  unfold stOk at hok
  rw [hst] at hok
  obtain ⟨k1, k2, k3, k4, k5, k6, k7, k8⟩ := hok
  unfold rIn at hs
  split at hs
  · next hsg =>
    split at hs
    · next h8 =>
      cases hs
      have hp := sg_pos hsg
      have g := gOk_sign (b := b) h k5 h8 hp.2 hp.1 hc.2 hc.1
      refine ⟨g, ?_, by show qSt s ≤ 18; omega, fun _ => hc⟩
      unfold stOk
      rw [show qSt (rSign s b) = 3 from hst]
      exact ⟨(nCo_sign s b).trans k1, (nKi_sign s b).trans k2, k3, Nat.succ_pos _, wOk_sign k5 h8, k6, (nAr_sign s b).trans k7, k8⟩
    · cases hs
  · split at hs
    · split at hs
      · cases hs
        have g := gOk_nd (s := s) (x := nsWo (nsFi (rCur s) (nI (rFst s) - 97)) []) h hc.2 hc.1 (fun h => h) rfl ⟨Nat.zero_le 5, fun w hw => nomatch hw⟩ (h.2.2.2.2.2 _ hc.2).2
        have hcur : rCur (rNd s (nsWo (nsFi (rCur s) (nI (rFst s) - 97)) [])) = nsWo (nsFi (rCur s) (nI (rFst s) - 97)) [] := rCur_nd _ _
        refine aOk_go g (by decide) ⟨⟨?_, ?_, ?_⟩, k6, ?_, k8⟩ (fun _ => hc)
        · show nCo (rCur (rNd s _)) = 0; rw [hcur]; exact k1
        · show nKi (rCur (rNd s _)) = 0; rw [hcur]; exact k2
        · show nWo (rCur (rNd s _)) = []; rw [hcur]; rfl
        · show nAr (rCur (rNd s _)) = nI (qOp s); rw [hcur]; exact k7
      · cases hs
    · split at hs
      · split at hs
        · cases hs; exact aOk_go h (by decide) trivial (fun _ => hc)
        · cases hs
      · exact aOk_tail h hc hs
theorem aOk_dl {s s1 : RS} {b : Nat} (h : aOk s) (hs : dl s b = some s1) : aOk s1 := by
  obtain ⟨g, so, h18, hc⟩ := h
  obtain ⟨n, hn⟩ : ∃ n, n = qSt s := ⟨_, rfl⟩
  unfold dl at hs
  have so0 := so
  unfold stOk at so
  rw [← hn] at hs so hc h18
  match n, hs, so, hc, h18, hn with
  | 0, hs, _, _, _, hn => exact aOk_gap g hn.symm hs
  | 1, hs, so, hc, _, hn =>
    simp only at hs
    split at hs
    · next hcan =>
      cases hs
      refine aOk_core g so.1 so.2.1 so.2.2.1 so.2.2.2 ?_
      rcases hcan with q | q
      · exact Or.inl ⟨q.1, q.2.1⟩
      · exact Or.inr ⟨q.1, q.2.2⟩
    · cases hs
  | 2, hs, so, hc, _, hn =>
    simp only at hs
    split at hs
    · next hcan =>
      cases hs
      refine aOk_core g so.1 so.2.1 so.2.2.1 so.2.2.2 ?_
      rcases hcan with q | q
      · exact Or.inl ⟨q.1, q.2.1⟩
      · exact Or.inr ⟨q.1, q.2.2⟩
    · cases hs
  | 3, hs, so, hc, _, hn => exact aOk_in g hn.symm so0 (hc (by decide)) hs
  | 4, hs, so, hc, _, hn => exact aOk_det g (hc (by decide)) hs
  | 5, hs, so, hc, _, hn => exact aOk_let g (hc (by decide)) so.2.1 (Or.inl ⟨rfl, so.1⟩) hs
  | 6, hs, so, hc, _, hn =>
    have hc := hc (by decide)
    simp only [rQuo] at hs
    split at hs
    · cases hs; exact aOk_go g (by decide) trivial (fun _ => hc)
    · split at hs
      · split at hs
        · next h5 =>
          cases hs
          exact aOk_go g (by decide) ⟨so.1, show qWn s + 1 ≤ 4 by omega, so.2.1.2.2.2.2 so.2.2⟩ (fun _ => hc)
        · cases hs
      · exact aOk_let g hc so.2.1 (Or.inl ⟨rfl, so.1⟩) hs
  | 7, hs, so, hc, _, hn =>
    have hc := hc (by decide)
    simp only [rQGap] at hs
    split at hs
    · cases hs; exact ⟨g, so0, by omega, fun _ => hc⟩
    · split at hs
      · next hl =>
        cases hs
        have hp := lt_pos hl
        have w0 := wOk_word (s := s) (qWn s + 1) 6 so.2.1 so.2.2
        have g0 : gOk (rWord s (qWn s + 1) 6) := g
        exact ⟨gOk_sign (b := b) g0 w0 (show 0 < 8 by decide) hp.2 hp.1 hc.2 hc.1, ⟨(nCo_sign _ b).trans so.1, wOk_sign w0 (show 0 < 8 by decide), Nat.succ_pos _⟩, show 6 ≤ 18 by decide, fun _ => hc⟩
      · cases hs
  | 8, hs, so, hc, _, hn =>
    have hc := hc (by decide)
    simp only at hs
    split at hs
    · cases hs; exact aOk_go g (by decide) trivial (fun _ => hc)
    · exact aOk_tail g hc hs
  | 9, hs, so, hc, _, hn => exact aOk_det g (hc (by decide)) hs
  | 10, hs, so, hc, _, hn => exact aOk_let g (hc (by decide)) so.2.1 (Or.inr ⟨rfl, so.1, so.2.2⟩) hs
  | 11, hs, so, hc, _, hn =>
    have hc := hc (by decide)
    simp only [rSpan] at hs
    split at hs
    · next h0 =>
      cases hs
      exact aOk_go g (by decide) ⟨so.1, by have := so.2.1.2.2.2.2 so.2.2.1; rw [h0.1] at this; exact this.symm⟩ (fun _ => hc)
    · by_cases hq : qWn s = 1 ∧ b = (if nDe (rCur s) = 1 then 125 else 93)
      · rw [if_pos hq] at hs
        cases hs; exact aOk_go g (by decide) trivial (fun _ => hc)
      · rw [if_neg hq] at hs
        exact aOk_let g hc so.2.1 (Or.inr ⟨rfl, so.1, so.2.2.2⟩) hs
  | 12, hs, so, hc, _, hn =>
    have hc := hc (by decide)
    simp only at hs
    split at hs
    · cases hs
      have w0 := wOk_word (s := s) 1 10 (by decide) so.2.symm
      exact ⟨g, ⟨so.1, w0, Nat.le_refl 1⟩, show 10 ≤ 18 by decide, fun _ => hc⟩
    · cases hs
  | 13, hs, so, hc, _, hn =>
    have hc := hc (by decide)
    simp only at hs
    split at hs
    · cases hs; exact aOk_go g (by decide) trivial (fun _ => hc)
    · exact aOk_tail g hc hs
  | 14, hs, so, hc, _, hn => exact aOk_det g (hc (by decide)) hs
  | 15, hs, so, hc, _, hn => exact aOk_tail g (hc (by decide)) hs
  | 16, hs, so, hc, _, hn =>
    simp only at hs
    split at hs
    · cases hs; exact aOk_boo g (hc (by decide)) (Or.inl rfl)
    · cases hs
  | 17, hs, so, hc, _, hn =>
    simp only at hs
    split at hs
    · cases hs; exact aOk_boo g (hc (by decide)) (Or.inr rfl)
    · exact aOk_end g hs
  | 18, hs, so, hc, _, hn => exact aOk_end g hs
  | n + 19, hs, so, hc, h18, hn => exact absurd h18 (by omega)
theorem aOk_r0 : aOk r0 := by
  refine ⟨⟨Nat.zero_le _, show 0 < 1 by decide, show 1 ≤ 25 by decide, rfl, rfl, fun k hk => ⟨⟨Nat.zero_le 5, fun w hw => nomatch hw⟩, Nat.zero_le _⟩⟩, trivial, Nat.zero_le _, fun h => absurd rfl h⟩
