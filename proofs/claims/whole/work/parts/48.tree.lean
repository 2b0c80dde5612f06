/-! ===== what a tree that was read is like ===== -/
def anc (nd : Nat → ND) : Nat → Nat → Nat → Prop
  | 0, g, t => g = t
  | m + 1, g, t => ∃ a, a < g ∧ nAr (nd g) = nI a ∧ anc nd m a t
def opk (nd : Nat → ND) (j : Nat) : Nat := if nCo (nd j) = 3 then j else (nAr (nd j)).toNatClampNeg
def PTk (nd : Nat → ND) (k : Nat) : Prop := ∃ a d m, a < k ∧ nAr (nd k) = nI a ∧ d ≤ 5 ∧ chn nd d a ∧ m ≤ 5 ∧ opk nd (k - 1) < k ∧ anc nd m (opk nd (k - 1)) a ∧ 0 < nKi (nd a)
def TreeOk (nd : Nat → ND) (n : Nat) : Prop := ∀ k, 1 ≤ k → k < n → PTk nd k
def keepT (nd nd1 : Nat → ND) (n : Nat) : Prop := ∀ j, j < n → nAr (nd1 j) = nAr (nd j) ∧ (nCo (nd1 j) = 3 ↔ nCo (nd j) = 3) ∧ (0 < nKi (nd j) → 0 < nKi (nd1 j))
theorem anc_congr {nd nd1 : Nat → ND} : ∀ (m g t : Nat), (∀ j, j ≤ g → nAr (nd1 j) = nAr (nd j)) → anc nd m g t → anc nd1 m g t
  | 0, _, _, _, h => h
  | m + 1, g, t, hc, ⟨a, h1, h2, h3⟩ => ⟨a, h1, (hc g (Nat.le_refl _)).trans h2, anc_congr m a t (fun j hj => hc j (by omega)) h3⟩
theorem anc_snoc {nd : Nat → ND} {a : Nat} : ∀ (m g o : Nat), anc nd m g o → a < o → nAr (nd o) = nI a → anc nd (m + 1) g a
  | 0, g, o, h, h1, h2 => by
    have h : g = o := h
    subst h; exact ⟨a, h1, h2, rfl⟩
  | m + 1, g, o, ⟨x, h3, h4, h5⟩, h1, h2 => ⟨x, h3, h4, anc_snoc m x o h5 h1 h2⟩
theorem opk_congr {nd nd1 : Nat → ND} {j : Nat} (h1 : nAr (nd1 j) = nAr (nd j)) (h2 : nCo (nd1 j) = 3 ↔ nCo (nd j) = 3) : opk nd1 j = opk nd j := by
  unfold opk
  by_cases c : nCo (nd j) = 3
  · rw [if_pos c, if_pos (h2.mpr c)]
  · rw [if_neg c, if_neg (fun q => c (h2.mp q)), h1]
theorem PTk_congr {nd nd1 : Nat → ND} {k : Nat} (hk : 1 ≤ k) (h : PTk nd k) (hc : keepT nd nd1 k) (ha : nAr (nd1 k) = nAr (nd k)) : PTk nd1 k := by
  obtain ⟨a, d, m, h1, h2, h3, h4, h5, h6, h7, h8⟩ := h
  have eo := opk_congr (hc (k - 1) (by omega)).1 (hc (k - 1) (by omega)).2.1
  refine ⟨a, d, m, h1, ha.trans h2, h3, chn_congr d a (fun j hj q => ⟨(hc j (by omega)).2.1.mpr q, (hc j (by omega)).1⟩) h4, h5, by rw [eo]; exact h6, ?_, (hc a h1).2.2 h8⟩
  rw [eo]
  exact anc_congr m _ a (fun j hj => (hc j (by omega)).1) h7
def rt (x : ND) : Prop := nCo x = 3 ∧ nMa x = 0 ∧ nBo x = 1 ∧ nFi x = -1 ∧ nDe x = -1 ∧ nAr x = -1 ∧ nWo x = []
def TP (s : RS) : Prop := TreeOk (qNd s) (qCn s) ∧ (opk (qNd s) (qCn s - 1) < qCn s ∧ ∃ m, anc (qNd s) m (opk (qNd s) (qCn s - 1)) (qOp s) ∧ m + qDep s ≤ 5) ∧ rt (qNd s 0) ∧ (nKi (qNd s (qOp s)) = 0 → qOp s + 1 = qCn s)
theorem TP_keep {s s1 : RS} (h : TP s) (hc0 : 0 < qCn s) (e1 : qDep s1 = qDep s) (e2 : qOp s1 = qOp s) (e3 : qCn s1 = qCn s) (hk : keepT (qNd s) (qNd s1) (qCn s)) (hr : rt (qNd s1 0)) (hz : nKi (qNd s1 (qOp s)) = 0 → nKi (qNd s (qOp s)) = 0) : TP s1 := by
  obtain ⟨h1, ⟨h2, m, h3, h4⟩, h5, h6⟩ := h
  have eo := opk_congr (hk (qCn s - 1) (by omega)).1 (hk (qCn s - 1) (by omega)).2.1
  refine ⟨fun k hk1 hk2 => ?_, ⟨by rw [e3, eo]; exact h2, m, ?_, by rw [e1]; exact h4⟩, hr, ?_⟩
  · rw [e3] at hk2
    exact PTk_congr hk1 (h1 k hk1 hk2) (fun j hj => hk j (by omega)) (hk k hk2).1
  · rw [e2, e3, eo]
    exact anc_congr m _ _ (fun j hj => (hk j (by omega)).1) h3
  · rw [e2, e3]; exact fun q => h6 (hz q)
/-! how long it is printed -/
def slen : List (List Nat) → Nat
  | [] => 0
  | w :: r => w.length + slen r
def bc (b : Int32) : Int := if b = 1 then 0 else if b ≤ 9 then 2 else 3
def cr (x : ND) : Int := if nCo x = 3 then 2 + (if nDe x = -1 then 0 else 2) else if nCo x = 1 then 2 + (slen (nWo x) : Int) + (((nWo x).length - 1 : Nat) : Int) + (if nDe x = 0 then 0 else 2) else if nCo x = 2 then 4 + (slen (nWo x) : Int) else (slen (nWo x) : Int) + (if nDe x = 0 then 0 else 2)
def hdc (x : ND) : Int := (if nMa x = 0 then 0 else 1) + (if nFi x = -1 then 0 else 2)
def cst (x : ND) : Int := hdc x + cr x + bc (nBo x)
def sep (k : Nat) (x : ND) : Int := if nAr x = nI (k - 1) then 0 else 1
def tc (nd : Nat → ND) : Nat → Int
  | 0 => 0
  | n + 1 => tc nd n + (if n = 0 then 0 else sep n (nd n) + cst (nd n))
theorem bc_0 (b : Int32) : 0 ≤ bc b := by unfold bc; split; decide; split <;> decide
theorem bc_3 (b : Int32) : bc b ≤ 3 := by unfold bc; split; decide; split <;> decide
theorem bc_2 {b : Int32} (h : b ≤ 9) : bc b ≤ 2 := by unfold bc; rw [if_pos h]; split <;> decide
theorem slen_app (a b : List (List Nat)) : slen (a ++ b) = slen a + slen b := by
  induction a with
  | nil => exact (Nat.zero_add _).symm
  | cons w r ih => show w.length + slen (r ++ b) = w.length + slen r + slen b; rw [ih, Nat.add_assoc]
theorem slen_set (b : Nat) : ∀ (ws : List (List Nat)) (j : Nat), j < ws.length → slen (ws.set j (ws.getD j [] ++ [b])) = slen ws + 1
  | [], j, h => absurd h (Nat.not_lt_zero j)
  | w :: r, 0, _ => by
    show (w ++ [b]).length + slen r = w.length + slen r + 1
    rw [List.length_append]; show w.length + 1 + slen r = _; omega
  | w :: r, j + 1, h => by
    show w.length + slen (r.set j (r.getD j [] ++ [b])) = w.length + slen r + 1
    rw [slen_set b r j (by simpa using h)]; omega
theorem slen_addB {ws : List (List Nat)} {j b : Nat} : slen (addB ws j b) = slen ws + 1 := by
  unfold addB
  split
  · next h => exact slen_set b ws j h
  · rw [slen_app]; rfl
theorem tc_congr {nd nd1 : Nat → ND} : ∀ n, (∀ j, 0 < j → j < n → sep j (nd1 j) + cst (nd1 j) = sep j (nd j) + cst (nd j)) → tc nd1 n = tc nd n
  | 0, _ => rfl
  | n + 1, h => by
    show tc nd1 n + (if n = 0 then 0 else sep n (nd1 n) + cst (nd1 n)) = tc nd n + (if n = 0 then 0 else sep n (nd n) + cst (nd n))
    rw [tc_congr n (fun j h1 h2 => h j h1 (by omega))]
    by_cases e : n = 0
    · rw [if_pos e, if_pos e]
    · rw [if_neg e, if_neg e, h n (by omega) (Nat.lt_succ_self n)]
theorem tc_up {nd nd1 : Nat → ND} {c : Nat} {x : ND} (h0 : 0 < c) (hn : ∀ j, nd1 j = if j = c then x else nd j) (ha : nAr x = nAr (nd c)) : ∀ n, c < n → tc nd1 n = tc nd n + cst x - cst (nd c)
  | 0, h => absurd h (Nat.not_lt_zero c)
  | n + 1, h => by
    show tc nd1 n + (if n = 0 then 0 else sep n (nd1 n) + cst (nd1 n)) = tc nd n + (if n = 0 then 0 else sep n (nd n) + cst (nd n)) + cst x - cst (nd c)
    by_cases e : n = c
    · have : tc nd1 n = tc nd n := tc_congr n (fun j h1 h2 => by rw [hn j, if_neg (by omega)])
      rw [this, if_neg (by omega), if_neg (by omega), hn n, if_pos e]
      have : sep n x = sep n (nd n) := by unfold sep; rw [ha, e]
      rw [this, e]; omega
    · rw [tc_up h0 hn ha n (by omega), hn n, if_neg e]; omega
/-! a node that is whole -/
abbrev allW (P : Nat → Prop) (ws : List (List Nat)) : Prop := ∀ w ∈ ws, w ≠ [] ∧ ∀ b ∈ w, P b
def nH (x : ND) : Prop := (nMa x = 0 ∨ nMa x = 1 ∨ nMa x = 2) ∧ (∃ b, b ≤ 99 ∧ nBo x = nI b) ∧ (nFi x = -1 ∨ ∃ f, f < 4 ∧ nFi x = nI f)
def cOkC (x : ND) : Prop := (nCo x = 0 ∧ (nWo x).length = 1 ∧ allW isSg (nWo x) ∧ ∃ d, d ≤ 2 ∧ nDe x = nI d) ∨ (nCo x = 1 ∧ 1 ≤ (nWo x).length ∧ allW isLt (nWo x) ∧ ∃ d, d ≤ 9 ∧ nDe x = nI d) ∨ (nCo x = 2 ∧ (nWo x).length = 2 ∧ allW isLt (nWo x) ∧ ∃ d, d ≤ 1 ∧ nDe x = nI d) ∨ (nCo x = 3 ∧ nWo x = [] ∧ (nDe x = -1 ∨ ∃ d, 1 ≤ d ∧ d ≤ 9 ∧ nDe x = nI d))
def nOk (x : ND) : Prop := nH x ∧ cOkC x
def curOk (s : RS) : Prop := match qSt s with
  | 0 => True
  | 1 => nCo (rCur s) = 0 ∧ nWo (rCur s) = [] ∧ nDe (rCur s) = 0
  | 2 => nCo (rCur s) = 0 ∧ nWo (rCur s) = [] ∧ nDe (rCur s) = 0
  | 3 => nCo (rCur s) = 0 ∧ (nWo (rCur s)).length = 1 ∧ allW isSg (nWo (rCur s)) ∧ nDe (rCur s) = 0
  | 4 => nCo (rCur s) = 0 ∧ (nWo (rCur s)).length = 1 ∧ allW isSg (nWo (rCur s)) ∧ nDe (rCur s) = 0
  | 5 => nCo (rCur s) = 1 ∧ nWo (rCur s) = [] ∧ nDe (rCur s) = 0
  | 6 => nCo (rCur s) = 1 ∧ 1 ≤ (nWo (rCur s)).length ∧ allW isLt (nWo (rCur s)) ∧ nDe (rCur s) = 0
  | 7 => nCo (rCur s) = 1 ∧ 1 ≤ (nWo (rCur s)).length ∧ allW isLt (nWo (rCur s)) ∧ nDe (rCur s) = 0
  | 8 => nCo (rCur s) = 1 ∧ 1 ≤ (nWo (rCur s)).length ∧ allW isLt (nWo (rCur s)) ∧ nDe (rCur s) = 0
  | 9 => nCo (rCur s) = 1 ∧ 1 ≤ (nWo (rCur s)).length ∧ allW isLt (nWo (rCur s)) ∧ nDe (rCur s) = 0
  | 10 => nCo (rCur s) = 2 ∧ (nWo (rCur s)).length = qWn s ∧ allW isLt (nWo (rCur s)) ∧ (∃ d, d ≤ 1 ∧ nDe (rCur s) = nI d) ∧ qWn s ≤ 1
  | 11 => nCo (rCur s) = 2 ∧ (nWo (rCur s)).length = qWn s + 1 ∧ allW isLt (nWo (rCur s)) ∧ (∃ d, d ≤ 1 ∧ nDe (rCur s) = nI d) ∧ qWn s ≤ 1
  | 12 => nCo (rCur s) = 2 ∧ (nWo (rCur s)).length = 1 ∧ allW isLt (nWo (rCur s)) ∧ ∃ d, d ≤ 1 ∧ nDe (rCur s) = nI d
  | 13 => nCo (rCur s) = 3 ∧ cOkC (rCur s)
  | 14 => nCo (rCur s) = 3 ∧ cOkC (rCur s)
  | 17 => cOkC (rCur s) ∧ ∃ b, b ≤ 9 ∧ nBo (rCur s) = nI b
  | _ => cOkC (rCur s)
def off (s : RS) : Int := match qSt s with
  | 0 => if 0 < nKi (qNd s (qOp s)) then -1 else 0
  | 4 => -1
  | 9 => -1
  | 14 => -1
  | 5 => 1
  | 6 => 1
  | 10 => if qWn s = 0 then 3 else 1
  | 11 => if qWn s = 0 then 3 else 1
  | 12 => 2
  | 16 => bc (nBo (rCur s)) - 1
  | 17 => bc (nBo (rCur s)) - 2
  | 18 => bc (nBo (rCur s)) - 3
  | _ => 0
def tOk (s : RS) (c : Nat) : Prop := TP s ∧ (∀ k, 1 ≤ k → k < qCn s → (qSt s = 0 ∨ k ≠ qCu s) → nOk (qNd s k)) ∧ (qSt s ≠ 0 → nH (rCur s)) ∧ curOk s ∧ tc (qNd s) (qCn s) ≤ (c : Int) + (qDep s : Int) + off s
theorem T_step {s s1 : RS} {c : Nat} {x : ND} (h : tOk s c) (hst : qSt s ≠ 0) (hst1 : qSt s1 ≠ 0) (hc : 0 < qCu s ∧ qCu s < qCn s) (e1 : qDep s1 = qDep s) (e2 : qOp s1 = qOp s) (e3 : qCn s1 = qCn s) (e4 : qCu s1 = qCu s) (hn : ∀ j, qNd s1 j = if j = qCu s then x else qNd s j) (ha : nAr x = nAr (rCur s)) (hco : nCo x = 3 ↔ nCo (rCur s) = 3) (hki : nKi x = nKi (rCur s)) (hH : nH x) (hcu : curOk s1) (hof : cst x + off s ≤ cst (rCur s) + 1 + off s1) : tOk s1 (c + 1) := by
  obtain ⟨h1, h2, h3, h4, h5⟩ := h
  have hcur : rCur s1 = x := by unfold rCur; rw [e4, hn, if_pos rfl]
  refine ⟨TP_keep h1 (by omega) e1 e2 e3 (fun j hj => ?_) ?_ ?_, fun k k1 k2 k3 => ?_, fun _ => by rw [hcur]; exact hH, hcu, ?_⟩
  · rw [hn j]
    by_cases e : j = qCu s
    · rw [if_pos e, e]; exact ⟨ha, hco, fun q => by rw [hki]; exact q⟩
    · rw [if_neg e]; exact ⟨rfl, Iff.rfl, fun q => q⟩
  · rw [hn 0, if_neg (by omega)]; exact h1.2.2.1
  · rw [hn]
    by_cases e : qOp s = qCu s
    · rw [if_pos e, hki]; unfold rCur; rw [e]; exact fun q => q
    · rw [if_neg e]; exact fun q => q
  · rcases k3 with k3 | k3
    · exact absurd k3 hst1
    · rw [e4] at k3
      rw [hn k, if_neg k3]
      exact h2 k k1 (by rw [← e3]; exact k2) (Or.inr k3)
  · rw [e3, e1, tc_up hc.1 hn ha _ hc.2]
    have : cst (qNd s (qCu s)) = cst (rCur s) := rfl
    rw [this]; push_cast; omega
theorem T_done {s : RS} {c : Nat} (h : tOk s c) (ho : nOk (rCur s)) : ∀ k, 1 ≤ k → k < qCn s → nOk (qNd s k) := fun k k1 k2 => by
  by_cases e : k = qCu s
  · rw [e]; exact ho
  · exact h.2.1 k k1 k2 (Or.inr e)
theorem T_close {s s1 : RS} {c : Nat} (hA : gOk s) (hT : TP s) (hD : ∀ k, 1 ≤ k → k < qCn s → nOk (qNd s k)) (hp : tc (qNd s) (qCn s) ≤ (c : Int) + (qDep s : Int)) (hs : rClose s = some s1) : tOk s1 (c + 1) := by
  unfold rClose at hs
  split at hs
  · cases hs
  · next hd =>
    obtain ⟨d, hd⟩ : ∃ d, qDep s = d + 1 := ⟨qDep s - 1, by omega⟩
    have hch := hA.2.2.2.1
    rw [hd] at hch
    obtain ⟨c1, c2, a, c3, c4, c5⟩ := hch
    have hop := hA.2.1
    have h25 := hA.2.2.1
    have ea : (nAr (qNd s (qOp s))).toNatClampNeg = a := by rw [c4]; exact nI_clamp (by omega)
    rw [ea] at hs
    cases hs
    obtain ⟨h1, ⟨h2, m, h3, h4⟩, h5, h6⟩ := hT
    have ho := hD (qOp s) c1 hop
    refine ⟨⟨h1, ⟨h2, m + 1, anc_snoc m _ _ h3 c3 c4, ?_⟩, h5, ?_⟩, fun k k1 k2 _ => hD k k1 k2, fun _ => ho.1, ⟨c2, ho.2⟩, ?_⟩
    · show m + 1 + (qDep s - 1) ≤ 5; omega
    · intro q
      obtain ⟨a2, d2, m2, p1, p2, -, -, -, -, -, p8⟩ := h1 (qOp s) c1 hop
      have : a2 = a := nI_e (by omega) (by omega) (by rw [← p2, c4])
      rw [this] at p8
      have q : nKi (qNd s a) = 0 := q
      omega
    · show tc (qNd s) (qCn s) ≤ ((c + 1 : Nat) : Int) + ((qDep s - 1 : Nat) : Int) + 0
      rw [hd] at hp ⊢
      push_cast at hp ⊢
      omega
theorem T_end {s s1 : RS} {b c : Nat} (hA : gOk s) (hT : TP s) (hD : ∀ k, 1 ≤ k → k < qCn s → nOk (qNd s k)) (hp : tc (qNd s) (qCn s) ≤ (c : Int) + (qDep s : Int)) (hs : rEnd s b = some s1) : tOk s1 (c + 1) := by
  unfold rEnd at hs
  split at hs
  · cases hs
    refine ⟨hT, fun k k1 k2 _ => hD k k1 k2, fun q => absurd rfl q, trivial, ?_⟩
    show tc (qNd s) (qCn s) ≤ ((c + 1 : Nat) : Int) + (qDep s : Int) + (if 0 < nKi (qNd s (qOp s)) then -1 else 0)
    push_cast
    split <;> omega
  · split at hs
    · exact T_close hA hT hD hp hs
    · cases hs
theorem go_nd {s : RS} {n : Nat} : ∀ j, qNd (rGo s n) j = if j = qCu s then rCur s else qNd s j := fun j => by
  split
  · next e => rw [e]; rfl
  · rfl
theorem T_go {s : RS} {c n : Nat} (h : tOk s c) (hst : qSt s ≠ 0) (hn : n ≠ 0) (hc : 0 < qCu s ∧ qCu s < qCn s) (hcu : curOk (rGo s n)) (hof : off s ≤ 1 + off (rGo s n)) : tOk (rGo s n) (c + 1) :=
  T_step (x := rCur s) h hst hn hc rfl rfl rfl rfl go_nd rfl Iff.rfl rfl (h.2.2.1 hst) hcu (by omega)
theorem T_tail {s s1 : RS} {b c : Nat} (hA : gOk s) (h : tOk s c) (hst : qSt s ≠ 0) (hc : 0 < qCu s ∧ qCu s < qCn s) (ho : nOk (rCur s)) (h0 : off s = 0) (hs : rTail s b = some s1) : tOk s1 (c + 1) := by
  unfold rTail at hs
  split at hs
  · cases hs
    refine T_go h hst (by decide) hc ho.2 ?_
    show off s ≤ 1 + (bc (nBo (rCur s)) - 1)
    have := bc_0 (nBo (rCur s))
    omega
  · refine T_end hA h.1 (T_done h ho) ?_ hs
    have := h.2.2.2.2
    omega
theorem upd_nd {s : RS} {x : ND} {n : Nat} : ∀ j, qNd (rGo (rNd s x) n) j = if j = qCu s then x else qNd s j := fun j => by
  show va_up (qNd s) (qCu s) x j = _
  split
  · next e => rw [e, va_up_self]
  · next e => rw [va_up_ne _ _ e]
theorem sgn_nd {s : RS} {b : Nat} : ∀ j, qNd (rSign s b) j = if j = qCu s then nsWo (rCur s) (addB (nWo (rCur s)) (qWn s) b) else qNd s j := fun j => by
  show va_up (qNd s) (qCu s) _ j = _
  split
  · next e => rw [e, va_up_self]
  · next e => rw [va_up_ne _ _ e]
theorem nI_48 {b k : Nat} (h : k ≤ b) (hb : b < 256) : nI b - nI k = nI (b - k) := by
  obtain ⟨m, rfl⟩ : ∃ m, b = m + k := ⟨b - k, by omega⟩
  rw [← nI_add, Int32.add_sub_cancel, Nat.add_sub_cancel]
theorem cr_de (x : ND) (v : Int32) : cr (nsDe x v) ≤ cr x + 2 := by
  unfold cr
  show (if nCo x = 3 then 2 + (if v = -1 then 0 else 2) else if nCo x = 1 then 2 + (slen (nWo x) : Int) + (((nWo x).length - 1 : Nat) : Int) + (if v = 0 then 0 else 2) else if nCo x = 2 then 4 + (slen (nWo x) : Int) else (slen (nWo x) : Int) + (if v = 0 then 0 else 2)) ≤ _
  split
  · split <;> split <;> omega
  · split
    · split <;> split <;> omega
    · split
      · omega
      · split <;> split <;> omega
theorem T_det {s s1 : RS} {b c lo hi : Nat} (h : tOk s c) (hst : qSt s ≠ 0) (hc : 0 < qCu s ∧ qCu s < qCn s) (h1 : off s = -1) (hlo : 48 ≤ lo) (hhi : hi ≤ 57) (hcu : ∀ d, lo - 48 ≤ d → d ≤ hi - 48 → cOkC (nsDe (rCur s) (nI d))) (hs : rDet s b lo hi = some s1) : tOk s1 (c + 1) := by
  unfold rDet at hs
  split at hs
  · next hb =>
    cases hs
    have e : nI b - 48 = nI (b - 48) := nI_48 (k := 48) (by omega) (by omega)
    rw [e]
    refine T_step (x := nsDe (rCur s) (nI (b - 48))) h hst (show (15 : Nat) ≠ 0 by decide) hc rfl rfl rfl rfl upd_nd rfl Iff.rfl rfl (h.2.2.1 hst) ?_ ?_
    · show cOkC (rCur (rNd s (nsDe (rCur s) (nI (b - 48)))))
      rw [rCur_nd]; exact hcu _ (by omega) (by omega)
    · rw [h1]
      have := cr_de (rCur s) (nI (b - 48))
      show hdc (rCur s) + cr (nsDe (rCur s) (nI (b - 48))) + bc (nBo (rCur s)) + -1 ≤ hdc (rCur s) + cr (rCur s) + bc (nBo (rCur s)) + 1 + 0
      omega
  · cases hs
theorem allW_set {P : Nat → Prop} {ws : List (List Nat)} {j b : Nat} (h : allW P ws) (hb : P b) : allW P (addB ws j b) := by
  unfold addB
  split
  · next hj =>
    intro w hw
    rcases List.mem_or_eq_of_mem_set hw with hw | hw
    · exact h w hw
    · rw [hw]
      refine ⟨by simp, fun x hx => ?_⟩
      rcases List.mem_append.mp hx with hx | hx
      · have hm : ws.getD j [] ∈ ws := by
          rw [List.getD_eq_getElem?_getD, List.getElem?_eq_getElem hj]
          exact List.getElem_mem hj
        exact (h _ hm).2 x hx
      · rw [List.mem_singleton.mp hx]; exact hb
  · intro w hw
    rcases List.mem_append.mp hw with hw | hw
    · exact h w hw
    · rw [List.mem_singleton.mp hw]
      exact ⟨by simp, fun x hx => by rw [List.mem_singleton.mp hx]; exact hb⟩
theorem addB_l {ws : List (List Nat)} {j b : Nat} : (addB ws j b).length = if j < ws.length then ws.length else ws.length + 1 := by
  unfold addB
  split
  · rw [List.length_set]
  · rw [List.length_append]; rfl
