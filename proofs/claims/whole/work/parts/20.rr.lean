/-! ===== the class's reader holds an automaton's state ===== -/
def EqP (M M1 : Mem) (p : Nat) : Prop := (∀ f, fI M1 p f = fI M p f) ∧ (∀ f, fR M1 p f = fR M p f) ∧ (∀ i, aI M1 p i = aI M p i) ∧ (∀ i, aL M1 p i = aL M p i) ∧ ∀ i, aR M1 p i = aR M p i
theorem EqP.rf {M : Mem} {p : Nat} : EqP M M p := ⟨fun _ => rfl, fun _ => rfl, fun _ => rfl, fun _ => rfl, fun _ => rfl⟩
theorem EqP.tr {M M1 M2 : Mem} {p : Nat} (h : EqP M M1 p) (k : EqP M1 M2 p) : EqP M M2 p := ⟨fun f => (k.1 f).trans (h.1 f), fun f => (k.2.1 f).trans (h.2.1 f), fun f => (k.2.2.1 f).trans (h.2.2.1 f), fun f => (k.2.2.2.1 f).trans (h.2.2.2.1 f), fun f => (k.2.2.2.2 f).trans (h.2.2.2.2 f)⟩
theorem EqP.sI {M M1 : Mem} {p q f : Nat} {x : Int32} (h : EqP M M1 p) (hq : p ≠ q) : EqP M (sI M1 q f x) p := ⟨fun g => by rw [fI_sI, if_neg (fun e => hq e.1)]; exact h.1 g, h.2⟩
theorem EqP.sR {M M1 : Mem} {p q f : Nat} {x : Option Nat} (h : EqP M M1 p) (hq : p ≠ q) : EqP M (sR M1 q f x) p := ⟨h.1, fun g => by rw [fR_sR, if_neg (fun e => hq e.1)]; exact h.2.1 g, h.2.2⟩
theorem EqP.sL {M M1 : Mem} {p q f : Nat} {x : Int64} (h : EqP M M1 p) (hq : p ≠ q) : EqP M (sL M1 q f x) p := ⟨h.1, h.2.1, h.2.2.1, fun g => by rw [aL_sL, if_neg (fun e => hq e.1)]; exact h.2.2.2.1 g, h.2.2.2.2⟩
theorem EqP.start {M M1 : Mem} {p q : Nat} {a b : Int32} (h : EqP M M1 p) (hq : p ≠ q) (hq2 : p ≠ q + 1) : EqP M (clStart M1 q a b) p :=
  ⟨fun g => by rw [fI_start, if_neg (fun e => hq e.1)]; exact h.1 g, fun g => by rw [fR_start]; exact h.2.1 g, fun g => by rw [aI_start]; exact h.2.2.1 g, fun g => by rw [aL_start, if_neg (fun e => hq2 e.1)]; exact h.2.2.2.1 g, fun g => by rw [aR_start]; exact h.2.2.2.2 g⟩
def FrT (T : Nat) (M M1 : Mem) : Prop := ∀ p, p ≠ 56 → ¬ (T ≤ p ∧ p < T + 52) → EqP M M1 p
theorem FrT.rf {T : Nat} {M : Mem} : FrT T M M := fun _ _ _ => EqP.rf
theorem FrT.tr {T : Nat} {M M1 M2 : Mem} (h : FrT T M M1) (k : FrT T M1 M2) : FrT T M M2 := fun p h1 h2 => (h p h1 h2).tr (k p h1 h2)
theorem FrT.sI {T : Nat} {M M1 : Mem} {q f : Nat} {x : Int32} (h : FrT T M M1) (hq : q = 56 ∨ (T ≤ q ∧ q < T + 52)) : FrT T M (sI M1 q f x) := fun p h1 h2 => (h p h1 h2).sI (fun e => by subst e; rcases hq with e | e; exact h1 e; exact h2 e)
theorem FrT.sR {T : Nat} {M M1 : Mem} {q f : Nat} {x : Option Nat} (h : FrT T M M1) (hq : q = 56 ∨ (T ≤ q ∧ q < T + 52)) : FrT T M (sR M1 q f x) := fun p h1 h2 => (h p h1 h2).sR (fun e => by subst e; rcases hq with e | e; exact h1 e; exact h2 e)
theorem FrT.sL {T : Nat} {M M1 : Mem} {q f : Nat} {x : Int64} (h : FrT T M M1) (hq : q = 56 ∨ (T ≤ q ∧ q < T + 52)) : FrT T M (sL M1 q f x) := fun p h1 h2 => (h p h1 h2).sL (fun e => by subst e; rcases hq with e | e; exact h1 e; exact h2 e)
theorem FrT.start {T : Nat} {M M1 : Mem} {k : Nat} {a b : Int32} (h : FrT T M M1) (hk : k < 25) : FrT T M (clStart M1 (T + 2 + 2 * k) a b) := fun p h1 h2 => (h p h1 h2).start (fun e => h2 (by omega)) (fun e => h2 (by omega))
def RR (M : Mem) (T : Nat) (s : RS) : Prop := fR M 56 0 = some T ∧ (T = 4 ∨ T = 57) ∧ rcTr M T ∧ fI M 56 1 = nI (qSt s) ∧ fI M 56 2 = nI (qDep s) ∧ fI M 56 3 = nI (qOp s) ∧ cTree M T (qCn s) (qNd s)
def RRc (M : Mem) (T : Nat) (s : RS) : Prop := fR M 56 4 = some (T + 2 + 2 * qCu s)
def RRw (M : Mem) (s : RS) : Prop := fI M 56 5 = nI (qWn s) ∧ fI M 56 6 = nI (qSg s) ∧ fI M 56 7 = b2i (qPl s = true)
def RRx (M : Mem) (T : Nat) (s : RS) : Prop := RR M T s ∧ (qSt s ≠ 0 → RRc M T s) ∧ (wdSt (qSt s) → RRw M s)
theorem Tne {T k : Nat} (hT : T = 4 ∨ T = 57) (hk : k < 25) : T ≠ 56 ∧ T + 2 + 2 * k ≠ 56 ∧ T + 2 + 2 * k + 1 ≠ 56 := by omega
theorem cTree_keep {M M1 : Mem} {T n : Nat} {nd : Nat → ND} (h : cTree M T n nd) (h0 : fI M1 T 1 = fI M T 1) (hk : ∀ k, k < 25 → (∀ f, fI M1 (T + 2 + 2 * k) f = fI M (T + 2 + 2 * k) f) ∧ ∀ i, aL M1 (T + 2 + 2 * k + 1) i = aL M (T + 2 + 2 * k + 1) i) : cTree M1 T n nd := by
  refine ⟨h0.trans h.1, h.2.1, fun k hk1 => ?_⟩
  have h2 := h.2.1
  obtain ⟨e1, e2⟩ := hk k (by omega)
  obtain ⟨a0, a1, a2, a3, a4, a5, a6, a7⟩ := h.2.2 k hk1
  exact ⟨(e1 0).trans a0, (e1 1).trans a1, (e1 2).trans a2, (e1 3).trans a3, (e1 4).trans a4, (e1 5).trans a5, (e1 6).trans a6, fun j hj => (e2 j).trans (a7 j hj)⟩
theorem cTree_upd {M M1 : Mem} {T n c : Nat} {nd : Nat → ND} {x : ND} (h : cTree M T n nd) (hc : c < n) (h0 : fI M1 T 1 = fI M T 1) (hk : ∀ k, k < 25 → k ≠ c → (∀ f, fI M1 (T + 2 + 2 * k) f = fI M (T + 2 + 2 * k) f) ∧ ∀ i, aL M1 (T + 2 + 2 * k + 1) i = aL M (T + 2 + 2 * k + 1) i) (hx : cNode M1 (T + 2 + 2 * c) x) : cTree M1 T n (va_up nd c x) := by
  refine ⟨h0.trans h.1, h.2.1, fun k hk1 => ?_⟩
  have h2 := h.2.1
  by_cases e : k = c
  · subst e; rw [va_up_self]; exact hx
  · rw [va_up_ne _ _ e]
    obtain ⟨e1, e2⟩ := hk k (by omega) e
    obtain ⟨a0, a1, a2, a3, a4, a5, a6, a7⟩ := h.2.2 k hk1
    exact ⟨(e1 0).trans a0, (e1 1).trans a1, (e1 2).trans a2, (e1 3).trans a3, (e1 4).trans a4, (e1 5).trans a5, (e1 6).trans a6, fun j hj => (e2 j).trans (a7 j hj)⟩
theorem cTree_56 {M : Mem} {T n f : Nat} {nd : Nat → ND} {x : Int32} (hT : T = 4 ∨ T = 57) (h : cTree M T n nd) : cTree (sI M 56 f x) T n nd :=
  cTree_keep h (by rw [fI_sI, if_neg (by omega)]) (fun k hk => ⟨fun g => by rw [fI_sI, if_neg (by omega)], fun i => rfl⟩)
theorem RR_i {M : Mem} {T f : Nat} {s s1 : RS} {x : Int32} (h : RR M T s) (hf : f = 5 ∨ f = 6 ∨ f = 7) (h1 : qSt s1 = qSt s) (h2 : qDep s1 = qDep s) (h3 : qOp s1 = qOp s) (h4 : qCn s1 = qCn s) (h5 : qNd s1 = qNd s) : RR (sI M 56 f x) T s1 := by
  obtain ⟨a, b, c, d, e, g, i⟩ := h
  refine ⟨a, b, c, ?_, ?_, ?_, ?_⟩
  · rw [fI_sI, if_neg (by omega), h1]; exact d
  · rw [fI_sI, if_neg (by omega), h2]; exact e
  · rw [fI_sI, if_neg (by omega), h3]; exact g
  · rw [h4, h5]; exact cTree_56 b i
theorem RR_go {M : Mem} {T : Nat} {s : RS} (n : Nat) (h : RR M T s) : RR (sI M 56 1 (nI n)) T (rGo s n) := by
  obtain ⟨a, b, c, d, e, g, i⟩ := h
  exact ⟨a, b, c, rfl, e, g, cTree_56 b i⟩
theorem RR_word {M : Mem} {T : Nat} {s : RS} (n nx : Nat) (h : RR M T s) : RR (sI (sI (sI (sI M 56 5 (nI n)) 56 6 0) 56 7 1) 56 1 (nI nx)) T (rWord s n nx) ∧ RRw (sI (sI (sI (sI M 56 5 (nI n)) 56 6 0) 56 7 1) 56 1 (nI nx)) (rWord s n nx) := by
  obtain ⟨a, b, c, d, e, g, i⟩ := h
  exact ⟨⟨a, b, c, rfl, e, g, cTree_56 b (cTree_56 b (cTree_56 b (cTree_56 b i)))⟩, rfl, rfl, rfl⟩
/-- a field of the clause at hand -/
theorem RR_f {M : Mem} {T f : Nat} {s : RS} {v : Int32} {x : ND} (h : RR M T s) (hc : qCu s < qCn s) (hx : cNode (sI M (T + 2 + 2 * qCu s) f v) (T + 2 + 2 * qCu s) x) : RR (sI M (T + 2 + 2 * qCu s) f v) T (rNd s x) := by
  obtain ⟨a, b, c, d, e, g, i⟩ := h
  have h25 := i.2.1
  have hne := Tne (k := qCu s) b (by omega)
  refine ⟨a, b, c, ?_, ?_, ?_, ?_⟩
  · rw [fI_sI, if_neg (fun q => hne.2.1 q.1.symm)]; exact d
  · rw [fI_sI, if_neg (fun q => hne.2.1 q.1.symm)]; exact e
  · rw [fI_sI, if_neg (fun q => hne.2.1 q.1.symm)]; exact g
  · exact cTree_upd i hc (by rw [fI_sI, if_neg (by omega)]) (fun k hk hkc => ⟨fun f => by rw [fI_sI, if_neg (by omega)], fun i => rfl⟩) hx
theorem cN_of {M : Mem} {T : Nat} {s : RS} (h : RR M T s) (hc : qCu s < qCn s) : cNode M (T + 2 + 2 * qCu s) (rCur s) := h.2.2.2.2.2.2.2.2 _ hc
