/-! ===== reading leniently ===== -/
def run (s : RS) : List Nat → Option RS
  | [] => some s
  | b :: r => match dl s b with
    | none => none
    | some s1 => run s1 r
def byts (l : List (Nat × Nat)) : List Nat := l.map Prod.snd
def plcs (l : List (Nat × Nat)) : List Nat := l.map Prod.fst
def prs : List Nat → Nat → List (Nat × Nat)
  | [], _ => []
  | b :: r, i => (i, b) :: prs r (i + 1)
def lnK (s : RS) : List (Nat × Nat) → List (Nat × Nat) → List Nat → List (Nat × Nat) × List Nat
  | [], K, g => (K, g)
  | x :: r, K, g => match dl s x.2 with
    | none => lnK s r K (g ++ [x.1])
    | some s1 => lnK s1 r (K ++ [x]) g
def whB : Option RS → Bool
  | none => false
  | some s => decide (rWhole s)
def wlN (l : List Nat) : Nat → Nat
  | 0 => 0
  | n + 1 => if whB (run r0 (l.take (n + 1))) = true then n + 1 else wlN l n
def lnP (tp : List Nat) : List (Nat × Nat) × List Nat := lnK r0 (prs tp 0) [] []
def lnW (tp : List Nat) : Nat := wlN (byts (lnP tp).1) (lnP tp).1.length
def lnG (tp : List Nat) : List Nat := (lnP tp).2 ++ (plcs ((lnP tp).1.drop (lnW tp))).reverse
def lnR (tp : List Nat) : Option RS := if lnW tp = 0 then none else run r0 ((byts (lnP tp).1).take (lnW tp))
def lnV (tp : List Nat) : Int32 := match lnR tp with
  | none => -1
  | some s => nI (qCn s)
def lnQ (tp : List Nat) (q : QQ) : QQ := match lnR tp with
  | none => q
  | some s => (qCn s, qNd s)
theorem run_app : ∀ (l1 l2 : List Nat) (s : RS), run s (l1 ++ l2) = (run s l1).bind (fun s1 => run s1 l2)
  | [], _, _ => rfl
  | b :: r, l2, s => by
    show (match dl s b with | none => none | some s1 => run s1 (r ++ l2)) = (match dl s b with | none => none | some s1 => run s1 r).bind _
    cases dl s b with
    | none => rfl
    | some s1 => exact run_app r l2 s1
theorem rdGo_run : ∀ (l1 l2 : List Nat) (s s1 : RS) (i : Nat), run s l1 = some s1 → rdGo s (l1 ++ l2) i = rdGo s1 l2 (i + l1.length)
  | [], _, s, s1, i, h => by cases h; rfl
  | b :: r, l2, s, s1, i, h => by
    show (match dl s b with | none => (i, none) | some s2 => rdGo s2 (r ++ l2) (i + 1)) = _
    have h : (match dl s b with | none => none | some s2 => run s2 r) = some s1 := h
    cases hd : dl s b with
    | none => rw [hd] at h; cases h
    | some s2 =>
      rw [hd] at h
      show rdGo s2 (r ++ l2) (i + 1) = _
      rw [rdGo_run r l2 s2 s1 (i + 1) h]
      show rdGo s1 l2 (i + 1 + r.length) = rdGo s1 l2 (i + (r.length + 1))
      congr 1; omega
theorem run_ok : ∀ (l : List Nat) (s s1 : RS), aOk s → run s l = some s1 → aOk s1
  | [], s, s1, h, e => by cases e; exact h
  | b :: r, s, s1, h, e => by
    have e : (match dl s b with | none => none | some s2 => run s2 r) = some s1 := e
    cases hd : dl s b with
    | none => rw [hd] at e; cases e
    | some s2 => rw [hd] at e; exact run_ok r s2 s1 (aOk_dl h hd) e
theorem run_take {l : List Nat} {s s1 : RS} (h : run s l = some s1) (n : Nat) : ∃ s2, run s (l.take n) = some s2 := by
  rw [← List.take_append_drop n l, run_app] at h
  cases e : run s (l.take n) with
  | none => rw [e] at h; cases h
  | some s2 => exact ⟨s2, rfl⟩
theorem run_snoc {l : List Nat} {s s1 s2 : RS} {b : Nat} (h : run s l = some s1) (h2 : dl s1 b = some s2) : run s (l ++ [b]) = some s2 := by
  rw [run_app, h]
  show (match dl s1 b with | none => none | some s2 => run s2 []) = some s2
  rw [h2]; rfl
theorem run_next {l : List Nat} {s s1 s2 : RS} {n : Nat} (hn : n < l.length) (h : run s (l.take n) = some s1) (h2 : run s (l.take (n + 1)) = some s2) : dl s1 (l.getD n 0) = some s2 := by
  have e : l.take (n + 1) = l.take n ++ [l.getD n 0] := by
    rw [List.take_succ, List.getD_eq_getElem?_getD, List.getElem?_eq_getElem hn]; rfl
  rw [e, run_app, h] at h2
  have h2 : (match dl s1 (l.getD n 0) with | none => none | some s2 => run s2 []) = some s2 := h2
  cases hd : dl s1 (l.getD n 0) with
  | none => rw [hd] at h2; cases h2
  | some s3 => rw [hd] at h2; exact h2
theorem wlN_le (l : List Nat) : ∀ n, wlN l n ≤ n
  | 0 => Nat.le_refl 0
  | n + 1 => by
    unfold wlN
    split
    · exact Nat.le_refl _
    · exact Nat.le_succ_of_le (wlN_le l n)
theorem wlN_wh (l : List Nat) : ∀ n, wlN l n ≠ 0 → whB (run r0 (l.take (wlN l n))) = true
  | 0, h => absurd rfl h
  | n + 1, h => by
    by_cases c : whB (run r0 (l.take (n + 1))) = true
    · have e : wlN l (n + 1) = n + 1 := if_pos c
      rw [e]; exact c
    · have e : wlN l (n + 1) = wlN l n := if_neg c
      rw [e] at h ⊢
      exact wlN_wh l n h
theorem wlN_app (l : List Nat) (x : Nat) : ∀ n, n ≤ l.length → wlN (l ++ [x]) n = wlN l n
  | 0, _ => rfl
  | n + 1, h => by
    unfold wlN
    rw [List.take_append_of_le_length h, wlN_app l x n (by omega)]
theorem wlN_snoc {l : List Nat} {x : Nat} {s : RS} (h : run r0 (l ++ [x]) = some s) : wlN (l ++ [x]) (l.length + 1) = if rWhole s then l.length + 1 else wlN l l.length := by
  show (if whB (run r0 ((l ++ [x]).take (l.length + 1))) = true then l.length + 1 else wlN (l ++ [x]) l.length) = _
  rw [List.take_of_length_le (by simp), h, wlN_app l x _ (Nat.le_refl _)]
  show (if decide (rWhole s) = true then l.length + 1 else wlN l l.length) = _
  by_cases c : rWhole s
  · rw [if_pos c, if_pos (decide_eq_true c)]
  · rw [if_neg c, if_neg (by simp only [decide_eq_true_eq]; exact c)]
theorem lnR_some {tp : List Nat} (h : lnW tp ≠ 0) : ∃ s, lnR tp = some s ∧ run r0 ((byts (lnP tp).1).take (lnW tp)) = some s ∧ rWhole s := by
  have hw := wlN_wh (byts (lnP tp).1) (lnP tp).1.length h
  have hw : whB (run r0 ((byts (lnP tp).1).take (lnW tp))) = true := hw
  unfold lnR
  rw [if_neg h]
  cases e : run r0 ((byts (lnP tp).1).take (lnW tp)) with
  | none => rw [e] at hw; cases hw
  | some s => rw [e] at hw; exact ⟨s, rfl, rfl, of_decide_eq_true hw⟩
theorem byts_len (l : List (Nat × Nat)) : (byts l).length = l.length := List.length_map _
theorem plcs_len (l : List (Nat × Nat)) : (plcs l).length = l.length := List.length_map _
theorem byts_app (a b : List (Nat × Nat)) : byts (a ++ b) = byts a ++ byts b := List.map_append
theorem plcs_app (a b : List (Nat × Nat)) : plcs (a ++ b) = plcs a ++ plcs b := List.map_append
theorem byts_at (l : List (Nat × Nat)) (i : Nat) : (byts l).getD i 0 = (l.getD i (0, 0)).2 := by
  unfold byts
  simp only [List.getD_eq_getElem?_getD, List.getElem?_map]
  cases l[i]? <;> rfl
theorem plcs_at (l : List (Nat × Nat)) (i : Nat) : (plcs l).getD i 0 = (l.getD i (0, 0)).1 := by
  unfold plcs
  simp only [List.getD_eq_getElem?_getD, List.getElem?_map]
  cases l[i]? <;> rfl
theorem prs_len : ∀ (tp : List Nat) (i : Nat), (prs tp i).length = tp.length
  | [], _ => rfl
  | _ :: r, i => congrArg Nat.succ (prs_len r (i + 1))
theorem prs_by : ∀ (tp : List Nat) (i : Nat), byts (prs tp i) = tp
  | [], _ => rfl
  | b :: r, i => congrArg (b :: ·) (prs_by r (i + 1))
theorem prs_pl : ∀ (tp : List Nat) (i j : Nat), j < tp.length → (plcs (prs tp i)).getD j 0 = i + j
  | [], _, j, h => absurd h (Nat.not_lt_zero j)
  | b :: r, i, 0, _ => rfl
  | b :: r, i, j + 1, h => by
    show (plcs (prs r (i + 1))).getD j 0 = _
    rw [prs_pl r (i + 1) j (by simpa using h)]; omega
theorem prs_drop {tp : List Nat} {i : Nat} (h : i < tp.length) : prs (tp.drop i) i = (i, tp.getD i 0) :: prs (tp.drop (i + 1)) (i + 1) := by
  rw [drop_cons h]; rfl
/-- how far a text goes without a wrong byte -/
theorem lnK_adv : ∀ (rest K : List (Nat × Nat)) (s : RS), run r0 (byts K) = some s → ∃ K1 rest1 s1, K ++ rest = K1 ++ rest1 ∧ run r0 (byts K1) = some s1 ∧ (∀ g, lnK s rest K g = lnK s1 rest1 K1 g) ∧ (rest1 = [] ∨ ∃ x r, rest1 = x :: r ∧ dl s1 x.2 = none)
  | [], K, s, h => ⟨K, [], s, rfl, h, fun _ => rfl, Or.inl rfl⟩
  | x :: r, K, s, h => by
    cases hd : dl s x.2 with
    | none => exact ⟨K, x :: r, s, rfl, h, fun _ => rfl, Or.inr ⟨x, r, rfl, hd⟩⟩
    | some s1 =>
      obtain ⟨K1, r1, s2, e1, e2, e3, e4⟩ := lnK_adv r (K ++ [x]) s1 (by rw [byts_app]; exact run_snoc h hd)
      refine ⟨K1, r1, s2, by rw [← e1]; simp, e2, fun g => ?_, e4⟩
      rw [← e3 g]
      show (match dl s x.2 with | none => lnK s r K (g ++ [x.1]) | some s1 => lnK s1 r (K ++ [x]) g) = _
      rw [hd]
theorem rdS_end {K : List Nat} {s : RS} (h : run r0 K = some s) : rdS K = if rWhole s then (K.length, some s) else (K.length, none) := by
  have := rdGo_run K [] r0 s 0 h
  rw [List.append_nil, Nat.zero_add] at this
  exact this
theorem rdS_bad {K r : List Nat} {x : Nat} {s : RS} (h : run r0 K = some s) (hx : dl s x = none) : rdS (K ++ x :: r) = (K.length, none) := by
  have := rdGo_run K (x :: r) r0 s 0 h
  rw [Nat.zero_add] at this
  refine this.trans ?_
  show (match dl s x with | none => (K.length, none) | some s1 => rdGo s1 r (K.length + 1)) = _
  rw [hx]
