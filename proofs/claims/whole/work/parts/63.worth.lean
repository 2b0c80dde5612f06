/-! ===== what nodes are worth: pure ===== -/
def foN (nd : Nat → ND) : Nat → Nat → Int32
  | 0, _ => -1
  | m + 1, k => if nFi (nd k) = -1 ∧ k ≠ 0 then foN nd m (par nd k) else nFi (nd k)
/-- the field told by a node or the nearest around it -/
def fo (nd : Nat → ND) (k : Nat) : Int32 := foN nd 8 k
theorem foN_st {nd : Nat → ND} : ∀ (m k e : Nat), anc nd m k 0 → k < 2 ^ 31 → foN nd (m + 1 + e) k = foN nd (m + 1) k
  | 0, k, e, h, _ => by
    have h : k = 0 := h
    rw [show 0 + 1 + e = e + 1 by omega]
    show (if _ then _ else _) = (if _ then _ else _)
    rw [if_neg (fun q => q.2 h), if_neg (fun q => q.2 h)]
  | m + 1, k, e, ⟨a, h1, h2, h3⟩, hk => by
    rw [show m + 1 + 1 + e = (m + 1 + e) + 1 by omega]
    show (if _ then foN nd (m + 1 + e) (par nd k) else _) = (if _ then foN nd (m + 1) (par nd k) else _)
    rw [par_n h2 (by omega), foN_st m a e h3 (by omega)]
theorem fo_s {nd : Nat → ND} {m k a : Nat} (h : anc nd m a 0) (hm : m ≤ 6) (ha : nAr (nd k) = nI a) (h31 : a < 2 ^ 31) (hk : k ≠ 0) : fo nd k = if nFi (nd k) = -1 then fo nd a else nFi (nd k) := by
  show (if nFi (nd k) = -1 ∧ k ≠ 0 then foN nd 7 (par nd k) else nFi (nd k)) = _
  have e : foN nd 7 a = fo nd a := by
    have e1 := foN_st m a (7 - (m + 1)) h h31
    have e2 := foN_st m a (8 - (m + 1)) h h31
    rw [show m + 1 + (7 - (m + 1)) = 7 by omega] at e1
    rw [show m + 1 + (8 - (m + 1)) = 8 by omega] at e2
    exact e1.trans e2.symm
  rw [par_n ha h31, e]
  by_cases c : nFi (nd k) = -1
  · rw [if_pos ⟨c, hk⟩, if_pos c]
  · rw [if_neg (fun q => c q.1), if_neg c]
theorem fo_0 (nd : Nat → ND) : fo nd 0 = nFi (nd 0) := by
  show (if nFi (nd 0) = -1 ∧ (0 : Nat) ≠ 0 then _ else _) = _
  rw [if_neg (fun q => q.2 rfl)]
/-! values: none does not fit -/
abbrev GS : Type := Bool × Nat × Nat × Nat × Nat
def flt (x : ND) (v : Option Nat) : Bool := (decide (nMa x = 1) && v.isNone) || (decide (nMa x = 2) && v.isSome)
def gSt (x : ND) (v : Option Nat) (s : GS) : GS :=
  (s.1 && !flt x v, s.2.1 + (if nMa x = 1 then 1 else 0), s.2.2.1 + (if nMa x = 0 then 1 else 0), s.2.2.2.1 + (if nMa x = 0 ∧ v.isSome = true then 1 else 0), s.2.2.2.2 + (if nMa x = 2 then 0 else v.getD 0))
def gS (nd : Nat → ND) (T : Nat → Option Nat) (k : Nat) : Nat → GS
  | 0 => (true, 0, 0, 0, 0)
  | m + 1 => if nAr (nd (k + 1 + m)) = nI k then gSt (nd (k + 1 + m)) (T (k + 1 + m)) (gS nd T k m) else gS nd T k m
def lst (x : ND) (s : GS) : Int32 := if nDe x = -1 then (if 0 < s.2.1 ∨ s.2.2.1 = 0 then 0 else 1) else nDe x
def bo (x : ND) : Nat := (nBo x).toNatClampNeg
def gV (x : ND) (s : GS) : Option Nat := if s.1 = true ∧ ¬ nI s.2.2.2.1 < lst x s then some (bo x * s.2.2.2.2) else none
def lV (x : ND) (c : Nat) : Option Nat := if c = 0 then none else some (bo x * c)
def nV (nd : Nat → ND) (n : Nat) (dc : Nat → List (List Nat)) (D : Nat) (T : Nat → Option Nat) (k : Nat) : Option Nat := if nCo (nd k) = 3 then gV (nd k) (gS nd T k (n - 1 - k)) else lV (nd k) (cntD (nd k) (fo nd k) dc D 4)
/-- the values of the last r nodes -/
def vT (nd : Nat → ND) (n : Nat) (dc : Nat → List (List Nat)) (D : Nat) : Nat → Nat → Option Nat
  | 0 => fun _ => none
  | r + 1 => fun c => if c = n - 1 - r then nV nd n dc D (vT nd n dc D r) c else vT nd n dc D r c
theorem vT_st (nd : Nat → ND) (n : Nat) (dc : Nat → List (List Nat)) (D : Nat) {r c : Nat} (hc : n - r ≤ c) : ∀ m, r + m ≤ n → vT nd n dc D (r + m) c = vT nd n dc D r c
  | 0, _ => rfl
  | m + 1, h => by
    show (if c = n - 1 - (r + m) then _ else vT nd n dc D (r + m) c) = _
    rw [if_neg (by omega)]
    exact vT_st nd n dc D hc m (by omega)
def cV (v : Option Nat) : Int64 := match v with
  | none => -1
  | some w => lN w
def mI (v : Option Nat) : Int32 := match v with
  | none => 0
  | some _ => 1
def mL (v : Option Nat) : Int64 := match v with
  | none => 0
  | some w => lN w
/-! a bound -/
def sm (f : Nat → Nat) : Nat → Nat
  | 0 => 0
  | m + 1 => sm f m + f m
theorem sm_le {f g : Nat → Nat} : ∀ m, (∀ j, j < m → f j ≤ g j) → sm f m ≤ sm g m
  | 0, _ => Nat.le_refl 0
  | m + 1, h => Nat.add_le_add (sm_le m (fun j hj => h j (by omega))) (h m (by omega))
theorem sm_add (f g : Nat → Nat) : ∀ m, sm (fun j => f j + g j) m = sm f m + sm g m
  | 0 => rfl
  | m + 1 => by show sm _ m + (f m + g m) = sm f m + f m + (sm g m + g m); rw [sm_add f g m]; omega
theorem sm_mul (a : Nat) (f : Nat → Nat) : ∀ m, sm (fun j => a * f j) m = a * sm f m
  | 0 => rfl
  | m + 1 => by show sm _ m + a * f m = a * (sm f m + f m); rw [sm_mul a f m, Nat.mul_add]
theorem sm_at (f : Nat → Nat) : ∀ (m j : Nat), j < m → f j ≤ sm f m
  | 0, _, h => absurd h (Nat.not_lt_zero _)
  | m + 1, j, h => by
    show f j ≤ sm f m + f m
    by_cases c : j = m
    · rw [c]; omega
    · have := sm_at f m j (by omega); omega
theorem sm_one (k a : Nat) : ∀ m, sm (fun j => if j = k then a else 0) m = if k < m then a else 0
  | 0 => by rw [if_neg (Nat.not_lt_zero _)]; rfl
  | m + 1 => by
    show sm _ m + (if m = k then a else 0) = _
    rw [sm_one k a m]
    by_cases c : m = k
    · rw [if_neg (by omega), if_pos c, if_pos (by omega)]; omega
    · rw [if_neg c]
      by_cases d : k < m
      · rw [if_pos d, if_pos (by omega)]; rfl
      · rw [if_neg d, if_neg (by omega)]
theorem gS_sum (nd : Nat → ND) (T : Nat → Option Nat) (k : Nat) : ∀ m, (gS nd T k m).2.2.2.2 ≤ sm (fun j => if k < j ∧ nAr (nd j) = nI k then (T j).getD 0 else 0) (k + 1 + m)
  | 0 => Nat.zero_le _
  | m + 1 => by
    have ih := gS_sum nd T k m
    show (gS nd T k (m + 1)).2.2.2.2 ≤ sm _ (k + 1 + m) + (if k < k + 1 + m ∧ nAr (nd (k + 1 + m)) = nI k then (T (k + 1 + m)).getD 0 else 0)
    unfold gS
    by_cases c : nAr (nd (k + 1 + m)) = nI k
    · rw [if_pos c, if_pos ⟨by omega, c⟩]
      show (gS nd T k m).2.2.2.2 + (if nMa (nd (k + 1 + m)) = 2 then 0 else (T (k + 1 + m)).getD 0) ≤ _
      split <;> omega
    · rw [if_neg c, if_neg (fun q => c q.2)]; exact ih
theorem gS_cnt (nd : Nat → ND) (T : Nat → Option Nat) (k : Nat) : ∀ m, (gS nd T k m).2.1 ≤ m ∧ (gS nd T k m).2.2.1 ≤ m ∧ (gS nd T k m).2.2.2.1 ≤ m
  | 0 => ⟨Nat.le_refl 0, Nat.le_refl 0, Nat.le_refl 0⟩
  | m + 1 => by
    obtain ⟨a, b, c⟩ := gS_cnt nd T k m
    unfold gS
    by_cases e : nAr (nd (k + 1 + m)) = nI k
    · rw [if_pos e]
      show (gS nd T k m).2.1 + (if nMa (nd (k + 1 + m)) = 1 then 1 else 0) ≤ m + 1 ∧ (gS nd T k m).2.2.1 + (if nMa (nd (k + 1 + m)) = 0 then 1 else 0) ≤ m + 1 ∧ (gS nd T k m).2.2.2.1 + (if _ then 1 else 0) ≤ m + 1
      refine ⟨?_, ?_, ?_⟩ <;> split <;> omega
    · rw [if_neg e]; omega
def dpt (nd : Nat → ND) (k : Nat) : Nat := stp nd 7 k 0
/-- a tree that was read, with the depth of its nodes -/
def DT (nd : Nat → ND) (n : Nat) : Prop := n ≤ 25 ∧ (∀ k, k < n → bo (nd k) ≤ 99 ∧ nBo (nd k) = nI (bo (nd k)) ∧ dpt nd k ≤ 6) ∧ nAr (nd 0) = -1 ∧ ∀ k, 1 ≤ k → k < n → ∃ a m, a < k ∧ nAr (nd k) = nI a ∧ dpt nd k = dpt nd a + 1 ∧ m ≤ 5 ∧ anc nd m a 0
def trm (nd : Nat → ND) (n r : Nat) (T : Nat → Option Nat) (j : Nat) : Nat := if n - r ≤ j ∧ (j = 0 ∨ par nd j < n - r) then (T j).getD 0 * 99 ^ dpt nd j else 0
theorem nV_le {nd : Nat → ND} {n : Nat} {dc : Nat → List (List Nat)} {D : Nat} (T : Nat → Option Nat) (hd : DT nd n) (hdl : ∀ r, r < 32 → (dc r).length ≤ 12) (hD : D < 8) {k : Nat} (hk : k < n) : (nV nd n dc D T k).getD 0 ≤ 99 * 48 ∨ (nV nd n dc D T k).getD 0 ≤ 99 * sm (fun j => if k < j ∧ nAr (nd j) = nI k then (T j).getD 0 else 0) n := by
  have hb := (hd.2.1 k hk).1
  unfold nV
  split
  · right
    unfold gV
    split
    · have := gS_sum nd T k (n - 1 - k)
      rw [show k + 1 + (n - 1 - k) = n by omega] at this
      exact Nat.mul_le_mul hb this
    · exact Nat.zero_le _
  · left
    unfold lV
    split
    · exact Nat.zero_le _
    · have := cntD_le (x := nd k) (told := fo nd k) hdl hD 4 (Nat.le_refl _)
      exact Nat.mul_le_mul hb this
theorem trm_le {nd : Nat → ND} {n : Nat} {dc : Nat → List (List Nat)} {D : Nat} (hd : DT nd n) (hdl : ∀ r, r < 32 → (dc r).length ≤ 12) (hD : D < 8) : ∀ r, r ≤ n → sm (trm nd n r (vT nd n dc D r)) n ≤ r * (48 * 99 ^ 7)
  | 0, _ => by
    have e : sm (trm nd n 0 (vT nd n dc D 0)) n ≤ sm (fun j => if j = n then 0 else 0) n := by
      refine sm_le n (fun j hj => ?_)
      unfold trm
      rw [if_neg (by omega)]
      exact Nat.zero_le _
    rw [sm_one] at e
    rw [Nat.zero_mul]
    refine Nat.le_trans e ?_
    split <;> omega
  | r + 1, hr => by
    have ih := trm_le hd hdl hD r (by omega)
    obtain ⟨k, hk⟩ : ∃ k, k = n - 1 - r := ⟨_, rfl⟩
    obtain ⟨T, hT⟩ : ∃ T, T = vT nd n dc D r := ⟨_, rfl⟩
    have hkn : k < n := by omega
    have hdk := (hd.2.1 k hkn).2.2
    have e1 : vT nd n dc D (r + 1) = fun c => if c = k then nV nd n dc D T c else T c := by rw [hk, hT]; rfl
    have key : sm (trm nd n (r + 1) (vT nd n dc D (r + 1))) n + 99 ^ (dpt nd k + 1) * sm (fun j => if k < j ∧ nAr (nd j) = nI k then (T j).getD 0 else 0) n ≤ sm (trm nd n r T) n + (nV nd n dc D T k).getD 0 * 99 ^ dpt nd k := by
      have e2 : sm (fun j => if j = k then (nV nd n dc D T k).getD 0 * 99 ^ dpt nd k else 0) n = (nV nd n dc D T k).getD 0 * 99 ^ dpt nd k := by rw [sm_one, if_pos hkn]
      rw [← e2, ← sm_mul, ← sm_add, ← sm_add]
      refine sm_le n (fun j hj => ?_)
      rw [e1]
      unfold trm
      show (if n - (r + 1) ≤ j ∧ (j = 0 ∨ par nd j < n - (r + 1)) then (if j = k then nV nd n dc D T j else T j).getD 0 * 99 ^ dpt nd j else 0) + _ ≤ _
      rw [show n - (r + 1) = k by omega, show n - r = k + 1 by omega]
      by_cases c : j = k
      · subst c
        rw [if_pos rfl, if_pos rfl, if_neg (show ¬ (j < j ∧ nAr (nd j) = nI j) by omega), Nat.mul_zero]
        split <;> omega
      · rw [if_neg c, if_neg c]
        by_cases c2 : k < j
        · obtain ⟨a, m, g1, g2, g3, _⟩ := hd.2.2.2 j (by omega) hj
          have hn25 := hd.1
          rw [par_n g2 (by omega), g2]
          by_cases c3 : a = k
          · subst c3
            rw [if_neg (by omega), if_pos ⟨c2, rfl⟩, if_pos (by omega), g3, Nat.mul_comm]; omega
          · rw [if_neg (show ¬ (k < j ∧ nI a = nI k) from fun q => c3 (nI_e (by omega) (by omega) q.2)), Nat.mul_zero]
            by_cases c4 : a < k
            · rw [if_pos (by omega), if_pos (by omega)]; omega
            · rw [if_neg (by omega)]; omega
        · rw [if_neg (show ¬ (k ≤ j ∧ _) by omega), if_neg (show ¬ (k < j ∧ _) by omega), Nat.mul_zero]; omega
    rw [← hT] at ih
    have hx : (nV nd n dc D T k).getD 0 * 99 ^ dpt nd k ≤ 99 ^ (dpt nd k + 1) * sm (fun j => if k < j ∧ nAr (nd j) = nI k then (T j).getD 0 else 0) n + 48 * 99 ^ 7 := by
      have hp : 99 ^ dpt nd k ≤ 99 ^ 6 := Nat.pow_le_pow_right (by decide) hdk
      rcases nV_le (dc := dc) (D := D) T hd hdl hD hkn with h | h
      · have := Nat.mul_le_mul h hp
        rw [show 99 * 48 * 99 ^ 6 = 48 * 99 ^ 7 by decide] at this
        omega
      · have := Nat.mul_le_mul_right (99 ^ dpt nd k) h
        rw [Nat.pow_succ, Nat.mul_comm (99 ^ dpt nd k) 99, Nat.mul_assoc 99 (99 ^ dpt nd k), Nat.mul_comm (99 ^ dpt nd k), ← Nat.mul_assoc]
        omega
    rw [Nat.add_mul]
    omega
theorem vT_lt {nd : Nat → ND} {n : Nat} {dc : Nat → List (List Nat)} {D : Nat} (hd : DT nd n) (hdl : ∀ r, r < 32 → (dc r).length ≤ 12) (hD : D < 8) {r c w : Nat} (hr : r ≤ n) (hc : n - r ≤ c) (hcn : c < n) (hw : vT nd n dc D r c = some w) : w < 2 ^ 62 := by
  have h0 : vT nd n dc D (n - c) c = some w := by
    have := vT_st nd n dc D (r := n - c) (c := c) (by omega) (r - (n - c)) (by omega)
    rw [show n - c + (r - (n - c)) = r by omega] at this
    rw [← this]; exact hw
  have h1 := trm_le hd hdl hD (n - c) (by omega)
  have h2 := sm_at (trm nd n (n - c) (vT nd n dc D (n - c))) n c hcn
  have h3 : w ≤ trm nd n (n - c) (vT nd n dc D (n - c)) c := by
    unfold trm
    rw [h0, if_pos ⟨by omega, by
      by_cases z : c = 0
      · exact Or.inl z
      · right
        obtain ⟨a, m, g1, g2, g3⟩ := hd.2.2.2 c (by omega) hcn
        have := hd.1
        rw [par_n g2 (by omega)]; omega⟩]
    exact Nat.le_mul_of_pos_right w (Nat.pow_pos (by decide))
  have hn25 := hd.1
  have h4 : (n - c) * (48 * 99 ^ 7) ≤ 25 * (48 * 99 ^ 7) := Nat.mul_le_mul_right _ (by omega)
  have e : 25 * (48 * 99 ^ 7) < 2 ^ 62 := by decide
  omega
/-- the tree of a query that was read -/
theorem QOk.dt {n : Nat} {nd : Nat → ND} (h : QOk (n, nd)) (hn : n ≠ 0) : DT nd n := by
  rcases h with h | ⟨h1, h2, h3, h4, h5, _⟩
  · exact absurd h hn
  · have h1 : 1 ≤ n := h1
    have h2 : n ≤ 25 := h2
    have hpt : ∀ k, 1 ≤ k → k < n → ∃ a m, a < k ∧ nAr (nd k) = nI a ∧ m ≤ 5 ∧ anc nd m a 0 := fun k k1 k2 => by
      obtain ⟨a, d, m, g1, g2, g3, g4, _⟩ := h3 k k1 k2
      exact ⟨a, d, g1, g2, g3, chn_anc d a g4⟩
    refine ⟨h2, fun k hk => ?_, h4.2.2.2.2.2.1, fun k k1 k2 => ?_⟩
    · have hb : ∃ b, b ≤ 99 ∧ nBo (nd k) = nI b := by
        by_cases c : k = 0
        · rw [c]; exact ⟨1, by decide, h4.2.2.1⟩
        · exact (h5 k (by omega) hk).1.2.1
      obtain ⟨b, b1, b2⟩ := hb
      have e : bo (nd k) = b := by unfold bo; rw [b2]; exact nI_clamp (by omega)
      rw [e]
      refine ⟨b1, b2, ?_⟩
      by_cases c : k = 0
      · rw [c]; have : dpt nd 0 = 0 := stp_anc 0 7 0 0 rfl (by decide) (by decide); omega
      · obtain ⟨a, m, g1, g2, g3, g4⟩ := hpt k (by omega) hk
        have : dpt nd k = m + 1 := stp_anc (m + 1) 7 k 0 ⟨a, g1, g2, g4⟩ (by omega) (by omega)
        omega
    · obtain ⟨a, m, g1, g2, g3, g4⟩ := hpt k k1 k2
      have e1 : dpt nd k = m + 1 := stp_anc (m + 1) 7 k 0 ⟨a, g1, g2, g4⟩ (by omega) (by omega)
      have e2 : dpt nd a = m := stp_anc m 7 a 0 g4 (by omega) (by omega)
      exact ⟨a, m, g1, g2, by omega, g3, g4⟩
