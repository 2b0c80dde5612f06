/-! ===== how words fit: pure ===== -/
def edRow (prev : Nat → Nat) (i : Nat) (v w : List Nat) : Nat → Nat
  | 0 => i + 1
  | j + 1 => min (prev j + (if v.getD i 0 = w.getD j 0 then 0 else 1)) (1 + min (prev (j + 1)) (edRow prev i v w j))
/-- how many changes make the first j of w from the first i of v -/
def ed (v w : List Nat) : Nat → Nat → Nat
  | 0 => fun j => j
  | i + 1 => edRow (ed v w i) i v w
theorem ed_0 (v w : List Nat) (j : Nat) : ed v w 0 j = j := rfl
theorem ed_s0 (v w : List Nat) (i : Nat) : ed v w i 0 = i := by cases i <;> rfl
theorem ed_ss (v w : List Nat) (i j : Nat) : ed v w (i + 1) (j + 1) = min (ed v w i j + (if v.getD i 0 = w.getD j 0 then 0 else 1)) (1 + min (ed v w i (j + 1)) (ed v w (i + 1) j)) := rfl
theorem ed_le (v w : List Nat) : ∀ i j, ed v w i j ≤ i + j
  | 0, j => by rw [ed_0]; omega
  | i + 1, 0 => by rw [ed_s0]; omega
  | i + 1, j + 1 => by
    rw [ed_ss]
    have := ed_le v w i (j + 1)
    omega
def pmRow (prev : Nat → Bool) (s : Nat) (v : List Nat) : Nat → Bool
  | 0 => if s = 42 then prev 0 else false
  | i + 1 => if s = 42 then prev (i + 1) || pmRow prev s v i else prev i && (s == 63 || s == v.getD i 0)
/-- the first j signs of w stand for the first i letters of v -/
def pmN (v w : List Nat) : Nat → Nat → Bool
  | 0 => fun i => i == 0
  | j + 1 => pmRow (pmN v w j) (w.getD j 0) v
def agn : List Nat → List Nat → Int
  | [], [] => 0
  | [], _ :: r => -((r.length : Int) + 1)
  | _ :: r, [] => (r.length : Int) + 1
  | a :: v, b :: w => if a = b then agn v w else (a : Int) - (b : Int)
theorem packN_0 (s : Nat) : packN s [] = 0 := by cases s <;> rfl
theorem packN_c (s b : Nat) (r : List Nat) : packN s (b :: r) = b * 256 ^ s + packN (s - 1) r := by cases s <;> rfl
theorem packN_b {s : Nat} {l : List Nat} (hl : l.length ≤ s) (hb : ∀ x ∈ l, x < 256) : packN (s - 1) l < 256 ^ s := by
  cases s with
  | zero =>
    have : l = [] := List.eq_nil_of_length_eq_zero (by omega)
    rw [this, packN_0]; decide
  | succ s => exact packN_lt s l (by omega) hb
theorem agn_pack : ∀ (v w : List Nat) (s : Nat), v.length ≤ s + 1 → w.length ≤ s + 1 → (∀ x ∈ v, x < 256 ∧ 0 < x) → (∀ x ∈ w, x < 256 ∧ 0 < x) → (agn v w < 0 ↔ packN s v < packN s w) ∧ (agn v w = 0 ↔ packN s v = packN s w)
  | [], [], s, _, _, _, _ => by
    rw [packN_0]
    show ((0 : Int) < 0 ↔ _) ∧ ((0 : Int) = 0 ↔ _)
    simp
  | [], b :: r, s, _, _, _, hw => by
    have hb := (hw b List.mem_cons_self).2
    have hp : 0 < b * 256 ^ s := Nat.mul_pos hb (Nat.pow_pos (by decide))
    rw [packN_0, packN_c]
    show (-((r.length : Int) + 1) < 0 ↔ _) ∧ (-((r.length : Int) + 1) = 0 ↔ _)
    constructor <;> constructor <;> intro h <;> omega
  | a :: r, [], s, _, _, hv, _ => by
    have hb := (hv a List.mem_cons_self).2
    have hp : 0 < a * 256 ^ s := Nat.mul_pos hb (Nat.pow_pos (by decide))
    rw [packN_0, packN_c]
    show ((r.length : Int) + 1 < 0 ↔ _) ∧ ((r.length : Int) + 1 = 0 ↔ _)
    constructor <;> constructor <;> intro h <;> omega
  | a :: v, b :: w, s, h1, h2, hv, hw => by
    simp only [List.length_cons] at h1 h2
    have b1 := packN_b (s := s) (l := v) (by omega) (fun x hx => (hv x (List.mem_cons_of_mem _ hx)).1)
    have b2 := packN_b (s := s) (l := w) (by omega) (fun x hx => (hw x (List.mem_cons_of_mem _ hx)).1)
    rw [packN_c, packN_c]
    show ((if a = b then agn v w else (a : Int) - (b : Int)) < 0 ↔ _) ∧ ((if a = b then agn v w else (a : Int) - (b : Int)) = 0 ↔ _)
    by_cases e : a = b
    · subst e
      rw [if_pos rfl]
      cases s with
      | zero =>
        have ev : v = [] := List.eq_nil_of_length_eq_zero (by omega)
        have ew : w = [] := List.eq_nil_of_length_eq_zero (by omega)
        rw [ev, ew]
        show ((0 : Int) < 0 ↔ _) ∧ ((0 : Int) = 0 ↔ _)
        simp
      | succ s =>
        obtain ⟨q1, q2⟩ := agn_pack v w s (by omega) (by omega) (fun x hx => hv x (List.mem_cons_of_mem _ hx)) (fun x hx => hw x (List.mem_cons_of_mem _ hx))
        rw [Nat.add_sub_cancel]
        refine ⟨q1.trans ?_, q2.trans ?_⟩
        · constructor <;> intro h <;> omega
        · constructor <;> intro h <;> omega
    · rw [if_neg e]
      have key : ∀ (x y p q P : Nat), p < P → q < P → x < y → x * P + p < y * P + q := fun x y p q P hp hq hxy => by
        have : (x + 1) * P ≤ y * P := Nat.mul_le_mul_right P hxy
        rw [Nat.add_mul, Nat.one_mul] at this
        omega
      rcases Nat.lt_or_gt_of_ne e with h | h
      · have := key a b _ _ _ b1 b2 h
        constructor <;> constructor <;> intro _ <;> omega
      · have := key b a _ _ _ b2 b1 h
        constructor <;> constructor <;> intro _ <;> omega
theorem agn_0 : ∀ (v w : List Nat), agn v w = 0 → v = w
  | [], [], _ => rfl
  | [], b :: r, h => by have h : -((r.length : Int) + 1) = 0 := h; omega
  | a :: r, [], h => by have h : (r.length : Int) + 1 = 0 := h; omega
  | a :: v, b :: w, h => by
    have h : (if a = b then agn v w else (a : Int) - (b : Int)) = 0 := h
    by_cases e : a = b
    · rw [if_pos e] at h; rw [e, agn_0 v w h]
    · rw [if_neg e] at h; omega
theorem agn_refl : ∀ (v : List Nat), agn v v = 0
  | [] => rfl
  | a :: v => by show (if a = a then agn v v else _) = 0; rw [if_pos rfl]; exact agn_refl v
abbrev okL (w : List Nat) : Prop := w.length ≤ 8 ∧ ∀ x ∈ w, x < 128 ∧ 0 < x
theorem okL_256 {w : List Nat} (h : okL w) : ∀ x ∈ w, x < 256 ∧ 0 < x := fun x hx => ⟨by have := (h.2 x hx).1; omega, (h.2 x hx).2⟩
theorem pk63 {w : List Nat} (h : okL w) : packN 7 w < 2 ^ 63 := by
  match w, h with
  | [], _ => decide
  | a :: r, h =>
    have h1 := h.1
    simp only [List.length_cons] at h1
    have ha := (h.2 a List.mem_cons_self).1
    have b1 := packN_b (s := 7) (l := r) (by omega) (fun x hx => by have := (h.2 x (List.mem_cons_of_mem _ hx)).1; omega)
    rw [packN_c]
    have : a * 256 ^ 7 ≤ 127 * 256 ^ 7 := Nat.mul_le_mul_right _ (by omega)
    have e : (2 : Nat) ^ 63 = 128 * 256 ^ 7 := by decide
    rw [e]
    omega
theorem lNlt {a b : Nat} (ha : a < 2 ^ 63) (hb : b < 2 ^ 63) : lN a < lN b ↔ a < b := by
  rw [Int64.lt_iff_toInt_lt]
  have e : ∀ n, n < 2 ^ 63 → (lN n).toInt = (n : Int) := fun n hn => by
    show (Int64.ofNat n).toInt = _
    rw [Int64.toInt_ofNat', Int.bmod_def]
    simp only [show Int64.size = 18446744073709551616 from rfl]
    split <;> omega
  rw [e a ha, e b hb]; omega
theorem lNle {a b : Nat} (ha : a < 2 ^ 63) (hb : b < 2 ^ 63) : lN a ≤ lN b ↔ a ≤ b := by
  rw [← Int64.not_lt, lNlt hb ha]; omega
theorem lNeq {a b : Nat} (ha : a < 2 ^ 63) (hb : b < 2 ^ 63) : lN a = lN b ↔ a = b := by
  constructor
  · intro h
    have h1 : ¬ a < b := fun q => by have := (lNlt ha hb).mpr q; rw [h] at this; exact Int64.lt_irrefl this
    have h2 : ¬ b < a := fun q => by have := (lNlt hb ha).mpr q; rw [h] at this; exact Int64.lt_irrefl this
    omega
  · intro h; rw [h]
theorem pack_eq {v w : List Nat} (hv : okL v) (hw : okL w) : pack v = pack w ↔ v = w := by
  constructor
  · intro h
    have := (lNeq (pk63 hv) (pk63 hw)).mp h
    exact agn_0 v w ((agn_pack v w 7 hv.1 hw.1 (okL_256 hv) (okL_256 hw)).2.mpr this)
  · intro h; rw [h]
/-- whether a word of a document fits a WORD or a SPAN -/
def fitW (x : ND) (v : List Nat) : Bool :=
  if nCo x = 2 then (if nDe x = 1 then decide (agn v (nWd x 0) > 0) && decide (agn v (nWd x 1) < 0) else decide (agn v (nWd x 0) ≥ 0) && decide (agn v (nWd x 1) ≤ 0))
  else if 0 < nDe x then decide (nI (ed v (nWd x 0) v.length (nWd x 0).length) ≤ nDe x) else pmN v (nWd x 0) (nWd x 0).length v.length
/-! greedy search of a quote's words -/
def fS (L W : List (List Nat)) (first : Nat) : Nat → Nat
  | 0 => 0
  | k + 1 => if fS L W first k < W.length ∧ first + k < L.length ∧ L.getD (first + k) [] = W.getD (fS L W first k) [] then fS L W first k + 1 else fS L W first k
theorem fS_le (L W : List (List Nat)) (first : Nat) : ∀ k, fS L W first k ≤ W.length ∧ fS L W first k ≤ k
  | 0 => ⟨Nat.zero_le _, Nat.le_refl _⟩
  | k + 1 => by
    have := fS_le L W first k
    unfold fS
    split <;> omega
theorem fS_mono (L W : List (List Nat)) (first : Nat) : ∀ (k m : Nat), fS L W first k ≤ fS L W first (k + m)
  | _, 0 => Nat.le_refl _
  | k, m + 1 => by
    refine Nat.le_trans (fS_mono L W first k m) ?_
    rw [show k + (m + 1) = (k + m) + 1 by omega]
    conv => rhs; unfold fS
    split <;> omega
def qLast (L W : List (List Nat)) (first sl : Nat) : Nat := min L.length (first + W.length + sl)
def fitQ (L W : List (List Nat)) (first sl : Nat) : Bool := decide (L.getD first [] = W.getD 0 []) && decide (fS L W first (qLast L W first sl - first) = W.length)
def fitP (x : ND) (L : List (List Nat)) (p : Nat) : Bool := if nCo x = 1 then fitQ L (nWo x) p (nDe x).toNatClampNeg else fitW x (L.getD p [])
/-- how many places of a field fit -/
def cntF (x : ND) (L : List (List Nat)) : Nat → Nat
  | 0 => 0
  | p + 1 => cntF x L p + (if fitP x L p = true then 1 else 0)
theorem cntF_le (x : ND) (L : List (List Nat)) : ∀ p, cntF x L p ≤ p
  | 0 => Nat.le_refl 0
  | p + 1 => by have := cntF_le x L p; unfold cntF; split <;> omega
def cntD (x : ND) (told : Int32) (dc : Nat → List (List Nat)) (D : Nat) : Nat → Nat
  | 0 => 0
  | f + 1 => cntD x told dc D f + (if told = -1 ∨ told = nI f then cntF x (dc (4 * D + f)) (dc (4 * D + f)).length else 0)
theorem cntD_le {x : ND} {told : Int32} {dc : Nat → List (List Nat)} {D : Nat} (h : ∀ r, r < 32 → (dc r).length ≤ 12) (hD : D < 8) : ∀ f, f ≤ 4 → cntD x told dc D f ≤ 12 * f
  | 0, _ => Nat.le_refl 0
  | f + 1, hf => by
    have h1 := cntD_le (x := x) (told := told) h hD f (by omega)
    have h2 := h (4 * D + f) (by omega)
    have h3 := cntF_le x (dc (4 * D + f)) (dc (4 * D + f)).length
    unfold cntD
    split <;> omega
