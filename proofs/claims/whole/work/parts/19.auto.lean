/-! ===== the reading automaton ===== -/
abbrev RS : Type := (Nat × Nat × Nat × Nat × Nat × Nat × Bool × Nat) × (Nat → ND)
def qSt (s : RS) : Nat := s.1.1
def qDep (s : RS) : Nat := s.1.2.1
def qOp (s : RS) : Nat := s.1.2.2.1
def qCn (s : RS) : Nat := s.1.2.2.2.1
def qWn (s : RS) : Nat := s.1.2.2.2.2.1
def qSg (s : RS) : Nat := s.1.2.2.2.2.2.1
def qPl (s : RS) : Bool := s.1.2.2.2.2.2.2.1
def qCu (s : RS) : Nat := s.1.2.2.2.2.2.2.2
def qNd (s : RS) : Nat → ND := s.2
def mkR (st dep opn cnt wn sg : Nat) (pl : Bool) (cur : Nat) (nd : Nat → ND) : RS := ((st, dep, opn, cnt, wn, sg, pl, cur), nd)
abbrev isLt (b : Nat) : Prop := 97 ≤ b ∧ b ≤ 122
abbrev isSg (b : Nat) : Prop := isLt b ∨ b = 63 ∨ b = 42
abbrev isFg (b : Nat) : Prop := 48 ≤ b ∧ b ≤ 57
def mkN (co ma bo fi de ar : Int32) (ki : Nat) (wo : List (List Nat)) : ND := (co, ma, bo, fi, de, ar, ki, wo)
def nsCo (x : ND) (v : Int32) : ND := mkN v (nMa x) (nBo x) (nFi x) (nDe x) (nAr x) (nKi x) (nWo x)
def nsBo (x : ND) (v : Int32) : ND := mkN (nCo x) (nMa x) v (nFi x) (nDe x) (nAr x) (nKi x) (nWo x)
def nsFi (x : ND) (v : Int32) : ND := mkN (nCo x) (nMa x) (nBo x) v (nDe x) (nAr x) (nKi x) (nWo x)
def nsDe (x : ND) (v : Int32) : ND := mkN (nCo x) (nMa x) (nBo x) (nFi x) v (nAr x) (nKi x) (nWo x)
def nsKi (x : ND) (v : Nat) : ND := mkN (nCo x) (nMa x) (nBo x) (nFi x) (nDe x) (nAr x) v (nWo x)
def nsWo (x : ND) (v : List (List Nat)) : ND := mkN (nCo x) (nMa x) (nBo x) (nFi x) (nDe x) (nAr x) (nKi x) v
def addB (ws : List (List Nat)) (j b : Nat) : List (List Nat) := if j < ws.length then ws.set j (ws.getD j [] ++ [b]) else ws ++ [[b]]
def rGo (s : RS) (n : Nat) : RS := mkR n (qDep s) (qOp s) (qCn s) (qWn s) (qSg s) (qPl s) (qCu s) (qNd s)
def rNd (s : RS) (x : ND) : RS := mkR (qSt s) (qDep s) (qOp s) (qCn s) (qWn s) (qSg s) (qPl s) (qCu s) (va_up (qNd s) (qCu s) x)
def rCur (s : RS) : ND := qNd s (qCu s)
def rClose (s : RS) : Option RS := if qDep s = 0 then none else some (mkR 13 (qDep s - 1) (nAr (qNd s (qOp s))).toNatClampNeg (qCn s) (qWn s) (qSg s) (qPl s) (qOp s) (qNd s))
def rEnd (s : RS) (b : Nat) : Option RS := if b = 32 then some (rGo s 0) else if b = 41 then rClose s else none
def rTail (s : RS) (b : Nat) : Option RS := if b = 94 then some (rGo s 16) else rEnd s b
def rWord (s : RS) (n nx : Nat) : RS := mkR nx (qDep s) (qOp s) (qCn s) n 0 true (qCu s) (qNd s)
def rSign (s : RS) (b : Nat) : RS := mkR (qSt s) (qDep s) (qOp s) (qCn s) (qWn s) (qSg s + 1) (qPl s && decide (isLt b)) (qCu s) (va_up (qNd s) (qCu s) (nsWo (rCur s) (addB (nWo (rCur s)) (qWn s) b)))
def rLet (s : RS) (b nx : Nat) : Option RS := if qSg s < 8 ∧ isLt b then some (rGo (rSign s b) nx) else none
def rDet (s : RS) (b lo hi : Nat) : Option RS := if lo ≤ b ∧ b ≤ hi then some (rGo (rNd s (nsDe (rCur s) (nI b - 48))) 15) else none
abbrev rCan (s : RS) (b nw : Nat) : Prop := (b = 40 ∧ qDep s < 5 ∧ qCn s + (nw + 1) ≤ 25) ∨ (b ≠ 40 ∧ qCn s + nw ≤ 25 ∧ (isSg b ∨ b = 34 ∨ b = 91 ∨ b = 123))
def rOpen (s : RS) : RS := mkR 0 (qDep s + 1) (qCn s - 1) (qCn s) (qWn s) (qSg s) (qPl s) (qCu s) (va_up (qNd s) (qCu s) (nsDe (nsCo (rCur s) 3) (-1)))
def rCore (s : RS) (b : Nat) : RS :=
  if b = 40 then rOpen s
  else if b = 34 then rWord (rNd s (nsCo (rCur s) 1)) 0 5
  else if b = 91 ∨ b = 123 then rWord (rNd s (nsDe (nsCo (rCur s) 2) (if b = 123 then 1 else 0))) 0 10
  else rSign (rWord s 0 3) b
def rAdd (s : RS) (ma : Int32) : RS := mkR (qSt s) (qDep s) (qOp s) (qCn s + 1) (qWn s) (qSg s) (qPl s) (qCn s)
  (va_up (va_up (qNd s) (qCn s) (mkN 0 ma 1 (-1) 0 (nI (qOp s)) 0 [])) (qOp s) (nsKi (qNd s (qOp s)) (nKi (qNd s (qOp s)) + 1)))
def rGap (s : RS) (b : Nat) : Option RS :=
  if b = 32 then some s
  else if b = 41 then (if 0 < nKi (qNd s (qOp s)) then rClose s else none)
  else if b = 43 ∨ b = 45 then (if qCn s + 1 ≤ 25 then some (rGo (rAdd s (if b = 43 then 1 else 2)) 1) else none)
  else if rCan s b 1 then some (rCore (rAdd s 0) b) else none
def rFst (s : RS) : Nat := (nWd (rCur s) 0).getD 0 0
def rIn (s : RS) (b : Nat) : Option RS :=
  if isSg b then (if qSg s < 8 then some (rSign s b) else none)
  else if b = 58 then (if qSg s = 1 ∧ nFi (rCur s) = -1 ∧ 97 ≤ rFst s ∧ rFst s < 101 then some (rGo (rNd s (nsWo (nsFi (rCur s) (nI (rFst s) - 97)) [])) 2) else none)
  else if b = 126 then (if qPl s = true then some (rGo s 4) else none)
  else rTail s b
def rQuo (s : RS) (b : Nat) : Option RS := if b = 34 then some (rGo s 8) else if b = 32 then (if qWn s + 1 < 5 then some (rGo s 7) else none) else rLet s b 6
def rQGap (s : RS) (b : Nat) : Option RS := if b = 32 then some s else if isLt b then some (rSign (rWord s (qWn s + 1) 6) b) else none
def rSpan (s : RS) (b : Nat) : Option RS :=
  if qWn s = 0 ∧ b = 46 then some (rGo s 12)
  else if qWn s = 1 ∧ b = (if nDe (rCur s) = 1 then 125 else 93) then some (rGo s 15)
  else rLet s b 11
def rBoo (s : RS) (x : Int32) (nx : Nat) : RS := rGo (rNd s (nsBo (rCur s) x)) nx
/-- one byte more; none: no query goes on so -/
def dl (s : RS) (b : Nat) : Option RS := match qSt s with
  | 0 => rGap s b
  | 1 => if rCan s b 0 then some (rCore s b) else none
  | 2 => if rCan s b 0 then some (rCore s b) else none
  | 3 => rIn s b
  | 4 => rDet s b 48 50
  | 5 => rLet s b 6
  | 6 => rQuo s b
  | 7 => rQGap s b
  | 8 => if b = 126 then some (rGo s 9) else rTail s b
  | 9 => rDet s b 48 57
  | 10 => rLet s b 11
  | 11 => rSpan s b
  | 12 => if b = 46 then some (rWord s 1 10) else none
  | 13 => if b = 64 then some (rGo s 14) else rTail s b
  | 14 => rDet s b 49 57
  | 15 => rTail s b
  | 16 => if isFg b then some (rBoo s (nI b - 48) 17) else none
  | 17 => if isFg b then some (rBoo s (10 * nBo (rCur s) + nI b - 48) 18) else rEnd s b
  | _ => rEnd s b
abbrev rWhole (s : RS) : Prop := qDep s = 0 ∧ ((qSt s = 0 ∧ 0 < nKi (qNd s 0)) ∨ qSt s = 3 ∨ qSt s = 8 ∨ qSt s = 13 ∨ qSt s = 15 ∨ qSt s = 17 ∨ qSt s = 18)
def nd0 : ND := mkN 3 0 1 (-1) (-1) (-1) 0 []
def r0 : RS := mkR 0 0 0 1 0 0 true 0 (fun _ => nd0)
/-! what stays true of the automaton's states -/
abbrev wdSt (n : Nat) : Prop := n = 3 ∨ n = 5 ∨ n = 6 ∨ n = 7 ∨ n = 10 ∨ n = 11
def chn (nd : Nat → ND) : Nat → Nat → Prop
  | 0, o => o = 0
  | d + 1, o => 0 < o ∧ nCo (nd o) = 3 ∧ ∃ a, a < o ∧ nAr (nd o) = nI a ∧ chn nd d a
/-- a word's bytes are letters or signs -/
abbrev okW (w : List Nat) : Prop := w.length ≤ 8 ∧ ∀ b ∈ w, b < 256 ∧ 0 < b
def okN (x : ND) : Prop := (nWo x).length ≤ 5 ∧ ∀ w ∈ nWo x, okW w
def rOk (s : RS) : Prop := qSt s ≤ 18 ∧ qDep s ≤ 5 ∧ qOp s < qCn s ∧ qCn s ≤ 25 ∧ chn (qNd s) (qDep s) (qOp s) ∧ (∀ k, k < qCn s → okN (qNd s k)) ∧ (qSt s ≠ 0 → 0 < qCu s ∧ qCu s < qCn s) ∧
  (wdSt (qSt s) → qSg s ≤ 8 ∧ qWn s ≤ 4 ∧ qSg s = (nWd (rCur s) (qWn s)).length ∧ (qSg s = 0 → qWn s = (nWo (rCur s)).length) ∧ (0 < qSg s → qWn s + 1 = (nWo (rCur s)).length))
