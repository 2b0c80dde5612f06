/-! ===== the pure state, and how the memory holds it ===== -/
abbrev ND : Type := Int32 × Int32 × Int32 × Int32 × Int32 × Int32 × Nat × List (List Nat)
def nCo (x : ND) : Int32 := x.1
def nMa (x : ND) : Int32 := x.2.1
def nBo (x : ND) : Int32 := x.2.2.1
def nFi (x : ND) : Int32 := x.2.2.2.1
def nDe (x : ND) : Int32 := x.2.2.2.2.1
def nAr (x : ND) : Int32 := x.2.2.2.2.2.1
def nKi (x : ND) : Nat := x.2.2.2.2.2.2.1
def nWo (x : ND) : List (List Nat) := x.2.2.2.2.2.2.2
def nWd (x : ND) (j : Nat) : List Nat := (nWo x).getD j []
def nSz (x : ND) : Int32 := if nCo x = 0 then nI (nWd x 0).length else if nCo x = 3 then nI (nKi x) else nI (nWo x).length
/-- a word of signs as a long: the first one highest -/
def packN : Nat → List Nat → Nat
  | _, [] => 0
  | s, b :: r => b * 256 ^ s + packN (s - 1) r
def pack (l : List Nat) : Int64 := lN (packN 7 l)
/-! what a step leaves alone -/
def Fr (LI : List (Nat × Nat)) (LA LL : List Nat) (M M1 : Mem) : Prop := (∀ p f, (p, f) ∉ LI → fI M1 p f = fI M p f) ∧ (∀ p, p ∉ LA → ∀ i, aI M1 p i = aI M p i) ∧ (∀ p, p ∉ LL → ∀ i, aL M1 p i = aL M p i) ∧ (∀ p f, fR M1 p f = fR M p f) ∧ ∀ p f, aR M1 p f = aR M p f
theorem Fr.rf {LI : List (Nat × Nat)} {LA LL : List Nat} {M : Mem} : Fr LI LA LL M M := ⟨fun _ _ _ => rfl, fun _ _ _ => rfl, fun _ _ _ => rfl, fun _ _ => rfl, fun _ _ => rfl⟩
theorem Fr.tr {LI : List (Nat × Nat)} {LA LL : List Nat} {M M1 M2 : Mem} (h : Fr LI LA LL M M1) (k : Fr LI LA LL M1 M2) : Fr LI LA LL M M2 :=
  ⟨fun p f n => (k.1 p f n).trans (h.1 p f n), fun p n i => (k.2.1 p n i).trans (h.2.1 p n i), fun p n i => (k.2.2.1 p n i).trans (h.2.2.1 p n i), fun p f => (k.2.2.2.1 p f).trans (h.2.2.2.1 p f), fun p f => (k.2.2.2.2 p f).trans (h.2.2.2.2 p f)⟩
theorem Fr.wk {LI LI' : List (Nat × Nat)} {LA LL LA' LL' : List Nat} {M M1 : Mem} (h : Fr LI LA LL M M1) (h1 : ∀ x ∈ LI, x ∈ LI') (h2 : ∀ x ∈ LA, x ∈ LA') (h3 : ∀ x ∈ LL, x ∈ LL') : Fr LI' LA' LL' M M1 :=
  ⟨fun p f n => h.1 p f (fun q => n (h1 _ q)), fun p n i => h.2.1 p (fun q => n (h2 _ q)) i, fun p n i => h.2.2.1 p (fun q => n (h3 _ q)) i, h.2.2.2⟩
theorem Fr.sI {LI : List (Nat × Nat)} {LA LL : List Nat} {M M1 : Mem} {p f : Nat} {x : Int32} (h : Fr LI LA LL M M1) (hp : (p, f) ∈ LI) : Fr LI LA LL M (sI M1 p f x) :=
  ⟨fun q g n => by rw [fI_sI, if_neg (fun e => n (by rw [e.1, e.2]; exact hp))]; exact h.1 q g n, h.2⟩
theorem Fr.sA {LI : List (Nat × Nat)} {LA LL : List Nat} {M M1 : Mem} {p i : Nat} {x : Int32} (h : Fr LI LA LL M M1) (hp : p ∈ LA) : Fr LI LA LL M (sA M1 p i x) :=
  ⟨h.1, fun q n j => by rw [aI_sA, if_neg (fun e => n (by rw [e.1]; exact hp))]; exact h.2.1 q n j, h.2.2⟩
theorem Fr.sL {LI : List (Nat × Nat)} {LA LL : List Nat} {M M1 : Mem} {p i : Nat} {x : Int64} (h : Fr LI LA LL M M1) (hp : p ∈ LL) : Fr LI LA LL M (sL M1 p i x) :=
  ⟨h.1, h.2.1, fun q n j => by rw [aL_sL, if_neg (fun e => n (by rw [e.1]; exact hp))]; exact h.2.2.1 q n j, h.2.2.2⟩
/-! the model's parts -/
def rmG (M : Mem) : Prop := ∀ f, fR M 121 f = gM f
def rmT (M : Mem) (tp : List Nat) : Prop := fI M 121 2 = nI tp.length ∧ tp.length ≤ 240 ∧ ∀ i, i < tp.length → aI M 122 i = nI (tp.getD i 0) ∧ tp.getD i 0 < 256
def rmD (M : Mem) (gn : List Nat) : Prop := fI M 121 27 = nI gn.length ∧ gn.length ≤ 240 ∧ ∀ i, i < gn.length → aI M 142 i = nI (gn.getD i 0)
def mNode (o : Nat) (M : Mem) (k : Nat) (x : ND) : Prop := aI M o k = nCo x ∧ aI M (o + 1) k = nMa x ∧ aI M (o + 2) k = nBo x ∧ aI M (o + 3) k = nFi x ∧ aI M (o + 4) k = nDe x ∧ aI M (o + 5) k = nAr x ∧
  aI M (o + 6) k = (if nCo x = 3 then nI (nKi x) else nI (nWo x).length) ∧ ∀ j, j < (nWo x).length → aI M (o + 7) (5 * k + j) = nI (nWd x j).length ∧ ∀ i, i < (nWd x j).length → aI M (o + 8) (40 * k + 8 * j + i) = nI ((nWd x j).getD i 0)
def rmQ (M : Mem) (n : Nat) (nd : Nat → ND) : Prop := fI M 121 13 = nI n ∧ n ≤ 25 ∧ ∀ k, k < n → mNode 132 M k (nd k)
def outL (o : Option (List Nat)) : Int32 := match o with
  | none => -1
  | some l => nI l.length
def rmO (M : Mem) (o : Option (List Nat)) : Prop := fI M 121 29 = outL o ∧ ∀ l, o = some l → l.length ≤ 240 ∧ ∀ i, i < l.length → aI M 143 i = nI (l.getD i 0)
def rmW (M : Mem) (dc : Nat → List (List Nat)) : Prop := ∀ r, r < 32 → aI M 144 r = nI (dc r).length ∧ (dc r).length ≤ 12 ∧ ∀ p, p < (dc r).length → aI M 145 (12 * r + p) = nI ((dc r).getD p []).length ∧ ((dc r).getD p []).length ≤ 8 ∧ ∀ i, i < ((dc r).getD p []).length → aI M 146 (8 * (12 * r + p) + i) = nI (((dc r).getD p []).getD i 0)
theorem rmG.fr {LI : List (Nat × Nat)} {LA LL : List Nat} {M M1 : Mem} (h : rmG M) (k : Fr LI LA LL M M1) : rmG M1 := fun f => (k.2.2.2.1 121 f).trans (h f)
theorem rmT.fr {LI : List (Nat × Nat)} {LA LL : List Nat} {M M1 : Mem} {tp : List Nat} (h : rmT M tp) (k : Fr LI LA LL M M1) (h1 : (121, 2) ∉ LI) (h2 : 122 ∉ LA) : rmT M1 tp :=
  ⟨(k.1 _ _ h1).trans h.1, h.2.1, fun i hi => ⟨(k.2.1 _ h2 i).trans (h.2.2 i hi).1, (h.2.2 i hi).2⟩⟩
theorem rmD.fr {LI : List (Nat × Nat)} {LA LL : List Nat} {M M1 : Mem} {gn : List Nat} (h : rmD M gn) (k : Fr LI LA LL M M1) (h1 : (121, 27) ∉ LI) (h2 : 142 ∉ LA) : rmD M1 gn :=
  ⟨(k.1 _ _ h1).trans h.1, h.2.1, fun i hi => (k.2.1 _ h2 i).trans (h.2.2 i hi)⟩
theorem mNode.fr {o : Nat} {LI : List (Nat × Nat)} {LA LL : List Nat} {M M1 : Mem} {n : Nat} {x : ND} (h : mNode o M n x) (k : Fr LI LA LL M M1) (h2 : ∀ j, j < 9 → o + j ∉ LA) : mNode o M1 n x := by
  obtain ⟨e0, e1, e2, e3, e4, e5, e6, e7⟩ := h
  refine ⟨(k.2.1 _ (h2 0 (by decide)) _).trans e0, (k.2.1 _ (h2 1 (by decide)) _).trans e1, (k.2.1 _ (h2 2 (by decide)) _).trans e2, (k.2.1 _ (h2 3 (by decide)) _).trans e3, (k.2.1 _ (h2 4 (by decide)) _).trans e4, (k.2.1 _ (h2 5 (by decide)) _).trans e5, (k.2.1 _ (h2 6 (by decide)) _).trans e6, fun j hj => ⟨(k.2.1 _ (h2 7 (by decide)) _).trans (e7 j hj).1, fun i hi => (k.2.1 _ (h2 8 (by decide)) _).trans ((e7 j hj).2 i hi)⟩⟩
theorem rmQ.fr {LI : List (Nat × Nat)} {LA LL : List Nat} {M M1 : Mem} {n : Nat} {nd : Nat → ND} (h : rmQ M n nd) (k : Fr LI LA LL M M1) (h1 : (121, 13) ∉ LI) (h2 : ∀ j, j < 9 → 132 + j ∉ LA) : rmQ M1 n nd :=
  ⟨(k.1 _ _ h1).trans h.1, h.2.1, fun i hi => (h.2.2 i hi).fr k h2⟩
theorem rmO.fr {LI : List (Nat × Nat)} {LA LL : List Nat} {M M1 : Mem} {o : Option (List Nat)} (h : rmO M o) (k : Fr LI LA LL M M1) (h1 : (121, 29) ∉ LI) (h2 : 143 ∉ LA) : rmO M1 o :=
  ⟨(k.1 _ _ h1).trans h.1, fun l hl => ⟨(h.2 l hl).1, fun i hi => (k.2.1 _ h2 i).trans ((h.2 l hl).2 i hi)⟩⟩
theorem rmW.fr {LI : List (Nat × Nat)} {LA LL : List Nat} {M M1 : Mem} {dc : Nat → List (List Nat)} (h : rmW M dc) (k : Fr LI LA LL M M1) (h1 : 144 ∉ LA) (h2 : 145 ∉ LA) (h3 : 146 ∉ LA) : rmW M1 dc := fun r hr =>
  ⟨(k.2.1 _ h1 r).trans (h r hr).1, (h r hr).2.1, fun p hp => ⟨(k.2.1 _ h2 _).trans ((h r hr).2.2 p hp).1, ((h r hr).2.2 p hp).2.1, fun i hi => (k.2.1 _ h3 _).trans (((h r hr).2.2 p hp).2.2 i hi)⟩⟩
