/-! ===== the text of a tree ===== -/
def tld (sg n : Nat) : List Nat := [sg] ++ ((if 9 < n then [48 + n / 10] else []) ++ [48 + n % 10])
def par (nd : Nat → ND) (k : Nat) : Nat := (nAr (nd k)).toNatClampNeg
def told (sg : Nat) (v u : Int32) : List Nat := if v = u then [] else tld sg v.toNatClampNeg
def headS (x : ND) : List Nat := (if nMa x = 0 then [] else [if nMa x = 1 then 43 else 45]) ++ (if nFi x = -1 then [] else [97 + (nFi x).toNatClampNeg] ++ [58])
def qU (x : ND) : Nat → List Nat
  | 0 => []
  | j + 1 => qU x j ++ ((if 0 < j then [32] else []) ++ nWd x j)
def quoS (x : ND) : List Nat := [34] ++ (qU x (nWo x).length ++ ([34] ++ told 126 (nDe x) 0))
def spaS (x : ND) : List Nat := [if nDe x = 1 then 123 else 91] ++ (nWd x 0 ++ ([46] ++ ([46] ++ (nWd x 1 ++ [if nDe x = 1 then 125 else 93]))))
def worS (x : ND) : List Nat := nWd x 0 ++ told 126 (nDe x) 0
def coreS (x : ND) : List Nat := if nCo x = 1 then quoS x else if nCo x = 2 then spaS x else worS x
def closeS (x : ND) : List Nat := [41] ++ (told 64 (nDe x) (-1) ++ told 94 (nBo x) 1)
def cL (nd : Nat → ND) : Nat → Nat → List Nat
  | 0, _ => []
  | m + 1, g => closeS (nd g) ++ cL nd m (par nd g)
/-- how many groups close from g to t -/
def stp (nd : Nat → ND) : Nat → Nat → Nat → Nat
  | 0, _, _ => 0
  | f + 1, g, t => if g = t then 0 else stp nd f (par nd g) t + 1
def bodS (x : ND) : List Nat := if nCo x = 3 then [40] else coreS x ++ told 94 (nBo x) 1
def nodS (nd : Nat → ND) (k : Nat) : List Nat := cL nd (stp nd 5 (opk nd (k - 1)) (par nd k)) (opk nd (k - 1)) ++ ((if par nd k = k - 1 then [] else [32]) ++ (headS (nd k) ++ bodS (nd k)))
def pT (nd : Nat → ND) : Nat → List Nat
  | 0 => []
  | k + 1 => if k = 0 then [] else pT nd k ++ nodS nd k
def prS (nd : Nat → ND) (n : Nat) : List Nat := pT nd n ++ cL nd (stp nd 5 (opk nd (n - 1)) 0) (opk nd (n - 1))
theorem anc_le {nd : Nat → ND} : ∀ (m g t : Nat), anc nd m g t → t ≤ g
  | 0, _, _, h => by have h : _ = _ := h; omega
  | m + 1, g, t, ⟨a, h1, _, h3⟩ => by have := anc_le m a t h3; omega
theorem par_n {nd : Nat → ND} {k a : Nat} (h : nAr (nd k) = nI a) (ha : a < 2 ^ 31) : par nd k = a := by unfold par; rw [h]; exact nI_clamp ha
theorem stp_anc {nd : Nat → ND} : ∀ (m f g t : Nat), anc nd m g t → m ≤ f → g < 2 ^ 31 → stp nd f g t = m
  | 0, f, g, t, h, _, _ => by
    have h : g = t := h
    cases f with
    | zero => rfl
    | succ f => exact if_pos h
  | m + 1, f, g, t, ⟨a, h1, h2, h3⟩, hf, hg => by
    cases f with
    | zero => omega
    | succ f =>
      have := anc_le m a t h3
      show (if g = t then 0 else stp nd f (par nd g) t + 1) = m + 1
      rw [if_neg (by omega), par_n h2 (by omega), stp_anc m f a t h3 (by omega) (by omega)]
theorem cL_add {nd : Nat → ND} : ∀ (m g t n : Nat), anc nd m g t → g < 2 ^ 31 → cL nd (m + n) g = cL nd m g ++ cL nd n t
  | 0, g, t, n, h, _ => by
    have h : g = t := h
    rw [Nat.zero_add, h]; rfl
  | m + 1, g, t, n, ⟨a, h1, h2, h3⟩, hg => by
    rw [show m + 1 + n = (m + n) + 1 by omega]
    show closeS (nd g) ++ cL nd (m + n) (par nd g) = (closeS (nd g) ++ cL nd m (par nd g)) ++ cL nd n t
    rw [par_n h2 (by omega), cL_add m a t n h3 (by omega), List.append_assoc]
theorem anc_app {nd : Nat → ND} : ∀ (m g t n u : Nat), anc nd m g t → anc nd n t u → anc nd (m + n) g u
  | 0, g, t, n, u, h, k => by
    have h : g = t := h
    rw [Nat.zero_add, h]; exact k
  | m + 1, g, t, n, u, ⟨a, h1, h2, h3⟩, k => by
    rw [show m + 1 + n = (m + n) + 1 by omega]
    exact ⟨a, h1, h2, anc_app m a t n u h3 k⟩
theorem anc_uq {nd : Nat → ND} : ∀ (m n g t : Nat), anc nd m g t → anc nd n g t → g < 2 ^ 31 → m = n
  | 0, 0, _, _, _, _, _ => rfl
  | 0, n + 1, g, t, h, ⟨a, h1, _, h3⟩, _ => by have h : g = t := h; have := anc_le n a t h3; omega
  | m + 1, 0, g, t, ⟨a, h1, _, h3⟩, h, _ => by have h : g = t := h; have := anc_le m a t h3; omega
  | m + 1, n + 1, g, t, ⟨a, h1, h2, h3⟩, ⟨b, k1, k2, k3⟩, hg => by
    have : a = b := nI_e (by omega) (by omega) (h2.symm.trans k2)
    subst this
    rw [anc_uq m n a t h3 k3 (by omega)]
theorem chn_anc {nd : Nat → ND} : ∀ (d o : Nat), chn nd d o → anc nd d o 0
  | 0, _, h => h
  | d + 1, o, ⟨_, _, a, h1, h2, h3⟩ => ⟨a, h1, h2, chn_anc d a h3⟩
/-! its length -/
theorem told_len (sg : Nat) {v u : Int32} {n : Nat} (hv : v = nI n) (hn : n ≤ 99) : ((told sg v u).length : Int) = if v = u then 0 else if v ≤ 9 then 2 else 3 := by
  unfold told
  by_cases c : v = u
  · rw [if_pos c, if_pos c]; rfl
  · rw [if_neg c, if_neg c, hv, nI_clamp (by omega)]
    unfold tld
    have e : (nI n ≤ 9) ↔ n ≤ 9 := nI_leI (b := 9) (by omega) (by decide)
    by_cases h : 9 < n
    · rw [if_pos h, if_neg (fun q => by have := e.mp q; omega)]; rfl
    · rw [if_neg h, if_pos (e.mpr (by omega))]; rfl
theorem head_len {x : ND} : ((headS x).length : Int) = hdc x := by
  unfold headS hdc
  rw [List.length_append]
  push_cast
  congr 1
  · split <;> rfl
  · split <;> rfl
theorem qU_len (x : ND) : ∀ j, j ≤ (nWo x).length → (qU x j).length = slen ((nWo x).take j) + (j - 1)
  | 0, _ => rfl
  | j + 1, h => by
    have e : (nWo x).take (j + 1) = (nWo x).take j ++ [nWd x j] := by
      unfold nWd
      rw [List.take_succ, List.getD_eq_getElem?_getD, List.getElem?_eq_getElem h]; rfl
    show (qU x j ++ ((if 0 < j then [32] else []) ++ nWd x j)).length = _
    rw [List.length_append, List.length_append, qU_len x j (by omega), e, slen_app]
    have : slen [nWd x j] = (nWd x j).length := rfl
    rw [this]
    by_cases c : 0 < j
    · rw [if_pos c]; show _ + (1 + _) = _; omega
    · rw [if_neg c]; show _ + (0 + _) = _; omega
theorem body_len {x : ND} (h : nOk x) (h3 : nCo x ≠ 3) : ((coreS x ++ told 94 (nBo x) 1).length : Int) = cr x + bc (nBo x) := by
  obtain ⟨⟨-, ⟨b, hb, hbo⟩, -⟩, hc⟩ := h
  rw [List.length_append]
  push_cast
  rw [told_len 94 hbo hb]
  have : bc (nBo x) = if nBo x = 1 then 0 else if nBo x ≤ 9 then 2 else 3 := rfl
  rw [← this]
  have hcore : ((coreS x).length : Int) = cr x := by
    unfold coreS cr
    rw [if_neg h3]
    rcases hc with ⟨h0, hl, -, d, hd, hde⟩ | ⟨h0, hl, -, d, hd, hde⟩ | ⟨h0, hl, -, d, hd, hde⟩ | ⟨h0, -⟩
    · rw [h0, if_neg (by decide), if_neg (by decide), if_neg (by decide), if_neg (by decide)]
      unfold worS
      rw [List.length_append]
      push_cast
      rw [told_len 126 hde (by omega)]
      have h9 : nDe x ≤ 9 := by rw [hde]; exact nI_le (b := 9) (by omega) (by decide)
      rw [if_pos h9]
      have : slen (nWo x) = (nWd x 0).length := by
        unfold nWd
        match hh : nWo x, hl with
        | [w], _ => rfl
      rw [this]
    · rw [h0, if_pos rfl, if_pos rfl]
      unfold quoS
      simp only [List.length_append, List.length_cons, List.length_nil]
      rw [qU_len x _ (Nat.le_refl _), List.take_length]
      push_cast
      rw [told_len 126 hde (by omega)]
      have h9 : nDe x ≤ 9 := by rw [hde]; exact nI_le (b := 9) (by omega) (by decide)
      rw [if_pos h9]; omega
    · rw [h0, if_neg (by decide), if_pos rfl, if_neg (by decide), if_pos rfl]
      unfold spaS
      have : slen (nWo x) = (nWd x 0).length + (nWd x 1).length := by
        unfold nWd
        match hh : nWo x, hl with
        | [w, v], _ => rfl
      rw [this]
      simp only [List.length_append, List.length_cons, List.length_nil]
      push_cast; omega
    · exact absurd h0 h3
  rw [hcore]
theorem close_len {x : ND} (h : nOk x) (h3 : nCo x = 3) : ((closeS x).length : Int) + 1 = cr x + bc (nBo x) := by
  obtain ⟨⟨-, ⟨b, hb, hbo⟩, -⟩, hc⟩ := h
  unfold closeS cr
  rw [if_pos h3, List.length_append, List.length_append]
  push_cast
  rw [told_len 94 hbo hb]
  have : bc (nBo x) = if nBo x = 1 then 0 else if nBo x ≤ 9 then 2 else 3 := rfl
  rw [← this]
  rcases hc with ⟨h0, -⟩ | ⟨h0, -⟩ | ⟨h0, -⟩ | ⟨-, -, hde⟩
  · exact absurd (h0.symm.trans h3) (by decide)
  · exact absurd (h0.symm.trans h3) (by decide)
  · exact absurd (h0.symm.trans h3) (by decide)
  · rcases hde with hde | ⟨d, h1, h9, hde⟩
    · have : told 64 (nDe x) (-1) = [] := by unfold told; rw [if_pos hde]
      rw [this, if_pos hde]; show (1 : Int) + (0 + _) + 1 = _; omega
    · rw [told_len 64 hde (by omega)]
      have h9 : nDe x ≤ 9 := by rw [hde]; exact nI_le (b := 9) (by omega) (by decide)
      rw [if_pos h9]; show (1 : Int) + (_ + _) + 1 = _; omega
theorem nod_len {nd : Nat → ND} {n : Nat} (hn : n ≤ 25) (h0 : rt (nd 0)) (hT : TreeOk nd n) (hk : ∀ k, 1 ≤ k → k < n → nOk (nd k)) : ∀ k, 1 ≤ k → k ≤ n → ∃ D, anc nd D (opk nd (k - 1)) 0 ∧ ((pT nd k).length : Int) + ((cL nd D (opk nd (k - 1))).length : Int) = tc nd k
  | 0, h, _ => absurd h (by decide)
  | 1, _, _ => by
    have : opk nd 0 = 0 := by unfold opk; rw [if_pos h0.1]
    exact ⟨0, this, rfl⟩
  | k + 2, _, hkn => by
    obtain ⟨D, hD, hlen⟩ := nod_len hn h0 hT hk (k + 1) (by omega) (by omega)
    obtain ⟨a, d, m, p1, p2, p3, p4, p5, p6, p7, p8⟩ := hT (k + 1) (by omega) (by omega)
    rw [Nat.add_sub_cancel] at hD hlen p6 p7
    have hx := hk (k + 1) (by omega) (by omega)
    have ea : par nd (k + 1) = a := par_n p2 (by omega)
    have hda := chn_anc d a p4
    have hmd : D = m + d := anc_uq _ _ _ _ hD (anc_app m _ a d 0 p7 hda) (by omega)
    have hst : stp nd 5 (opk nd k) (par nd (k + 1)) = m := by rw [ea]; exact stp_anc m 5 _ a p7 p5 (by omega)
    have hpt : pT nd (k + 2) = pT nd (k + 1) ++ nodS nd (k + 1) := if_neg (by omega)
    have htc : tc nd (k + 2) = tc nd (k + 1) + (sep (k + 1) (nd (k + 1)) + cst (nd (k + 1))) := by
      show tc nd (k + 1) + (if k + 1 = 0 then 0 else _) = _
      rw [if_neg (by omega)]
    have hcl := cL_add m (opk nd k) a d p7 (by omega)
    rw [← hmd] at hcl
    rw [hcl, List.length_append] at hlen
    have hsep : ((if par nd (k + 1) = k + 1 - 1 then [] else [32] : List Nat).length : Int) = sep (k + 1) (nd (k + 1)) := by
      unfold sep
      rw [ea, p2]
      by_cases c : a = k + 1 - 1
      · rw [if_pos c, if_pos (by rw [c])]; rfl
      · rw [if_neg c, if_neg (fun q => c (nI_e (by omega) (by omega) q))]; rfl
    have hnl : ((nodS nd (k + 1)).length : Int) = ((cL nd m (opk nd k)).length : Int) + (sep (k + 1) (nd (k + 1)) + (hdc (nd (k + 1)) + ((bodS (nd (k + 1))).length : Int))) := by
      unfold nodS
      rw [Nat.add_sub_cancel, hst, List.length_append, List.length_append, List.length_append]
      rw [Nat.add_sub_cancel] at hsep
      push_cast
      rw [hsep, head_len]
    have hlp : ((pT nd (k + 2)).length : Int) = ((pT nd (k + 1)).length : Int) + ((nodS nd (k + 1)).length : Int) := by rw [hpt, List.length_append]; push_cast; rfl
    rw [show k + 2 - 1 = k + 1 by omega]
    by_cases c3 : nCo (nd (k + 1)) = 3
    · refine ⟨d + 1, ?_, ?_⟩
      · have : opk nd (k + 1) = k + 1 := by unfold opk; rw [if_pos c3]
        rw [this]; exact ⟨a, p1, p2, hda⟩
      · have e1 : opk nd (k + 1) = k + 1 := by unfold opk; rw [if_pos c3]
        have e2 : cL nd (d + 1) (k + 1) = closeS (nd (k + 1)) ++ cL nd d a := by
          show closeS (nd (k + 1)) ++ cL nd d (par nd (k + 1)) = _
          rw [ea]
        have e3 : bodS (nd (k + 1)) = [40] := if_pos c3
        have e4 := close_len hx c3
        rw [e3] at hnl
        rw [e1, e2, List.length_append, hlp, hnl, htc]
        unfold cst
        push_cast at hlen ⊢
        have : (([40] : List Nat).length : Int) = 1 := rfl
        rw [this]
        omega
    · refine ⟨d, ?_, ?_⟩
      · have : opk nd (k + 1) = a := by unfold opk; rw [if_neg c3]; exact ea
        rw [this]; exact hda
      · have e1 : opk nd (k + 1) = a := by unfold opk; rw [if_neg c3]; exact ea
        have e3 : bodS (nd (k + 1)) = coreS (nd (k + 1)) ++ told 94 (nBo (nd (k + 1))) 1 := if_neg c3
        have e4 := body_len hx c3
        rw [e3, e4] at hnl
        rw [e1, hlp, hnl, htc]
        unfold cst
        push_cast at hlen ⊢
        omega
theorem pr_len {q : QQ} (h : QOk q) (h1 : q.1 ≠ 0) : (prS q.2 q.1).length ≤ 240 := by
  rcases h with h | ⟨a1, a2, a3, a4, a5, a6, a7, a8, m, a9, a10⟩
  · exact absurd h h1
  · obtain ⟨D, hD, hl⟩ := nod_len a2 a4 a3 a5 q.1 a1 (Nat.le_refl _)
    have : D = m := anc_uq _ _ _ _ hD a10 (by omega)
    unfold prS
    rw [stp_anc m 5 _ 0 a10 a9 (by omega), List.length_append]
    rw [this] at hl
    omega
theorem pT_pre (nd : Nat → ND) : ∀ (n k : Nat), k ≤ n → (pT nd k).length ≤ (pT nd n).length
  | 0, k, h => by rw [Nat.le_zero.mp h]; exact Nat.le_refl _
  | n + 1, k, h => by
    by_cases c : k = n + 1
    · rw [c]; exact Nat.le_refl _
    · have := pT_pre nd n k (by omega)
      by_cases c0 : n = 0
      · subst c0
        have : k = 0 := by omega
        rw [this]; exact Nat.zero_le _
      · have : pT nd (n + 1) = pT nd n ++ nodS nd n := if_neg c0
        rw [this, List.length_append]; omega
