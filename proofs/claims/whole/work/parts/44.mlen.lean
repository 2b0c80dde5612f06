/-! ===== the model: lenient ===== -/
def LnA (tp : List Nat) (T : List (Nat × Nat)) (gn : List Nat) : Prop := ∃ K rest s, T = K ++ rest ∧ run r0 (byts K) = some s ∧ lnP tp = lnK s rest K gn
def LnB (tp : List Nat) (T : List (Nat × Nat)) (gn : List Nat) : Prop := ∃ n, n ≤ (lnP tp).1.length ∧ T = (lnP tp).1.take n ∧ gn = (lnP tp).2 ++ (plcs ((lnP tp).1.drop n)).reverse ∧ lnW tp = wlN (byts (lnP tp).1) n ∧ ∃ s, run r0 (byts (lnP tp).1) = some s
theorem Ln_norm {tp : List Nat} {T : List (Nat × Nat)} {gn : List Nat} (h : LnA tp T gn) : (∃ K x r s, T = K ++ x :: r ∧ run r0 (byts K) = some s ∧ dl s x.2 = none ∧ lnP tp = lnK s (x :: r) K gn) ∨ LnB tp T gn := by
  obtain ⟨K, rest, s, h1, h2, h3⟩ := h
  obtain ⟨K1, r1, s1, e1, e2, e3, e4⟩ := lnK_adv rest K s h2
  rcases e4 with rfl | ⟨x, r, rfl, hx⟩
  · right
    have hp : lnP tp = (K1, gn) := by rw [h3, e3]; rfl
    have p1 : (lnP tp).1 = K1 := by rw [hp]
    have p2 : (lnP tp).2 = gn := by rw [hp]
    refine ⟨K1.length, by rw [p1]; exact Nat.le_refl _, ?_, ?_, by unfold lnW; rw [p1], s1, by rw [p1]; exact e2⟩
    · rw [p1, List.take_length, h1, e1, List.append_nil]
    · rw [p1, p2, List.drop_length]; show gn = gn ++ []; rw [List.append_nil]
  · exact Or.inl ⟨K1, x, r, s1, by rw [h1, e1], e2, hx, by rw [h3, e3]⟩
theorem byts_take (l : List (Nat × Nat)) (n : Nat) : byts (l.take n) = (byts l).take n := List.map_take
theorem r0_nw : ¬ rWhole r0 := by
  intro h
  rcases h.2 with ⟨_, h⟩ | h
  · exact absurd h (by decide)
  · exact absurd h (by decide)
theorem Ln_B {tp : List Nat} {T : List (Nat × Nat)} {gn : List Nat} (h : LnB tp T gn) : ∃ s, run r0 (byts T) = some s ∧ rdS (byts T) = (if rWhole s then (T.length, some s) else (T.length, none)) := by
  obtain ⟨n, h1, h2, h3, h4, s, h5⟩ := h
  obtain ⟨s1, hs1⟩ := run_take h5 n
  have : run r0 (byts T) = some s1 := by rw [h2, byts_take]; exact hs1
  refine ⟨s1, this, ?_⟩
  rw [rdS_end this, byts_len]
theorem Ln_some {tp : List Nat} {T : List (Nat × Nat)} {gn : List Nat} {a : Nat} {s : RS} (h : LnA tp T gn ∨ LnB tp T gn) (hr : rdS (byts T) = (a, some s)) : lnR tp = some s ∧ lnG tp = gn := by
  have hB : LnB tp T gn := by
    rcases h with h | h
    · rcases Ln_norm h with ⟨K, x, r, s1, e1, e2, e3, -⟩ | h
      · rw [e1, byts_app] at hr
        have : rdS (byts K ++ byts (x :: r)) = ((byts K).length, none) := rdS_bad (r := byts r) e2 e3
        rw [this] at hr
        cases hr
      · exact h
    · exact h
  obtain ⟨s1, q1, q2⟩ := Ln_B hB
  rw [q2] at hr
  by_cases hw : rWhole s1
  · rw [if_pos hw] at hr
    injection hr with _ hr
    injection hr with hr
    subst hr
    obtain ⟨n, h1, h2, h3, h4, s2, h5⟩ := hB
    have hrun : run r0 ((byts (lnP tp).1).take n) = some s1 := by rw [← byts_take, ← h2]; exact q1
    have hn : n ≠ 0 := fun e => by
      rw [e, List.take_zero] at hrun
      have hrun : some r0 = some s1 := hrun
      injection hrun with hrun
      rw [← hrun] at hw
      exact r0_nw hw
    obtain ⟨m, rfl⟩ : ∃ m, n = m + 1 := ⟨n - 1, by omega⟩
    have hW : lnW tp = m + 1 := by
      rw [h4]
      show (if whB (run r0 ((byts (lnP tp).1).take (m + 1))) = true then m + 1 else _) = _
      rw [hrun]; exact if_pos (decide_eq_true hw)
    refine ⟨?_, ?_⟩
    · unfold lnR; rw [if_neg (by omega), hW]; exact hrun
    · unfold lnG; rw [hW]; exact h3.symm
  · rw [if_neg hw] at hr; cases hr
theorem Ln_nil {tp : List Nat} {gn : List Nat} (h : LnA tp [] gn ∨ LnB tp [] gn) : lnR tp = none ∧ lnG tp = gn := by
  have hB : LnB tp [] gn := by
    rcases h with h | h
    · rcases Ln_norm h with ⟨K, x, r, s1, e1, -⟩ | h
      · have := congrArg List.length e1
        rw [List.length_append] at this
        exact absurd this (by simp)
      · exact h
    · exact h
  obtain ⟨n, h1, h2, h3, h4, -⟩ := hB
  have hn : n = 0 := by
    have := congrArg List.length h2
    rw [List.length_take] at this
    have : 0 = min n _ := this
    omega
  subst hn
  have hW : lnW tp = 0 := h4
  refine ⟨?_, ?_⟩
  · unfold lnR; rw [if_pos hW]
  · unfold lnG; rw [hW]; exact h3.symm
theorem Ln_step {tp : List Nat} {T : List (Nat × Nat)} {gn : List Nat} {a u : Nat} (h : LnA tp T gn ∨ LnB tp T gn) (hr : rdS (byts T) = (a, none)) (hT : 0 < T.length) (hu : u = if a < T.length then a else T.length - 1) : LnA tp (T.eraseIdx u) (gn ++ [(plcs T).getD u 0]) ∨ LnB tp (T.eraseIdx u) (gn ++ [(plcs T).getD u 0]) := by
  have hh : (∃ K x r s, T = K ++ x :: r ∧ run r0 (byts K) = some s ∧ dl s x.2 = none ∧ lnP tp = lnK s (x :: r) K gn) ∨ LnB tp T gn := by
    rcases h with h | h
    · exact Ln_norm h
    · exact Or.inr h
  rcases hh with ⟨K, x, r, s, e1, e2, e3, e4⟩ | hB
  · left
    have hq : rdS (byts T) = ((byts K).length, none) := by rw [e1, byts_app]; exact rdS_bad (r := byts r) e2 e3
    rw [hq] at hr
    injection hr with hr _
    rw [byts_len] at hr
    have hl : a < T.length := by rw [e1, List.length_append, ← hr]; exact Nat.lt_add_of_pos_right (Nat.succ_pos _)
    rw [if_pos hl, ← hr] at hu
    subst hu
    refine ⟨K, r, s, ?_, e2, ?_⟩
    · rw [e1, List.eraseIdx_append_of_length_le (Nat.le_refl _), Nat.sub_self]; rfl
    · rw [e4, e1, plcs_at]
      have : (K ++ x :: r).getD K.length (0, 0) = x := by simp [List.getD_eq_getElem?_getD]
      rw [this]
      show (match dl s x.2 with | none => lnK s r K (gn ++ [x.1]) | some s1 => lnK s1 r (K ++ [x]) gn) = _
      rw [e3]
  · right
    obtain ⟨s1, q1, q2⟩ := Ln_B hB
    have hw : ¬ rWhole s1 := fun hw => by rw [q2, if_pos hw] at hr; cases hr
    rw [q2, if_neg hw] at hr
    injection hr with hr _
    rw [← hr, if_neg (Nat.lt_irrefl _)] at hu
    obtain ⟨n, h1, h2, h3, h4, s2, h5⟩ := hB
    have hn : T.length = n := by rw [h2, List.length_take]; omega
    obtain ⟨m, rfl⟩ : ∃ m, n = m + 1 := ⟨n - 1, by omega⟩
    have hu : u = m := by omega
    subst hu
    have hil : u < (lnP tp).1.length := by omega
    refine ⟨u, by omega, ?_, ?_, ?_, s2, h5⟩
    · rw [h2]
      apply List.ext_getElem?
      intro j
      rw [List.getElem?_eraseIdx, List.getElem?_take, List.getElem?_take, List.getElem?_take]
      by_cases c : j < u
      · rw [if_pos c, if_pos (by omega), if_pos c]
      · rw [if_neg c, if_neg (by omega), if_neg c]
    · have hdr : (lnP tp).1.drop u = (lnP tp).1.getD u (0, 0) :: (lnP tp).1.drop (u + 1) := by
        rw [List.drop_eq_getElem_cons hil, List.getD_eq_getElem?_getD, List.getElem?_eq_getElem hil]; rfl
      have hg : (plcs T).getD u 0 = ((lnP tp).1.getD u (0, 0)).1 := by
        rw [plcs_at, h2, List.getD_eq_getElem?_getD, List.getElem?_take, if_pos (Nat.lt_succ_self u), ← List.getD_eq_getElem?_getD]
      rw [h3, hdr, hg]
      have : plcs ((lnP tp).1.getD u (0, 0) :: (lnP tp).1.drop (u + 1)) = ((lnP tp).1.getD u (0, 0)).1 :: plcs ((lnP tp).1.drop (u + 1)) := rfl
      rw [this, List.reverse_cons, List.append_assoc]
    · rw [h4]
      have hrun : run r0 ((byts (lnP tp).1).take (u + 1)) = some s1 := by rw [← byts_take, ← h2]; exact q1
      show (if whB (run r0 ((byts (lnP tp).1).take (u + 1))) = true then u + 1 else _) = _
      rw [hrun, if_neg (by show ¬ decide (rWhole s1) = true; simp only [decide_eq_true_eq]; exact hw)]
abbrev mLnL : List Nat := 122 :: 141 :: 142 :: mNewL
abbrev mLF (M M1 : Mem) : Prop := Fr [(121, 0), (121, 2), (121, 3), (121, 23), (121, 24), (121, 27)] mLnL [] M M1
theorem mPF_L {M M1 : Mem} (h : mPF M M1) : mLF M M1 := h.wk (by simp) (by simp) (by simp)
/-- the model's tape with its places -/
def LM (M M1 : Mem) (tp : List Nat) (T : List (Nat × Nat)) (gn : List Nat) : Prop := mLF M M1 ∧ fI M1 121 0 = 0 ∧ rmT M1 (byts T) ∧ (∀ j, j < T.length → aI M1 141 j = nI ((plcs T).getD j 0)) ∧ rmD M1 gn ∧ T.length + gn.length = tp.length ∧ (LnA tp T gn ∨ LnB tp T gn)
theorem LM_PF {M M1 M2 : Mem} {tp : List Nat} {T : List (Nat × Nat)} {gn : List Nat} (h : LM M M1 tp T gn) (hF : mPF M1 M2) : LM M M2 tp T gn :=
  ⟨h.1.tr (mPF_L hF), (hF.1 _ _ (by simp)).trans h.2.1, h.2.2.1.fr hF (by simp) (by simp), fun j hj => (hF.2.1 _ (by simp) j).trans (h.2.2.2.1 j hj), h.2.2.2.2.1.fr hF (by simp) (by simp), h.2.2.2.2.2⟩
def pLnM (M : Mem) (tp : List Nat) (q : QQ) (o : Option (List Nat)) (dc : Nat → List (List Nat)) : PT := fun v sh1 M1 => sh1 = SH ∧ v = some (.int (lnV tp)) ∧ fI M1 121 0 = 0 ∧ RM M1 [] (lnG tp) (lnQ tp q) o dc ∧ OutM M M1
theorem mLF_out {M M1 : Mem} (h : mLF M M1) : OutM M M1 := h.out (by simp) (by simp) (by simp)
theorem RM_L {M M1 : Mem} {tp gn g1 : List Nat} {q : QQ} {o : Option (List Nat)} {dc : Nat → List (List Nat)} (h : RM M tp gn q o dc) (hF : mLF M M1) (hD : rmD M1 g1) : RM (sI M1 121 2 0) [] g1 q o dc := by
  have hF0 : mLF M (sI M1 121 2 0) := hF.sI (by simp)
  have hF1 : Fr [(121, 2)] [] [] M1 (sI M1 121 2 0) := Fr.rf.sI (by simp)
  exact ⟨h.1.fr hF0, ⟨rfl, Nat.zero_le _, fun i hi => absurd hi (Nat.not_lt_zero i)⟩, hD.fr hF1 (by simp) (by simp), h.2.2.2.1.fr hF0 (by simp) (fun j hj => by simp; omega), h.2.2.2.2.1.fr hF0 (by simp) (by simp), h.2.2.2.2.2.fr hF0 (by simp) (by simp) (by simp)⟩
theorem rmD_snoc {M M1 : Mem} {gn : List Nat} {x : Nat} (h : rmD M gn) (hl : gn.length < 240) (h1 : fI M1 121 27 = nI (gn.length + 1)) (h2 : ∀ i, aI M1 142 i = if i = gn.length then nI x else aI M 142 i) : rmD M1 (gn ++ [x]) := by
  refine ⟨by rw [h1, List.length_append]; rfl, by rw [List.length_append]; exact hl, fun i hi => ?_⟩
  rw [h2, getD_app]
  split
  · rfl
  · next e =>
    rw [List.length_append] at hi
    refine h.2.2 i ?_
    have : [x].length = 1 := rfl
    omega
set_option maxRecDepth 100000 in
set_option maxHeartbeats 4000000 in
theorem cX9_lenient_ (E : GE) (tp gn : List Nat) (q : QQ) (o : Option (List Nat)) (dc : Nat → List (List Nat)) (M : Mem) (h : RM M tp gn q o dc) : Sp E mX9_lenient 5 0 0 [.ref 121] SH M (pLnM M tp q o dc) := by
  refine sp_of vX9_lenient.1 rfl (Nat.le_of_ble_eq_true rfl) ?_
  have h240 := h.2.1.2.1
  have hb0 := tp_lt h.2.1
  have J38 : ∀ (n : Nat) (T : List (Nat × Nat)) (gn : List Nat) (v : Int32) (M1 : Mem), T.length < n → LM M M1 tp T gn → ((∃ a, a ≤ (byts T).length ∧ rdS (byts T) = (a, none) ∧ v = nI a) ∨ ∃ a s, rdS (byts T) = (a, some s) ∧ aOk s ∧ v = -1 ∧ fI M1 121 3 = nI (qCn s) ∧ ∀ j, j < qCn s → mNode 123 M1 j (qNd s j)) → Wp (xM E mX9_lenient 5 0 0 SH.length (pLnM M tp q o dc)) 0 0 38 [(1, .int v), (0, .ref 121)] [] SH M1 := by
    intro n
    induction n with
    | zero => intro T gn v M1 hn; exact absurd hn (Nat.not_lt_zero _)
    | succ n ih =>
      intro T gn v M1 hn hL hres
      have hL0 := hL
      obtain ⟨hF, ht, hT, hpl, hD, hlen, hLn⟩ := hL0
      have hG := h.1.fr hF
      have hTl := hT.1
      rw [byts_len] at hTl
      rcases hres with ⟨a, hle, hr, rfl⟩ | ⟨a, s, hr, hok, rfl, hmy, hmn⟩
      · rw [byts_len] at hle
        have hne : ¬ nI a = -1 := by intro e; have := congrArg Int32.toInt e; rw [nI_toInt (by omega)] at this; simp at this
        have J68 : 0 < T.length → ∀ u, u = (if a < T.length then a else T.length - 1) → Wp (xM E mX9_lenient 5 0 0 SH.length (pLnM M tp q o dc)) 0 0 68 [(1, .int (nI a)), (0, .ref 121)] [.int (nI u)] SH M1 := by
          intro h0 u hu
          have hul : u < T.length := by rw [hu]; split <;> omega
          have hLn1 := Ln_step hLn hr h0 hu
          have hgl : gn.length < 240 := by omega
          have hin : vp_in (nI u) 240 := vp_in_nI (by omega) (by decide)
          have hucl : (nI u).toNatClampNeg = u := nI_clamp (by omega)
          have hgcl : (fI M1 121 27).toNatClampNeg = gn.length := by rw [hD.1]; exact nI_clamp (by omega)
          have J106 : ∀ (r k : Nat) (M2 : Mem), k + r + 1 = T.length → u ≤ k → mLF M M2 → fI M2 121 0 = 0 → fI M2 121 2 = nI (T.length - 1) → rmD M2 (gn ++ [(plcs T).getD u 0]) → (∀ j, j < T.length → aI M2 122 j = nI ((byts T).getD (if j < k ∧ u ≤ j then j + 1 else j) 0) ∧ aI M2 141 j = nI ((plcs T).getD (if j < k ∧ u ≤ j then j + 1 else j) 0)) → Wp (xM E mX9_lenient 5 0 0 SH.length (pLnM M tp q o dc)) 0 0 106 [(3, .int (nI k)), (0, .ref 121)] [] SH M2 := by
            intro r
            induction r with
            | zero =>
              intro k M2 hk huk hF2 ht2 h22 hD2 hrow
              have hG2 := h.1.fr hF2
              have hel : (T.eraseIdx u).length = T.length - 1 := by rw [List.length_eraseIdx, if_pos hul]
              have hat : ∀ j, j < T.length - 1 → (T.eraseIdx u).getD j (0, 0) = T.getD (if j < k ∧ u ≤ j then j + 1 else j) (0, 0) := fun j hj => by
                simp only [List.getD_eq_getElem?_getD]
                rw [List.getElem?_eraseIdx]
                by_cases c : j < u
                · rw [if_pos c, if_neg (by omega)]
                · rw [if_neg c, if_pos ⟨by omega, by omega⟩]
              have hL2 : LM M M2 tp (T.eraseIdx u) (gn ++ [(plcs T).getD u 0]) := by
                refine ⟨hF2, ht2, ⟨?_, ?_, fun j hj => ?_⟩, fun j hj => ?_, hD2, ?_, hLn1⟩
                · rw [byts_len, hel]; exact h22
                · rw [byts_len, hel]; omega
                · rw [byts_len, hel] at hj
                  rw [byts_at, hat j hj, ← byts_at]
                  refine ⟨(hrow j (by omega)).1, ?_⟩
                  exact tp_lt hT _
                · rw [hel] at hj
                  rw [plcs_at, hat j hj, ← plcs_at]
                  exact (hrow j (by omega)).2
                · rw [hel, List.length_append]; show T.length - 1 + (gn.length + 1) = _; omega
              refine wp_iload_n dX9_lenient_106 rfl ?_
              refine wp_aload_n dX9_lenient_107 rfl ?_
              refine wp_getI dX9_lenient_108 fl_X9_121 rfl rfl ?_
              refine wp_icmp_ge (tgt := 148) dX9_lenient_111 (by decide) (fun c111 => ?_) (fun c111 => absurd (show fI M2 121 2 ≤ nI k by rw [h22]; exact nI_le (by omega) (by omega)) c111)
              refine wp_aload_n dX9_lenient_148 rfl ?_
              refine wp_cV0p dX9_lenient_149 ml_X9_184 vX9_goAlong ⟨8, (RX9, TX9, 39), rfl, rfl, rfl⟩ (cX9_goAlong_ E (byts (T.eraseIdx u)) M2 hG2 hL2.2.2.1) (Nat.le_of_ble_eq_true rfl) (Nat.le_of_ble_eq_true rfl) (Nat.le_of_ble_eq_true rfl) (Nat.le_refl _) (Nat.le_refl _) (fun v sh1 M1 hqq => ?_)
              obtain ⟨rfl, hF3, hqq⟩ := hqq
              have hL3 := LM_PF hL2 hF3
              rcases hqq with ⟨a3, hle3, hr3, rfl⟩ | ⟨a3, s3, hr3, hok3, rfl, hmy3, hmn3⟩
              · refine wp_istore_n dX9_lenient_152 (Nat.le_of_ble_eq_true rfl) ?_
                refine wp_goto (tgt := 38) dX9_lenient_153 (by decide) ?_
                exact wp_lv (ih _ _ _ _ (by rw [hel]; omega) hL3 (Or.inl ⟨a3, hle3, hr3, rfl⟩)) (by repeat (first | exact trivial | refine ⟨rfl, ?_⟩))
              · refine wp_istore_n dX9_lenient_152 (Nat.le_of_ble_eq_true rfl) ?_
                refine wp_goto (tgt := 38) dX9_lenient_153 (by decide) ?_
                exact wp_lv (ih _ _ _ _ (by rw [hel]; omega) hL3 (Or.inr ⟨a3, s3, hr3, hok3, rfl, hmy3, hmn3⟩)) (by repeat (first | exact trivial | refine ⟨rfl, ?_⟩))
            | succ r ihr =>
              intro k M2 hk huk hF2 ht2 h22 hD2 hrow
              have hG2 := h.1.fr hF2
              have hkin : vp_in (nI k) 240 := vp_in_nI (by omega) (by decide)
              have hkin1 : vp_in (nI k + 1) 240 := by rw [nI_1]; exact vp_in_nI (by omega) (by decide)
              have hkcl : (nI k).toNatClampNeg = k := nI_clamp (by omega)
              have hkcl1 : (nI k + 1).toNatClampNeg = k + 1 := by rw [nI_1]; exact nI_clamp (by omega)
              refine wp_iload_n dX9_lenient_106 rfl ?_
              refine wp_aload_n dX9_lenient_107 rfl ?_
              refine wp_getI dX9_lenient_108 fl_X9_121 rfl rfl ?_
              refine wp_icmp_ge (tgt := 148) dX9_lenient_111 (by decide) (fun c111 => absurd c111 (by rw [h22]; exact nI_ge (by omega) (by omega))) (fun c111 => ?_)
              refine wp_aload_n dX9_lenient_114 rfl ?_
              refine wp_getR dX9_lenient_115 fl_X9_13 rfl rfl (hG2 1) ?_
              refine wp_iload_n dX9_lenient_118 rfl ?_
              refine wp_aload_n dX9_lenient_119 rfl ?_
              refine wp_getR dX9_lenient_120 fl_X9_13 rfl rfl (hG2 1) ?_
              refine wp_iload_n dX9_lenient_123 rfl ?_
              refine wp_iconst (v := 1) dX9_lenient_124 rfl ?_
              refine wp_iadd dX9_lenient_125 ?_
              refine wp_iaload dX9_lenient_126 rfl hkin1 ?_
              refine wp_iastore dX9_lenient_127 rfl hkin ?_
              refine wp_aload_n dX9_lenient_128 rfl ?_
              refine wp_getR dX9_lenient_129 fl_X9_71 rfl rfl (hG2 25) ?_
              refine wp_iload_n dX9_lenient_132 rfl ?_
              refine wp_aload_n dX9_lenient_133 rfl ?_
              refine wp_getR dX9_lenient_134 fl_X9_71 rfl rfl (hG2 25) ?_
              refine wp_iload_n dX9_lenient_137 rfl ?_
              refine wp_iconst (v := 1) dX9_lenient_138 rfl ?_
              refine wp_iadd dX9_lenient_139 ?_
              refine wp_iaload dX9_lenient_140 rfl hkin1 ?_
              refine wp_iastore dX9_lenient_141 rfl hkin ?_
              refine wp_iinc dX9_lenient_142 rfl (i_inc _) (Nat.le_of_ble_eq_true rfl) ?_
              refine wp_goto (tgt := 106) dX9_lenient_145 (by decide) ?_
              rw [hkcl, hkcl1]
              have r1 := hrow (k + 1) (by omega)
              rw [if_neg (by omega)] at r1
              refine wp_lv (ihr (k + 1) _ (by omega) (by omega) ((hF2.sA (by simp)).sA (by simp)) ht2 h22 (hD2.fr (show Fr [] [122, 141] [] M2 _ from (Fr.rf.sA (by simp)).sA (by simp)) (by simp) (by simp)) (fun j hj => ?_)) (by repeat (first | exact trivial | refine ⟨rfl, ?_⟩))
              have rj := hrow j hj
              simp only [aI_sA]
              by_cases e : j = k
              · subst e
                simp [r1.1, r1.2]
                rw [if_pos huk]
                exact ⟨rfl, rfl⟩
              · by_cases c : j < k ∧ u ≤ j
                · rw [if_pos c] at rj
                  simp only [e, and_false, if_false, show (122 : Nat) = 141 ↔ False by decide, false_and, show (141 : Nat) = 122 ↔ False by decide]
                  rw [if_pos ⟨by omega, c.2⟩]; exact rj
                · rw [if_neg c] at rj
                  simp only [e, and_false, if_false, show (122 : Nat) = 141 ↔ False by decide, false_and, show (141 : Nat) = 122 ↔ False by decide]
                  rw [if_neg (by omega)]; exact rj
          refine wp_istore_n dX9_lenient_68 (Nat.le_of_ble_eq_true rfl) ?_
          refine wp_aload_n dX9_lenient_69 rfl ?_
          refine wp_getR dX9_lenient_70 fl_X9_74 rfl rfl (hG 26) ?_
          refine wp_aload_n dX9_lenient_73 rfl ?_
          refine wp_getI dX9_lenient_74 fl_X9_190 rfl rfl ?_
          refine wp_aload_n dX9_lenient_77 rfl ?_
          refine wp_getR dX9_lenient_78 fl_X9_71 rfl rfl (hG 25) ?_
          refine wp_iload_n dX9_lenient_81 rfl ?_
          refine wp_iaload dX9_lenient_82 rfl hin ?_
          refine wp_iastore dX9_lenient_83 rfl (by rw [hD.1]; exact vp_in_nI hgl (by decide)) ?_
          refine wp_aload_n dX9_lenient_84 rfl ?_
          refine wp_dup dX9_lenient_85 rfl ?_
          refine wp_getI dX9_lenient_86 fl_X9_190 rfl rfl ?_
          refine wp_iconst (v := 1) dX9_lenient_89 rfl ?_
          refine wp_iadd dX9_lenient_90 ?_
          refine wp_putI dX9_lenient_91 fl_X9_190 rfl rfl (fun _ _ _ h => by cases h; rfl) rfl rfl ?_
          refine wp_aload_n dX9_lenient_94 rfl ?_
          refine wp_dup dX9_lenient_95 rfl ?_
          refine wp_getI dX9_lenient_96 fl_X9_121 rfl rfl ?_
          refine wp_iconst (v := 1) dX9_lenient_99 rfl ?_
          refine wp_isub dX9_lenient_100 ?_
          refine wp_putI dX9_lenient_101 fl_X9_121 rfl rfl (fun _ _ _ h => by cases h; rfl) rfl rfl ?_
          refine wp_iload_n dX9_lenient_104 rfl ?_
          refine wp_istore_n dX9_lenient_105 (Nat.le_of_ble_eq_true rfl) ?_
          rw [hucl, hgcl]
          have e27 : fI (sA M1 142 gn.length (aI M1 141 u)) 121 27 + 1 = nI (gn.length + 1) := by show fI M1 121 27 + 1 = _; rw [hD.1, nI_1]
          rw [e27]
          have e2 : fI (sI (sA M1 142 gn.length (aI M1 141 u)) 121 27 (nI (gn.length + 1))) 121 2 - 1 = nI (T.length - 1) := by
            show fI M1 121 2 - 1 = _
            obtain ⟨m, hm⟩ : ∃ m, T.length = m + 1 := ⟨T.length - 1, by omega⟩
            rw [hTl, hm, ← nI_1, Int32.add_sub_cancel]; rfl
          rw [e2, hpl u hul]
          refine wp_lv (J106 (T.length - 1 - u) u _ (by omega) (Nat.le_refl _) (((hF.sA (by simp)).sI (by simp)).sI (by simp)) ht rfl (rmD_snoc hD hgl rfl (fun i => by simp only [aI_sI, aI_sA]; simp)) (fun j hj => ?_)) (by repeat (first | exact trivial | refine ⟨rfl, ?_⟩))
          rw [if_neg (by omega)]
          have hh := hT.2.2 j (by rw [byts_len]; exact hj)
          simp only [aI_sI, aI_sA]
          simp
          exact ⟨hh.1, hpl j hj⟩
        have J156 : T.length = 0 → Wp (xM E mX9_lenient 5 0 0 SH.length (pLnM M tp q o dc)) 0 0 156 [(1, .int (nI a)), (0, .ref 121)] [] SH M1 := by
          intro h0
          have hT0 : T = [] := List.eq_nil_of_length_eq_zero h0
          rw [hT0] at hLn
          obtain ⟨k1, k2⟩ := Ln_nil hLn
          refine wp_aload_n dX9_lenient_156 rfl ?_
          refine wp_iconst (v := 0) dX9_lenient_157 rfl ?_
          refine wp_putI dX9_lenient_158 fl_X9_121 rfl rfl (fun _ _ _ h => by cases h; rfl) rfl rfl ?_
          refine wp_iload_n dX9_lenient_161 rfl ?_
          refine wp_iconst (v := (-1)) dX9_lenient_162 rfl ?_
          refine wp_icmp_eq (tgt := 168) dX9_lenient_163 (by decide) (fun c163 => absurd c163 hne) (fun c163 => ?_)
          refine wp_iconst (v := (-1)) dX9_lenient_166 rfl ?_
          refine wp_ireturn dX9_lenient_167 rfl rfl (Nat.zero_le _) (Nat.zero_le _) ?_
          refine ⟨rfl, ?_, ht, ?_, (mLF_out hF).tr sI_out⟩
          · unfold lnV; rw [k1]
          · unfold lnQ; rw [k1, k2]; exact RM_L h hF hD
        refine wp_iload_n dX9_lenient_38 rfl ?_
        refine wp_iconst (v := (-1)) dX9_lenient_39 rfl ?_
        refine wp_icmp_eq (tgt := 156) dX9_lenient_40 (by decide) (fun c40 => absurd c40 hne) (fun c40 => ?_)
        refine wp_aload_n dX9_lenient_43 rfl ?_
        refine wp_getI dX9_lenient_44 fl_X9_121 rfl rfl ?_
        refine wp_if_le (tgt := 156) dX9_lenient_47 (by decide) (fun c47 => ?_) (fun c47 => ?_)
        · refine J156 (Decidable.byContradiction fun e => ?_)
          rw [hTl, Int32.le_iff_toInt_le, nI_toInt (by omega)] at c47
          have c47 : (T.length : Int) ≤ 0 := c47
          omega
        · refine wp_iload_n dX9_lenient_50 rfl ?_
          refine wp_aload_n dX9_lenient_51 rfl ?_
          refine wp_getI dX9_lenient_52 fl_X9_121 rfl rfl ?_
          refine wp_icmp_ge (tgt := 62) dX9_lenient_55 (by decide) (fun c55 => ?_) (fun c55 => ?_)
          · refine wp_aload_n dX9_lenient_62 rfl ?_
            refine wp_getI dX9_lenient_63 fl_X9_121 rfl rfl ?_
            refine wp_iconst (v := 1) dX9_lenient_66 rfl ?_
            refine wp_isub dX9_lenient_67 ?_
            have h0 : 0 < T.length := Nat.pos_of_ne_zero fun e => c47 (by rw [hTl, e]; decide)
            have c55' : ¬ a < T.length := fun q => nI_ge q (by omega) (by rw [← hTl]; exact c55)
            have e2 : fI M1 121 2 - 1 = nI (T.length - 1) := by
              obtain ⟨m, hm⟩ : ∃ m, T.length = m + 1 := ⟨T.length - 1, by omega⟩
              rw [hTl, hm, ← nI_1, Int32.add_sub_cancel]; rfl
            rw [e2]
            exact J68 h0 _ (by rw [if_neg c55'])
          · refine wp_iload_n dX9_lenient_58 rfl ?_
            refine wp_goto (tgt := 68) dX9_lenient_59 (by decide) ?_
            have h0 : 0 < T.length := Nat.pos_of_ne_zero fun e => c47 (by rw [hTl, e]; decide)
            have c55' : a < T.length := Nat.lt_of_not_le fun q => c55 (by rw [hTl]; exact nI_le q (by omega))
            exact J68 h0 _ (by rw [if_pos c55'])
      · obtain ⟨k1, k2⟩ := Ln_some hLn hr
        refine wp_iload_n dX9_lenient_38 rfl ?_
        refine wp_iconst (v := (-1)) dX9_lenient_39 rfl ?_
        refine wp_icmp_eq (tgt := 156) dX9_lenient_40 (by decide) (fun c40 => ?_) (fun c40 => absurd rfl c40)
        refine wp_aload_n dX9_lenient_156 rfl ?_
        refine wp_iconst (v := 0) dX9_lenient_157 rfl ?_
        refine wp_putI dX9_lenient_158 fl_X9_121 rfl rfl (fun _ _ _ h => by cases h; rfl) rfl rfl ?_
        refine wp_iload_n dX9_lenient_161 rfl ?_
        refine wp_iconst (v := (-1)) dX9_lenient_162 rfl ?_
        refine wp_icmp_eq (tgt := 168) dX9_lenient_163 (by decide) (fun c163 => ?_) (fun c163 => absurd rfl c163)
        refine wp_aload_n dX9_lenient_168 rfl ?_
        refine wp_cV0p dX9_lenient_169 ml_X9_187 vX9_become ⟨8, (RX9, TX9, 39), rfl, rfl, rfl⟩ (cX9_become_ E (qCn s) (qNd s) (sI M1 121 2 0) hG hmy hok.1.2.2.1 hmn (fun k hk => (hok.1.2.2.2.2.2 k hk).1)) (Nat.le_of_ble_eq_true rfl) (Nat.le_of_ble_eq_true rfl) (Nat.le_of_ble_eq_true rfl) (Nat.le_refl _) (Nat.le_refl _) (fun v sh1 M1 hqq => ?_)
        obtain ⟨rfl, rfl, hF2, hQ2⟩ := hqq
        refine wp_aload_n dX9_lenient_172 rfl ?_
        refine wp_getI dX9_lenient_173 fl_X9_112 rfl rfl ?_
        refine wp_ireturn dX9_lenient_176 rfl rfl (Nat.zero_le _) (Nat.zero_le _) ?_
        refine ⟨rfl, ?_, (hF2.1 _ _ (by simp)).trans ht, ?_, ((mLF_out hF).tr sI_out).tr (mBF_out hF2)⟩
        · unfold lnV; rw [k1, hQ2.1]
        · unfold lnQ; rw [k1, k2]; exact RM_BF (RM_L h hF hD) hF2 hQ2
  have J12 : ∀ (r k : Nat) (M1 : Mem), k + r = tp.length → mLF M M1 → fI M1 121 0 = 0 → rmT M1 tp → rmD M1 [] → (∀ j, j < k → aI M1 141 j = nI j) → Wp (xM E mX9_lenient 5 0 0 SH.length (pLnM M tp q o dc)) 0 0 12 [(1, .int (nI k)), (0, .ref 121)] [] SH M1 := by
    intro r
    induction r with
    | zero =>
      intro k M1 hk hF ht hT hD hp
      have hk : k = tp.length := by omega
      subst hk
      have hG := h.1.fr hF
      have hL : LM M M1 tp (prs tp 0) [] := by
        refine ⟨hF, ht, by rw [prs_by]; exact hT, fun j hj => ?_, hD, by rw [prs_len]; rfl, Or.inl ⟨[], prs tp 0, r0, rfl, rfl, rfl⟩⟩
        rw [prs_len] at hj
        rw [prs_pl tp 0 j hj, Nat.zero_add]; exact hp j hj
      refine wp_iload_n dX9_lenient_12 rfl ?_
      refine wp_aload_n dX9_lenient_13 rfl ?_
      refine wp_getI dX9_lenient_14 fl_X9_121 rfl rfl ?_
      refine wp_icmp_ge (tgt := 33) dX9_lenient_17 (by decide) (fun c17 => ?_) (fun c17 => absurd (show fI M1 121 2 ≤ nI tp.length by rw [hT.1]; exact Int32.le_refl _) c17)
      refine wp_aload_n dX9_lenient_33 rfl ?_
      refine wp_cV0p dX9_lenient_34 ml_X9_184 vX9_goAlong ⟨8, (RX9, TX9, 39), rfl, rfl, rfl⟩ (cX9_goAlong_ E (byts (prs tp 0)) M1 hG hL.2.2.1) (Nat.le_of_ble_eq_true rfl) (Nat.le_of_ble_eq_true rfl) (Nat.le_of_ble_eq_true rfl) (Nat.le_refl _) (Nat.le_refl _) (fun v sh1 M1 hqq => ?_)
      obtain ⟨rfl, hF3, hqq⟩ := hqq
      have hL3 := LM_PF hL hF3
      rcases hqq with ⟨a3, hle3, hr3, rfl⟩ | ⟨a3, s3, hr3, hok3, rfl, hmy3, hmn3⟩
      · refine wp_istore_n dX9_lenient_37 (Nat.le_of_ble_eq_true rfl) ?_
        exact wp_lv (J38 _ _ _ _ _ (Nat.lt_succ_self _) hL3 (Or.inl ⟨a3, hle3, hr3, rfl⟩)) (by repeat (first | exact trivial | refine ⟨rfl, ?_⟩))
      · refine wp_istore_n dX9_lenient_37 (Nat.le_of_ble_eq_true rfl) ?_
        exact wp_lv (J38 _ _ _ _ _ (Nat.lt_succ_self _) hL3 (Or.inr ⟨a3, s3, hr3, hok3, rfl, hmy3, hmn3⟩)) (by repeat (first | exact trivial | refine ⟨rfl, ?_⟩))
    | succ r ihr =>
      intro k M1 hk hF ht hT hD hp
      have hG := h.1.fr hF
      have hkin : vp_in (nI k) 240 := vp_in_nI (by omega) (by decide)
      have hkcl : (nI k).toNatClampNeg = k := nI_clamp (by omega)
      refine wp_iload_n dX9_lenient_12 rfl ?_
      refine wp_aload_n dX9_lenient_13 rfl ?_
      refine wp_getI dX9_lenient_14 fl_X9_121 rfl rfl ?_
      refine wp_icmp_ge (tgt := 33) dX9_lenient_17 (by decide) (fun c17 => absurd c17 (by rw [hT.1]; exact nI_ge (by omega) (by omega))) (fun c17 => ?_)
      refine wp_aload_n dX9_lenient_20 rfl ?_
      refine wp_getR dX9_lenient_21 fl_X9_71 rfl rfl (hG 25) ?_
      refine wp_iload_n dX9_lenient_24 rfl ?_
      refine wp_iload_n dX9_lenient_25 rfl ?_
      refine wp_iastore dX9_lenient_26 rfl hkin ?_
      refine wp_iinc dX9_lenient_27 rfl (i_inc _) (Nat.le_of_ble_eq_true rfl) ?_
      refine wp_goto (tgt := 12) dX9_lenient_30 (by decide) ?_
      rw [hkcl]
      have hF1 : Fr [] [141] [] M1 (sA M1 141 k (nI k)) := Fr.rf.sA (by simp)
      refine wp_lv (ihr (k + 1) _ (by omega) (hF.sA (by simp)) ht (hT.fr hF1 (by simp) (by simp)) (hD.fr hF1 (by simp) (by simp)) (fun j hj => ?_)) (by repeat (first | exact trivial | refine ⟨rfl, ?_⟩))
      rw [aI_sA]
      split
      · next e => rw [e.2]
      · next e => exact hp j (by omega)
  refine wp_aload_n dX9_lenient_0 rfl ?_
  refine wp_iconst (v := 0) dX9_lenient_1 rfl ?_
  refine wp_putI dX9_lenient_2 fl_X9_1 rfl rfl (fun _ _ _ h => by cases h; rfl) rfl rfl ?_
  refine wp_aload_n dX9_lenient_5 rfl ?_
  refine wp_iconst (v := 0) dX9_lenient_6 rfl ?_
  refine wp_putI dX9_lenient_7 fl_X9_190 rfl rfl (fun _ _ _ h => by cases h; rfl) rfl rfl ?_
  refine wp_iconst (v := 0) dX9_lenient_10 rfl ?_
  refine wp_istore_n dX9_lenient_11 (Nat.le_of_ble_eq_true rfl) ?_
  have hF1 : Fr [(121, 0), (121, 27)] [] [] M (sI (sI M 121 0 0) 121 27 0) := (Fr.rf.sI (by simp)).sI (by simp)
  exact wp_lv (J12 tp.length 0 _ (by omega) (hF1.wk (by simp) (by simp) (by simp)) rfl (h.2.1.fr hF1 (by simp) (by simp)) ⟨rfl, Nat.zero_le _, fun i hi => absurd hi (Nat.not_lt_zero i)⟩ (fun j hj => absurd hj (Nat.not_lt_zero j))) (by repeat (first | exact trivial | refine ⟨rfl, ?_⟩))
