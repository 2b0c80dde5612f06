/-! ===== the model reads: positions ===== -/
def hv (tp : List Nat) (a : Nat) : Int32 := if a < tp.length then nI (tp.getD a 0) else -1
def Ps (M : Mem) (tp : List Nat) (a : Nat) : Prop := rmG M ∧ rmT M tp ∧ fI M 121 23 = nI a ∧ a ≤ tp.length
theorem tp_lt {M : Mem} {tp : List Nat} (h : rmT M tp) (a : Nat) : tp.getD a 0 < 256 := by
  by_cases q : a < tp.length
  · exact (h.2.2 a q).2
  · rw [List.getD_eq_getElem?_getD, List.getElem?_eq_none (by omega)]; decide
theorem hv_is {tp : List Nat} {a c : Nat} (hb : tp.getD a 0 < 256) (hc : c < 256) : hv tp a = nI c ↔ a < tp.length ∧ tp.getD a 0 = c := by
  unfold hv
  split
  · next h => rw [nIb hb hc]; simp [h]
  · next h => simp only [h, false_and, iff_false]; intro e; have := congrArg Int32.toInt e; rw [nI_toInt (by omega)] at this; simp at this
theorem hv_lt {tp : List Nat} {a : Nat} (hb : tp.getD a 0 < 256) : (97 ≤ hv tp a ∧ hv tp a ≤ 122) ↔ a < tp.length ∧ isLt (tp.getD a 0) := by
  unfold hv
  split
  · next h => rw [isLt_i hb]; simp [h]
  · next h => simp [h]
theorem hv_sg {tp : List Nat} {a : Nat} (hb : tp.getD a 0 < 256) : ((97 ≤ hv tp a ∧ hv tp a ≤ 122) ∨ hv tp a = 63 ∨ hv tp a = 42) ↔ a < tp.length ∧ isSg (tp.getD a 0) := by
  rw [hv_lt hb, show (63 : Int32) = nI 63 from rfl, show (42 : Int32) = nI 42 from rfl, hv_is hb (by decide), hv_is hb (by decide)]
  constructor
  · rintro (h | h | h)
    · exact ⟨h.1, Or.inl h.2⟩
    · exact ⟨h.1, Or.inr (Or.inl h.2)⟩
    · exact ⟨h.1, Or.inr (Or.inr h.2)⟩
  · rintro ⟨h, q | q | q⟩
    · exact Or.inl ⟨h, q⟩
    · exact Or.inr (Or.inl ⟨h, q⟩)
    · exact Or.inr (Or.inr ⟨h, q⟩)
theorem hv_no {tp : List Nat} {a : Nat} (hb : tp.getD a 0 < 256) : hv tp a = -1 ↔ ¬ a < tp.length := by
  unfold hv
  split
  · next h => simp only [h, not_true, iff_false]; intro e; have := congrArg Int32.toInt e; rw [nI_toInt (by omega)] at this; simp at this
  · next h => simp [h]
theorem hv_fg {tp : List Nat} {a lo hi : Nat} (hb : tp.getD a 0 < 256) (hl : lo ≤ 9) (hh : hi ≤ 9) : (48 + nI lo ≤ hv tp a ∧ hv tp a ≤ 48 + nI hi) ↔ a < tp.length ∧ 48 + lo ≤ tp.getD a 0 ∧ tp.getD a 0 ≤ 48 + hi := by
  rw [show (48 : Int32) = nI 48 from rfl, nI_add, nI_add]
  unfold hv
  split
  · next h => rw [nI_leI (by omega) (by omega), nI_leI (by omega) (by omega)]; simp [h]
  · next h =>
    simp only [h, false_and, iff_false]
    intro q
    have q1 := q.1
    rw [Int32.le_iff_toInt_le, nI_toInt (by omega)] at q1
    simp at q1
    omega
theorem cX9_hereN (E : GE) (M : Mem) (tp : List Nat) (a : Nat) (h : Ps M tp a) : Sp E mX9_here 0 0 0 [.ref 121] SH M (RV (some (.int (hv tp a))) SH M) := by
  obtain ⟨hG, hT, hA, hle⟩ := h
  have h240 := hT.2.1
  have e : hv tp a = if fI M 121 2 ≤ fI M 121 23 then -1 else aI M 122 (fI M 121 23).toNatClampNeg := by
    rw [hA, hT.1]
    unfold hv
    by_cases q : a < tp.length
    · rw [if_pos q, if_neg (nI_ge q (by omega)), nI_clamp (by omega)]; exact (hT.2.2 a q).1.symm
    · rw [if_neg q, if_pos (nI_le (by omega) (by omega))]
  rw [e]
  refine cX9_here_ E M hG ?_
  rw [hA, hT.1]
  by_cases q : a < tp.length
  · exact Or.inl (vp_in_nI (by omega) (by decide))
  · exact Or.inr (nI_le (by omega) (by omega))
abbrev mNewL : List Nat := [123, 124, 125, 126, 127, 128, 129, 130, 131]
abbrev mPF (M M1 : Mem) : Prop := Fr [(121, 3), (121, 23), (121, 24)] mNewL [] M M1
/-- node k's own places in the model's new rows -/
def inK (k p i : Nat) : Prop := (123 ≤ p ∧ p ≤ 129 ∧ i = k) ∨ (p = 130 ∧ 5 * k ≤ i ∧ i < 5 * k + 5) ∨ (p = 131 ∧ 40 * k ≤ i ∧ i < 40 * k + 40)
def NF (k : Nat) (M M1 : Mem) : Prop := ∀ p i, ¬ inK k p i → aI M1 p i = aI M p i
theorem NF.rf {k : Nat} {M : Mem} : NF k M M := fun _ _ _ => rfl
theorem NF.tr {k : Nat} {M M1 M2 : Mem} (h : NF k M M1) (g : NF k M1 M2) : NF k M M2 := fun p i q => (g p i q).trans (h p i q)
theorem NF.sI {k p f : Nat} {M M1 : Mem} {x : Int32} (h : NF k M M1) : NF k M (sI M1 p f x) := h
theorem NF.sA {k p i : Nat} {M M1 : Mem} {x : Int32} (h : NF k M M1) (hi : inK k p i) : NF k M (sA M1 p i x) := fun q j hq => by
  rw [aI_sA, if_neg (fun e => hq (by rw [e.1, e.2]; exact hi))]; exact h q j hq
theorem mNode_nf {k j : Nat} {M M1 : Mem} {x : ND} (h : mNode 123 M j x) (hN : NF k M M1) (hj : j ≠ k) (ho : okN x) : mNode 123 M1 j x := by
  obtain ⟨e0, e1, e2, e3, e4, e5, e6, e7⟩ := h
  have nk : ∀ p, 123 ≤ p → p ≤ 129 → aI M1 p j = aI M p j := fun p h1 h2 => hN p j (by unfold inK; omega)
  refine ⟨(nk 123 (by decide) (by decide)).trans e0, (nk 124 (by decide) (by decide)).trans e1, (nk 125 (by decide) (by decide)).trans e2, (nk 126 (by decide) (by decide)).trans e3, (nk 127 (by decide) (by decide)).trans e4, (nk 128 (by decide) (by decide)).trans e5, (nk 129 (by decide) (by decide)).trans e6, fun w hw => ⟨?_, fun i hi => ?_⟩⟩
  · have := ho.1
    exact (hN _ _ (by unfold inK; omega)).trans (e7 w hw).1
  · have := ho.1
    have := (okN_w ho w).1
    exact (hN _ _ (by unfold inK; omega)).trans ((e7 w hw).2 i hi)
theorem Ps.fr {M M1 : Mem} {tp : List Nat} {a a1 : Nat} (h : Ps M tp a) (hF : mPF M M1) (ha : fI M1 121 23 = nI a1) (hle : a1 ≤ tp.length) : Ps M1 tp a1 := ⟨h.1.fr hF, h.2.1.fr hF (by decide) (by decide), ha, hle⟩
theorem Ps_at {M : Mem} {tp : List Nat} {a : Nat} (h : Ps M tp a) (hl : a < tp.length) : Ps (sI M 121 23 (nI (a + 1))) tp (a + 1) := ⟨h.1, ⟨h.2.1.1, h.2.1.2⟩, rfl, hl⟩
/-! the automaton beside it -/
def Cn (tp : List Nat) (a : Nat) (s : RS) : Prop := rdS tp = rdGo s (tp.drop a) a ∧ aOk s
theorem Cn_step {tp : List Nat} {a : Nat} {s s1 : RS} (h : Cn tp a s) (hl : a < tp.length) (hd : dl s (tp.getD a 0) = some s1) : Cn tp (a + 1) s1 := by
  refine ⟨?_, aOk_dl h.2 hd⟩
  rw [h.1, drop_cons hl]
  show (match dl s (tp.getD a 0) with | none => (a, none) | some s1 => rdGo s1 (tp.drop (a + 1)) (a + 1)) = _
  rw [hd]
theorem Cn_bad {tp : List Nat} {a : Nat} {s : RS} (h : Cn tp a s) (hle : a ≤ tp.length) (h1 : a < tp.length → dl s (tp.getD a 0) = none) (h2 : ¬ a < tp.length → ¬ rWhole s) : rdS tp = (a, none) := by
  rw [h.1]
  by_cases q : a < tp.length
  · rw [drop_cons q]
    show (match dl s (tp.getD a 0) with | none => (a, none) | some s1 => rdGo s1 (tp.drop (a + 1)) (a + 1)) = _
    rw [h1 q]
  · have : a = tp.length := by omega
    subst this
    rw [List.drop_length]
    exact if_neg (h2 q)
/-- the model has found the text wrong -/
def Bad (M : Mem) (tp : List Nat) : Prop := fI M 121 24 = 1 ∧ ∃ a, a ≤ tp.length ∧ fI M 121 23 = nI a ∧ rdS tp = (a, none)
theorem Bad_of {M : Mem} {tp : List Nat} {a : Nat} {s : RS} (hP : Ps M tp a) (h : Cn tp a s) (h1 : a < tp.length → dl s (tp.getD a 0) = none) (h2 : ¬ a < tp.length → ¬ rWhole s) : Bad (sI M 121 24 1) tp := ⟨rfl, a, hP.2.2.2, hP.2.2.1, Cn_bad h hP.2.2.2 h1 h2⟩
def mNew (M : Mem) (k : Nat) (g : Int32) : Mem := sA (sA (sA (sA (sA (sA (sA (sI M 121 3 (nI (k + 1))) 123 k 3) 124 k 0) 125 k 1) 126 k (-1)) 127 k (-1)) 128 k g) 129 k 0
set_option maxRecDepth 100000 in
set_option maxHeartbeats 4000000 in
theorem cX9_newNode_ (E : GE) (k : Nat) (g : Int32) (M : Mem) (hG : rmG M) (hk : k < 25) (hm : fI M 121 3 = nI k) : Sp E mX9_newNode 0 0 0 [.ref 121, .int g] SH M (RV (some (.int (nI k))) SH (mNew M k g)) := by
  refine sp_of vX9_newNode.1 rfl (Nat.le_of_ble_eq_true rfl) ?_
  have hin : vp_in (fI M 121 3) 25 := by rw [hm]; exact vp_in_nI hk (by decide)
  have hcl : (fI M 121 3).toNatClampNeg = k := by rw [hm]; exact nI_clamp (by omega)
  refine wp_aload_n dX9_newNode_0 rfl ?_
  refine wp_getI dX9_newNode_1 fl_X9_131 rfl rfl ?_
  refine wp_istore_n dX9_newNode_4 (Nat.le_of_ble_eq_true rfl) ?_
  refine wp_aload_n dX9_newNode_5 rfl ?_
  refine wp_dup dX9_newNode_6 rfl ?_
  refine wp_getI dX9_newNode_7 fl_X9_131 rfl rfl ?_
  refine wp_iconst (v := 1) dX9_newNode_10 rfl ?_
  refine wp_iadd dX9_newNode_11 ?_
  refine wp_putI dX9_newNode_12 fl_X9_131 rfl rfl (fun _ _ _ h => by cases h; rfl) rfl rfl ?_
  refine wp_aload_n dX9_newNode_15 rfl ?_
  refine wp_getR dX9_newNode_16 fl_X9_17 rfl rfl (hG 4) ?_
  refine wp_iload_n dX9_newNode_19 rfl ?_
  refine wp_iconst (v := 3) dX9_newNode_20 rfl ?_
  refine wp_iastore dX9_newNode_21 rfl hin ?_
  refine wp_aload_n dX9_newNode_22 rfl ?_
  refine wp_getR dX9_newNode_23 fl_X9_20 rfl rfl (hG 5) ?_
  refine wp_iload_n dX9_newNode_26 rfl ?_
  refine wp_iconst (v := 0) dX9_newNode_27 rfl ?_
  refine wp_iastore dX9_newNode_28 rfl hin ?_
  refine wp_aload_n dX9_newNode_29 rfl ?_
  refine wp_getR dX9_newNode_30 fl_X9_23 rfl rfl (hG 6) ?_
  refine wp_iload_n dX9_newNode_33 rfl ?_
  refine wp_iconst (v := 1) dX9_newNode_34 rfl ?_
  refine wp_iastore dX9_newNode_35 rfl hin ?_
  refine wp_aload_n dX9_newNode_36 rfl ?_
  refine wp_getR dX9_newNode_37 fl_X9_26 rfl rfl (hG 7) ?_
  refine wp_iload_n dX9_newNode_40 rfl ?_
  refine wp_iconst (v := (-1)) dX9_newNode_41 rfl ?_
  refine wp_iastore dX9_newNode_42 rfl hin ?_
  refine wp_aload_n dX9_newNode_43 rfl ?_
  refine wp_getR dX9_newNode_44 fl_X9_29 rfl rfl (hG 8) ?_
  refine wp_iload_n dX9_newNode_47 rfl ?_
  refine wp_iconst (v := (-1)) dX9_newNode_48 rfl ?_
  refine wp_iastore dX9_newNode_49 rfl hin ?_
  refine wp_aload_n dX9_newNode_50 rfl ?_
  refine wp_getR dX9_newNode_51 fl_X9_32 rfl rfl (hG 9) ?_
  refine wp_iload_n dX9_newNode_54 rfl ?_
  refine wp_iload_n dX9_newNode_55 rfl ?_
  refine wp_iastore dX9_newNode_56 rfl hin ?_
  refine wp_aload_n dX9_newNode_57 rfl ?_
  refine wp_getR dX9_newNode_58 fl_X9_35 rfl rfl (hG 10) ?_
  refine wp_iload_n dX9_newNode_61 rfl ?_
  refine wp_iconst (v := 0) dX9_newNode_62 rfl ?_
  refine wp_iastore dX9_newNode_63 rfl hin ?_
  refine wp_iload_n dX9_newNode_64 rfl ?_
  refine wp_ireturn dX9_newNode_65 rfl rfl (Nat.zero_le _) (Nat.zero_le _) ?_
  refine ⟨by rw [hm], rfl, ?_⟩
  unfold mNew
  rw [hcl, hm, nI_1]
theorem mNew_F {M : Mem} {k : Nat} {g : Int32} : mPF M (mNew M k g) ∧ NF k M (mNew M k g) := by
  unfold mNew
  refine ⟨(((((((Fr.rf.sI (by simp)).sA (by simp)).sA (by simp)).sA (by simp)).sA (by simp)).sA (by simp)).sA (by simp)).sA (by simp), ?_⟩
  refine (((((((NF.rf.sI).sA ?_).sA ?_).sA ?_).sA ?_).sA ?_).sA ?_).sA ?_ <;> (unfold inK; omega)
