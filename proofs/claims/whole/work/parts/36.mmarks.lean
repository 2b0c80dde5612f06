/-! ===== the model reads: marks ===== -/
theorem hv_ad {tp : List Nat} {a : Nat} (hb : tp.getD a 0 < 256) : (97 ≤ hv tp a ∧ hv tp a ≤ 100) ↔ a < tp.length ∧ 97 ≤ tp.getD a 0 ∧ tp.getD a 0 ≤ 100 := by
  rw [show (97 : Int32) = nI 97 from rfl, show (100 : Int32) = nI 100 from rfl]
  unfold hv
  split
  · next h => rw [nI_leI (by omega) (by omega), nI_leI (by omega) (by omega)]; simp [h]
  · next h =>
    simp only [h, false_and, iff_false]
    intro q
    have q1 := q.1
    rw [Int32.le_iff_toInt_le, nI_toInt (by omega)] at q1
    simp at q1
theorem PC_0 {s : RS} (h0 : qSt s = 0) (hc : qCn s < 25) (ho : qOp s < qCn s) : PC s (rAdd s 0) := by
  have hcur := rCur_add (ma := 0) ho
  refine ⟨fun b hb => ?_, by rw [hcur]; rfl, by rw [hcur]; rfl, by rw [hcur]; rfl, by rw [hcur]; rfl⟩
  rw [dln h0]
  show rGap s b = _
  unfold rGap
  have hb1 : b ≠ 32 ∧ b ≠ 41 ∧ ¬ (b = 43 ∨ b = 45) := by rcases hb with h | h <;> omega
  rw [if_neg hb1.1, if_neg hb1.2.1, if_neg hb1.2.2, if_pos]
  rcases hb with h | h
  · exact Or.inl ⟨h.1, h.2.1, h.2.2⟩
  · exact Or.inr ⟨h.1, hc, h.2⟩
theorem bad_0 {s : RS} {b : Nat} (h0 : qSt s = 0) (h1 : b ≠ 32) (h2 : b ≠ 41) (h3 : ¬ (b = 43 ∨ b = 45)) (h : ¬ rCan0 (rAdd s 0) b) : dl s b = none := by
  rw [dln h0]
  show rGap s b = _
  unfold rGap
  rw [if_neg h1, if_neg h2, if_neg h3, if_neg]
  intro q
  refine h ?_
  rcases q with q | q
  · exact Or.inl ⟨q.1, q.2.1, q.2.2⟩
  · exact Or.inr ⟨q.1, q.2.2⟩
theorem dl_12 {s : RS} (h : qSt s = 1 ∨ qSt s = 2) (b : Nat) : dl s b = if rCan s b 0 then some (rCore s b) else none := by
  rcases h with h | h <;> rw [dln h] <;> rfl
theorem can_12 {s : RS} (hc : qCn s ≤ 25) (b : Nat) : rCan s b 0 ↔ rCan0 s b := by
  constructor
  · rintro (h | h)
    · exact Or.inl ⟨h.1, h.2.1, h.2.2⟩
    · exact Or.inr ⟨h.1, h.2.2⟩
  · rintro (h | h)
    · exact Or.inl ⟨h.1, h.2.1, h.2.2⟩
    · exact Or.inr ⟨h.1, hc, h.2⟩
theorem PC_12 {s : RS} (h : qSt s = 1 ∨ qSt s = 2) (hc : qCn s ≤ 25) (h1 : nCo (rCur s) = 0) (h2 : nKi (rCur s) = 0) (h3 : nWo (rCur s) = []) (h4 : nDe (rCur s) = 0) : PC s s :=
  ⟨fun b hb => by rw [dl_12 h, if_pos ((can_12 hc b).mpr hb)], h1, h2, h3, h4⟩
theorem bad_12 {s : RS} {b : Nat} (h : qSt s = 1 ∨ qSt s = 2) (hc : qCn s ≤ 25) (hb : ¬ rCan0 s b) : dl s b = none := by
  rw [dl_12 h, if_neg (fun q => hb ((can_12 hc b).mp q))]
theorem dl_mark {s : RS} {b : Nat} (h0 : qSt s = 0) (hc : qCn s < 25) (hb : b = 43 ∨ b = 45) : dl s b = some (rGo (rAdd s (if b = 43 then 1 else 2)) 1) := by
  rw [dln h0]
  show rGap s b = _
  unfold rGap
  rw [if_neg (by omega), if_neg (by omega), if_pos hb, if_pos (by omega)]
theorem SF_add {s : RS} {m : Int32} (ho : qOp s < qCn s) : SF (rAdd s 0) (rAdd s m) := by
  refine ⟨rfl, rfl, rfl, rfl, fun j hj => ?_⟩
  have hj : j ≠ qCn s := hj
  show va_up (va_up (qNd s) (qCn s) _) (qOp s) _ j = va_up (va_up (qNd s) (qCn s) _) (qOp s) _ j
  by_cases e : j = qOp s
  · subst e; rw [va_up_self, va_up_self]
  · rw [va_up_ne _ _ e, va_up_ne _ _ e, va_up_ne _ _ hj, va_up_ne _ _ hj]
/-- the state behind a field -/
def rFld (u : RS) (b : Nat) : RS := rGo (rNd (rSign (rWord u 0 3) b) (nsWo (nsFi (rCur u) (nI b - 97)) [])) 2
theorem rCur_fld (u : RS) (b : Nat) : rCur (rFld u b) = nsWo (nsFi (rCur u) (nI b - 97)) [] := rCur_nd (rSign (rWord u 0 3) b) _
theorem SF_fld (u : RS) (b : Nat) : SF u (rFld u b) := (((SF_word u 0 3).tr (SF_sign _ b)).tr (SF_nd _ _)).tr (SF_go _ _)
theorem fld_sg {u : RS} {b : Nat} (hw : nWo (rCur u) = []) : rCur (rSign (rWord u 0 3) b) = nsWo (rCur u) [[b]] := by
  rw [rCur_sign]
  have : nWo (rCur (rWord u 0 3)) = [] := hw
  rw [this]; rfl
theorem dl_fld {u : RS} {b : Nat} (hw : nWo (rCur u) = []) (hf : nFi (rCur u) = -1) (hb : 97 ≤ b ∧ b ≤ 100) : dl (rSign (rWord u 0 3) b) 58 = some (rFld u b) := by
  have hcur := fld_sg (b := b) hw
  rw [dl3 (s := rSign (rWord u 0 3) b) rfl]
  unfold rIn
  have hfst : rFst (rSign (rWord u 0 3) b) = b := by unfold rFst; rw [hcur]; rfl
  rw [if_neg (by decide), if_pos rfl, if_pos ⟨rfl, by rw [hcur]; exact hf, by rw [hfst]; exact hb.1, by rw [hfst]; omega⟩, hfst, hcur]
  rfl
abbrev gMk (M : Mem) (tp : List Nat) (k : Nat) (s : RS) : Mem → Nat → RS → RS → Prop := fun M1 a1 s1 u1 => mPF M M1 ∧ NF k M M1 ∧ fI M1 121 24 = fI M 121 24 ∧ fI M1 121 3 = fI M 121 3 ∧ Ps M1 tp a1 ∧ Cn tp a1 s1 ∧ PC s1 u1 ∧ mPt M1 k (rCur u1) ∧ (∀ p, p = 123 ∨ p = 127 ∨ p = 129 → aI M1 p k = aI M p k) ∧ (a1 < tp.length → ¬ rCan0 u1 (tp.getD a1 0) → dl s1 (tp.getD a1 0) = none) ∧ (¬ a1 < tp.length → ¬ rWhole s1) ∧ SF (rAdd s 0) u1 ∧ nAr (rCur u1) = nI (qOp s)
abbrev hCol (tp : List Nat) (a : Nat) (u : RS) : Prop := a + 1 < tp.length → tp.getD (a + 1) 0 = 58 → ¬ (nFi (rCur u) = -1 ∧ 97 ≤ tp.getD a 0 ∧ tp.getD a 0 < 101)
def pMk (M : Mem) (tp : List Nat) (k : Nat) (s : RS) : PT := fun v sh1 M1 => sh1 = SH ∧ v = none ∧ ∃ a1 s1 u1, gMk M tp k s M1 a1 s1 u1 ∧ hCol tp a1 u1
set_option maxRecDepth 100000 in
set_option maxHeartbeats 4000000 in
theorem cX9_marks_ (E : GE) (k : Nat) (tp : List Nat) (a : Nat) (s : RS) (M : Mem) (hP : Ps M tp a) (hC : Cn tp a s) (hk : k < 25) (hst : qSt s = 0) (hcn : qCn s < 25) (hpt : mPt M k (rCur (rAdd s 0))) (hbg : a < tp.length ∧ tp.getD a 0 ≠ 32 ∧ tp.getD a 0 ≠ 41) : Sp E mX9_marks 1 0 0 [.ref 121, .int (nI k)] SH M (pMk M tp k s) := by
  refine sp_of vX9_marks.1 rfl (Nat.le_of_ble_eq_true rfl) ?_
  have hb := tp_lt hP.2.1
  have h240 := hP.2.1.2.1
  have hkin : vp_in (nI k) 25 := vp_in_nI hk (by decide)
  have hkcl : (nI k).toNatClampNeg = k := nI_clamp (by omega)
  have hgo := hC.2.1
  have hop := hgo.2.1
  have J48 : ∀ (a1 : Nat) (s1 u1 : RS) (M1 : Mem), gMk M tp k s M1 a1 s1 u1 → nFi (rCur u1) = -1 → Wp (xM E mX9_marks 1 0 0 SH.length (pMk M tp k s)) 0 0 48 [(0, .ref 121), (1, .int (nI k))] [] SH M1 := by
    intro a1 s1 u1 M1 hg hfi
    have hg0 := hg
    obtain ⟨hF1, hN1, h24, h3, hP1, hC1, hPC1, hpt1, hro1, hbd1, hen1, hSF1, har1⟩ := hg0
    have hG1 := hP1.1
    have hT1 := hP1.2.1
    have hno : hCol tp a1 u1 → Wp (xM E mX9_marks 1 0 0 SH.length (pMk M tp k s)) 0 0 98 [(0, .ref 121), (1, .int (nI k))] [] SH M1 := by
      intro hcol
      refine wp_iconst (v := 0) dX9_marks_98 rfl ?_
      refine wp_istore_n dX9_marks_99 (Nat.le_of_ble_eq_true rfl) ?_
      refine wp_iload_n dX9_marks_100 rfl ?_
      refine wp_if_eq (tgt := 127) dX9_marks_101 (by decide) (fun c101 => ?_) (fun c101 => absurd rfl c101)
      refine wp_ret0 dX9_marks_127 rfl (Nat.le_refl _) (Nat.le_refl _) ?_
      exact ⟨rfl, rfl, a1, s1, u1, hg, hcol⟩
    refine wp_aload_n dX9_marks_48 rfl ?_
    refine wp_cV0i dX9_marks_49 ml_X9_134 vX9_here ⟨8, (RX9, TX9, 39), rfl, rfl, rfl⟩ (cX9_hereN E M1 tp a1 hP1) (Nat.le_of_ble_eq_true rfl) (Nat.le_of_ble_eq_true rfl) (Nat.le_of_ble_eq_true rfl) ?_
    refine wp_i2l dX9_marks_52 ?_
    refine wp_ldc2 dX9_marks_53 kl_X9_157 ?_
    refine wp_ldc2 dX9_marks_56 kl_X9_159 ?_
    refine wp_cS3i dX9_marks_59 ml_X9_117 sX9_in (cX9_inI E (hv tp a1) 97 100 _ _ _ _ _ rfl rfl rfl) (Nat.le_of_ble_eq_true rfl) (Nat.le_of_ble_eq_true rfl) (Nat.le_of_ble_eq_true rfl) ?_
    refine wp_if_eq (tgt := 98) dX9_marks_62 (by decide) (fun c62 => ?_) (fun c62 => ?_)
    · exact wp_lv (hno (fun h1 h2 h3 => b2i_e0.mp c62 ((hv_ad (hb a1)).mpr ⟨by omega, h3.2.1, by omega⟩))) (by repeat (first | exact trivial | refine ⟨rfl, ?_⟩))
    · have q1 := (hv_ad (hb a1)).mp (b2i_ne.mp c62)
      refine wp_aload_n dX9_marks_65 rfl ?_
      refine wp_getI dX9_marks_66 fl_X9_124 rfl rfl ?_
      refine wp_iconst (v := 1) dX9_marks_69 rfl ?_
      refine wp_iadd dX9_marks_70 ?_
      rw [at_inc hP1]
      refine wp_aload_n dX9_marks_71 rfl ?_
      refine wp_getI dX9_marks_72 fl_X9_121 rfl rfl ?_
      refine wp_icmp_ge (tgt := 98) dX9_marks_75 (by decide) (fun c75 => ?_) (fun c75 => ?_)
      · exact wp_lv (hno (fun h1 h2 h3 => nI_ge h1 (by omega) (by rw [← hT1.1]; exact c75))) (by repeat (first | exact trivial | refine ⟨rfl, ?_⟩))
      · have q2 : a1 + 1 < tp.length := by
          by_cases h : a1 + 1 < tp.length
          · exact h
          · exact absurd (show fI M1 121 2 ≤ nI (a1 + 1) by rw [hT1.1]; exact nI_le (by omega) (by omega)) c75
        refine wp_aload_n dX9_marks_78 rfl ?_
        refine wp_getR dX9_marks_79 fl_X9_13 rfl rfl (hG1 1) ?_
        refine wp_aload_n dX9_marks_82 rfl ?_
        refine wp_getI dX9_marks_83 fl_X9_124 rfl rfl ?_
        refine wp_iconst (v := 1) dX9_marks_86 rfl ?_
        refine wp_iadd dX9_marks_87 ?_
        refine wp_iaload dX9_marks_88 rfl (by rw [at_inc hP1]; exact vp_in_nI (by omega) (by decide)) ?_
        rw [at_inc hP1, nI_clamp (show a1 + 1 < 2 ^ 31 by omega), (hT1.2.2 (a1 + 1) q2).1]
        refine wp_bipush (v := 58) dX9_marks_89 (by decide) ?_
        refine wp_icmp_ne (tgt := 98) dX9_marks_91 (by decide) (fun c91 => ?_) (fun c91 => ?_)
        · exact wp_lv (hno (fun h1 h2 h3 => c91 (by rw [h2]; rfl))) (by repeat (first | exact trivial | refine ⟨rfl, ?_⟩))
        · have q3 : tp.getD (a1 + 1) 0 = 58 := (nIb (hb _) (by decide)).mp c91
          refine wp_iconst (v := 1) dX9_marks_94 rfl ?_
          refine wp_goto (tgt := 99) dX9_marks_95 (by decide) ?_
          refine wp_istore_n dX9_marks_99 (Nat.le_of_ble_eq_true rfl) ?_
          refine wp_iload_n dX9_marks_100 rfl ?_
          refine wp_if_eq (tgt := 127) dX9_marks_101 (by decide) (fun c101 => absurd c101 (by decide)) (fun c101 => ?_)
          refine wp_aload_n dX9_marks_104 rfl ?_
          refine wp_getR dX9_marks_105 fl_X9_26 rfl rfl (hG1 7) ?_
          refine wp_iload_n dX9_marks_108 rfl ?_
          refine wp_aload_n dX9_marks_109 rfl ?_
          refine wp_cV0i dX9_marks_110 ml_X9_134 vX9_here ⟨8, (RX9, TX9, 39), rfl, rfl, rfl⟩ (cX9_hereN E M1 tp a1 hP1) (Nat.le_of_ble_eq_true rfl) (Nat.le_of_ble_eq_true rfl) (Nat.le_of_ble_eq_true rfl) ?_
          refine wp_bipush (v := 97) dX9_marks_113 (by decide) ?_
          refine wp_isub dX9_marks_115 ?_
          refine wp_iastore dX9_marks_116 rfl hkin ?_
          refine wp_aload_n dX9_marks_117 rfl ?_
          refine wp_dup dX9_marks_118 rfl ?_
          refine wp_getI dX9_marks_119 fl_X9_124 rfl rfl ?_
          refine wp_iconst (v := 2) dX9_marks_122 rfl ?_
          refine wp_iadd dX9_marks_123 ?_
          refine wp_putI dX9_marks_124 fl_X9_124 rfl rfl (fun _ _ _ h => by cases h; rfl) rfl rfl ?_
          have hvx : hv tp a1 = nI (tp.getD a1 0) := if_pos q1.1
          have e23 : fI (sA M1 126 k (hv tp a1 - 97)) 121 23 + 2 = nI (a1 + 2) := by
            show fI M1 121 23 + 2 = _
            rw [hP1.2.2.1, show (2 : Int32) = nI 2 from rfl, nI_add]
          rw [hkcl, e23, hvx]
          refine wp_ret0 dX9_marks_127 rfl (Nat.le_refl _) (Nat.le_refl _) ?_
          have hd1 : dl s1 (tp.getD a1 0) = some (rSign (rWord u1 0 3) (tp.getD a1 0)) := by
            rw [hPC1.1 _ (Or.inr ⟨by omega, Or.inl (Or.inl ⟨q1.2.1, by omega⟩)⟩), rCore_sg (Or.inl ⟨q1.2.1, by omega⟩)]
          have hC2 := Cn_step hC1 q1.1 hd1
          have hC3 : Cn tp (a1 + 2) (rFld u1 (tp.getD a1 0)) := Cn_step hC2 q2 (by rw [q3]; exact dl_fld hPC1.2.2.2.1 hfi q1.2)
          have hcur := rCur_fld u1 (tp.getD a1 0)
          have h25 : qCn (rFld u1 (tp.getD a1 0)) ≤ 25 := hC3.2.1.2.2.1
          have hF2 := (hF1.sA (i := k) (x := nI (tp.getD a1 0) - 97) (p := 126) (by simp)).sI (p := 121) (f := 23) (x := nI (a1 + 2)) (by simp)
          refine ⟨rfl, rfl, a1 + 2, _, _, ⟨hF2, (hN1.sA (by unfold inK; omega)).sI, h24, h3, hP.fr hF2 rfl (by omega), hC3, PC_12 (Or.inr rfl) h25 (by rw [hcur]; exact hPC1.2.1) (by rw [hcur]; exact hPC1.2.2.1) (by rw [hcur]; rfl) (by rw [hcur]; exact hPC1.2.2.2.2), ?_, ?_, fun _ h => bad_12 (Or.inr rfl) h25 h, fun _ => nwh (show ¬ (2 = 0 ∨ dnSt 2) by decide), hSF1.tr (SF_fld _ _), by rw [hcur]; exact har1⟩, ?_⟩
          · rw [hcur]
            refine ⟨?_, ?_, ?_, ?_⟩
            · rw [aI_sI, aI_sA, if_neg (by omega)]; exact hpt1.1
            · rw [aI_sI, aI_sA, if_neg (by omega)]; exact hpt1.2.1
            · rw [aI_sI, aI_sA, if_pos ⟨rfl, rfl⟩]; rfl
            · rw [aI_sI, aI_sA, if_neg (by omega)]; exact hpt1.2.2.2
          · intro p hp
            rw [aI_sI, aI_sA, if_neg (by omega)]; exact hro1 p hp
          · intro h1 h2 h3
            have e : nI (tp.getD a1 0) - 97 = -1 := by have := h3.1; rw [hcur] at this; exact this
            have hq := q1.2
            generalize tp.getD a1 0 = y at e hq
            have : y = 97 ∨ y = 98 ∨ y = 99 ∨ y = 100 := by omega
            rcases this with h | h | h | h <;> (subst h; revert e; decide)
  have hro0 : ∀ p, p = 123 ∨ p = 127 ∨ p = 129 → aI M p k = aI M p k := fun _ _ => rfl
  have J18 : a < tp.length → (tp.getD a 0 = 43 ∨ tp.getD a 0 = 45) → Wp (xM E mX9_marks 1 0 0 SH.length (pMk M tp k s)) 0 0 18 [(0, .ref 121), (1, .int (nI k))] [] SH M := by
    intro hl hm
    have hG := hP.1
    have hvx : hv tp a = nI (tp.getD a 0) := if_pos hl
    have hC1 := Cn_step hC hl (dl_mark hst hcn hm)
    obtain ⟨ma, hma⟩ : ∃ ma : Int32, ma = if tp.getD a 0 = 43 then 1 else 2 := ⟨_, rfl⟩
    rw [← hma] at hC1
    have hcur := rCur_add (ma := ma) hop
    have J37 : Wp (xM E mX9_marks 1 0 0 SH.length (pMk M tp k s)) 0 0 37 [(0, .ref 121), (1, .int (nI k))] [.int ma, .int (nI k), .ref 124] SH M := by
      refine wp_iastore dX9_marks_37 rfl hkin ?_
      refine wp_aload_n dX9_marks_38 rfl ?_
      refine wp_dup dX9_marks_39 rfl ?_
      refine wp_getI dX9_marks_40 fl_X9_124 rfl rfl ?_
      refine wp_iconst (v := 1) dX9_marks_43 rfl ?_
      refine wp_iadd dX9_marks_44 ?_
      refine wp_putI dX9_marks_45 fl_X9_124 rfl rfl (fun _ _ _ h => by cases h; rfl) rfl rfl ?_
      have e23 : fI (sA M 124 k ma) 121 23 + 1 = nI (a + 1) := at_inc hP
      rw [hkcl, e23]
      have hF1 : mPF M (sI (sA M 124 k ma) 121 23 (nI (a + 1))) := (Fr.rf.sA (by simp)).sI (by simp)
      have h25 : qCn (rGo (rAdd s ma) 1) ≤ 25 := hcn
      have hcur1 : rCur (rGo (rAdd s ma) 1) = mkN 0 ma 1 (-1) 0 (nI (qOp s)) 0 [] := hcur
      refine J48 (a + 1) (rGo (rAdd s ma) 1) (rGo (rAdd s ma) 1) _ ⟨hF1, (NF.rf.sA (by unfold inK; omega)).sI, rfl, rfl, hP.fr hF1 rfl hl, hC1, PC_12 (Or.inl rfl) h25 (by rw [hcur1]; rfl) (by rw [hcur1]; rfl) (by rw [hcur1]; rfl) (by rw [hcur1]; rfl), ?_, ?_, fun _ h => bad_12 (Or.inl rfl) h25 h, fun _ => nwh (show ¬ (1 = 0 ∨ dnSt 1) by decide), (SF_add hop).tr (SF_go _ _), by rw [hcur1]; rfl⟩ (by rw [hcur1]; rfl)
      · rw [hcur1]
        rw [rCur_add hop] at hpt
        refine ⟨?_, ?_, ?_, ?_⟩
        · rw [aI_sI, aI_sA, if_pos ⟨rfl, rfl⟩]; rfl
        · rw [aI_sI, aI_sA, if_neg (by omega)]; exact hpt.2.1
        · rw [aI_sI, aI_sA, if_neg (by omega)]; exact hpt.2.2.1
        · rw [aI_sI, aI_sA, if_neg (by omega)]; exact hpt.2.2.2
      · intro p hp
        rw [aI_sI, aI_sA, if_neg (by omega)]
    refine wp_aload_n dX9_marks_18 rfl ?_
    refine wp_getR dX9_marks_19 fl_X9_20 rfl rfl (hG 5) ?_
    refine wp_iload_n dX9_marks_22 rfl ?_
    refine wp_aload_n dX9_marks_23 rfl ?_
    refine wp_cV0i dX9_marks_24 ml_X9_134 vX9_here ⟨8, (RX9, TX9, 39), rfl, rfl, rfl⟩ (cX9_hereN E M tp a hP) (Nat.le_of_ble_eq_true rfl) (Nat.le_of_ble_eq_true rfl) (Nat.le_of_ble_eq_true rfl) ?_
    refine wp_bipush (v := 43) dX9_marks_27 (by decide) ?_
    refine wp_icmp_ne (tgt := 36) dX9_marks_29 (by decide) (fun c29 => ?_) (fun c29 => ?_)
    · refine wp_iconst (v := 2) dX9_marks_36 rfl ?_
      have e : ¬ tp.getD a 0 = 43 := fun e => c29 (by rw [hvx, e]; rfl)
      rw [if_neg e] at hma; subst hma; exact J37
    · refine wp_iconst (v := 1) dX9_marks_32 rfl ?_
      refine wp_goto (tgt := 37) dX9_marks_33 (by decide) ?_
      have e : tp.getD a 0 = 43 := (nIb (hb _) (by decide)).mp (by rw [← hvx]; exact c29)
      rw [if_pos e] at hma; subst hma; exact J37
  refine wp_aload_n dX9_marks_0 rfl ?_
  refine wp_cV0i dX9_marks_1 ml_X9_134 vX9_here ⟨8, (RX9, TX9, 39), rfl, rfl, rfl⟩ (cX9_hereN E M tp a hP) (Nat.le_of_ble_eq_true rfl) (Nat.le_of_ble_eq_true rfl) (Nat.le_of_ble_eq_true rfl) ?_
  refine wp_bipush (v := 43) dX9_marks_4 (by decide) ?_
  refine wp_icmp_eq (tgt := 18) dX9_marks_6 (by decide) (fun c6 => ?_) (fun c6 => ?_)
  · have q := (hv_is (c := 43) (hb a) (by decide)).mp c6
    exact J18 q.1 (Or.inl q.2)
  · refine wp_aload_n dX9_marks_9 rfl ?_
    refine wp_cV0i dX9_marks_10 ml_X9_134 vX9_here ⟨8, (RX9, TX9, 39), rfl, rfl, rfl⟩ (cX9_hereN E M tp a hP) (Nat.le_of_ble_eq_true rfl) (Nat.le_of_ble_eq_true rfl) (Nat.le_of_ble_eq_true rfl) ?_
    refine wp_bipush (v := 45) dX9_marks_13 (by decide) ?_
    refine wp_icmp_ne (tgt := 48) dX9_marks_15 (by decide) (fun c15 => ?_) (fun c15 => ?_)
    · refine J48 a s (rAdd s 0) M ⟨Fr.rf, NF.rf, rfl, rfl, hP, hC, PC_0 hst hcn hop, hpt, hro0, fun _ h => ?_, fun h => absurd hbg.1 h, SF.rf, by rw [rCur_add hop]; rfl⟩ (by rw [rCur_add hop]; rfl)
      refine bad_0 hst hbg.2.1 hbg.2.2 (fun e => ?_) h
      rcases e with e | e
      · exact c6 ((hv_is (hb a) (by decide)).mpr ⟨hbg.1, e⟩)
      · exact c15 ((hv_is (hb a) (by decide)).mpr ⟨hbg.1, e⟩)
    · have q := (hv_is (c := 45) (hb a) (by decide)).mp c15
      exact J18 q.1 (Or.inr q.2)
