/-! ===== the reader: words, quotes, spans, cores ===== -/
theorem fst_at {M : Mem} {T : Nat} {s : RS} (hR : RR M T s) (hcu : qCu s < qCn s) (ho : okN (rCur s)) : sgnAt (aL M (T + 2 + 2 * qCu s + 1) 0) 0 = nI (rFst s) := by
  rw [(cN_of hR hcu).2.2.2.2.2.2.2 0 (by decide)]
  exact sgn_pack (i := 0) (okN_w ho 0).1 (okN_w ho 0).2 (by decide)
theorem rFst_lt {s : RS} (ho : okN (rCur s)) : rFst s < 256 := by
  unfold rFst
  have h := (okN_w ho 0).2
  rw [List.getD_eq_getElem?_getD]
  cases e : (nWd (rCur s) 0)[0]? with
  | none => simp
  | some b => exact h b (List.mem_of_getElem? e)
abbrev fldP (s : RS) : Prop := qSg s = 1 ∧ nFi (rCur s) = -1 ∧ 97 ≤ rFst s ∧ rFst s < 101
set_option maxRecDepth 100000 in
set_option maxHeartbeats 4000000 in
theorem cX4_isFieldLetter_ (E : GE) (T : Nat) (s : RS) (M : Mem) (hR : RR M T s) (hC : RRc M T s) (hcu : qCu s < qCn s) (hW : RRw M s) (ho : okN (rCur s)) (h8 : qSg s ≤ 8) : Sp E mX4_isFieldLetter 1 0 0 [.ref 56] SH M (RV (some (.int (b2i (fldP s)))) SH M) := by
  refine sp_of vX4_isFieldLetter.1 rfl (Nat.le_of_ble_eq_true rfl) ?_
  have hT := hR.2.1
  have h25 := hR.2.2.2.2.2.2.2.1
  have hc := isC_tree (k := qCu s) hT (by omega)
  have h7 := hR.2.2.1.2.2 (qCu s) (by omega)
  have hc4 : fR M 56 4 = some (T + 2 + 2 * qCu s) := hC
  have hne := Tne (k := qCu s) hT (by omega)
  have hN := cN_of hR hcu
  have hf := rFst_lt ho
  refine wp_aload_n dX4_isFieldLetter_0 rfl ?_
  refine wp_getR dX4_isFieldLetter_1 fl_X4_31 rfl rfl hc4 ?_
  refine wp_iconst (v := 0) dX4_isFieldLetter_4 rfl ?_
  refine wp_cV1l dX4_isFieldLetter_5 ml_X4_153 vX0_wordAt (isO_C hc) (cX0_wordAt_ E _ 0 M hc h7) (Nat.le_of_ble_eq_true rfl) (Nat.le_of_ble_eq_true rfl) (Nat.le_of_ble_eq_true rfl) ?_
  refine wp_iconst (v := 0) dX4_isFieldLetter_8 rfl ?_
  refine wp_cS2i dX4_isFieldLetter_9 ml_X4_157 sX2_signAt (cX2_signAt_ E _ _ _ _) (Nat.le_of_ble_eq_true rfl) (Nat.le_of_ble_eq_true rfl) (Nat.le_of_ble_eq_true rfl) ?_
  refine wp_istore_n dX4_isFieldLetter_12 (Nat.le_of_ble_eq_true rfl) ?_
  have e0 : (if ¬ (0 : Int32) < 0 ∧ ¬ (5 : Int32) ≤ 0 then aL M (T + 2 + 2 * qCu s + 1) (0 : Int32).toNatClampNeg else 0) = aL M (T + 2 + 2 * qCu s + 1) 0 := by rw [if_pos (by decide)]; rfl
  rw [e0, fst_at hR hcu ho]
  refine wp_aload_n dX4_isFieldLetter_13 rfl ?_
  refine wp_getI dX4_isFieldLetter_14 fl_X4_38 rfl rfl ?_
  refine wp_iconst (v := 1) dX4_isFieldLetter_17 rfl ?_
  refine wp_icmp_ne (tgt := 48) dX4_isFieldLetter_18 (by decide) (fun c18 => ?_) (fun c18 => ?_)
  · refine wp_iconst (v := 0) dX4_isFieldLetter_48 rfl ?_
    refine wp_ireturn dX4_isFieldLetter_49 rfl rfl (Nat.zero_le _) (Nat.zero_le _) ?_
    refine ⟨?_, rfl, rfl⟩
    congr 2
    first
      | exact (b2i_t ⟨nI_e (b := 1) (by omega) (by decide) (hW.2.1 ▸ c18), hN.2.2.2.1 ▸ c29, Decidable.byContradiction fun q => c35 (nI_lt (b := 97) (by omega) (by decide)), Decidable.byContradiction fun q => c41 (nI_le (a := 101) (by omega) (by omega))⟩).symm
      | exact (b2i_f (fun h => nI_nlt (a := rFst s) (b := 97) h.2.2.1 (by omega) c35)).symm
      | exact (b2i_f (fun h => nI_ge (b := 101) h.2.2.2 (by decide) c41)).symm
      | exact (b2i_f (fun h => c29 (hN.2.2.2.1.trans h.2.1))).symm
      | exact (b2i_f (fun h => c18 (hW.2.1.trans (congrArg nI h.1)))).symm
  · refine wp_aload_n dX4_isFieldLetter_21 rfl ?_
    refine wp_getR dX4_isFieldLetter_22 fl_X4_31 rfl rfl hc4 ?_
    refine wp_getI dX4_isFieldLetter_25 fl_X4_161 hc.1 rfl ?_
    refine wp_iconst (v := (-1)) dX4_isFieldLetter_28 rfl ?_
    refine wp_icmp_ne (tgt := 48) dX4_isFieldLetter_29 (by decide) (fun c29 => ?_) (fun c29 => ?_)
    · refine wp_iconst (v := 0) dX4_isFieldLetter_48 rfl ?_
      refine wp_ireturn dX4_isFieldLetter_49 rfl rfl (Nat.zero_le _) (Nat.zero_le _) ?_
      refine ⟨?_, rfl, rfl⟩
      congr 2
      first
        | exact (b2i_t ⟨nI_e (b := 1) (by omega) (by decide) (hW.2.1 ▸ c18), hN.2.2.2.1 ▸ c29, Decidable.byContradiction fun q => c35 (nI_lt (b := 97) (by omega) (by decide)), Decidable.byContradiction fun q => c41 (nI_le (a := 101) (by omega) (by omega))⟩).symm
        | exact (b2i_f (fun h => nI_nlt (a := rFst s) (b := 97) h.2.2.1 (by omega) c35)).symm
        | exact (b2i_f (fun h => nI_ge (b := 101) h.2.2.2 (by decide) c41)).symm
        | exact (b2i_f (fun h => c29 (hN.2.2.2.1.trans h.2.1))).symm
        | exact (b2i_f (fun h => c18 (hW.2.1.trans (congrArg nI h.1)))).symm
    · refine wp_iload_n dX4_isFieldLetter_32 rfl ?_
      refine wp_bipush (v := 97) dX4_isFieldLetter_33 (by decide) ?_
      refine wp_icmp_lt (tgt := 48) dX4_isFieldLetter_35 (by decide) (fun c35 => ?_) (fun c35 => ?_)
      · refine wp_iconst (v := 0) dX4_isFieldLetter_48 rfl ?_
        refine wp_ireturn dX4_isFieldLetter_49 rfl rfl (Nat.zero_le _) (Nat.zero_le _) ?_
        refine ⟨?_, rfl, rfl⟩
        congr 2
        first
          | exact (b2i_t ⟨nI_e (b := 1) (by omega) (by decide) (hW.2.1 ▸ c18), hN.2.2.2.1 ▸ c29, Decidable.byContradiction fun q => c35 (nI_lt (b := 97) (by omega) (by decide)), Decidable.byContradiction fun q => c41 (nI_le (a := 101) (by omega) (by omega))⟩).symm
          | exact (b2i_f (fun h => nI_nlt (a := rFst s) (b := 97) h.2.2.1 (by omega) c35)).symm
          | exact (b2i_f (fun h => nI_ge (b := 101) h.2.2.2 (by decide) c41)).symm
          | exact (b2i_f (fun h => c29 (hN.2.2.2.1.trans h.2.1))).symm
          | exact (b2i_f (fun h => c18 (hW.2.1.trans (congrArg nI h.1)))).symm
      · refine wp_iload_n dX4_isFieldLetter_38 rfl ?_
        refine wp_bipush (v := 101) dX4_isFieldLetter_39 (by decide) ?_
        refine wp_icmp_ge (tgt := 48) dX4_isFieldLetter_41 (by decide) (fun c41 => ?_) (fun c41 => ?_)
        · refine wp_iconst (v := 0) dX4_isFieldLetter_48 rfl ?_
          refine wp_ireturn dX4_isFieldLetter_49 rfl rfl (Nat.zero_le _) (Nat.zero_le _) ?_
          refine ⟨?_, rfl, rfl⟩
          congr 2
          first
            | exact (b2i_t ⟨nI_e (b := 1) (by omega) (by decide) (hW.2.1 ▸ c18), hN.2.2.2.1 ▸ c29, Decidable.byContradiction fun q => c35 (nI_lt (b := 97) (by omega) (by decide)), Decidable.byContradiction fun q => c41 (nI_le (a := 101) (by omega) (by omega))⟩).symm
            | exact (b2i_f (fun h => nI_nlt (a := rFst s) (b := 97) h.2.2.1 (by omega) c35)).symm
            | exact (b2i_f (fun h => nI_ge (b := 101) h.2.2.2 (by decide) c41)).symm
            | exact (b2i_f (fun h => c29 (hN.2.2.2.1.trans h.2.1))).symm
            | exact (b2i_f (fun h => c18 (hW.2.1.trans (congrArg nI h.1)))).symm
        · refine wp_iconst (v := 1) dX4_isFieldLetter_44 rfl ?_
          refine wp_goto (tgt := 49) dX4_isFieldLetter_45 (by decide) ?_
          refine wp_ireturn dX4_isFieldLetter_49 rfl rfl (Nat.zero_le _) (Nat.zero_le _) ?_
          refine ⟨?_, rfl, rfl⟩
          congr 2
          first
            | exact (b2i_t ⟨nI_e (b := 1) (by omega) (by decide) (hW.2.1 ▸ c18), hN.2.2.2.1 ▸ c29, Decidable.byContradiction fun q => c35 (nI_lt (b := 97) (by omega) (by decide)), Decidable.byContradiction fun q => c41 (nI_le (a := 101) (by omega) (by omega))⟩).symm
            | exact (b2i_f (fun h => nI_nlt (a := rFst s) (b := 97) h.2.2.1 (by omega) c35)).symm
            | exact (b2i_f (fun h => nI_ge (b := 101) h.2.2.2 (by decide) c41)).symm
            | exact (b2i_f (fun h => c29 (hN.2.2.2.1.trans h.2.1))).symm
            | exact (b2i_f (fun h => c18 (hW.2.1.trans (congrArg nI h.1)))).symm
theorem cN_field {M : Mem} {p : Nat} {x : ND} (h : cNode M p x) (v : Int32) (hv : v = sgnAt (aL M (p + 1) 0) 0 - 97) (h0 : nCo x = 0) (h1 : (nWo x).length ≤ 1) : cNode (clField M p) p (nsWo (nsFi x v) []) := by
  obtain ⟨a0, a1, a2, a3, a4, a5, a6, a7⟩ := h
  unfold clField
  refine ⟨?_, ?_, ?_, ?_, ?_, ?_, ?_, fun j hj => ?_⟩
  · simp only [fI_sI, fI_sL]; simp; exact a0
  · simp only [fI_sI, fI_sL]; simp; exact a1
  · simp only [fI_sI, fI_sL]; simp; exact a2
  · simp only [fI_sI, fI_sL]; simp; exact hv.symm
  · simp only [fI_sI, fI_sL]; simp; exact a4
  · simp only [fI_sI, fI_sL]
    simp only [true_and, if_true]
    have : nSz (nsWo (nsFi x v) []) = 0 := by
      unfold nSz
      rw [if_pos (show nCo (nsWo (nsFi x v) []) = 0 from h0)]
      rfl
    exact this.symm
  · simp only [fI_sI, fI_sL]; simp; exact a6
  · simp only [aL_sI, aL_sL]
    by_cases e : j = 0
    · subst e; simp; rfl
    · rw [if_neg (fun q => e q.2), a7 j hj]
      have : nWd x j = [] := by
        unfold nWd
        rw [List.getD_eq_getElem?_getD, List.getElem?_eq_none (by omega)]; rfl
      rw [this]; rfl
theorem RR_field {M : Mem} {T : Nat} {s : RS} (h : RR M T s) (hc : qCu s < qCn s) (ho : okN (rCur s)) (h0 : nCo (rCur s) = 0) (h1 : (nWo (rCur s)).length ≤ 1) : RR (clField M (T + 2 + 2 * qCu s)) T (rNd s (nsWo (nsFi (rCur s) (nI (rFst s) - 97)) [])) ∧ FrT T M (clField M (T + 2 + 2 * qCu s)) := by
  have hN := cN_field (cN_of h hc) (nI (rFst s) - 97) (by rw [fst_at h hc ho]) h0 h1
  obtain ⟨a, b, c, d, e, g, i⟩ := h
  have h25 := i.2.1
  have hne := Tne (k := qCu s) b (by omega)
  refine ⟨⟨a, b, c, ?_, ?_, ?_, ?_⟩, ?_⟩
  · unfold clField; simp only [fI_sI, fI_sL]; rw [if_neg (fun q => hne.2.1 q.1.symm), if_neg (fun q => hne.2.1 q.1.symm)]; exact d
  · unfold clField; simp only [fI_sI, fI_sL]; rw [if_neg (fun q => hne.2.1 q.1.symm), if_neg (fun q => hne.2.1 q.1.symm)]; exact e
  · unfold clField; simp only [fI_sI, fI_sL]; rw [if_neg (fun q => hne.2.1 q.1.symm), if_neg (fun q => hne.2.1 q.1.symm)]; exact g
  · refine cTree_upd i hc ?_ (fun k hk hkc => ⟨fun f => ?_, fun j => ?_⟩) hN
    · unfold clField; simp only [fI_sI, fI_sL]; rw [if_neg (by omega), if_neg (by omega)]
    · unfold clField; simp only [fI_sI, fI_sL]; rw [if_neg (by omega), if_neg (by omega)]
    · unfold clField; simp only [aL_sI, aL_sL]; rw [if_neg (by omega)]
  · exact ((FrT.rf.sI (Or.inr ⟨by omega, by omega⟩)).sL (Or.inr ⟨by omega, by omega⟩)).sI (Or.inr ⟨by omega, by omega⟩)
set_option maxRecDepth 100000 in
set_option maxHeartbeats 4000000 in
theorem cX4_takeField_ (E : GE) (T : Nat) (s : RS) (M : Mem) (hR : RR M T s) (hC : RRc M T s) (hcu : qCu s < qCn s) : Sp E mX4_takeField 2 0 0 [.ref 56] SH M (RV (some (.int 1)) SH (sI (clField M (T + 2 + 2 * qCu s)) 56 1 2)) := by
  refine sp_of vX4_takeField.1 rfl (Nat.le_of_ble_eq_true rfl) ?_
  have hT := hR.2.1
  have h25 := hR.2.2.2.2.2.2.2.1
  have hc := isC_tree (k := qCu s) hT (by omega)
  have h7 := hR.2.2.1.2.2 (qCu s) (by omega)
  have hc4 : fR M 56 4 = some (T + 2 + 2 * qCu s) := hC
  have hne := Tne (k := qCu s) hT (by omega)
  refine wp_aload_n dX4_takeField_0 rfl ?_
  refine wp_getR dX4_takeField_1 fl_X4_31 rfl rfl hc4 ?_
  refine wp_cV0v dX4_takeField_4 ml_X4_164 vX0_turnToField (isO_C hc) (cX0_turnToField_ E _ _ hc h7) (Nat.le_of_ble_eq_true rfl) (Nat.le_of_ble_eq_true rfl) (Nat.le_of_ble_eq_true rfl) ?_
  refine wp_aload_n dX4_takeField_7 rfl ?_
  refine wp_iconst (v := 2) dX4_takeField_8 rfl ?_
  refine wp_cV1i dX4_takeField_9 ml_X4_82 vX4_goTo ⟨3, (RX4, TX4, 8), rfl, rfl, rfl⟩ (cX4_goTo_ E _ _) (Nat.le_of_ble_eq_true rfl) (Nat.le_of_ble_eq_true rfl) (Nat.le_of_ble_eq_true rfl) ?_
  refine wp_ireturn dX4_takeField_12 rfl rfl (Nat.zero_le _) (Nat.zero_le _) ?_
  exact ⟨rfl, rfl, rfl⟩
set_option maxRecDepth 100000 in
set_option maxHeartbeats 4000000 in
theorem cX4_takesInWord_ (E : GE) (T : Nat) (s : RS) (M : Mem) (hR : RR M T s) (hC : RRc M T s) (hcu : qCu s < qCn s) (hW : RRw M s) (ho : okN (rCur s)) (hk : wOk s) (hco : nCo (rCur s) = 0 → qWn s = 0) (hco3 : nCo (rCur s) ≠ 3) (hop : qOp s < qCn s) (hch : chn (qNd s) (qDep s) (qOp s)) (hd5 : qDep s ≤ 5) (h0 : nCo (rCur s) = 0) (h1 : (nWo (rCur s)).length ≤ 1) (b : Nat) (hb : b < 256) : Sp E mX4_takesInWord 4 0 0 [.ref 56, .int (nI b)] SH M (pO T M (rIn s b)) := by
  refine sp_of vX4_takesInWord.1 rfl (Nat.le_of_ble_eq_true rfl) ?_
  have hT := hR.2.1
  have h25 := hR.2.2.2.2.2.2.2.1
  have hc := isC_tree (k := qCu s) hT (by omega)
  have h7 := hR.2.2.1.2.2 (qCu s) (by omega)
  have hc4 : fR M 56 4 = some (T + 2 + 2 * qCu s) := hC
  have hne := Tne (k := qCu s) hT (by omega)
  refine wp_iload_n dX4_takesInWord_0 rfl ?_
  refine wp_cS1i dX4_takesInWord_1 ml_X4_117 sX2_isSign (cX2_isSign_ E _ _ _) (Nat.le_of_ble_eq_true rfl) (Nat.le_of_ble_eq_true rfl) (Nat.le_of_ble_eq_true rfl) ?_
  refine wp_if_eq (tgt := 30) dX4_takesInWord_4 (by decide) (fun c4 => ?_) (fun c4 => ?_)
  · refine wp_iload_n dX4_takesInWord_30 rfl ?_
    refine wp_bipush (v := 58) dX4_takesInWord_31 (by decide) ?_
    refine wp_icmp_ne (tgt := 56) dX4_takesInWord_33 (by decide) (fun c33 => ?_) (fun c33 => ?_)
    · refine wp_iload_n dX4_takesInWord_56 rfl ?_
      refine wp_bipush (v := 126) dX4_takesInWord_57 (by decide) ?_
      refine wp_icmp_ne (tgt := 83) dX4_takesInWord_59 (by decide) (fun c59 => ?_) (fun c59 => ?_)
      · refine wp_aload_n dX4_takesInWord_83 rfl ?_
        refine wp_iload_n dX4_takesInWord_84 rfl ?_
        refine wp_cV1p dX4_takesInWord_85 ml_X4_85 vX4_takesTail ⟨3, (RX4, TX4, 8), rfl, rfl, rfl⟩ (cX4_takesTail_ E T s M hR hop hch hd5 hC b hb) (Nat.le_of_ble_eq_true rfl) (Nat.le_of_ble_eq_true rfl) (Nat.le_of_ble_eq_true rfl) (Nat.le_refl _) (Nat.le_refl _) (fun v sh1 M1 hq => ?_)
        have hq0 := hq
        obtain ⟨rfl, rfl, hF1, hN1, hS1⟩ := hq
        refine wp_ireturn dX4_takesInWord_88 rfl (nar_b2i _) (Nat.zero_le _) (Nat.zero_le _) ?_
        have hs : ¬ isSg b := fun q => b2i_e0.mp c4 ((isSg_i hb).mpr q)
        have e : ¬ b = 126 := fun e => c59 (by rw [e]; rfl)
        have e2 : ¬ b = 58 := fun e => c33 (by rw [e]; rfl)
        exact pO_eq hq0 (by unfold rIn; rw [if_neg hs, if_neg e2, if_neg e])
      · refine wp_aload_n dX4_takesInWord_62 rfl ?_
        refine wp_getI dX4_takesInWord_63 fl_X4_41 rfl rfl ?_
        refine wp_if_eq (tgt := 81) dX4_takesInWord_66 (by decide) (fun c66 => ?_) (fun c66 => ?_)
        · refine wp_iconst (v := 0) dX4_takesInWord_81 rfl ?_
          refine wp_ireturn dX4_takesInWord_82 rfl rfl (Nat.zero_le _) (Nat.zero_le _) ?_
          have hs : ¬ isSg b := fun q => b2i_e0.mp c4 ((isSg_i hb).mpr q)
          have e : b = 126 := (nIb hb (by decide)).mp c59
          have e2 : ¬ b = 58 := by omega
          first
            | (rw [hW.2.2] at c66; exact pO_no (by unfold rIn; rw [if_neg hs, if_neg e2, if_pos e, if_neg (b2i_e0.mp c66)]))
            | (rw [hW.2.2] at c66; exact pO_yes (s1 := rGo s 4) (by unfold rIn; rw [if_neg hs, if_neg e2, if_pos e, if_pos (b2i_ne.mp c66)]) (FrT.rf.sI (Or.inl rfl)) (RRx_go hR (fun _ => hC) (fun h => absurd h (show ¬ wdSt 4 by decide))))
        · refine wp_aload_n dX4_takesInWord_69 rfl ?_
          refine wp_iconst (v := 4) dX4_takesInWord_70 rfl ?_
          refine wp_cV1i dX4_takesInWord_71 ml_X4_82 vX4_goTo ⟨3, (RX4, TX4, 8), rfl, rfl, rfl⟩ (cX4_goTo_ E _ _) (Nat.le_of_ble_eq_true rfl) (Nat.le_of_ble_eq_true rfl) (Nat.le_of_ble_eq_true rfl) ?_
          refine wp_if_eq (tgt := 81) dX4_takesInWord_74 (by decide) (fun c74 => absurd c74 (by decide)) (fun c74 => ?_)
          refine wp_iconst (v := 1) dX4_takesInWord_77 rfl ?_
          refine wp_goto (tgt := 82) dX4_takesInWord_78 (by decide) ?_
          refine wp_ireturn dX4_takesInWord_82 rfl rfl (Nat.zero_le _) (Nat.zero_le _) ?_
          have hs : ¬ isSg b := fun q => b2i_e0.mp c4 ((isSg_i hb).mpr q)
          have e : b = 126 := (nIb hb (by decide)).mp c59
          have e2 : ¬ b = 58 := by omega
          first
            | (rw [hW.2.2] at c66; exact pO_no (by unfold rIn; rw [if_neg hs, if_neg e2, if_pos e, if_neg (b2i_e0.mp c66)]))
            | (rw [hW.2.2] at c66; exact pO_yes (s1 := rGo s 4) (by unfold rIn; rw [if_neg hs, if_neg e2, if_pos e, if_pos (b2i_ne.mp c66)]) (FrT.rf.sI (Or.inl rfl)) (RRx_go hR (fun _ => hC) (fun h => absurd h (show ¬ wdSt 4 by decide))))
    · refine wp_aload_n dX4_takesInWord_36 rfl ?_
      refine wp_cV0i dX4_takesInWord_37 ml_X4_147 vX4_isFieldLetter ⟨3, (RX4, TX4, 8), rfl, rfl, rfl⟩ (cX4_isFieldLetter_ E T s M hR hC hcu hW ho hk.1) (Nat.le_of_ble_eq_true rfl) (Nat.le_of_ble_eq_true rfl) (Nat.le_of_ble_eq_true rfl) ?_
      refine wp_if_eq (tgt := 54) dX4_takesInWord_40 (by decide) (fun c40 => ?_) (fun c40 => ?_)
      · refine wp_iconst (v := 0) dX4_takesInWord_54 rfl ?_
        refine wp_ireturn dX4_takesInWord_55 rfl rfl (Nat.zero_le _) (Nat.zero_le _) ?_
        have hs : ¬ isSg b := fun q => b2i_e0.mp c4 ((isSg_i hb).mpr q)
        have e : b = 58 := (nIb hb (by decide)).mp c33
        first
          | exact pO_no (by unfold rIn; rw [if_neg hs, if_pos e, if_neg (b2i_e0.mp c40)])
          | exact pO_yes (s1 := rGo (rNd s (nsWo (nsFi (rCur s) (nI (rFst s) - 97)) [])) 2) (by unfold rIn; rw [if_neg hs, if_pos e, if_pos (b2i_ne.mp c40)]) ((RR_field hR hcu ho h0 h1).2.sI (Or.inl rfl)) (RRx_go (RR_field hR hcu ho h0 h1).1 (fun _ => hC) (fun h => absurd h (show ¬ wdSt 2 by decide)))
      · refine wp_aload_n dX4_takesInWord_43 rfl ?_
        refine wp_cV0i dX4_takesInWord_44 ml_X4_150 vX4_takeField ⟨3, (RX4, TX4, 8), rfl, rfl, rfl⟩ (cX4_takeField_ E T s M hR hC hcu) (Nat.le_of_ble_eq_true rfl) (Nat.le_of_ble_eq_true rfl) (Nat.le_of_ble_eq_true rfl) ?_
        refine wp_if_eq (tgt := 54) dX4_takesInWord_47 (by decide) (fun c47 => absurd c47 (by decide)) (fun c47 => ?_)
        refine wp_iconst (v := 1) dX4_takesInWord_50 rfl ?_
        refine wp_goto (tgt := 55) dX4_takesInWord_51 (by decide) ?_
        refine wp_ireturn dX4_takesInWord_55 rfl rfl (Nat.zero_le _) (Nat.zero_le _) ?_
        have hs : ¬ isSg b := fun q => b2i_e0.mp c4 ((isSg_i hb).mpr q)
        have e : b = 58 := (nIb hb (by decide)).mp c33
        first
          | exact pO_no (by unfold rIn; rw [if_neg hs, if_pos e, if_neg (b2i_e0.mp c40)])
          | exact pO_yes (s1 := rGo (rNd s (nsWo (nsFi (rCur s) (nI (rFst s) - 97)) [])) 2) (by unfold rIn; rw [if_neg hs, if_pos e, if_pos (b2i_ne.mp c40)]) ((RR_field hR hcu ho h0 h1).2.sI (Or.inl rfl)) (RRx_go (RR_field hR hcu ho h0 h1).1 (fun _ => hC) (fun h => absurd h (show ¬ wdSt 2 by decide)))
  · refine wp_aload_n dX4_takesInWord_7 rfl ?_
    refine wp_getI dX4_takesInWord_8 fl_X4_38 rfl rfl ?_
    refine wp_bipush (v := 8) dX4_takesInWord_11 (by decide) ?_
    refine wp_icmp_ge (tgt := 28) dX4_takesInWord_13 (by decide) (fun c13 => ?_) (fun c13 => ?_)
    · refine wp_iconst (v := 0) dX4_takesInWord_28 rfl ?_
      refine wp_ireturn dX4_takesInWord_29 rfl rfl (Nat.zero_le _) (Nat.zero_le _) ?_
      have hs : isSg b := (isSg_i hb).mp (b2i_ne.mp c4)
      first
        | exact pO_no (by unfold rIn; rw [if_pos hs, if_neg (fun h => by rw [hW.2.1] at c13; have := (nI_leI (a := 8) (by decide) (by have := hk.1; omega)).mp c13; omega)])
        | (have h8 : qSg s < 8 := by
             rw [hW.2.1] at c13
             have h8 := hk.1
             exact Decidable.byContradiction fun q => c13 (nI_le (a := 8) (by omega) (by omega))
           obtain ⟨g1, g2, g3, g4⟩ := RR_sign hR hcu hW ho hk h8 hb hco hco3
           exact pO_yes (s1 := rSign s b) (by unfold rIn; rw [if_pos hs, if_pos h8]) g3 ⟨g1, fun _ => (g4 4).trans hC, fun _ => g2⟩)
    · refine wp_aload_n dX4_takesInWord_16 rfl ?_
      refine wp_iload_n dX4_takesInWord_17 rfl ?_
      refine wp_cV1i dX4_takesInWord_18 ml_X4_131 vX4_takeSign ⟨3, (RX4, TX4, 8), rfl, rfl, rfl⟩ (cX4_takeSign_ E _ (nI b) M hc h7 hc4) (Nat.le_of_ble_eq_true rfl) (Nat.le_of_ble_eq_true rfl) (Nat.le_of_ble_eq_true rfl) ?_
      refine wp_if_eq (tgt := 28) dX4_takesInWord_21 (by decide) (fun c21 => absurd c21 (by decide)) (fun c21 => ?_)
      refine wp_iconst (v := 1) dX4_takesInWord_24 rfl ?_
      refine wp_goto (tgt := 29) dX4_takesInWord_25 (by decide) ?_
      refine wp_ireturn dX4_takesInWord_29 rfl rfl (Nat.zero_le _) (Nat.zero_le _) ?_
      have hs : isSg b := (isSg_i hb).mp (b2i_ne.mp c4)
      first
        | exact pO_no (by unfold rIn; rw [if_pos hs, if_neg (fun h => by rw [hW.2.1] at c13; have := (nI_leI (a := 8) (by decide) (by have := hk.1; omega)).mp c13; omega)])
        | (have h8 : qSg s < 8 := by
             rw [hW.2.1] at c13
             have h8 := hk.1
             exact Decidable.byContradiction fun q => c13 (nI_le (a := 8) (by omega) (by omega))
           obtain ⟨g1, g2, g3, g4⟩ := RR_sign hR hcu hW ho hk h8 hb hco hco3
           exact pO_yes (s1 := rSign s b) (by unfold rIn; rw [if_pos hs, if_pos h8]) g3 ⟨g1, fun _ => (g4 4).trans hC, fun _ => g2⟩)
set_option maxRecDepth 100000 in
set_option maxHeartbeats 4000000 in
theorem cX4_takesInQuote_ (E : GE) (T : Nat) (s : RS) (M : Mem) (hR : RR M T s) (hC : RRc M T s) (hcu : qCu s < qCn s) (hW : RRw M s) (ho : okN (rCur s)) (hk : wOk s) (hco : nCo (rCur s) = 0 → qWn s = 0) (hco3 : nCo (rCur s) ≠ 3) (b : Nat) (hb : b < 256) : Sp E mX4_takesInQuote 3 0 0 [.ref 56, .int (nI b)] SH M (pO T M (rQuo s b)) := by
  refine sp_of vX4_takesInQuote.1 rfl (Nat.le_of_ble_eq_true rfl) ?_
  refine wp_iload_n dX4_takesInQuote_0 rfl ?_
  refine wp_bipush (v := 34) dX4_takesInQuote_1 (by decide) ?_
  refine wp_icmp_ne (tgt := 13) dX4_takesInQuote_3 (by decide) (fun c3 => ?_) (fun c3 => ?_)
  · refine wp_iload_n dX4_takesInQuote_13 rfl ?_
    refine wp_bipush (v := 32) dX4_takesInQuote_14 (by decide) ?_
    refine wp_icmp_ne (tgt := 44) dX4_takesInQuote_16 (by decide) (fun c16 => ?_) (fun c16 => ?_)
    · refine wp_aload_n dX4_takesInQuote_44 rfl ?_
      refine wp_iload_n dX4_takesInQuote_45 rfl ?_
      refine wp_bipush (v := 6) dX4_takesInQuote_46 (by decide) ?_
      refine wp_cV2p dX4_takesInQuote_48 ml_X4_73 vX4_takesLetter ⟨3, (RX4, TX4, 8), rfl, rfl, rfl⟩ (cX4_takesLetter_ E T s M hR hC hcu hW ho hk hco hco3 b 6 hb) (Nat.le_of_ble_eq_true rfl) (Nat.le_of_ble_eq_true rfl) (Nat.le_of_ble_eq_true rfl) (Nat.le_refl _) (Nat.le_refl _) (fun v sh1 M1 hq => ?_)
      have hq0 := hq
      obtain ⟨rfl, rfl, hF1, hN1, hS1⟩ := hq
      refine wp_ireturn dX4_takesInQuote_51 rfl (nar_b2i _) (Nat.zero_le _) (Nat.zero_le _) ?_
      have e : ¬ b = 34 := fun e => c3 (by rw [e]; rfl)
      have e2 : ¬ b = 32 := fun e => c16 (by rw [e]; rfl)
      exact pO_eq hq0 (by unfold rQuo; rw [if_neg e, if_neg e2])
    · refine wp_aload_n dX4_takesInQuote_19 rfl ?_
      refine wp_getI dX4_takesInQuote_20 fl_X4_35 rfl rfl ?_
      refine wp_iconst (v := 1) dX4_takesInQuote_23 rfl ?_
      refine wp_iadd dX4_takesInQuote_24 ?_
      refine wp_iconst (v := 5) dX4_takesInQuote_25 rfl ?_
      refine wp_icmp_ge (tgt := 42) dX4_takesInQuote_26 (by decide) (fun c26 => ?_) (fun c26 => ?_)
      · refine wp_iconst (v := 0) dX4_takesInQuote_42 rfl ?_
        refine wp_ireturn dX4_takesInQuote_43 rfl rfl (Nat.zero_le _) (Nat.zero_le _) ?_
        have e : ¬ b = 34 := fun e => c3 (by rw [e]; rfl)
        have e2 : b = 32 := (nIb hb (by decide)).mp c16
        rw [hW.1, nI_1] at c26
        first
          | exact pO_no (by unfold rQuo; rw [if_neg e, if_pos e2, if_neg (fun h => nI_ge (b := 5) h (by decide) c26)])
          | exact pO_yes (s1 := rGo s 7) (by unfold rQuo; rw [if_neg e, if_pos e2, if_pos (Decidable.byContradiction fun q => c26 (nI_le (a := 5) (by omega) (by have := hk.2.1; omega)))]) (FrT.rf.sI (Or.inl rfl)) (RRx_go hR (fun _ => hC) (fun _ => hW))
      · refine wp_aload_n dX4_takesInQuote_29 rfl ?_
        refine wp_bipush (v := 7) dX4_takesInQuote_30 (by decide) ?_
        refine wp_cV1i dX4_takesInQuote_32 ml_X4_82 vX4_goTo ⟨3, (RX4, TX4, 8), rfl, rfl, rfl⟩ (cX4_goTo_ E _ _) (Nat.le_of_ble_eq_true rfl) (Nat.le_of_ble_eq_true rfl) (Nat.le_of_ble_eq_true rfl) ?_
        refine wp_if_eq (tgt := 42) dX4_takesInQuote_35 (by decide) (fun c35 => absurd c35 (by decide)) (fun c35 => ?_)
        refine wp_iconst (v := 1) dX4_takesInQuote_38 rfl ?_
        refine wp_goto (tgt := 43) dX4_takesInQuote_39 (by decide) ?_
        refine wp_ireturn dX4_takesInQuote_43 rfl rfl (Nat.zero_le _) (Nat.zero_le _) ?_
        have e : ¬ b = 34 := fun e => c3 (by rw [e]; rfl)
        have e2 : b = 32 := (nIb hb (by decide)).mp c16
        rw [hW.1, nI_1] at c26
        first
          | exact pO_no (by unfold rQuo; rw [if_neg e, if_pos e2, if_neg (fun h => nI_ge (b := 5) h (by decide) c26)])
          | exact pO_yes (s1 := rGo s 7) (by unfold rQuo; rw [if_neg e, if_pos e2, if_pos (Decidable.byContradiction fun q => c26 (nI_le (a := 5) (by omega) (by have := hk.2.1; omega)))]) (FrT.rf.sI (Or.inl rfl)) (RRx_go hR (fun _ => hC) (fun _ => hW))
  · refine wp_aload_n dX4_takesInQuote_6 rfl ?_
    refine wp_bipush (v := 8) dX4_takesInQuote_7 (by decide) ?_
    refine wp_cV1i dX4_takesInQuote_9 ml_X4_82 vX4_goTo ⟨3, (RX4, TX4, 8), rfl, rfl, rfl⟩ (cX4_goTo_ E _ _) (Nat.le_of_ble_eq_true rfl) (Nat.le_of_ble_eq_true rfl) (Nat.le_of_ble_eq_true rfl) ?_
    refine wp_ireturn dX4_takesInQuote_12 rfl rfl (Nat.zero_le _) (Nat.zero_le _) ?_
    have e : b = 34 := (nIb hb (by decide)).mp c3
    exact pO_yes (s1 := rGo s 8) (by unfold rQuo; rw [if_pos e]) (FrT.rf.sI (Or.inl rfl)) (RRx_go hR (fun _ => hC) (fun h => absurd h (show ¬ wdSt 8 by decide)))
theorem wOk_word {s : RS} (n nx : Nat) (hn : n ≤ 4) (hw : n = (nWo (rCur s)).length) : wOk (rWord s n nx) := by
  have : nWd (rCur s) n = [] := by
    unfold nWd
    rw [List.getD_eq_getElem?_getD, List.getElem?_eq_none (by omega)]; rfl
  refine ⟨Nat.zero_le _, hn, ?_, fun _ => hw, fun h => absurd h (Nat.lt_irrefl 0)⟩
  show 0 = (nWd (rCur s) n).length
  rw [this]; rfl
set_option maxRecDepth 100000 in
set_option maxHeartbeats 4000000 in
theorem cX4_takesInQuoteGap_ (E : GE) (T : Nat) (s : RS) (M : Mem) (hR : RR M T s) (hC : RRc M T s) (hcu : qCu s < qCn s) (hW : RRw M s) (ho : okN (rCur s)) (hwn : qWn s + 1 ≤ 4) (hwl : qWn s + 1 = (nWo (rCur s)).length) (hco : nCo (rCur s) = 1) (h7s : qSt s = 7) (b : Nat) (hb : b < 256) : Sp E mX4_takesInQuoteGap 2 0 0 [.ref 56, .int (nI b)] SH M (pO T M (rQGap s b)) := by
  refine sp_of vX4_takesInQuoteGap.1 rfl (Nat.le_of_ble_eq_true rfl) ?_
  have hT := hR.2.1
  have h25 := hR.2.2.2.2.2.2.2.1
  have hc := isC_tree (k := qCu s) hT (by omega)
  have h7 := hR.2.2.1.2.2 (qCu s) (by omega)
  have hc4 : fR M 56 4 = some (T + 2 + 2 * qCu s) := hC
  have hne := Tne (k := qCu s) hT (by omega)
  have e17 : fI M 56 5 + 1 = nI (qWn s + 1) := by rw [hW.1, nI_1]
  have hd1 : nCo (rCur s) ≠ 0 := by rw [hco]; decide
  have hd3 : nCo (rCur s) ≠ 3 := by rw [hco]; decide
  refine wp_iload_n dX4_takesInQuoteGap_0 rfl ?_
  refine wp_bipush (v := 32) dX4_takesInQuoteGap_1 (by decide) ?_
  refine wp_icmp_ne (tgt := 8) dX4_takesInQuoteGap_3 (by decide) (fun c3 => ?_) (fun c3 => ?_)
  · refine wp_iload_n dX4_takesInQuoteGap_8 rfl ?_
    refine wp_cS1i dX4_takesInQuoteGap_9 ml_X4_140 sX2_isLetter (cX2_isLetter_ E _ _ _) (Nat.le_of_ble_eq_true rfl) (Nat.le_of_ble_eq_true rfl) (Nat.le_of_ble_eq_true rfl) ?_
    refine wp_if_eq (tgt := 42) dX4_takesInQuoteGap_12 (by decide) (fun c12 => ?_) (fun c12 => ?_)
    · refine wp_iconst (v := 0) dX4_takesInQuoteGap_42 rfl ?_
      refine wp_ireturn dX4_takesInQuoteGap_43 rfl rfl (Nat.zero_le _) (Nat.zero_le _) ?_
      have e : ¬ b = 32 := fun e => c3 (by rw [e]; rfl)
      first
        | exact pO_no (by unfold rQGap; rw [if_neg e, if_neg (fun h => b2i_e0.mp c12 ((isLt_i hb).mpr h))])
        | (have hl : isLt b := (isLt_i hb).mp (b2i_ne.mp c12)
           rw [e17]
           have hRw := RR_word (qWn s + 1) 6 hR
           obtain ⟨g1, g2, g3, g4⟩ := RR_sign (b := b) hRw.1 hcu hRw.2 ho (wOk_word (qWn s + 1) 6 hwn hwl) (show 0 < 8 by decide) hb (fun h => absurd h hd1) hd3
           exact pO_yes (s1 := rSign (rWord s (qWn s + 1) 6) b) (by unfold rQGap; rw [if_neg e, if_pos hl]) (((((FrT.rf.sI (Or.inl rfl)).sI (Or.inl rfl)).sI (Or.inl rfl)).sI (Or.inl rfl)).tr g3) ⟨g1, fun _ => (g4 4).trans hC, fun _ => g2⟩)
    · refine wp_aload_n dX4_takesInQuoteGap_15 rfl ?_
      refine wp_aload_n dX4_takesInQuoteGap_16 rfl ?_
      refine wp_getI dX4_takesInQuoteGap_17 fl_X4_35 rfl rfl ?_
      refine wp_iconst (v := 1) dX4_takesInQuoteGap_20 rfl ?_
      refine wp_iadd dX4_takesInQuoteGap_21 ?_
      refine wp_bipush (v := 6) dX4_takesInQuoteGap_22 (by decide) ?_
      refine wp_cV2i dX4_takesInQuoteGap_24 ml_X4_91 vX4_beginWord ⟨3, (RX4, TX4, 8), rfl, rfl, rfl⟩ (cX4_beginWord_ E _ _ _) (Nat.le_of_ble_eq_true rfl) (Nat.le_of_ble_eq_true rfl) (Nat.le_of_ble_eq_true rfl) ?_
      refine wp_if_eq (tgt := 42) dX4_takesInQuoteGap_27 (by decide) (fun c27 => absurd c27 (by decide)) (fun c27 => ?_)
      refine wp_aload_n dX4_takesInQuoteGap_30 rfl ?_
      refine wp_iload_n dX4_takesInQuoteGap_31 rfl ?_
      refine wp_cV1i dX4_takesInQuoteGap_32 ml_X4_131 vX4_takeSign ⟨3, (RX4, TX4, 8), rfl, rfl, rfl⟩ (cX4_takeSign_ E _ (nI b) _ hc h7 hc4) (Nat.le_of_ble_eq_true rfl) (Nat.le_of_ble_eq_true rfl) (Nat.le_of_ble_eq_true rfl) ?_
      refine wp_if_eq (tgt := 42) dX4_takesInQuoteGap_35 (by decide) (fun c35 => absurd c35 (by decide)) (fun c35 => ?_)
      refine wp_iconst (v := 1) dX4_takesInQuoteGap_38 rfl ?_
      refine wp_goto (tgt := 43) dX4_takesInQuoteGap_39 (by decide) ?_
      refine wp_ireturn dX4_takesInQuoteGap_43 rfl rfl (Nat.zero_le _) (Nat.zero_le _) ?_
      have e : ¬ b = 32 := fun e => c3 (by rw [e]; rfl)
      first
        | exact pO_no (by unfold rQGap; rw [if_neg e, if_neg (fun h => b2i_e0.mp c12 ((isLt_i hb).mpr h))])
        | (have hl : isLt b := (isLt_i hb).mp (b2i_ne.mp c12)
           rw [e17]
           have hRw := RR_word (qWn s + 1) 6 hR
           obtain ⟨g1, g2, g3, g4⟩ := RR_sign (b := b) hRw.1 hcu hRw.2 ho (wOk_word (qWn s + 1) 6 hwn hwl) (show 0 < 8 by decide) hb (fun h => absurd h hd1) hd3
           exact pO_yes (s1 := rSign (rWord s (qWn s + 1) 6) b) (by unfold rQGap; rw [if_neg e, if_pos hl]) (((((FrT.rf.sI (Or.inl rfl)).sI (Or.inl rfl)).sI (Or.inl rfl)).sI (Or.inl rfl)).tr g3) ⟨g1, fun _ => (g4 4).trans hC, fun _ => g2⟩)
  · refine wp_iconst (v := 1) dX4_takesInQuoteGap_6 rfl ?_
    refine wp_ireturn dX4_takesInQuoteGap_7 rfl rfl (Nat.zero_le _) (Nat.zero_le _) ?_
    have e : b = 32 := (nIb hb (by decide)).mp c3
    exact pO_yes (s1 := s) (by unfold rQGap; rw [if_pos e]) FrT.rf ⟨hR, fun _ => hC, fun _ => hW⟩
set_option maxRecDepth 100000 in
set_option maxHeartbeats 4000000 in
theorem cX4_takesInSpan_ (E : GE) (T : Nat) (s : RS) (M : Mem) (hR : RR M T s) (hC : RRc M T s) (hcu : qCu s < qCn s) (hW : RRw M s) (ho : okN (rCur s)) (hk : wOk s) (hco : nCo (rCur s) = 0 → qWn s = 0) (hco3 : nCo (rCur s) ≠ 3) (b : Nat) (hb : b < 256) : Sp E mX4_takesInSpan 3 0 0 [.ref 56, .int (nI b)] SH M (pO T M (rSpan s b)) := by
  refine sp_of vX4_takesInSpan.1 rfl (Nat.le_of_ble_eq_true rfl) ?_
  have hT := hR.2.1
  have h25 := hR.2.2.2.2.2.2.2.1
  have hc := isC_tree (k := qCu s) hT (by omega)
  have h7 := hR.2.2.1.2.2 (qCu s) (by omega)
  have hc4 : fR M 56 4 = some (T + 2 + 2 * qCu s) := hC
  have hne := Tne (k := qCu s) hT (by omega)
  have hN := cN_of hR hcu
  have hk2 := hk.2.1
  have hde : fI M (T + 2 + 2 * qCu s) 4 = nDe (rCur s) := hN.2.2.2.2.1
  refine wp_aload_n dX4_takesInSpan_0 rfl ?_
  refine wp_getI dX4_takesInSpan_1 fl_X4_35 rfl rfl ?_
  refine wp_if_ne (tgt := 20) dX4_takesInSpan_4 (by decide) (fun c4 => ?_) (fun c4 => ?_)
  · refine wp_aload_n dX4_takesInSpan_20 rfl ?_
    refine wp_getI dX4_takesInSpan_21 fl_X4_35 rfl rfl ?_
    refine wp_iconst (v := 1) dX4_takesInSpan_24 rfl ?_
    refine wp_icmp_ne (tgt := 57) dX4_takesInSpan_25 (by decide) (fun c25 => ?_) (fun c25 => ?_)
    · refine wp_aload_n dX4_takesInSpan_57 rfl ?_
      refine wp_iload_n dX4_takesInSpan_58 rfl ?_
      refine wp_bipush (v := 11) dX4_takesInSpan_59 (by decide) ?_
      refine wp_cV2p dX4_takesInSpan_61 ml_X4_73 vX4_takesLetter ⟨3, (RX4, TX4, 8), rfl, rfl, rfl⟩ (cX4_takesLetter_ E T s M hR hC hcu hW ho hk hco hco3 b 11 hb) (Nat.le_of_ble_eq_true rfl) (Nat.le_of_ble_eq_true rfl) (Nat.le_of_ble_eq_true rfl) (Nat.le_refl _) (Nat.le_refl _) (fun v sh1 M1 hq => ?_)
      have hq0 := hq
      obtain ⟨rfl, rfl, hF1, hN1, hS1⟩ := hq
      refine wp_ireturn dX4_takesInSpan_64 rfl (nar_b2i _) (Nat.zero_le _) (Nat.zero_le _) ?_
      have e0 : ¬ (qWn s = 0 ∧ b = 46) := fun h => by
        first
          | exact c4 (by rw [hW.1, h.1]; rfl)
          | exact c10 (by rw [h.2]; rfl)
      have e2 : ¬ (qWn s = 1 ∧ b = (if nDe (rCur s) = 1 then 125 else 93)) := fun h => by
        first
          | exact c25 (by rw [hW.1, h.1]; rfl)
          | (rw [hde] at c37; rw [if_pos c37] at h; exact c47 (by rw [h.2]; rfl))
          | (rw [hde] at c37; rw [if_neg c37] at h; exact c47 (by rw [h.2]; rfl))
      exact pO_eq hq0 (by unfold rSpan; rw [if_neg e0, if_neg e2])
    · refine wp_iload_n dX4_takesInSpan_28 rfl ?_
      refine wp_aload_n dX4_takesInSpan_29 rfl ?_
      refine wp_getR dX4_takesInSpan_30 fl_X4_31 rfl rfl hc4 ?_
      refine wp_getI dX4_takesInSpan_33 fl_X4_128 hc.1 rfl ?_
      refine wp_iconst (v := 1) dX4_takesInSpan_36 rfl ?_
      refine wp_icmp_ne (tgt := 45) dX4_takesInSpan_37 (by decide) (fun c37 => ?_) (fun c37 => ?_)
      · refine wp_bipush (v := 93) dX4_takesInSpan_45 (by decide) ?_
        refine wp_icmp_ne (tgt := 57) dX4_takesInSpan_47 (by decide) (fun c47 => ?_) (fun c47 => ?_)
        · refine wp_aload_n dX4_takesInSpan_57 rfl ?_
          refine wp_iload_n dX4_takesInSpan_58 rfl ?_
          refine wp_bipush (v := 11) dX4_takesInSpan_59 (by decide) ?_
          refine wp_cV2p dX4_takesInSpan_61 ml_X4_73 vX4_takesLetter ⟨3, (RX4, TX4, 8), rfl, rfl, rfl⟩ (cX4_takesLetter_ E T s M hR hC hcu hW ho hk hco hco3 b 11 hb) (Nat.le_of_ble_eq_true rfl) (Nat.le_of_ble_eq_true rfl) (Nat.le_of_ble_eq_true rfl) (Nat.le_refl _) (Nat.le_refl _) (fun v sh1 M1 hq => ?_)
          have hq0 := hq
          obtain ⟨rfl, rfl, hF1, hN1, hS1⟩ := hq
          refine wp_ireturn dX4_takesInSpan_64 rfl (nar_b2i _) (Nat.zero_le _) (Nat.zero_le _) ?_
          have e0 : ¬ (qWn s = 0 ∧ b = 46) := fun h => by
            first
              | exact c4 (by rw [hW.1, h.1]; rfl)
              | exact c10 (by rw [h.2]; rfl)
          have e2 : ¬ (qWn s = 1 ∧ b = (if nDe (rCur s) = 1 then 125 else 93)) := fun h => by
            first
              | exact c25 (by rw [hW.1, h.1]; rfl)
              | (rw [hde] at c37; rw [if_pos c37] at h; exact c47 (by rw [h.2]; rfl))
              | (rw [hde] at c37; rw [if_neg c37] at h; exact c47 (by rw [h.2]; rfl))
          exact pO_eq hq0 (by unfold rSpan; rw [if_neg e0, if_neg e2])
        · refine wp_aload_n dX4_takesInSpan_50 rfl ?_
          refine wp_bipush (v := 15) dX4_takesInSpan_51 (by decide) ?_
          refine wp_cV1i dX4_takesInSpan_53 ml_X4_82 vX4_goTo ⟨3, (RX4, TX4, 8), rfl, rfl, rfl⟩ (cX4_goTo_ E _ _) (Nat.le_of_ble_eq_true rfl) (Nat.le_of_ble_eq_true rfl) (Nat.le_of_ble_eq_true rfl) ?_
          refine wp_ireturn dX4_takesInSpan_56 rfl rfl (Nat.zero_le _) (Nat.zero_le _) ?_
          have e1 : qWn s = 1 := nI_e (b := 1) (by omega) (by decide) (hW.1 ▸ c25)
          have e0 : ¬ (qWn s = 0 ∧ b = 46) := by omega
          rw [hde] at c37
          have e2 : b = (if nDe (rCur s) = 1 then 125 else 93) := by
            first
              | (rw [if_pos c37]; exact (nIb hb (by decide)).mp c47)
              | (rw [if_neg c37]; exact (nIb hb (by decide)).mp c47)
          exact pO_yes (s1 := rGo s 15) (by unfold rSpan; rw [if_neg e0, if_pos ⟨e1, e2⟩]) (FrT.rf.sI (Or.inl rfl)) (RRx_go hR (fun _ => hC) (fun h => absurd h (show ¬ wdSt 15 by decide)))
      · refine wp_bipush (v := 125) dX4_takesInSpan_40 (by decide) ?_
        refine wp_goto (tgt := 47) dX4_takesInSpan_42 (by decide) ?_
        refine wp_icmp_ne (tgt := 57) dX4_takesInSpan_47 (by decide) (fun c47 => ?_) (fun c47 => ?_)
        · refine wp_aload_n dX4_takesInSpan_57 rfl ?_
          refine wp_iload_n dX4_takesInSpan_58 rfl ?_
          refine wp_bipush (v := 11) dX4_takesInSpan_59 (by decide) ?_
          refine wp_cV2p dX4_takesInSpan_61 ml_X4_73 vX4_takesLetter ⟨3, (RX4, TX4, 8), rfl, rfl, rfl⟩ (cX4_takesLetter_ E T s M hR hC hcu hW ho hk hco hco3 b 11 hb) (Nat.le_of_ble_eq_true rfl) (Nat.le_of_ble_eq_true rfl) (Nat.le_of_ble_eq_true rfl) (Nat.le_refl _) (Nat.le_refl _) (fun v sh1 M1 hq => ?_)
          have hq0 := hq
          obtain ⟨rfl, rfl, hF1, hN1, hS1⟩ := hq
          refine wp_ireturn dX4_takesInSpan_64 rfl (nar_b2i _) (Nat.zero_le _) (Nat.zero_le _) ?_
          have e0 : ¬ (qWn s = 0 ∧ b = 46) := fun h => by
            first
              | exact c4 (by rw [hW.1, h.1]; rfl)
              | exact c10 (by rw [h.2]; rfl)
          have e2 : ¬ (qWn s = 1 ∧ b = (if nDe (rCur s) = 1 then 125 else 93)) := fun h => by
            first
              | exact c25 (by rw [hW.1, h.1]; rfl)
              | (rw [hde] at c37; rw [if_pos c37] at h; exact c47 (by rw [h.2]; rfl))
              | (rw [hde] at c37; rw [if_neg c37] at h; exact c47 (by rw [h.2]; rfl))
          exact pO_eq hq0 (by unfold rSpan; rw [if_neg e0, if_neg e2])
        · refine wp_aload_n dX4_takesInSpan_50 rfl ?_
          refine wp_bipush (v := 15) dX4_takesInSpan_51 (by decide) ?_
          refine wp_cV1i dX4_takesInSpan_53 ml_X4_82 vX4_goTo ⟨3, (RX4, TX4, 8), rfl, rfl, rfl⟩ (cX4_goTo_ E _ _) (Nat.le_of_ble_eq_true rfl) (Nat.le_of_ble_eq_true rfl) (Nat.le_of_ble_eq_true rfl) ?_
          refine wp_ireturn dX4_takesInSpan_56 rfl rfl (Nat.zero_le _) (Nat.zero_le _) ?_
          have e1 : qWn s = 1 := nI_e (b := 1) (by omega) (by decide) (hW.1 ▸ c25)
          have e0 : ¬ (qWn s = 0 ∧ b = 46) := by omega
          rw [hde] at c37
          have e2 : b = (if nDe (rCur s) = 1 then 125 else 93) := by
            first
              | (rw [if_pos c37]; exact (nIb hb (by decide)).mp c47)
              | (rw [if_neg c37]; exact (nIb hb (by decide)).mp c47)
          exact pO_yes (s1 := rGo s 15) (by unfold rSpan; rw [if_neg e0, if_pos ⟨e1, e2⟩]) (FrT.rf.sI (Or.inl rfl)) (RRx_go hR (fun _ => hC) (fun h => absurd h (show ¬ wdSt 15 by decide)))
  · refine wp_iload_n dX4_takesInSpan_7 rfl ?_
    refine wp_bipush (v := 46) dX4_takesInSpan_8 (by decide) ?_
    refine wp_icmp_ne (tgt := 20) dX4_takesInSpan_10 (by decide) (fun c10 => ?_) (fun c10 => ?_)
    · refine wp_aload_n dX4_takesInSpan_20 rfl ?_
      refine wp_getI dX4_takesInSpan_21 fl_X4_35 rfl rfl ?_
      refine wp_iconst (v := 1) dX4_takesInSpan_24 rfl ?_
      refine wp_icmp_ne (tgt := 57) dX4_takesInSpan_25 (by decide) (fun c25 => ?_) (fun c25 => ?_)
      · refine wp_aload_n dX4_takesInSpan_57 rfl ?_
        refine wp_iload_n dX4_takesInSpan_58 rfl ?_
        refine wp_bipush (v := 11) dX4_takesInSpan_59 (by decide) ?_
        refine wp_cV2p dX4_takesInSpan_61 ml_X4_73 vX4_takesLetter ⟨3, (RX4, TX4, 8), rfl, rfl, rfl⟩ (cX4_takesLetter_ E T s M hR hC hcu hW ho hk hco hco3 b 11 hb) (Nat.le_of_ble_eq_true rfl) (Nat.le_of_ble_eq_true rfl) (Nat.le_of_ble_eq_true rfl) (Nat.le_refl _) (Nat.le_refl _) (fun v sh1 M1 hq => ?_)
        have hq0 := hq
        obtain ⟨rfl, rfl, hF1, hN1, hS1⟩ := hq
        refine wp_ireturn dX4_takesInSpan_64 rfl (nar_b2i _) (Nat.zero_le _) (Nat.zero_le _) ?_
        have e0 : ¬ (qWn s = 0 ∧ b = 46) := fun h => by
          first
            | exact c4 (by rw [hW.1, h.1]; rfl)
            | exact c10 (by rw [h.2]; rfl)
        have e2 : ¬ (qWn s = 1 ∧ b = (if nDe (rCur s) = 1 then 125 else 93)) := fun h => by
          first
            | exact c25 (by rw [hW.1, h.1]; rfl)
            | (rw [hde] at c37; rw [if_pos c37] at h; exact c47 (by rw [h.2]; rfl))
            | (rw [hde] at c37; rw [if_neg c37] at h; exact c47 (by rw [h.2]; rfl))
        exact pO_eq hq0 (by unfold rSpan; rw [if_neg e0, if_neg e2])
      · refine wp_iload_n dX4_takesInSpan_28 rfl ?_
        refine wp_aload_n dX4_takesInSpan_29 rfl ?_
        refine wp_getR dX4_takesInSpan_30 fl_X4_31 rfl rfl hc4 ?_
        refine wp_getI dX4_takesInSpan_33 fl_X4_128 hc.1 rfl ?_
        refine wp_iconst (v := 1) dX4_takesInSpan_36 rfl ?_
        refine wp_icmp_ne (tgt := 45) dX4_takesInSpan_37 (by decide) (fun c37 => ?_) (fun c37 => ?_)
        · refine wp_bipush (v := 93) dX4_takesInSpan_45 (by decide) ?_
          refine wp_icmp_ne (tgt := 57) dX4_takesInSpan_47 (by decide) (fun c47 => ?_) (fun c47 => ?_)
          · refine wp_aload_n dX4_takesInSpan_57 rfl ?_
            refine wp_iload_n dX4_takesInSpan_58 rfl ?_
            refine wp_bipush (v := 11) dX4_takesInSpan_59 (by decide) ?_
            refine wp_cV2p dX4_takesInSpan_61 ml_X4_73 vX4_takesLetter ⟨3, (RX4, TX4, 8), rfl, rfl, rfl⟩ (cX4_takesLetter_ E T s M hR hC hcu hW ho hk hco hco3 b 11 hb) (Nat.le_of_ble_eq_true rfl) (Nat.le_of_ble_eq_true rfl) (Nat.le_of_ble_eq_true rfl) (Nat.le_refl _) (Nat.le_refl _) (fun v sh1 M1 hq => ?_)
            have hq0 := hq
            obtain ⟨rfl, rfl, hF1, hN1, hS1⟩ := hq
            refine wp_ireturn dX4_takesInSpan_64 rfl (nar_b2i _) (Nat.zero_le _) (Nat.zero_le _) ?_
            have e0 : ¬ (qWn s = 0 ∧ b = 46) := fun h => by
              first
                | exact c4 (by rw [hW.1, h.1]; rfl)
                | exact c10 (by rw [h.2]; rfl)
            have e2 : ¬ (qWn s = 1 ∧ b = (if nDe (rCur s) = 1 then 125 else 93)) := fun h => by
              first
                | exact c25 (by rw [hW.1, h.1]; rfl)
                | (rw [hde] at c37; rw [if_pos c37] at h; exact c47 (by rw [h.2]; rfl))
                | (rw [hde] at c37; rw [if_neg c37] at h; exact c47 (by rw [h.2]; rfl))
            exact pO_eq hq0 (by unfold rSpan; rw [if_neg e0, if_neg e2])
          · refine wp_aload_n dX4_takesInSpan_50 rfl ?_
            refine wp_bipush (v := 15) dX4_takesInSpan_51 (by decide) ?_
            refine wp_cV1i dX4_takesInSpan_53 ml_X4_82 vX4_goTo ⟨3, (RX4, TX4, 8), rfl, rfl, rfl⟩ (cX4_goTo_ E _ _) (Nat.le_of_ble_eq_true rfl) (Nat.le_of_ble_eq_true rfl) (Nat.le_of_ble_eq_true rfl) ?_
            refine wp_ireturn dX4_takesInSpan_56 rfl rfl (Nat.zero_le _) (Nat.zero_le _) ?_
            have e1 : qWn s = 1 := nI_e (b := 1) (by omega) (by decide) (hW.1 ▸ c25)
            have e0 : ¬ (qWn s = 0 ∧ b = 46) := by omega
            rw [hde] at c37
            have e2 : b = (if nDe (rCur s) = 1 then 125 else 93) := by
              first
                | (rw [if_pos c37]; exact (nIb hb (by decide)).mp c47)
                | (rw [if_neg c37]; exact (nIb hb (by decide)).mp c47)
            exact pO_yes (s1 := rGo s 15) (by unfold rSpan; rw [if_neg e0, if_pos ⟨e1, e2⟩]) (FrT.rf.sI (Or.inl rfl)) (RRx_go hR (fun _ => hC) (fun h => absurd h (show ¬ wdSt 15 by decide)))
        · refine wp_bipush (v := 125) dX4_takesInSpan_40 (by decide) ?_
          refine wp_goto (tgt := 47) dX4_takesInSpan_42 (by decide) ?_
          refine wp_icmp_ne (tgt := 57) dX4_takesInSpan_47 (by decide) (fun c47 => ?_) (fun c47 => ?_)
          · refine wp_aload_n dX4_takesInSpan_57 rfl ?_
            refine wp_iload_n dX4_takesInSpan_58 rfl ?_
            refine wp_bipush (v := 11) dX4_takesInSpan_59 (by decide) ?_
            refine wp_cV2p dX4_takesInSpan_61 ml_X4_73 vX4_takesLetter ⟨3, (RX4, TX4, 8), rfl, rfl, rfl⟩ (cX4_takesLetter_ E T s M hR hC hcu hW ho hk hco hco3 b 11 hb) (Nat.le_of_ble_eq_true rfl) (Nat.le_of_ble_eq_true rfl) (Nat.le_of_ble_eq_true rfl) (Nat.le_refl _) (Nat.le_refl _) (fun v sh1 M1 hq => ?_)
            have hq0 := hq
            obtain ⟨rfl, rfl, hF1, hN1, hS1⟩ := hq
            refine wp_ireturn dX4_takesInSpan_64 rfl (nar_b2i _) (Nat.zero_le _) (Nat.zero_le _) ?_
            have e0 : ¬ (qWn s = 0 ∧ b = 46) := fun h => by
              first
                | exact c4 (by rw [hW.1, h.1]; rfl)
                | exact c10 (by rw [h.2]; rfl)
            have e2 : ¬ (qWn s = 1 ∧ b = (if nDe (rCur s) = 1 then 125 else 93)) := fun h => by
              first
                | exact c25 (by rw [hW.1, h.1]; rfl)
                | (rw [hde] at c37; rw [if_pos c37] at h; exact c47 (by rw [h.2]; rfl))
                | (rw [hde] at c37; rw [if_neg c37] at h; exact c47 (by rw [h.2]; rfl))
            exact pO_eq hq0 (by unfold rSpan; rw [if_neg e0, if_neg e2])
          · refine wp_aload_n dX4_takesInSpan_50 rfl ?_
            refine wp_bipush (v := 15) dX4_takesInSpan_51 (by decide) ?_
            refine wp_cV1i dX4_takesInSpan_53 ml_X4_82 vX4_goTo ⟨3, (RX4, TX4, 8), rfl, rfl, rfl⟩ (cX4_goTo_ E _ _) (Nat.le_of_ble_eq_true rfl) (Nat.le_of_ble_eq_true rfl) (Nat.le_of_ble_eq_true rfl) ?_
            refine wp_ireturn dX4_takesInSpan_56 rfl rfl (Nat.zero_le _) (Nat.zero_le _) ?_
            have e1 : qWn s = 1 := nI_e (b := 1) (by omega) (by decide) (hW.1 ▸ c25)
            have e0 : ¬ (qWn s = 0 ∧ b = 46) := by omega
            rw [hde] at c37
            have e2 : b = (if nDe (rCur s) = 1 then 125 else 93) := by
              first
                | (rw [if_pos c37]; exact (nIb hb (by decide)).mp c47)
                | (rw [if_neg c37]; exact (nIb hb (by decide)).mp c47)
            exact pO_yes (s1 := rGo s 15) (by unfold rSpan; rw [if_neg e0, if_pos ⟨e1, e2⟩]) (FrT.rf.sI (Or.inl rfl)) (RRx_go hR (fun _ => hC) (fun h => absurd h (show ¬ wdSt 15 by decide)))
    · refine wp_aload_n dX4_takesInSpan_13 rfl ?_
      refine wp_bipush (v := 12) dX4_takesInSpan_14 (by decide) ?_
      refine wp_cV1i dX4_takesInSpan_16 ml_X4_82 vX4_goTo ⟨3, (RX4, TX4, 8), rfl, rfl, rfl⟩ (cX4_goTo_ E _ _) (Nat.le_of_ble_eq_true rfl) (Nat.le_of_ble_eq_true rfl) (Nat.le_of_ble_eq_true rfl) ?_
      refine wp_ireturn dX4_takesInSpan_19 rfl rfl (Nat.zero_le _) (Nat.zero_le _) ?_
      have e : qWn s = 0 ∧ b = 46 := ⟨nI_e (b := 0) (by omega) (by decide) (hW.1 ▸ c4), (nIb hb (by decide)).mp c10⟩
      exact pO_yes (s1 := rGo s 12) (by unfold rSpan; rw [if_pos e]) (FrT.rf.sI (Or.inl rfl)) (RRx_go hR (fun _ => hC) (fun h => absurd h (show ¬ wdSt 12 by decide)))
