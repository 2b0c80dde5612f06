/-! ===== the reader, on ===== -/
theorem rcTr_sR {M : Mem} {T f : Nat} {x : Option Nat} (hT : T = 4 ∨ T = 57) (h : rcTr M T) : rcTr (sR M 56 f x) T := ⟨by rw [fR_sR, if_neg (by omega)]; exact h.1, h.2.1, fun k hk => by rw [fR_sR, if_neg (by omega)]; exact h.2.2 k hk⟩
set_option maxRecDepth 100000 in
set_option maxHeartbeats 4000000 in
theorem cX4_takesLetter_ (E : GE) (T : Nat) (s : RS) (M : Mem) (hR : RR M T s) (hC : RRc M T s) (hcu : qCu s < qCn s) (hW : RRw M s) (ho : okN (rCur s)) (hk : wOk s) (hco : nCo (rCur s) = 0 → qWn s = 0) (hco3 : nCo (rCur s) ≠ 3) (b nx : Nat) (hb : b < 256) : Sp E mX4_takesLetter 2 0 0 [.ref 56, .int (nI b), .int (nI nx)] SH M (pO T M (rLet s b nx)) := by
  refine sp_of vX4_takesLetter.1 rfl (Nat.le_of_ble_eq_true rfl) ?_
  have hT := hR.2.1
  have h25 := hR.2.2.2.2.2.2.2.1
  have hc := isC_tree (k := qCu s) hT (by omega)
  have h7 := hR.2.2.1.2.2 (qCu s) (by omega)
  have hc4 : fR M 56 4 = some (T + 2 + 2 * qCu s) := hC
  have hne := Tne (k := qCu s) hT (by omega)
  refine wp_aload_n dX4_takesLetter_0 rfl ?_
  refine wp_getI dX4_takesLetter_1 fl_X4_38 rfl rfl ?_
  refine wp_bipush (v := 8) dX4_takesLetter_4 (by decide) ?_
  refine wp_icmp_ge (tgt := 36) dX4_takesLetter_6 (by decide) (fun c6 => ?_) (fun c6 => ?_)
  · refine wp_iconst (v := 0) dX4_takesLetter_36 rfl ?_
    refine wp_ireturn dX4_takesLetter_37 rfl rfl (Nat.zero_le _) (Nat.zero_le _) ?_
    first
      | exact pO_no (by
          unfold rLet
          first
            | (rw [if_neg (fun h => by rw [hW.2.1] at c6; have := (nI_leI (a := 8) (by decide) (by have := hk.1; omega)).mp c6; omega)])
            | (rw [if_neg (fun h => b2i_e0.mp c13 ((isLt_i hb).mpr h.2))]))
      | (have h8 : qSg s < 8 := by
           rw [hW.2.1] at c6
           have h8 := hk.1
           exact Decidable.byContradiction fun q => c6 (nI_le (a := 8) (by omega) (by omega))
         have hl : isLt b := (isLt_i hb).mp (b2i_ne.mp c13)
         obtain ⟨g1, g2, g3, g4⟩ := RR_sign hR hcu hW ho hk h8 hb hco hco3
         exact pO_yes (s1 := rGo (rSign s b) nx) (if_pos ⟨h8, hl⟩) (g3.sI (Or.inl rfl)) (RRx_go g1 (fun _ => (g4 4).trans hC) (fun _ => g2)))
  · refine wp_iload_n dX4_takesLetter_9 rfl ?_
    refine wp_cS1i dX4_takesLetter_10 ml_X4_140 sX2_isLetter (cX2_isLetter_ E _ _ _) (Nat.le_of_ble_eq_true rfl) (Nat.le_of_ble_eq_true rfl) (Nat.le_of_ble_eq_true rfl) ?_
    refine wp_if_eq (tgt := 36) dX4_takesLetter_13 (by decide) (fun c13 => ?_) (fun c13 => ?_)
    · refine wp_iconst (v := 0) dX4_takesLetter_36 rfl ?_
      refine wp_ireturn dX4_takesLetter_37 rfl rfl (Nat.zero_le _) (Nat.zero_le _) ?_
      first
        | exact pO_no (by
            unfold rLet
            first
              | (rw [if_neg (fun h => by rw [hW.2.1] at c6; have := (nI_leI (a := 8) (by decide) (by have := hk.1; omega)).mp c6; omega)])
              | (rw [if_neg (fun h => b2i_e0.mp c13 ((isLt_i hb).mpr h.2))]))
        | (have h8 : qSg s < 8 := by
             rw [hW.2.1] at c6
             have h8 := hk.1
             exact Decidable.byContradiction fun q => c6 (nI_le (a := 8) (by omega) (by omega))
           have hl : isLt b := (isLt_i hb).mp (b2i_ne.mp c13)
           obtain ⟨g1, g2, g3, g4⟩ := RR_sign hR hcu hW ho hk h8 hb hco hco3
           exact pO_yes (s1 := rGo (rSign s b) nx) (if_pos ⟨h8, hl⟩) (g3.sI (Or.inl rfl)) (RRx_go g1 (fun _ => (g4 4).trans hC) (fun _ => g2)))
    · refine wp_aload_n dX4_takesLetter_16 rfl ?_
      refine wp_iload_n dX4_takesLetter_17 rfl ?_
      refine wp_cV1i dX4_takesLetter_18 ml_X4_131 vX4_takeSign ⟨3, (RX4, TX4, 8), rfl, rfl, rfl⟩ (cX4_takeSign_ E _ (nI b) M hc h7 hc4) (Nat.le_of_ble_eq_true rfl) (Nat.le_of_ble_eq_true rfl) (Nat.le_of_ble_eq_true rfl) ?_
      refine wp_if_eq (tgt := 36) dX4_takesLetter_21 (by decide) (fun c21 => absurd c21 (by decide)) (fun c21 => ?_)
      refine wp_aload_n dX4_takesLetter_24 rfl ?_
      refine wp_iload_n dX4_takesLetter_25 rfl ?_
      refine wp_cV1i dX4_takesLetter_26 ml_X4_82 vX4_goTo ⟨3, (RX4, TX4, 8), rfl, rfl, rfl⟩ (cX4_goTo_ E _ _) (Nat.le_of_ble_eq_true rfl) (Nat.le_of_ble_eq_true rfl) (Nat.le_of_ble_eq_true rfl) ?_
      refine wp_if_eq (tgt := 36) dX4_takesLetter_29 (by decide) (fun c29 => absurd c29 (by decide)) (fun c29 => ?_)
      refine wp_iconst (v := 1) dX4_takesLetter_32 rfl ?_
      refine wp_goto (tgt := 37) dX4_takesLetter_33 (by decide) ?_
      refine wp_ireturn dX4_takesLetter_37 rfl rfl (Nat.zero_le _) (Nat.zero_le _) ?_
      first
        | exact pO_no (by
            unfold rLet
            first
              | (rw [if_neg (fun h => by rw [hW.2.1] at c6; have := (nI_leI (a := 8) (by decide) (by have := hk.1; omega)).mp c6; omega)])
              | (rw [if_neg (fun h => b2i_e0.mp c13 ((isLt_i hb).mpr h.2))]))
        | (have h8 : qSg s < 8 := by
             rw [hW.2.1] at c6
             have h8 := hk.1
             exact Decidable.byContradiction fun q => c6 (nI_le (a := 8) (by omega) (by omega))
           have hl : isLt b := (isLt_i hb).mp (b2i_ne.mp c13)
           obtain ⟨g1, g2, g3, g4⟩ := RR_sign hR hcu hW ho hk h8 hb hco hco3
           exact pO_yes (s1 := rGo (rSign s b) nx) (if_pos ⟨h8, hl⟩) (g3.sI (Or.inl rfl)) (RRx_go g1 (fun _ => (g4 4).trans hC) (fun _ => g2)))
set_option maxRecDepth 100000 in
set_option maxHeartbeats 4000000 in
theorem cX4_closeGroup_ (E : GE) (T : Nat) (s : RS) (M : Mem) (hR : RR M T s) (hop : qOp s < qCn s) (hch : chn (qNd s) (qDep s) (qOp s)) (hd5 : qDep s ≤ 5) : Sp E mX4_closeGroup 1 0 0 [.ref 56] SH M (pO T M (rClose s)) := by
  refine sp_of vX4_closeGroup.1 rfl (Nat.le_of_ble_eq_true rfl) ?_
  have hT := hR.2.1
  have h25 := hR.2.2.2.2.2.2.2.1
  have hc := isC_tree (k := qOp s) hT (by omega)
  have hat : atK (fI M 56 3) = qOp s := by rw [hR.2.2.2.2.2.1]; exact atK_nI (by omega)
  have hne := Tne (k := qOp s) hT (by omega)
  refine wp_aload_n dX4_closeGroup_0 rfl ?_
  refine wp_getI dX4_closeGroup_1 fl_X4_22 rfl rfl ?_
  refine wp_if_ne (tgt := 9) dX4_closeGroup_4 (by decide) (fun c4 => ?_) (fun c4 => ?_)
  · refine wp_aload_n dX4_closeGroup_9 rfl ?_
    refine wp_aload_n dX4_closeGroup_10 rfl ?_
    refine wp_getR dX4_closeGroup_11 fl_X4_12 rfl rfl hR.1 ?_
    refine wp_aload_n dX4_closeGroup_14 rfl ?_
    refine wp_getI dX4_closeGroup_15 fl_X4_25 rfl rfl ?_
    refine wp_cV1a dX4_closeGroup_18 ml_X4_48 vX7_at (isO_T hT) (hat ▸ cX7_at_ E T _ M hT hR.2.2.1) (Nat.le_of_ble_eq_true rfl) (Nat.le_of_ble_eq_true rfl) (Nat.le_of_ble_eq_true rfl) ?_
    refine wp_putR dX4_closeGroup_21 fl_X4_31 rfl rfl (fun _ _ _ h => by cases h; rfl) (fun _ => rfl) (fun _ => rfl) ?_
    refine wp_aload_n dX4_closeGroup_24 rfl ?_
    refine wp_aload_n dX4_closeGroup_25 rfl ?_
    refine wp_getR dX4_closeGroup_26 fl_X4_31 rfl rfl rfl ?_
    refine wp_getI dX4_closeGroup_29 fl_X4_137 hc.1 rfl ?_
    refine wp_putI dX4_closeGroup_32 fl_X4_25 rfl rfl (fun _ _ _ h => by cases h; rfl) rfl rfl ?_
    refine wp_aload_n dX4_closeGroup_35 rfl ?_
    refine wp_dup dX4_closeGroup_36 rfl ?_
    refine wp_getI dX4_closeGroup_37 fl_X4_22 rfl rfl ?_
    refine wp_iconst (v := 1) dX4_closeGroup_40 rfl ?_
    refine wp_isub dX4_closeGroup_41 ?_
    refine wp_putI dX4_closeGroup_42 fl_X4_22 rfl rfl (fun _ _ _ h => by cases h; rfl) rfl rfl ?_
    refine wp_aload_n dX4_closeGroup_45 rfl ?_
    refine wp_bipush (v := 13) dX4_closeGroup_46 (by decide) ?_
    refine wp_cV1i dX4_closeGroup_48 ml_X4_82 vX4_goTo ⟨3, (RX4, TX4, 8), rfl, rfl, rfl⟩ (cX4_goTo_ E _ _) (Nat.le_of_ble_eq_true rfl) (Nat.le_of_ble_eq_true rfl) (Nat.le_of_ble_eq_true rfl) ?_
    refine wp_ireturn dX4_closeGroup_51 rfl rfl (Nat.zero_le _) (Nat.zero_le _) ?_
    first
      | exact pO_no (by
          unfold rClose
          rw [hR.2.2.2.2.1] at c4
          rw [if_pos (nI_e (b := 0) (by omega) (by decide) c4)])
      | (have hdz : ¬ qDep s = 0 := fun e => c4 (by rw [hR.2.2.2.2.1, e]; rfl)
         obtain ⟨dd, hdd⟩ : ∃ dd, qDep s = dd + 1 := ⟨qDep s - 1, by omega⟩
         have hch := hch
         rw [hdd] at hch
         obtain ⟨ho, hg, a, ha, har, hch⟩ := hch
         have hN := hR.2.2.2.2.2.2.2.2 (qOp s) hop
         refine pO_yes (s1 := mkR 13 (qDep s - 1) (nAr (qNd s (qOp s))).toNatClampNeg (qCn s) (qWn s) (qSg s) (qPl s) (qOp s) (qNd s)) (if_neg hdz) ((((FrT.rf.sR (Or.inl rfl)).sI (Or.inl rfl)).sI (Or.inl rfl)).sI (Or.inl rfl)) ⟨⟨hR.1, hT, rcTr_sR hT hR.2.2.1, rfl, ?_, ?_, ?_⟩, fun _ => rfl, fun h => absurd h (show ¬ wdSt 13 by decide)⟩
         · show fI M 56 2 - 1 = nI (qDep s - 1)
           rw [hR.2.2.2.2.1, hdd, nI_pred]; rfl
         · show fI M (T + 2 + 2 * qOp s) 6 = nI (nAr (qNd s (qOp s))).toNatClampNeg
           rw [hN.2.2.2.2.2.2.1, har, nI_clamp (by omega)]
         · refine cTree_keep hR.2.2.2.2.2.2 ?_ (fun k hk => ⟨fun f => ?_, fun i => rfl⟩)
           · simp only [fI_sI, fI_sR]
             rw [if_neg (by omega), if_neg (by omega), if_neg (by omega)]
           · simp only [fI_sI, fI_sR]
             rw [if_neg (by omega), if_neg (by omega), if_neg (by omega)])
  · refine wp_iconst (v := 0) dX4_closeGroup_7 rfl ?_
    refine wp_ireturn dX4_closeGroup_8 rfl rfl (Nat.zero_le _) (Nat.zero_le _) ?_
    first
      | exact pO_no (by
          unfold rClose
          rw [hR.2.2.2.2.1] at c4
          rw [if_pos (nI_e (b := 0) (by omega) (by decide) c4)])
      | (have hdz : ¬ qDep s = 0 := fun e => c4 (by rw [hR.2.2.2.2.1, e]; rfl)
         obtain ⟨dd, hdd⟩ : ∃ dd, qDep s = dd + 1 := ⟨qDep s - 1, by omega⟩
         have hch := hch
         rw [hdd] at hch
         obtain ⟨ho, hg, a, ha, har, hch⟩ := hch
         have hN := hR.2.2.2.2.2.2.2.2 (qOp s) hop
         refine pO_yes (s1 := mkR 13 (qDep s - 1) (nAr (qNd s (qOp s))).toNatClampNeg (qCn s) (qWn s) (qSg s) (qPl s) (qOp s) (qNd s)) (if_neg hdz) ((((FrT.rf.sR (Or.inl rfl)).sI (Or.inl rfl)).sI (Or.inl rfl)).sI (Or.inl rfl)) ⟨⟨hR.1, hT, rcTr_sR hT hR.2.2.1, rfl, ?_, ?_, ?_⟩, fun _ => rfl, fun h => absurd h (show ¬ wdSt 13 by decide)⟩
         · show fI M 56 2 - 1 = nI (qDep s - 1)
           rw [hR.2.2.2.2.1, hdd, nI_pred]; rfl
         · show fI M (T + 2 + 2 * qOp s) 6 = nI (nAr (qNd s (qOp s))).toNatClampNeg
           rw [hN.2.2.2.2.2.2.1, har, nI_clamp (by omega)]
         · refine cTree_keep hR.2.2.2.2.2.2 ?_ (fun k hk => ⟨fun f => ?_, fun i => rfl⟩)
           · simp only [fI_sI, fI_sR]
             rw [if_neg (by omega), if_neg (by omega), if_neg (by omega)]
           · simp only [fI_sI, fI_sR]
             rw [if_neg (by omega), if_neg (by omega), if_neg (by omega)])
theorem nIb {b c : Nat} (hb : b < 256) (hc : c < 256) : nI b = nI c ↔ b = c := nI_eq (by omega) (by omega)
set_option maxRecDepth 100000 in
set_option maxHeartbeats 4000000 in
theorem cX4_takesEnd_ (E : GE) (T : Nat) (s : RS) (M : Mem) (hR : RR M T s) (hop : qOp s < qCn s) (hch : chn (qNd s) (qDep s) (qOp s)) (hd5 : qDep s ≤ 5) (b : Nat) (hb : b < 256) : Sp E mX4_takesEnd 2 0 0 [.ref 56, .int (nI b)] SH M (pO T M (rEnd s b)) := by
  refine sp_of vX4_takesEnd.1 rfl (Nat.le_of_ble_eq_true rfl) ?_
  refine wp_iload_n dX4_takesEnd_0 rfl ?_
  refine wp_bipush (v := 32) dX4_takesEnd_1 (by decide) ?_
  refine wp_icmp_ne (tgt := 14) dX4_takesEnd_3 (by decide) (fun c3 => ?_) (fun c3 => ?_)
  · refine wp_iload_n dX4_takesEnd_14 rfl ?_
    refine wp_bipush (v := 41) dX4_takesEnd_15 (by decide) ?_
    refine wp_icmp_ne (tgt := 31) dX4_takesEnd_17 (by decide) (fun c17 => ?_) (fun c17 => ?_)
    · refine wp_iconst (v := 0) dX4_takesEnd_31 rfl ?_
      refine wp_ireturn dX4_takesEnd_32 rfl rfl (Nat.zero_le _) (Nat.zero_le _) ?_
      first
        | (have e : b = 32 := (nIb hb (by decide)).mp c3
           exact pO_yes (s1 := rGo s 0) (by unfold rEnd; rw [if_pos e]) (FrT.rf.sI (Or.inl rfl)) (RRx_go hR (fun h => absurd rfl h) (fun h => absurd h (by decide))))
        | (have e : ¬ b = 41 := fun e => c17 (by rw [e]; rfl)
           have e2 : ¬ b = 32 := fun e => c3 (by rw [e]; rfl)
           exact pO_no (by unfold rEnd; rw [if_neg e2, if_neg e]))
        | (have e : b = 41 := (nIb hb (by decide)).mp c17
           subst e
           have h0 : (rClose s).isSome = true := b2i_ne.mp c24
           obtain ⟨s1, hs1⟩ := Option.isSome_iff_exists.mp h0
           exact pO_yes (s1 := s1) hs1 hF1 (hS1 s1 hs1))
        | (have e : b = 41 := (nIb hb (by decide)).mp c17
           subst e
           have h0 : ¬ (rClose s).isSome = true := b2i_e0.mp c24
           have h1 : rClose s = none := by cases h : rClose s with
             | none => rfl
             | some x => exact absurd (by rw [h]; rfl) h0
           rw [hN1 h1]
           exact pO_no h1)
    · refine wp_aload_n dX4_takesEnd_20 rfl ?_
      refine wp_cV0p dX4_takesEnd_21 ml_X4_106 vX4_closeGroup ⟨3, (RX4, TX4, 8), rfl, rfl, rfl⟩ (cX4_closeGroup_ E T s M hR hop hch hd5) (Nat.le_of_ble_eq_true rfl) (Nat.le_of_ble_eq_true rfl) (Nat.le_of_ble_eq_true rfl) (Nat.le_refl _) (Nat.le_refl _) (fun v sh1 M1 hq => ?_)
      obtain ⟨rfl, rfl, hF1, hN1, hS1⟩ := hq
      refine wp_if_eq (tgt := 31) dX4_takesEnd_24 (by decide) (fun c24 => ?_) (fun c24 => ?_)
      · refine wp_iconst (v := 0) dX4_takesEnd_31 rfl ?_
        refine wp_ireturn dX4_takesEnd_32 rfl rfl (Nat.zero_le _) (Nat.zero_le _) ?_
        first
          | (have e : b = 32 := (nIb hb (by decide)).mp c3
             exact pO_yes (s1 := rGo s 0) (by unfold rEnd; rw [if_pos e]) (FrT.rf.sI (Or.inl rfl)) (RRx_go hR (fun h => absurd rfl h) (fun h => absurd h (by decide))))
          | (have e : ¬ b = 41 := fun e => c17 (by rw [e]; rfl)
             have e2 : ¬ b = 32 := fun e => c3 (by rw [e]; rfl)
             exact pO_no (by unfold rEnd; rw [if_neg e2, if_neg e]))
          | (have e : b = 41 := (nIb hb (by decide)).mp c17
             subst e
             have h0 : (rClose s).isSome = true := b2i_ne.mp c24
             obtain ⟨s1, hs1⟩ := Option.isSome_iff_exists.mp h0
             exact pO_yes (s1 := s1) hs1 hF1 (hS1 s1 hs1))
          | (have e : b = 41 := (nIb hb (by decide)).mp c17
             subst e
             have h0 : ¬ (rClose s).isSome = true := b2i_e0.mp c24
             have h1 : rClose s = none := by cases h : rClose s with
               | none => rfl
               | some x => exact absurd (by rw [h]; rfl) h0
             rw [hN1 h1]
             exact pO_no h1)
      · refine wp_iconst (v := 1) dX4_takesEnd_27 rfl ?_
        refine wp_goto (tgt := 32) dX4_takesEnd_28 (by decide) ?_
        refine wp_ireturn dX4_takesEnd_32 rfl rfl (Nat.zero_le _) (Nat.zero_le _) ?_
        first
          | (have e : b = 32 := (nIb hb (by decide)).mp c3
             exact pO_yes (s1 := rGo s 0) (by unfold rEnd; rw [if_pos e]) (FrT.rf.sI (Or.inl rfl)) (RRx_go hR (fun h => absurd rfl h) (fun h => absurd h (by decide))))
          | (have e : ¬ b = 41 := fun e => c17 (by rw [e]; rfl)
             have e2 : ¬ b = 32 := fun e => c3 (by rw [e]; rfl)
             exact pO_no (by unfold rEnd; rw [if_neg e2, if_neg e]))
          | (have e : b = 41 := (nIb hb (by decide)).mp c17
             subst e
             have h0 : (rClose s).isSome = true := b2i_ne.mp c24
             obtain ⟨s1, hs1⟩ := Option.isSome_iff_exists.mp h0
             exact pO_yes (s1 := s1) hs1 hF1 (hS1 s1 hs1))
          | (have e : b = 41 := (nIb hb (by decide)).mp c17
             subst e
             have h0 : ¬ (rClose s).isSome = true := b2i_e0.mp c24
             have h1 : rClose s = none := by cases h : rClose s with
               | none => rfl
               | some x => exact absurd (by rw [h]; rfl) h0
             rw [hN1 h1]
             exact pO_no h1)
  · refine wp_aload_n dX4_takesEnd_6 rfl ?_
    refine wp_iconst (v := 0) dX4_takesEnd_7 rfl ?_
    refine wp_cV1i dX4_takesEnd_8 ml_X4_82 vX4_goTo ⟨3, (RX4, TX4, 8), rfl, rfl, rfl⟩ (cX4_goTo_ E _ _) (Nat.le_of_ble_eq_true rfl) (Nat.le_of_ble_eq_true rfl) (Nat.le_of_ble_eq_true rfl) ?_
    refine wp_goto (tgt := 32) dX4_takesEnd_11 (by decide) ?_
    refine wp_ireturn dX4_takesEnd_32 rfl rfl (Nat.zero_le _) (Nat.zero_le _) ?_
    first
      | (have e : b = 32 := (nIb hb (by decide)).mp c3
         exact pO_yes (s1 := rGo s 0) (by unfold rEnd; rw [if_pos e]) (FrT.rf.sI (Or.inl rfl)) (RRx_go hR (fun h => absurd rfl h) (fun h => absurd h (by decide))))
      | (have e : ¬ b = 41 := fun e => c17 (by rw [e]; rfl)
         have e2 : ¬ b = 32 := fun e => c3 (by rw [e]; rfl)
         exact pO_no (by unfold rEnd; rw [if_neg e2, if_neg e]))
      | (have e : b = 41 := (nIb hb (by decide)).mp c17
         subst e
         have h0 : (rClose s).isSome = true := b2i_ne.mp c24
         obtain ⟨s1, hs1⟩ := Option.isSome_iff_exists.mp h0
         exact pO_yes (s1 := s1) hs1 hF1 (hS1 s1 hs1))
      | (have e : b = 41 := (nIb hb (by decide)).mp c17
         subst e
         have h0 : ¬ (rClose s).isSome = true := b2i_e0.mp c24
         have h1 : rClose s = none := by cases h : rClose s with
           | none => rfl
           | some x => exact absurd (by rw [h]; rfl) h0
         rw [hN1 h1]
         exact pO_no h1)
set_option maxRecDepth 100000 in
set_option maxHeartbeats 4000000 in
theorem cX4_takesTail_ (E : GE) (T : Nat) (s : RS) (M : Mem) (hR : RR M T s) (hop : qOp s < qCn s) (hch : chn (qNd s) (qDep s) (qOp s)) (hd5 : qDep s ≤ 5) (hC : RRc M T s) (b : Nat) (hb : b < 256) : Sp E mX4_takesTail 3 0 0 [.ref 56, .int (nI b)] SH M (pO T M (rTail s b)) := by
  refine sp_of vX4_takesTail.1 rfl (Nat.le_of_ble_eq_true rfl) ?_
  refine wp_iload_n dX4_takesTail_0 rfl ?_
  refine wp_bipush (v := 94) dX4_takesTail_1 (by decide) ?_
  refine wp_icmp_ne (tgt := 15) dX4_takesTail_3 (by decide) (fun c3 => ?_) (fun c3 => ?_)
  · refine wp_aload_n dX4_takesTail_15 rfl ?_
    refine wp_iload_n dX4_takesTail_16 rfl ?_
    refine wp_cV1p dX4_takesTail_17 ml_X4_103 vX4_takesEnd ⟨3, (RX4, TX4, 8), rfl, rfl, rfl⟩ (cX4_takesEnd_ E T s M hR hop hch hd5 b hb) (Nat.le_of_ble_eq_true rfl) (Nat.le_of_ble_eq_true rfl) (Nat.le_of_ble_eq_true rfl) (Nat.le_refl _) (Nat.le_refl _) (fun v sh1 M1 hq => ?_)
    have hq0 := hq
    obtain ⟨rfl, rfl, hF1, hN1, hS1⟩ := hq
    refine wp_ireturn dX4_takesTail_20 rfl (by first | rfl | exact nar_b2i _) (Nat.zero_le _) (Nat.zero_le _) ?_
    first
      | (have e : ¬ b = 94 := fun e => c3 (by rw [e]; rfl)
         exact pO_eq hq0 (by unfold rTail; rw [if_neg e]))
      | (have e : b = 94 := (nIb hb (by decide)).mp c3
         exact pO_yes (s1 := rGo s 16) (by unfold rTail; rw [if_pos e]) (FrT.rf.sI (Or.inl rfl)) (RRx_go hR (fun _ => hC) (fun h => absurd h (by decide))))
  · refine wp_aload_n dX4_takesTail_6 rfl ?_
    refine wp_bipush (v := 16) dX4_takesTail_7 (by decide) ?_
    refine wp_cV1i dX4_takesTail_9 ml_X4_82 vX4_goTo ⟨3, (RX4, TX4, 8), rfl, rfl, rfl⟩ (cX4_goTo_ E _ _) (Nat.le_of_ble_eq_true rfl) (Nat.le_of_ble_eq_true rfl) (Nat.le_of_ble_eq_true rfl) ?_
    refine wp_goto (tgt := 20) dX4_takesTail_12 (by decide) ?_
    refine wp_ireturn dX4_takesTail_20 rfl (by first | rfl | exact nar_b2i _) (Nat.zero_le _) (Nat.zero_le _) ?_
    first
      | (have e : ¬ b = 94 := fun e => c3 (by rw [e]; rfl)
         exact pO_eq hq0 (by unfold rTail; rw [if_neg e]))
      | (have e : b = 94 := (nIb hb (by decide)).mp c3
         exact pO_yes (s1 := rGo s 16) (by unfold rTail; rw [if_pos e]) (FrT.rf.sI (Or.inl rfl)) (RRx_go hR (fun _ => hC) (fun h => absurd h (by decide))))
theorem cN_de {M : Mem} {p : Nat} {x : ND} {v : Int32} (h : cNode M p x) : cNode (sI M p 4 v) p (nsDe x v) := by
  obtain ⟨a0, a1, a2, a3, a4, a5, a6, a7⟩ := h
  refine ⟨?_, ?_, ?_, ?_, ?_, ?_, ?_, a7⟩ <;> (rw [fI_sI]; first | exact a0 | exact a1 | exact a2 | exact a3 | exact a5 | exact a6 | (rw [if_pos ⟨rfl, rfl⟩]; rfl) | (rw [if_neg (fun q => absurd q.2 (by decide))]; assumption))
theorem cN_bo {M : Mem} {p : Nat} {x : ND} {v : Int32} (h : cNode M p x) : cNode (sI M p 2 v) p (nsBo x v) := by
  obtain ⟨a0, a1, a2, a3, a4, a5, a6, a7⟩ := h
  refine ⟨?_, ?_, ?_, ?_, ?_, ?_, ?_, a7⟩ <;> (rw [fI_sI]; first | (rw [if_pos ⟨rfl, rfl⟩]; rfl) | (rw [if_neg (fun q => absurd q.2 (by decide))]; assumption))
set_option maxRecDepth 100000 in
set_option maxHeartbeats 4000000 in
theorem cX4_takesDetail_ (E : GE) (T : Nat) (s : RS) (M : Mem) (hR : RR M T s) (hC : RRc M T s) (hcu : qCu s < qCn s) (b lo hi : Nat) (hb : b < 256) (hlo : lo < 256) (hhi : hi < 256) : Sp E mX4_takesDetail 1 0 0 [.ref 56, .int (nI b), .int (nI lo), .int (nI hi)] SH M (pO T M (rDet s b lo hi)) := by
  refine sp_of vX4_takesDetail.1 rfl (Nat.le_of_ble_eq_true rfl) ?_
  have hT := hR.2.1
  have h25 := hR.2.2.2.2.2.2.2.1
  have hc := isC_tree (k := qCu s) hT (by omega)
  have h7 := hR.2.2.1.2.2 (qCu s) (by omega)
  have hc4 : fR M 56 4 = some (T + 2 + 2 * qCu s) := hC
  have hne := Tne (k := qCu s) hT (by omega)
  refine wp_iload_n dX4_takesDetail_0 rfl ?_
  refine wp_iload_n dX4_takesDetail_1 rfl ?_
  refine wp_icmp_lt (tgt := 10) dX4_takesDetail_2 (by decide) (fun c2 => ?_) (fun c2 => ?_)
  · refine wp_iconst (v := 0) dX4_takesDetail_10 rfl ?_
    refine wp_ireturn dX4_takesDetail_11 rfl rfl (Nat.zero_le _) (Nat.zero_le _) ?_
    first
      | exact pO_no (by
          unfold rDet
          first
            | (rw [if_neg (fun h => nI_nlt h.1 (by omega) c2)])
            | (rw [if_neg (fun h => c7 (nI_le h.2 (by omega)))]))
      | (have h1 : lo ≤ b ∧ b ≤ hi := ⟨Decidable.byContradiction fun q => c2 (nI_lt (by omega) (by omega)), (nI_leI (by omega) (by omega)).mp c7⟩
         exact pO_yes (s1 := rGo (rNd s (nsDe (rCur s) (nI b - 48))) 15) (if_pos h1) ((FrT.rf.sI (Or.inr ⟨by omega, by omega⟩)).sI (Or.inl rfl)) (RRx_go (RR_f hR hcu (cN_de (cN_of hR hcu))) (fun _ => hC) (fun h => absurd h (by decide))))
  · refine wp_iload_n dX4_takesDetail_5 rfl ?_
    refine wp_iload_n dX4_takesDetail_6 rfl ?_
    refine wp_icmp_le (tgt := 12) dX4_takesDetail_7 (by decide) (fun c7 => ?_) (fun c7 => ?_)
    · refine wp_aload_n dX4_takesDetail_12 rfl ?_
      refine wp_getR dX4_takesDetail_13 fl_X4_31 rfl rfl hc4 ?_
      refine wp_iload_n dX4_takesDetail_16 rfl ?_
      refine wp_bipush (v := 48) dX4_takesDetail_17 (by decide) ?_
      refine wp_isub dX4_takesDetail_19 ?_
      refine wp_putI dX4_takesDetail_20 fl_X4_128 hc.1 rfl (fun _ _ _ h => by cases h; rfl) rfl rfl ?_
      refine wp_aload_n dX4_takesDetail_23 rfl ?_
      refine wp_bipush (v := 15) dX4_takesDetail_24 (by decide) ?_
      refine wp_cV1i dX4_takesDetail_26 ml_X4_82 vX4_goTo ⟨3, (RX4, TX4, 8), rfl, rfl, rfl⟩ (cX4_goTo_ E _ _) (Nat.le_of_ble_eq_true rfl) (Nat.le_of_ble_eq_true rfl) (Nat.le_of_ble_eq_true rfl) ?_
      refine wp_ireturn dX4_takesDetail_29 rfl rfl (Nat.zero_le _) (Nat.zero_le _) ?_
      first
        | exact pO_no (by
            unfold rDet
            first
              | (rw [if_neg (fun h => nI_nlt h.1 (by omega) c2)])
              | (rw [if_neg (fun h => c7 (nI_le h.2 (by omega)))]))
        | (have h1 : lo ≤ b ∧ b ≤ hi := ⟨Decidable.byContradiction fun q => c2 (nI_lt (by omega) (by omega)), (nI_leI (by omega) (by omega)).mp c7⟩
           exact pO_yes (s1 := rGo (rNd s (nsDe (rCur s) (nI b - 48))) 15) (if_pos h1) ((FrT.rf.sI (Or.inr ⟨by omega, by omega⟩)).sI (Or.inl rfl)) (RRx_go (RR_f hR hcu (cN_de (cN_of hR hcu))) (fun _ => hC) (fun h => absurd h (by decide))))
    · refine wp_iconst (v := 0) dX4_takesDetail_10 rfl ?_
      refine wp_ireturn dX4_takesDetail_11 rfl rfl (Nat.zero_le _) (Nat.zero_le _) ?_
      first
        | exact pO_no (by
            unfold rDet
            first
              | (rw [if_neg (fun h => nI_nlt h.1 (by omega) c2)])
              | (rw [if_neg (fun h => c7 (nI_le h.2 (by omega)))]))
        | (have h1 : lo ≤ b ∧ b ≤ hi := ⟨Decidable.byContradiction fun q => c2 (nI_lt (by omega) (by omega)), (nI_leI (by omega) (by omega)).mp c7⟩
           exact pO_yes (s1 := rGo (rNd s (nsDe (rCur s) (nI b - 48))) 15) (if_pos h1) ((FrT.rf.sI (Or.inr ⟨by omega, by omega⟩)).sI (Or.inl rfl)) (RRx_go (RR_f hR hcu (cN_de (cN_of hR hcu))) (fun _ => hC) (fun h => absurd h (by decide))))
set_option maxRecDepth 100000 in
set_option maxHeartbeats 4000000 in
theorem cX4_takeBoost_ (E : GE) (T : Nat) (s : RS) (M : Mem) (hR : RR M T s) (hC : RRc M T s) (hcu : qCu s < qCn s) (x : Int32) (nx : Nat) (hnx : ¬ wdSt nx) : Sp E mX4_takeBoost 1 0 0 [.ref 56, .int x, .int (nI nx)] SH M (pO T M (some (rBoo s x nx))) := by
  refine sp_of vX4_takeBoost.1 rfl (Nat.le_of_ble_eq_true rfl) ?_
  have hT := hR.2.1
  have h25 := hR.2.2.2.2.2.2.2.1
  have hc := isC_tree (k := qCu s) hT (by omega)
  have h7 := hR.2.2.1.2.2 (qCu s) (by omega)
  have hc4 : fR M 56 4 = some (T + 2 + 2 * qCu s) := hC
  have hne := Tne (k := qCu s) hT (by omega)
  refine wp_aload_n dX4_takeBoost_0 rfl ?_
  refine wp_getR dX4_takeBoost_1 fl_X4_31 rfl rfl hc4 ?_
  refine wp_iload_n dX4_takeBoost_4 rfl ?_
  refine wp_putI dX4_takeBoost_5 fl_X4_100 hc.1 rfl (fun _ _ _ h => by cases h; rfl) rfl rfl ?_
  refine wp_aload_n dX4_takeBoost_8 rfl ?_
  refine wp_iload_n dX4_takeBoost_9 rfl ?_
  refine wp_cV1i dX4_takeBoost_10 ml_X4_82 vX4_goTo ⟨3, (RX4, TX4, 8), rfl, rfl, rfl⟩ (cX4_goTo_ E _ _) (Nat.le_of_ble_eq_true rfl) (Nat.le_of_ble_eq_true rfl) (Nat.le_of_ble_eq_true rfl) ?_
  refine wp_ireturn dX4_takeBoost_13 rfl rfl (Nat.zero_le _) (Nat.zero_le _) ?_
  exact pO_yes (s1 := rBoo s x nx) rfl ((FrT.rf.sI (Or.inr ⟨by omega, by omega⟩)).sI (Or.inl rfl)) (RRx_go (RR_f hR hcu (cN_bo (cN_of hR hcu))) (fun _ => hC) (fun h => absurd h hnx))
