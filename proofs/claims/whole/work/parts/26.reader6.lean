/-! ===== the reader: a gap; one byte; whole ===== -/
set_option maxRecDepth 100000 in
set_option maxHeartbeats 4000000 in
theorem cX4_takesInGap_ (E : GE) (T : Nat) (s : RS) (M : Mem) (hR : RR M T s) (hop : qOp s < qCn s) (hch : chn (qNd s) (qDep s) (qOp s)) (hd5 : qDep s ≤ 5) (hg : nCo (qNd s (qOp s)) = 3) (hkb : nKi (qNd s (qOp s)) ≤ 25) (hst : qSt s = 0) (b : Nat) (hb : b < 256) : Sp E mX4_takesInGap 4 0 0 [.ref 56, .int (nI b)] SH M (pO T M (rGap s b)) := by
  refine sp_of vX4_takesInGap.1 rfl (Nat.le_of_ble_eq_true rfl) ?_
  have hT := hR.2.1
  have h25 := hR.2.2.2.2.2.2.2.1
  have hcO := isC_tree (k := qOp s) hT (by omega)
  have hat : atK (fI M 56 3) = qOp s := by rw [hR.2.2.2.2.2.1]; exact atK_nI (by omega)
  have hN := hR.2.2.2.2.2.2.2.2 (qOp s) hop
  have hsz : fI M (T + 2 + 2 * qOp s) 5 = nI (nKi (qNd s (qOp s))) := by
    rw [hN.2.2.2.2.2.1]
    unfold nSz
    rw [hg, if_neg (by decide), if_pos rfl]
  have hcn : fI M T 1 = nI (qCn s) := hR.2.2.2.2.2.2.1
  have hRx : RRx M T s := ⟨hR, fun h => absurd hst h, fun h => by rw [hst] at h; exact absurd h (by decide)⟩
  by_cases e32 : b = 32
  · subst e32
    refine wp_iload_n dX4_takesInGap_0 rfl ?_
    refine wp_bipush (v := 32) dX4_takesInGap_1 (by decide) ?_
    refine wp_icmp_ne (tgt := 8) dX4_takesInGap_3 (by decide) (fun c3 => absurd rfl c3) (fun c3 => ?_)
    refine wp_iconst (v := 1) dX4_takesInGap_6 rfl ?_
    refine wp_ireturn dX4_takesInGap_7 rfl rfl (Nat.zero_le _) (Nat.zero_le _) ?_
    exact pO_yes (s1 := s) rfl FrT.rf hRx
  by_cases e41 : b = 41
  · subst e41
    have hgap : rGap s 41 = if 0 < nKi (qNd s (qOp s)) then rClose s else none := rfl
    rw [hgap]
    refine wp_iload_n dX4_takesInGap_0 rfl ?_
    refine wp_bipush (v := 32) dX4_takesInGap_1 (by decide) ?_
    refine wp_icmp_ne (tgt := 8) dX4_takesInGap_3 (by decide) (fun c3 => ?_) (fun c3 => absurd c3 (by decide))
    refine wp_iload_n dX4_takesInGap_8 rfl ?_
    refine wp_bipush (v := 41) dX4_takesInGap_9 (by decide) ?_
    refine wp_icmp_ne (tgt := 44) dX4_takesInGap_11 (by decide) (fun c11 => absurd rfl c11) (fun c11 => ?_)
    refine wp_aload_n dX4_takesInGap_14 rfl ?_
    refine wp_getR dX4_takesInGap_15 fl_X4_12 rfl rfl hR.1 ?_
    refine wp_aload_n dX4_takesInGap_18 rfl ?_
    refine wp_getI dX4_takesInGap_19 fl_X4_25 rfl rfl ?_
    refine wp_cV1a dX4_takesInGap_22 ml_X4_48 vX7_at (isO_T hT) (hat ▸ cX7_at_ E T _ M hT hR.2.2.1) (Nat.le_of_ble_eq_true rfl) (Nat.le_of_ble_eq_true rfl) (Nat.le_of_ble_eq_true rfl) ?_
    refine wp_getI dX4_takesInGap_25 fl_X4_52 hcO.1 rfl ?_
    refine wp_if_le (tgt := 42) dX4_takesInGap_28 (by decide) (fun c28 => ?_) (fun c28 => ?_)
    · refine wp_iconst (v := 0) dX4_takesInGap_42 rfl ?_
      refine wp_ireturn dX4_takesInGap_43 rfl rfl (Nat.zero_le _) (Nat.zero_le _) ?_
      rw [hsz] at c28
      first
        | (have hz : ¬ 0 < nKi (qNd s (qOp s)) := fun q => nI_nle q (by omega) c28
           exact pO_no (if_neg hz))
        | (have hz : 0 < nKi (qNd s (qOp s)) := Nat.pos_of_ne_zero fun q => c28 (by rw [q]; decide)
           rw [if_pos hz]
           have h0 : (rClose s).isSome = true := b2i_ne.mp c35
           obtain ⟨s1, hs1⟩ := Option.isSome_iff_exists.mp h0
           exact pO_yes (s1 := s1) hs1 hF1 (hS1 s1 hs1))
        | (have hz : 0 < nKi (qNd s (qOp s)) := Nat.pos_of_ne_zero fun q => c28 (by rw [q]; decide)
           rw [if_pos hz]
           have h1 : rClose s = none := by
             have h0 : ¬ (rClose s).isSome = true := b2i_e0.mp c35
             cases h : rClose s with
             | none => rfl
             | some x => exact absurd (by rw [h]; rfl) h0
           rw [hN1 h1]
           exact pO_no h1)
    · refine wp_aload_n dX4_takesInGap_31 rfl ?_
      refine wp_cV0p dX4_takesInGap_32 ml_X4_106 vX4_closeGroup ⟨3, (RX4, TX4, 8), rfl, rfl, rfl⟩ (cX4_closeGroup_ E T s M hR hop hch hd5) (Nat.le_of_ble_eq_true rfl) (Nat.le_of_ble_eq_true rfl) (Nat.le_of_ble_eq_true rfl) (Nat.le_refl _) (Nat.le_refl _) (fun v sh1 M1 hq => ?_)
      obtain ⟨rfl, rfl, hF1, hN1, hS1⟩ := hq
      refine wp_if_eq (tgt := 42) dX4_takesInGap_35 (by decide) (fun c35 => ?_) (fun c35 => ?_)
      · refine wp_iconst (v := 0) dX4_takesInGap_42 rfl ?_
        refine wp_ireturn dX4_takesInGap_43 rfl rfl (Nat.zero_le _) (Nat.zero_le _) ?_
        rw [hsz] at c28
        first
          | (have hz : ¬ 0 < nKi (qNd s (qOp s)) := fun q => nI_nle q (by omega) c28
             exact pO_no (if_neg hz))
          | (have hz : 0 < nKi (qNd s (qOp s)) := Nat.pos_of_ne_zero fun q => c28 (by rw [q]; decide)
             rw [if_pos hz]
             have h0 : (rClose s).isSome = true := b2i_ne.mp c35
             obtain ⟨s1, hs1⟩ := Option.isSome_iff_exists.mp h0
             exact pO_yes (s1 := s1) hs1 hF1 (hS1 s1 hs1))
          | (have hz : 0 < nKi (qNd s (qOp s)) := Nat.pos_of_ne_zero fun q => c28 (by rw [q]; decide)
             rw [if_pos hz]
             have h1 : rClose s = none := by
               have h0 : ¬ (rClose s).isSome = true := b2i_e0.mp c35
               cases h : rClose s with
               | none => rfl
               | some x => exact absurd (by rw [h]; rfl) h0
             rw [hN1 h1]
             exact pO_no h1)
      · refine wp_iconst (v := 1) dX4_takesInGap_38 rfl ?_
        refine wp_goto (tgt := 43) dX4_takesInGap_39 (by decide) ?_
        refine wp_ireturn dX4_takesInGap_43 rfl rfl (Nat.zero_le _) (Nat.zero_le _) ?_
        rw [hsz] at c28
        first
          | (have hz : ¬ 0 < nKi (qNd s (qOp s)) := fun q => nI_nle q (by omega) c28
             exact pO_no (if_neg hz))
          | (have hz : 0 < nKi (qNd s (qOp s)) := Nat.pos_of_ne_zero fun q => c28 (by rw [q]; decide)
             rw [if_pos hz]
             have h0 : (rClose s).isSome = true := b2i_ne.mp c35
             obtain ⟨s1, hs1⟩ := Option.isSome_iff_exists.mp h0
             exact pO_yes (s1 := s1) hs1 hF1 (hS1 s1 hs1))
          | (have hz : 0 < nKi (qNd s (qOp s)) := Nat.pos_of_ne_zero fun q => c28 (by rw [q]; decide)
             rw [if_pos hz]
             have h1 : rClose s = none := by
               have h0 : ¬ (rClose s).isSome = true := b2i_e0.mp c35
               cases h : rClose s with
               | none => rfl
               | some x => exact absurd (by rw [h]; rfl) h0
             rw [hN1 h1]
             exact pO_no h1)
  have J91m : ∀ (b : Nat) (ma : Int32), b < 256 → (b = 43 ∧ ma = 1 ∨ b = 45 ∧ ma = 2) → qCn s + 1 ≤ 25 → Wp (xM E mX4_takesInGap 4 0 0 SH.length (pO T M (some (rGo (rAdd s ma) 1)))) 0 0 91 [(2, .int 1), (0, .ref 56), (1, .int (nI b))] [] SH M := by
    intro b ma hb hbm hroom
    have hadd := cX7_add_ E T ma (fI M 56 3) M hT hR.2.2.1
    rw [hR.2.2.2.2.2.1] at hadd
    obtain ⟨g1, g2, g3, g4⟩ := RR_add (ma := ma) hR (by omega) hop hg
    rw [g4] at hadd
    have fin : pO T M (some (rGo (rAdd s ma) 1)) (some (.int 1)) SH (sI (sR (trAdd M T ma (nI (qOp s))) 56 4 (some (T + 2 + 2 * qCn s))) 56 1 1) :=
      pO_yes (s1 := rGo (rAdd s ma) 1) rfl ((g2.sR (Or.inl rfl)).sI (Or.inl rfl)) (RRx_go (n := 1) (RR_sR g1) (fun _ => rfl) (fun h => absurd h (by decide)))
    rcases hbm with ⟨rfl, rfl⟩ | ⟨rfl, rfl⟩
    · rw [← hR.2.2.2.2.2.1] at hadd
      refine wp_aload_n dX4_takesInGap_91 rfl ?_
      refine wp_aload_n dX4_takesInGap_92 rfl ?_
      refine wp_getR dX4_takesInGap_93 fl_X4_12 rfl rfl hR.1 ?_
      refine wp_iload_n dX4_takesInGap_96 rfl ?_
      refine wp_bipush (v := 43) dX4_takesInGap_97 (by decide) ?_
      refine wp_icmp_ne (tgt := 106) dX4_takesInGap_99 (by decide) (fun c99 => absurd rfl c99) (fun c99 => ?_)
      refine wp_iconst (v := 1) dX4_takesInGap_102 rfl ?_
      refine wp_goto (tgt := 117) dX4_takesInGap_103 (by decide) ?_
      refine wp_aload_n dX4_takesInGap_117 rfl ?_
      refine wp_getI dX4_takesInGap_118 fl_X4_25 rfl rfl ?_
      refine wp_cV2a dX4_takesInGap_121 ml_X4_113 vX7_add (isO_T hT) (hadd) (Nat.le_of_ble_eq_true rfl) (Nat.le_of_ble_eq_true rfl) (Nat.le_of_ble_eq_true rfl) ?_
      refine wp_putR dX4_takesInGap_124 fl_X4_31 rfl rfl (fun _ _ _ h => by cases h; rfl) (fun _ => rfl) (fun _ => rfl) ?_
      refine wp_iload_n dX4_takesInGap_127 rfl ?_
      refine wp_if_eq (tgt := 139) dX4_takesInGap_128 (by decide) (fun c128 => absurd c128 (by decide)) (fun c128 => ?_)
      refine wp_aload_n dX4_takesInGap_131 rfl ?_
      refine wp_iconst (v := 1) dX4_takesInGap_132 rfl ?_
      refine wp_cV1i dX4_takesInGap_133 ml_X4_82 vX4_goTo ⟨3, (RX4, TX4, 8), rfl, rfl, rfl⟩ (cX4_goTo_ E _ _) (Nat.le_of_ble_eq_true rfl) (Nat.le_of_ble_eq_true rfl) (Nat.le_of_ble_eq_true rfl) ?_
      refine wp_goto (tgt := 144) dX4_takesInGap_136 (by decide) ?_
      refine wp_ireturn dX4_takesInGap_144 rfl rfl (Nat.zero_le _) (Nat.zero_le _) ?_
      rw [hR.2.2.2.2.2.1]
      exact fin
    · rw [← hR.2.2.2.2.2.1] at hadd
      refine wp_aload_n dX4_takesInGap_91 rfl ?_
      refine wp_aload_n dX4_takesInGap_92 rfl ?_
      refine wp_getR dX4_takesInGap_93 fl_X4_12 rfl rfl hR.1 ?_
      refine wp_iload_n dX4_takesInGap_96 rfl ?_
      refine wp_bipush (v := 43) dX4_takesInGap_97 (by decide) ?_
      refine wp_icmp_ne (tgt := 106) dX4_takesInGap_99 (by decide) (fun c99 => ?_) (fun c99 => absurd c99 (by decide))
      refine wp_iload_n dX4_takesInGap_106 rfl ?_
      refine wp_bipush (v := 45) dX4_takesInGap_107 (by decide) ?_
      refine wp_icmp_ne (tgt := 116) dX4_takesInGap_109 (by decide) (fun c109 => absurd rfl c109) (fun c109 => ?_)
      refine wp_iconst (v := 2) dX4_takesInGap_112 rfl ?_
      refine wp_goto (tgt := 117) dX4_takesInGap_113 (by decide) ?_
      refine wp_aload_n dX4_takesInGap_117 rfl ?_
      refine wp_getI dX4_takesInGap_118 fl_X4_25 rfl rfl ?_
      refine wp_cV2a dX4_takesInGap_121 ml_X4_113 vX7_add (isO_T hT) (hadd) (Nat.le_of_ble_eq_true rfl) (Nat.le_of_ble_eq_true rfl) (Nat.le_of_ble_eq_true rfl) ?_
      refine wp_putR dX4_takesInGap_124 fl_X4_31 rfl rfl (fun _ _ _ h => by cases h; rfl) (fun _ => rfl) (fun _ => rfl) ?_
      refine wp_iload_n dX4_takesInGap_127 rfl ?_
      refine wp_if_eq (tgt := 139) dX4_takesInGap_128 (by decide) (fun c128 => absurd c128 (by decide)) (fun c128 => ?_)
      refine wp_aload_n dX4_takesInGap_131 rfl ?_
      refine wp_iconst (v := 1) dX4_takesInGap_132 rfl ?_
      refine wp_cV1i dX4_takesInGap_133 ml_X4_82 vX4_goTo ⟨3, (RX4, TX4, 8), rfl, rfl, rfl⟩ (cX4_goTo_ E _ _) (Nat.le_of_ble_eq_true rfl) (Nat.le_of_ble_eq_true rfl) (Nat.le_of_ble_eq_true rfl) ?_
      refine wp_goto (tgt := 144) dX4_takesInGap_136 (by decide) ?_
      refine wp_ireturn dX4_takesInGap_144 rfl rfl (Nat.zero_le _) (Nat.zero_le _) ?_
      rw [hR.2.2.2.2.2.1]
      exact fin
  by_cases e43 : b = 43
  · subst e43
    have hgap : rGap s 43 = if qCn s + 1 ≤ 25 then some (rGo (rAdd s 1) 1) else none := rfl
    rw [hgap]
    refine wp_iload_n dX4_takesInGap_0 rfl ?_
    refine wp_bipush (v := 32) dX4_takesInGap_1 (by decide) ?_
    refine wp_icmp_ne (tgt := 8) dX4_takesInGap_3 (by decide) (fun c3 => ?_) (fun c3 => absurd c3 (by decide))
    refine wp_iload_n dX4_takesInGap_8 rfl ?_
    refine wp_bipush (v := 41) dX4_takesInGap_9 (by decide) ?_
    refine wp_icmp_ne (tgt := 44) dX4_takesInGap_11 (by decide) (fun c11 => ?_) (fun c11 => absurd c11 (by decide))
    refine wp_iload_n dX4_takesInGap_44 rfl ?_
    refine wp_bipush (v := 43) dX4_takesInGap_45 (by decide) ?_
    refine wp_icmp_eq (tgt := 56) dX4_takesInGap_47 (by decide) (fun c47 => ?_) (fun c47 => absurd rfl c47)
    refine wp_iconst (v := 1) dX4_takesInGap_56 rfl ?_
    refine wp_goto (tgt := 61) dX4_takesInGap_57 (by decide) ?_
    refine wp_istore_n dX4_takesInGap_61 (Nat.le_of_ble_eq_true rfl) ?_
    refine wp_iload_n dX4_takesInGap_62 rfl ?_
    refine wp_if_eq (tgt := 80) dX4_takesInGap_63 (by decide) (fun c63 => absurd c63 (by decide)) (fun c63 => ?_)
    refine wp_aload_n dX4_takesInGap_66 rfl ?_
    refine wp_getR dX4_takesInGap_67 fl_X4_12 rfl rfl hR.1 ?_
    refine wp_iconst (v := 1) dX4_takesInGap_70 rfl ?_
    refine wp_cV1i dX4_takesInGap_71 ml_X4_110 vX7_hasRoom (isO_T hT) (cX7_hasRoom_ E T _ M hT hR.2.2.1) (Nat.le_of_ble_eq_true rfl) (Nat.le_of_ble_eq_true rfl) (Nat.le_of_ble_eq_true rfl) ?_
    refine wp_if_eq (tgt := 89) dX4_takesInGap_74 (by decide) (fun c74 => ?_) (fun c74 => ?_)
    · refine wp_iconst (v := 0) dX4_takesInGap_89 rfl ?_
      refine wp_ireturn dX4_takesInGap_90 rfl rfl (Nat.zero_le _) (Nat.zero_le _) ?_
      rw [hcn] at c74
      have hroom : ¬ qCn s + 1 ≤ 25 := fun q => b2i_e0.mp c74 ((room_i (k := 1) h25 (by omega)).mpr q)
      exact pO_no (if_neg hroom)
    · refine wp_goto (tgt := 91) dX4_takesInGap_77 (by decide) ?_
      rw [hcn] at c74
      have hroom : qCn s + 1 ≤ 25 := (room_i (k := 1) h25 (by omega)).mp (b2i_ne.mp c74)
      rw [if_pos hroom]
      exact wp_lv (J91m 43 1 (by decide) (Or.inl ⟨rfl, rfl⟩) hroom) (by repeat (first | exact trivial | refine ⟨rfl, ?_⟩))
  by_cases e45 : b = 45
  · subst e45
    have hgap : rGap s 45 = if qCn s + 1 ≤ 25 then some (rGo (rAdd s 2) 1) else none := rfl
    rw [hgap]
    refine wp_iload_n dX4_takesInGap_0 rfl ?_
    refine wp_bipush (v := 32) dX4_takesInGap_1 (by decide) ?_
    refine wp_icmp_ne (tgt := 8) dX4_takesInGap_3 (by decide) (fun c3 => ?_) (fun c3 => absurd c3 (by decide))
    refine wp_iload_n dX4_takesInGap_8 rfl ?_
    refine wp_bipush (v := 41) dX4_takesInGap_9 (by decide) ?_
    refine wp_icmp_ne (tgt := 44) dX4_takesInGap_11 (by decide) (fun c11 => ?_) (fun c11 => absurd c11 (by decide))
    refine wp_iload_n dX4_takesInGap_44 rfl ?_
    refine wp_bipush (v := 43) dX4_takesInGap_45 (by decide) ?_
    refine wp_icmp_eq (tgt := 56) dX4_takesInGap_47 (by decide) (fun c47 => absurd c47 (by decide)) (fun c47 => ?_)
    refine wp_iload_n dX4_takesInGap_50 rfl ?_
    refine wp_bipush (v := 45) dX4_takesInGap_51 (by decide) ?_
    refine wp_icmp_ne (tgt := 60) dX4_takesInGap_53 (by decide) (fun c53 => absurd rfl c53) (fun c53 => ?_)
    refine wp_iconst (v := 1) dX4_takesInGap_56 rfl ?_
    refine wp_goto (tgt := 61) dX4_takesInGap_57 (by decide) ?_
    refine wp_istore_n dX4_takesInGap_61 (Nat.le_of_ble_eq_true rfl) ?_
    refine wp_iload_n dX4_takesInGap_62 rfl ?_
    refine wp_if_eq (tgt := 80) dX4_takesInGap_63 (by decide) (fun c63 => absurd c63 (by decide)) (fun c63 => ?_)
    refine wp_aload_n dX4_takesInGap_66 rfl ?_
    refine wp_getR dX4_takesInGap_67 fl_X4_12 rfl rfl hR.1 ?_
    refine wp_iconst (v := 1) dX4_takesInGap_70 rfl ?_
    refine wp_cV1i dX4_takesInGap_71 ml_X4_110 vX7_hasRoom (isO_T hT) (cX7_hasRoom_ E T _ M hT hR.2.2.1) (Nat.le_of_ble_eq_true rfl) (Nat.le_of_ble_eq_true rfl) (Nat.le_of_ble_eq_true rfl) ?_
    refine wp_if_eq (tgt := 89) dX4_takesInGap_74 (by decide) (fun c74 => ?_) (fun c74 => ?_)
    · refine wp_iconst (v := 0) dX4_takesInGap_89 rfl ?_
      refine wp_ireturn dX4_takesInGap_90 rfl rfl (Nat.zero_le _) (Nat.zero_le _) ?_
      rw [hcn] at c74
      have hroom : ¬ qCn s + 1 ≤ 25 := fun q => b2i_e0.mp c74 ((room_i (k := 1) h25 (by omega)).mpr q)
      exact pO_no (if_neg hroom)
    · refine wp_goto (tgt := 91) dX4_takesInGap_77 (by decide) ?_
      rw [hcn] at c74
      have hroom : qCn s + 1 ≤ 25 := (room_i (k := 1) h25 (by omega)).mp (b2i_ne.mp c74)
      rw [if_pos hroom]
      exact wp_lv (J91m 45 2 (by decide) (Or.inr ⟨rfl, rfl⟩) hroom) (by repeat (first | exact trivial | refine ⟨rfl, ?_⟩))
  have hgap : rGap s b = if rCan s b 1 then some (rCore (rAdd s 0) b) else none := by
    unfold rGap
    rw [if_neg e32, if_neg e41, if_neg (by omega)]
  rw [hgap]
  refine wp_iload_n dX4_takesInGap_0 rfl ?_
  refine wp_bipush (v := 32) dX4_takesInGap_1 (by decide) ?_
  refine wp_icmp_ne (tgt := 8) dX4_takesInGap_3 (by decide) (fun c3 => ?_) (fun c3 => absurd ((nIb hb (by decide)).mp c3) e32)
  refine wp_iload_n dX4_takesInGap_8 rfl ?_
  refine wp_bipush (v := 41) dX4_takesInGap_9 (by decide) ?_
  refine wp_icmp_ne (tgt := 44) dX4_takesInGap_11 (by decide) (fun c11 => ?_) (fun c11 => absurd ((nIb hb (by decide)).mp c11) e41)
  refine wp_iload_n dX4_takesInGap_44 rfl ?_
  refine wp_bipush (v := 43) dX4_takesInGap_45 (by decide) ?_
  refine wp_icmp_eq (tgt := 56) dX4_takesInGap_47 (by decide) (fun c47 => absurd ((nIb hb (by decide)).mp c47) e43) (fun c47 => ?_)
  refine wp_iload_n dX4_takesInGap_50 rfl ?_
  refine wp_bipush (v := 45) dX4_takesInGap_51 (by decide) ?_
  refine wp_icmp_ne (tgt := 60) dX4_takesInGap_53 (by decide) (fun c53 => ?_) (fun c53 => absurd ((nIb hb (by decide)).mp c53) e45)
  refine wp_iconst (v := 0) dX4_takesInGap_60 rfl ?_
  refine wp_istore_n dX4_takesInGap_61 (Nat.le_of_ble_eq_true rfl) ?_
  refine wp_iload_n dX4_takesInGap_62 rfl ?_
  refine wp_if_eq (tgt := 80) dX4_takesInGap_63 (by decide) (fun c63 => ?_) (fun c63 => absurd rfl c63)
  refine wp_aload_n dX4_takesInGap_80 rfl ?_
  refine wp_iload_n dX4_takesInGap_81 rfl ?_
  refine wp_iconst (v := 1) dX4_takesInGap_82 rfl ?_
  refine wp_cV2i dX4_takesInGap_83 ml_X4_59 vX4_canBeginCore ⟨3, (RX4, TX4, 8), rfl, rfl, rfl⟩ (cX4_canBeginCore_ E T s M hR hd5 b 1 hb (by decide)) (Nat.le_of_ble_eq_true rfl) (Nat.le_of_ble_eq_true rfl) (Nat.le_of_ble_eq_true rfl) ?_
  refine wp_if_ne (tgt := 91) dX4_takesInGap_86 (by decide) (fun c86 => ?_) (fun c86 => ?_)
  · have hcan := b2i_ne.mp c86
    rw [if_pos hcan]
    have hlt : qCn s < 25 := by rcases hcan with h | h <;> omega
    obtain ⟨g1, g2, g3, g4⟩ := RR_add (ma := 0) hR hlt hop hg
    have hadd := cX7_add_ E T 0 (fI M 56 3) M hT hR.2.2.1
    rw [g4] at hadd
    have hcu := rCur_add (ma := 0) hop
    have h5 : b = 40 → qDep (rAdd s 0) < 5 := fun e => by rcases hcan with h | h; exact h.2.1; exact absurd e h.1
    refine wp_aload_n dX4_takesInGap_91 rfl ?_
    refine wp_aload_n dX4_takesInGap_92 rfl ?_
    refine wp_getR dX4_takesInGap_93 fl_X4_12 rfl rfl hR.1 ?_
    refine wp_iload_n dX4_takesInGap_96 rfl ?_
    refine wp_bipush (v := 43) dX4_takesInGap_97 (by decide) ?_
    refine wp_icmp_ne (tgt := 106) dX4_takesInGap_99 (by decide) (fun c99 => ?_) (fun c99 => absurd ((nIb hb (by decide)).mp c99) e43)
    refine wp_iload_n dX4_takesInGap_106 rfl ?_
    refine wp_bipush (v := 45) dX4_takesInGap_107 (by decide) ?_
    refine wp_icmp_ne (tgt := 116) dX4_takesInGap_109 (by decide) (fun c109 => ?_) (fun c109 => absurd ((nIb hb (by decide)).mp c109) e45)
    refine wp_iconst (v := 0) dX4_takesInGap_116 rfl ?_
    refine wp_aload_n dX4_takesInGap_117 rfl ?_
    refine wp_getI dX4_takesInGap_118 fl_X4_25 rfl rfl ?_
    refine wp_cV2a dX4_takesInGap_121 ml_X4_113 vX7_add (isO_T hT) (hadd) (Nat.le_of_ble_eq_true rfl) (Nat.le_of_ble_eq_true rfl) (Nat.le_of_ble_eq_true rfl) ?_
    refine wp_putR dX4_takesInGap_124 fl_X4_31 rfl rfl (fun _ _ _ h => by cases h; rfl) (fun _ => rfl) (fun _ => rfl) ?_
    rw [hR.2.2.2.2.2.1]
    refine wp_iload_n dX4_takesInGap_127 rfl ?_
    refine wp_if_eq (tgt := 139) dX4_takesInGap_128 (by decide) (fun c128 => ?_) (fun c128 => absurd rfl c128)
    refine wp_aload_n dX4_takesInGap_139 rfl ?_
    refine wp_iload_n dX4_takesInGap_140 rfl ?_
    refine wp_cV1p dX4_takesInGap_141 ml_X4_63 vX4_beginCore ⟨3, (RX4, TX4, 8), rfl, rfl, rfl⟩ (cX4_beginCore_ E T (rAdd s 0) _ (RR_sR g1) rfl (show qCn s < qCn s + 1 by omega) (by rw [hcu]; rfl) (by rw [hcu]; rfl) (by rw [hcu]; rfl) (by rw [hcu]; exact okN_new _ _) b hb h5) (Nat.le_of_ble_eq_true rfl) (Nat.le_of_ble_eq_true rfl) (Nat.le_of_ble_eq_true rfl) (Nat.le_refl _) (Nat.le_refl _) (fun v sh1 M1 hq => ?_)
    obtain ⟨rfl, rfl, hF1, hN1, hS1⟩ := hq
    refine wp_ireturn dX4_takesInGap_144 rfl (nar_b2i _) (Nat.zero_le _) (Nat.zero_le _) ?_
    exact pO_yes (s1 := rCore (rAdd s 0) b) rfl ((g2.sR (Or.inl rfl)).tr hF1) (hS1 _ rfl)
  · refine wp_iconst (v := 0) dX4_takesInGap_89 rfl ?_
    refine wp_ireturn dX4_takesInGap_90 rfl rfl (Nat.zero_le _) (Nat.zero_le _) ?_
    exact pO_no (if_neg (b2i_e0.mp c86))
