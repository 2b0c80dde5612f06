/-! ===== the reader: takes, isWhole, begin, exchange ===== -/
set_option maxRecDepth 100000 in
set_option maxHeartbeats 4000000 in
theorem cX4_takes_ (E : GE) (T : Nat) (s : RS) (M : Mem) (hX : RRx M T s) (hA : aOk s) (b : Nat) (hb : b < 256) : Sp E mX4_takes 5 0 0 [.ref 56, .int (nI b)] SH M (pO T M (dl s b)) := by
  refine sp_of vX4_takes.1 rfl (Nat.le_of_ble_eq_true rfl) ?_
  obtain ⟨hR, hC, hW⟩ := hX
  obtain ⟨⟨g1, g2, g3, g4, g5, g6⟩, so, h18, hcu⟩ := hA
  have hT := hR.2.1
  have h25 := hR.2.2.2.2.2.2.2.1
  obtain ⟨n, hn⟩ : ∃ n, n = qSt s := ⟨_, rfl⟩
  rw [← hn] at h18
  match n, hn, h18 with
  | 0, hn, h18 =>
    have hst : fI M 56 1 = nI 0 := hR.2.2.2.1.trans (congrArg nI hn.symm)
    have hdl : dl s b = (rGap s b) := by unfold dl; rw [← hn]; rfl
    rw [hdl]
    refine wp_aload_n dX4_takes_0 rfl ?_
    refine wp_getI dX4_takes_1 fl_X4_18 rfl rfl ?_
    refine wp_tableIn (off := 88) (tgt := 92) dX4_takes_4 (by rw [hst]; decide) (by rw [hst]; decide) (by rw [hst]; rfl) (by decide) ?_
    refine wp_aload_n dX4_takes_92 rfl ?_
    refine wp_iload_n dX4_takes_93 rfl ?_
    refine wp_cV1p dX4_takes_94 ml_X4_55 vX4_takesInGap ⟨3, (RX4, TX4, 8), rfl, rfl, rfl⟩ (cX4_takesInGap_ E T s M hR g2 g4 g1 (chn_core g5 g4) (Nat.le_trans (g6 _ g2).2 g3) hn.symm b hb) (Nat.le_of_ble_eq_true rfl) (Nat.le_of_ble_eq_true rfl) (Nat.le_of_ble_eq_true rfl) (Nat.le_refl _) (Nat.le_refl _) (fun v sh1 M1 hq => ?_)
    have hq0 := hq
    obtain ⟨rfl, rfl, hF1, hN1, hS1⟩ := hq
    refine wp_ireturn dX4_takes_97 rfl (nar_b2i _) (Nat.zero_le _) (Nat.zero_le _) ?_
    exact hq0
  | 1, hn, h18 =>
    have hst : fI M 56 1 = nI 1 := hR.2.2.2.1.trans (congrArg nI hn.symm)
    have hdl : dl s b = (if rCan s b 0 then some (rCore s b) else none) := by unfold dl; rw [← hn]; rfl
    rw [hdl]
    have hcu := hcu (by omega)
    have hC : RRc M T s := hC (by omega)
    have hoN := (g6 _ hcu.2).1
    have so := so
    unfold stOk at so
    rw [← hn] at so
    refine wp_aload_n dX4_takes_0 rfl ?_
    refine wp_getI dX4_takes_1 fl_X4_18 rfl rfl ?_
    refine wp_tableIn (off := 94) (tgt := 98) dX4_takes_4 (by rw [hst]; decide) (by rw [hst]; decide) (by rw [hst]; rfl) (by decide) ?_
    refine wp_aload_n dX4_takes_98 rfl ?_
    refine wp_iload_n dX4_takes_99 rfl ?_
    refine wp_iconst (v := 0) dX4_takes_100 rfl ?_
    refine wp_cV2i dX4_takes_101 ml_X4_59 vX4_canBeginCore ⟨3, (RX4, TX4, 8), rfl, rfl, rfl⟩ (cX4_canBeginCore_ E T s M hR g1 b 0 hb (by decide)) (Nat.le_of_ble_eq_true rfl) (Nat.le_of_ble_eq_true rfl) (Nat.le_of_ble_eq_true rfl) ?_
    refine wp_if_eq (tgt := 119) dX4_takes_104 (by decide) (fun c104 => ?_) (fun c104 => ?_)
    · refine wp_iconst (v := 0) dX4_takes_119 rfl ?_
      refine wp_ireturn dX4_takes_120 rfl rfl (Nat.zero_le _) (Nat.zero_le _) ?_
      first
        | exact pO_no (if_neg (b2i_e0.mp c104))
        | exact pO_yes (s1 := rCore s b) (if_pos (b2i_ne.mp c104)) hF1 (hS1 _ rfl)
    · refine wp_aload_n dX4_takes_107 rfl ?_
      refine wp_iload_n dX4_takes_108 rfl ?_
      refine wp_cV1p dX4_takes_109 ml_X4_63 vX4_beginCore ⟨3, (RX4, TX4, 8), rfl, rfl, rfl⟩ (cX4_beginCore_ E T s M hR hC hcu.2 so.1.1 so.1.2.1 so.1.2.2 hoN b hb (fun e => by rcases b2i_ne.mp c104 with h | h; exact h.2.1; exact absurd e h.1)) (Nat.le_of_ble_eq_true rfl) (Nat.le_of_ble_eq_true rfl) (Nat.le_of_ble_eq_true rfl) (Nat.le_refl _) (Nat.le_refl _) (fun v sh1 M1 hq => ?_)
      obtain ⟨rfl, rfl, hF1, hN1, hS1⟩ := hq
      refine wp_if_eq (tgt := 119) dX4_takes_112 (by decide) (fun c112 => absurd (b2i_e0.mp c112) (fun h => h rfl)) (fun c112 => ?_)
      refine wp_iconst (v := 1) dX4_takes_115 rfl ?_
      refine wp_goto (tgt := 120) dX4_takes_116 (by decide) ?_
      refine wp_ireturn dX4_takes_120 rfl rfl (Nat.zero_le _) (Nat.zero_le _) ?_
      first
        | exact pO_no (if_neg (b2i_e0.mp c104))
        | exact pO_yes (s1 := rCore s b) (if_pos (b2i_ne.mp c104)) hF1 (hS1 _ rfl)
  | 2, hn, h18 =>
    have hst : fI M 56 1 = nI 2 := hR.2.2.2.1.trans (congrArg nI hn.symm)
    have hdl : dl s b = (if rCan s b 0 then some (rCore s b) else none) := by unfold dl; rw [← hn]; rfl
    rw [hdl]
    have hcu := hcu (by omega)
    have hC : RRc M T s := hC (by omega)
    have hoN := (g6 _ hcu.2).1
    have so := so
    unfold stOk at so
    rw [← hn] at so
    refine wp_aload_n dX4_takes_0 rfl ?_
    refine wp_getI dX4_takes_1 fl_X4_18 rfl rfl ?_
    refine wp_tableIn (off := 94) (tgt := 98) dX4_takes_4 (by rw [hst]; decide) (by rw [hst]; decide) (by rw [hst]; rfl) (by decide) ?_
    refine wp_aload_n dX4_takes_98 rfl ?_
    refine wp_iload_n dX4_takes_99 rfl ?_
    refine wp_iconst (v := 0) dX4_takes_100 rfl ?_
    refine wp_cV2i dX4_takes_101 ml_X4_59 vX4_canBeginCore ⟨3, (RX4, TX4, 8), rfl, rfl, rfl⟩ (cX4_canBeginCore_ E T s M hR g1 b 0 hb (by decide)) (Nat.le_of_ble_eq_true rfl) (Nat.le_of_ble_eq_true rfl) (Nat.le_of_ble_eq_true rfl) ?_
    refine wp_if_eq (tgt := 119) dX4_takes_104 (by decide) (fun c104 => ?_) (fun c104 => ?_)
    · refine wp_iconst (v := 0) dX4_takes_119 rfl ?_
      refine wp_ireturn dX4_takes_120 rfl rfl (Nat.zero_le _) (Nat.zero_le _) ?_
      first
        | exact pO_no (if_neg (b2i_e0.mp c104))
        | exact pO_yes (s1 := rCore s b) (if_pos (b2i_ne.mp c104)) hF1 (hS1 _ rfl)
    · refine wp_aload_n dX4_takes_107 rfl ?_
      refine wp_iload_n dX4_takes_108 rfl ?_
      refine wp_cV1p dX4_takes_109 ml_X4_63 vX4_beginCore ⟨3, (RX4, TX4, 8), rfl, rfl, rfl⟩ (cX4_beginCore_ E T s M hR hC hcu.2 so.1.1 so.1.2.1 so.1.2.2 hoN b hb (fun e => by rcases b2i_ne.mp c104 with h | h; exact h.2.1; exact absurd e h.1)) (Nat.le_of_ble_eq_true rfl) (Nat.le_of_ble_eq_true rfl) (Nat.le_of_ble_eq_true rfl) (Nat.le_refl _) (Nat.le_refl _) (fun v sh1 M1 hq => ?_)
      obtain ⟨rfl, rfl, hF1, hN1, hS1⟩ := hq
      refine wp_if_eq (tgt := 119) dX4_takes_112 (by decide) (fun c112 => absurd (b2i_e0.mp c112) (fun h => h rfl)) (fun c112 => ?_)
      refine wp_iconst (v := 1) dX4_takes_115 rfl ?_
      refine wp_goto (tgt := 120) dX4_takes_116 (by decide) ?_
      refine wp_ireturn dX4_takes_120 rfl rfl (Nat.zero_le _) (Nat.zero_le _) ?_
      first
        | exact pO_no (if_neg (b2i_e0.mp c104))
        | exact pO_yes (s1 := rCore s b) (if_pos (b2i_ne.mp c104)) hF1 (hS1 _ rfl)
  | 3, hn, h18 =>
    have hst : fI M 56 1 = nI 3 := hR.2.2.2.1.trans (congrArg nI hn.symm)
    have hdl : dl s b = (rIn s b) := by unfold dl; rw [← hn]; rfl
    rw [hdl]
    have hcu := hcu (by omega)
    have hC : RRc M T s := hC (by omega)
    have hoN := (g6 _ hcu.2).1
    have hW : RRw M s := hW (by rw [← hn]; decide)
    have so := so
    unfold stOk at so
    rw [← hn] at so
    refine wp_aload_n dX4_takes_0 rfl ?_
    refine wp_getI dX4_takes_1 fl_X4_18 rfl rfl ?_
    refine wp_tableIn (off := 117) (tgt := 121) dX4_takes_4 (by rw [hst]; decide) (by rw [hst]; decide) (by rw [hst]; rfl) (by decide) ?_
    refine wp_aload_n dX4_takes_121 rfl ?_
    refine wp_iload_n dX4_takes_122 rfl ?_
    refine wp_cV1p dX4_takes_123 ml_X4_66 vX4_takesInWord ⟨3, (RX4, TX4, 8), rfl, rfl, rfl⟩ (cX4_takesInWord_ E T s M hR hC hcu.2 hW hoN so.2.2.2.2.1 (fun _ => so.2.2.1) (by rw [so.1]; decide) g2 g4 g1 so.1 (by have := so.2.2.2.2.1.2.2.2.2 so.2.2.2.1; rw [so.2.2.1] at this; omega) b hb) (Nat.le_of_ble_eq_true rfl) (Nat.le_of_ble_eq_true rfl) (Nat.le_of_ble_eq_true rfl) (Nat.le_refl _) (Nat.le_refl _) (fun v sh1 M1 hq => ?_)
    have hq0 := hq
    obtain ⟨rfl, rfl, hF1, hN1, hS1⟩ := hq
    refine wp_ireturn dX4_takes_126 rfl (nar_b2i _) (Nat.zero_le _) (Nat.zero_le _) ?_
    exact hq0
  | 4, hn, h18 =>
    have hst : fI M 56 1 = nI 4 := hR.2.2.2.1.trans (congrArg nI hn.symm)
    have hdl : dl s b = (rDet s b 48 50) := by unfold dl; rw [← hn]; rfl
    rw [hdl]
    have hcu := hcu (by omega)
    have hC : RRc M T s := hC (by omega)
    have hoN := (g6 _ hcu.2).1
    refine wp_aload_n dX4_takes_0 rfl ?_
    refine wp_getI dX4_takes_1 fl_X4_18 rfl rfl ?_
    refine wp_tableIn (off := 123) (tgt := 127) dX4_takes_4 (by rw [hst]; decide) (by rw [hst]; decide) (by rw [hst]; rfl) (by decide) ?_
    refine wp_aload_n dX4_takes_127 rfl ?_
    refine wp_iload_n dX4_takes_128 rfl ?_
    refine wp_bipush (v := 48) dX4_takes_129 (by decide) ?_
    refine wp_bipush (v := 50) dX4_takes_131 (by decide) ?_
    refine wp_cV3p dX4_takes_133 ml_X4_69 vX4_takesDetail ⟨3, (RX4, TX4, 8), rfl, rfl, rfl⟩ (cX4_takesDetail_ E T s M hR hC hcu.2 b 48 50 hb (by decide) (by decide)) (Nat.le_of_ble_eq_true rfl) (Nat.le_of_ble_eq_true rfl) (Nat.le_of_ble_eq_true rfl) (Nat.le_refl _) (Nat.le_refl _) (fun v sh1 M1 hq => ?_)
    have hq0 := hq
    obtain ⟨rfl, rfl, hF1, hN1, hS1⟩ := hq
    refine wp_ireturn dX4_takes_136 rfl (nar_b2i _) (Nat.zero_le _) (Nat.zero_le _) ?_
    exact hq0
  | 5, hn, h18 =>
    have hst : fI M 56 1 = nI 5 := hR.2.2.2.1.trans (congrArg nI hn.symm)
    have hdl : dl s b = (rLet s b 6) := by unfold dl; rw [← hn]; rfl
    rw [hdl]
    have hcu := hcu (by omega)
    have hC : RRc M T s := hC (by omega)
    have hoN := (g6 _ hcu.2).1
    have hW : RRw M s := hW (by rw [← hn]; decide)
    have so := so
    unfold stOk at so
    rw [← hn] at so
    refine wp_aload_n dX4_takes_0 rfl ?_
    refine wp_getI dX4_takes_1 fl_X4_18 rfl rfl ?_
    refine wp_tableIn (off := 133) (tgt := 137) dX4_takes_4 (by rw [hst]; decide) (by rw [hst]; decide) (by rw [hst]; rfl) (by decide) ?_
    refine wp_aload_n dX4_takes_137 rfl ?_
    refine wp_iload_n dX4_takes_138 rfl ?_
    refine wp_bipush (v := 6) dX4_takes_139 (by decide) ?_
    refine wp_cV2p dX4_takes_141 ml_X4_73 vX4_takesLetter ⟨3, (RX4, TX4, 8), rfl, rfl, rfl⟩ (cX4_takesLetter_ E T s M hR hC hcu.2 hW hoN so.2.1 (fun h => by rw [so.1] at h; exact absurd h (by decide)) (by rw [so.1]; decide) b 6 hb) (Nat.le_of_ble_eq_true rfl) (Nat.le_of_ble_eq_true rfl) (Nat.le_of_ble_eq_true rfl) (Nat.le_refl _) (Nat.le_refl _) (fun v sh1 M1 hq => ?_)
    have hq0 := hq
    obtain ⟨rfl, rfl, hF1, hN1, hS1⟩ := hq
    refine wp_ireturn dX4_takes_144 rfl (nar_b2i _) (Nat.zero_le _) (Nat.zero_le _) ?_
    exact hq0
  | 6, hn, h18 =>
    have hst : fI M 56 1 = nI 6 := hR.2.2.2.1.trans (congrArg nI hn.symm)
    have hdl : dl s b = (rQuo s b) := by unfold dl; rw [← hn]; rfl
    rw [hdl]
    have hcu := hcu (by omega)
    have hC : RRc M T s := hC (by omega)
    have hoN := (g6 _ hcu.2).1
    have hW : RRw M s := hW (by rw [← hn]; decide)
    have so := so
    unfold stOk at so
    rw [← hn] at so
    refine wp_aload_n dX4_takes_0 rfl ?_
    refine wp_getI dX4_takes_1 fl_X4_18 rfl rfl ?_
    refine wp_tableIn (off := 141) (tgt := 145) dX4_takes_4 (by rw [hst]; decide) (by rw [hst]; decide) (by rw [hst]; rfl) (by decide) ?_
    refine wp_aload_n dX4_takes_145 rfl ?_
    refine wp_iload_n dX4_takes_146 rfl ?_
    refine wp_cV1p dX4_takes_147 ml_X4_76 vX4_takesInQuote ⟨3, (RX4, TX4, 8), rfl, rfl, rfl⟩ (cX4_takesInQuote_ E T s M hR hC hcu.2 hW hoN so.2.1 (fun h => by rw [so.1] at h; exact absurd h (by decide)) (by rw [so.1]; decide) b hb) (Nat.le_of_ble_eq_true rfl) (Nat.le_of_ble_eq_true rfl) (Nat.le_of_ble_eq_true rfl) (Nat.le_refl _) (Nat.le_refl _) (fun v sh1 M1 hq => ?_)
    have hq0 := hq
    obtain ⟨rfl, rfl, hF1, hN1, hS1⟩ := hq
    refine wp_ireturn dX4_takes_150 rfl (nar_b2i _) (Nat.zero_le _) (Nat.zero_le _) ?_
    exact hq0
  | 7, hn, h18 =>
    have hst : fI M 56 1 = nI 7 := hR.2.2.2.1.trans (congrArg nI hn.symm)
    have hdl : dl s b = (rQGap s b) := by unfold dl; rw [← hn]; rfl
    rw [hdl]
    have hcu := hcu (by omega)
    have hC : RRc M T s := hC (by omega)
    have hoN := (g6 _ hcu.2).1
    have hW : RRw M s := hW (by rw [← hn]; decide)
    have so := so
    unfold stOk at so
    rw [← hn] at so
    refine wp_aload_n dX4_takes_0 rfl ?_
    refine wp_getI dX4_takes_1 fl_X4_18 rfl rfl ?_
    refine wp_tableIn (off := 147) (tgt := 151) dX4_takes_4 (by rw [hst]; decide) (by rw [hst]; decide) (by rw [hst]; rfl) (by decide) ?_
    refine wp_aload_n dX4_takes_151 rfl ?_
    refine wp_iload_n dX4_takes_152 rfl ?_
    refine wp_cV1p dX4_takes_153 ml_X4_79 vX4_takesInQuoteGap ⟨3, (RX4, TX4, 8), rfl, rfl, rfl⟩ (cX4_takesInQuoteGap_ E T s M hR hC hcu.2 hW hoN so.2.1 so.2.2 so.1 hn.symm b hb) (Nat.le_of_ble_eq_true rfl) (Nat.le_of_ble_eq_true rfl) (Nat.le_of_ble_eq_true rfl) (Nat.le_refl _) (Nat.le_refl _) (fun v sh1 M1 hq => ?_)
    have hq0 := hq
    obtain ⟨rfl, rfl, hF1, hN1, hS1⟩ := hq
    refine wp_ireturn dX4_takes_156 rfl (nar_b2i _) (Nat.zero_le _) (Nat.zero_le _) ?_
    exact hq0
  | 8, hn, h18 =>
    have hst : fI M 56 1 = nI 8 := hR.2.2.2.1.trans (congrArg nI hn.symm)
    have hdl : dl s b = (if b = 126 then some (rGo s 9) else rTail s b) := by unfold dl; rw [← hn]; rfl
    rw [hdl]
    have hcu := hcu (by omega)
    have hC : RRc M T s := hC (by omega)
    have hoN := (g6 _ hcu.2).1
    refine wp_aload_n dX4_takes_0 rfl ?_
    refine wp_getI dX4_takes_1 fl_X4_18 rfl rfl ?_
    refine wp_tableIn (off := 153) (tgt := 157) dX4_takes_4 (by rw [hst]; decide) (by rw [hst]; decide) (by rw [hst]; rfl) (by decide) ?_
    refine wp_iload_n dX4_takes_157 rfl ?_
    refine wp_bipush (v := 126) dX4_takes_158 (by decide) ?_
    refine wp_icmp_ne (tgt := 172) dX4_takes_160 (by decide) (fun c160 => ?_) (fun c160 => ?_)
    · refine wp_aload_n dX4_takes_172 rfl ?_
      refine wp_iload_n dX4_takes_173 rfl ?_
      refine wp_cV1p dX4_takes_174 ml_X4_85 vX4_takesTail ⟨3, (RX4, TX4, 8), rfl, rfl, rfl⟩ (cX4_takesTail_ E T s M hR g2 g4 g1 hC b hb) (Nat.le_of_ble_eq_true rfl) (Nat.le_of_ble_eq_true rfl) (Nat.le_of_ble_eq_true rfl) (Nat.le_refl _) (Nat.le_refl _) (fun v sh1 M1 hq => ?_)
      have hq0 := hq
      obtain ⟨rfl, rfl, hF1, hN1, hS1⟩ := hq
      refine wp_ireturn dX4_takes_177 rfl (by first | rfl | exact nar_b2i _) (Nat.zero_le _) (Nat.zero_le _) ?_
      first
        | exact pO_eq hq0 (if_neg (fun e => c160 (by rw [e]; rfl)))
        | exact pO_yes (s1 := rGo s 9) (if_pos ((nIb hb (by decide)).mp c160)) (FrT.rf.sI (Or.inl rfl)) (RRx_go hR (fun _ => hC) (fun h => absurd h (by decide)))
    · refine wp_aload_n dX4_takes_163 rfl ?_
      refine wp_bipush (v := 9) dX4_takes_164 (by decide) ?_
      refine wp_cV1i dX4_takes_166 ml_X4_82 vX4_goTo ⟨3, (RX4, TX4, 8), rfl, rfl, rfl⟩ (cX4_goTo_ E _ _) (Nat.le_of_ble_eq_true rfl) (Nat.le_of_ble_eq_true rfl) (Nat.le_of_ble_eq_true rfl) ?_
      refine wp_goto (tgt := 177) dX4_takes_169 (by decide) ?_
      refine wp_ireturn dX4_takes_177 rfl (by first | rfl | exact nar_b2i _) (Nat.zero_le _) (Nat.zero_le _) ?_
      first
        | exact pO_eq hq0 (if_neg (fun e => c160 (by rw [e]; rfl)))
        | exact pO_yes (s1 := rGo s 9) (if_pos ((nIb hb (by decide)).mp c160)) (FrT.rf.sI (Or.inl rfl)) (RRx_go hR (fun _ => hC) (fun h => absurd h (by decide)))
  | 9, hn, h18 =>
    have hst : fI M 56 1 = nI 9 := hR.2.2.2.1.trans (congrArg nI hn.symm)
    have hdl : dl s b = (rDet s b 48 57) := by unfold dl; rw [← hn]; rfl
    rw [hdl]
    have hcu := hcu (by omega)
    have hC : RRc M T s := hC (by omega)
    have hoN := (g6 _ hcu.2).1
    refine wp_aload_n dX4_takes_0 rfl ?_
    refine wp_getI dX4_takes_1 fl_X4_18 rfl rfl ?_
    refine wp_tableIn (off := 174) (tgt := 178) dX4_takes_4 (by rw [hst]; decide) (by rw [hst]; decide) (by rw [hst]; rfl) (by decide) ?_
    refine wp_aload_n dX4_takes_178 rfl ?_
    refine wp_iload_n dX4_takes_179 rfl ?_
    refine wp_bipush (v := 48) dX4_takes_180 (by decide) ?_
    refine wp_bipush (v := 57) dX4_takes_182 (by decide) ?_
    refine wp_cV3p dX4_takes_184 ml_X4_69 vX4_takesDetail ⟨3, (RX4, TX4, 8), rfl, rfl, rfl⟩ (cX4_takesDetail_ E T s M hR hC hcu.2 b 48 57 hb (by decide) (by decide)) (Nat.le_of_ble_eq_true rfl) (Nat.le_of_ble_eq_true rfl) (Nat.le_of_ble_eq_true rfl) (Nat.le_refl _) (Nat.le_refl _) (fun v sh1 M1 hq => ?_)
    have hq0 := hq
    obtain ⟨rfl, rfl, hF1, hN1, hS1⟩ := hq
    refine wp_ireturn dX4_takes_187 rfl (nar_b2i _) (Nat.zero_le _) (Nat.zero_le _) ?_
    exact hq0
  | 10, hn, h18 =>
    have hst : fI M 56 1 = nI 10 := hR.2.2.2.1.trans (congrArg nI hn.symm)
    have hdl : dl s b = (rLet s b 11) := by unfold dl; rw [← hn]; rfl
    rw [hdl]
    have hcu := hcu (by omega)
    have hC : RRc M T s := hC (by omega)
    have hoN := (g6 _ hcu.2).1
    have hW : RRw M s := hW (by rw [← hn]; decide)
    have so := so
    unfold stOk at so
    rw [← hn] at so
    refine wp_aload_n dX4_takes_0 rfl ?_
    refine wp_getI dX4_takes_1 fl_X4_18 rfl rfl ?_
    refine wp_tableIn (off := 184) (tgt := 188) dX4_takes_4 (by rw [hst]; decide) (by rw [hst]; decide) (by rw [hst]; rfl) (by decide) ?_
    refine wp_aload_n dX4_takes_188 rfl ?_
    refine wp_iload_n dX4_takes_189 rfl ?_
    refine wp_bipush (v := 11) dX4_takes_190 (by decide) ?_
    refine wp_cV2p dX4_takes_192 ml_X4_73 vX4_takesLetter ⟨3, (RX4, TX4, 8), rfl, rfl, rfl⟩ (cX4_takesLetter_ E T s M hR hC hcu.2 hW hoN so.2.1 (fun h => by rw [so.1] at h; exact absurd h (by decide)) (by rw [so.1]; decide) b 11 hb) (Nat.le_of_ble_eq_true rfl) (Nat.le_of_ble_eq_true rfl) (Nat.le_of_ble_eq_true rfl) (Nat.le_refl _) (Nat.le_refl _) (fun v sh1 M1 hq => ?_)
    have hq0 := hq
    obtain ⟨rfl, rfl, hF1, hN1, hS1⟩ := hq
    refine wp_ireturn dX4_takes_195 rfl (nar_b2i _) (Nat.zero_le _) (Nat.zero_le _) ?_
    exact hq0
  | 11, hn, h18 =>
    have hst : fI M 56 1 = nI 11 := hR.2.2.2.1.trans (congrArg nI hn.symm)
    have hdl : dl s b = (rSpan s b) := by unfold dl; rw [← hn]; rfl
    rw [hdl]
    have hcu := hcu (by omega)
    have hC : RRc M T s := hC (by omega)
    have hoN := (g6 _ hcu.2).1
    have hW : RRw M s := hW (by rw [← hn]; decide)
    have so := so
    unfold stOk at so
    rw [← hn] at so
    refine wp_aload_n dX4_takes_0 rfl ?_
    refine wp_getI dX4_takes_1 fl_X4_18 rfl rfl ?_
    refine wp_tableIn (off := 192) (tgt := 196) dX4_takes_4 (by rw [hst]; decide) (by rw [hst]; decide) (by rw [hst]; rfl) (by decide) ?_
    refine wp_aload_n dX4_takes_196 rfl ?_
    refine wp_iload_n dX4_takes_197 rfl ?_
    refine wp_cV1p dX4_takes_198 ml_X4_88 vX4_takesInSpan ⟨3, (RX4, TX4, 8), rfl, rfl, rfl⟩ (cX4_takesInSpan_ E T s M hR hC hcu.2 hW hoN so.2.1 (fun h => by rw [so.1] at h; exact absurd h (by decide)) (by rw [so.1]; decide) b hb) (Nat.le_of_ble_eq_true rfl) (Nat.le_of_ble_eq_true rfl) (Nat.le_of_ble_eq_true rfl) (Nat.le_refl _) (Nat.le_refl _) (fun v sh1 M1 hq => ?_)
    have hq0 := hq
    obtain ⟨rfl, rfl, hF1, hN1, hS1⟩ := hq
    refine wp_ireturn dX4_takes_201 rfl (nar_b2i _) (Nat.zero_le _) (Nat.zero_le _) ?_
    exact hq0
  | 12, hn, h18 =>
    have hst : fI M 56 1 = nI 12 := hR.2.2.2.1.trans (congrArg nI hn.symm)
    have hdl : dl s b = (if b = 46 then some (rWord s 1 10) else none) := by unfold dl; rw [← hn]; rfl
    rw [hdl]
    have hcu := hcu (by omega)
    have hC : RRc M T s := hC (by omega)
    have hoN := (g6 _ hcu.2).1
    have so := so
    unfold stOk at so
    rw [← hn] at so
    refine wp_aload_n dX4_takes_0 rfl ?_
    refine wp_getI dX4_takes_1 fl_X4_18 rfl rfl ?_
    refine wp_tableIn (off := 198) (tgt := 202) dX4_takes_4 (by rw [hst]; decide) (by rw [hst]; decide) (by rw [hst]; rfl) (by decide) ?_
    refine wp_iload_n dX4_takes_202 rfl ?_
    refine wp_bipush (v := 46) dX4_takes_203 (by decide) ?_
    refine wp_icmp_ne (tgt := 222) dX4_takes_205 (by decide) (fun c205 => ?_) (fun c205 => ?_)
    · refine wp_iconst (v := 0) dX4_takes_222 rfl ?_
      refine wp_ireturn dX4_takes_223 rfl rfl (Nat.zero_le _) (Nat.zero_le _) ?_
      first
        | exact pO_no (if_neg (fun e => c205 (by rw [e]; rfl)))
        | exact pO_yes (s1 := rWord s 1 10) (if_pos ((nIb hb (by decide)).mp c205)) ((((FrT.rf.sI (Or.inl rfl)).sI (Or.inl rfl)).sI (Or.inl rfl)).sI (Or.inl rfl)) (RRx_word (n := 1) (nx := 10) hR hC)
    · refine wp_aload_n dX4_takes_208 rfl ?_
      refine wp_iconst (v := 1) dX4_takes_209 rfl ?_
      refine wp_bipush (v := 10) dX4_takes_210 (by decide) ?_
      refine wp_cV2i dX4_takes_212 ml_X4_91 vX4_beginWord ⟨3, (RX4, TX4, 8), rfl, rfl, rfl⟩ (cX4_beginWord_ E _ _ _) (Nat.le_of_ble_eq_true rfl) (Nat.le_of_ble_eq_true rfl) (Nat.le_of_ble_eq_true rfl) ?_
      refine wp_if_eq (tgt := 222) dX4_takes_215 (by decide) (fun c215 => absurd c215 (by decide)) (fun c215 => ?_)
      refine wp_iconst (v := 1) dX4_takes_218 rfl ?_
      refine wp_goto (tgt := 223) dX4_takes_219 (by decide) ?_
      refine wp_ireturn dX4_takes_223 rfl rfl (Nat.zero_le _) (Nat.zero_le _) ?_
      first
        | exact pO_no (if_neg (fun e => c205 (by rw [e]; rfl)))
        | exact pO_yes (s1 := rWord s 1 10) (if_pos ((nIb hb (by decide)).mp c205)) ((((FrT.rf.sI (Or.inl rfl)).sI (Or.inl rfl)).sI (Or.inl rfl)).sI (Or.inl rfl)) (RRx_word (n := 1) (nx := 10) hR hC)
  | 13, hn, h18 =>
    have hst : fI M 56 1 = nI 13 := hR.2.2.2.1.trans (congrArg nI hn.symm)
    have hdl : dl s b = (if b = 64 then some (rGo s 14) else rTail s b) := by unfold dl; rw [← hn]; rfl
    rw [hdl]
    have hcu := hcu (by omega)
    have hC : RRc M T s := hC (by omega)
    have hoN := (g6 _ hcu.2).1
    refine wp_aload_n dX4_takes_0 rfl ?_
    refine wp_getI dX4_takes_1 fl_X4_18 rfl rfl ?_
    refine wp_tableIn (off := 220) (tgt := 224) dX4_takes_4 (by rw [hst]; decide) (by rw [hst]; decide) (by rw [hst]; rfl) (by decide) ?_
    refine wp_iload_n dX4_takes_224 rfl ?_
    refine wp_bipush (v := 64) dX4_takes_225 (by decide) ?_
    refine wp_icmp_ne (tgt := 239) dX4_takes_227 (by decide) (fun c227 => ?_) (fun c227 => ?_)
    · refine wp_aload_n dX4_takes_239 rfl ?_
      refine wp_iload_n dX4_takes_240 rfl ?_
      refine wp_cV1p dX4_takes_241 ml_X4_85 vX4_takesTail ⟨3, (RX4, TX4, 8), rfl, rfl, rfl⟩ (cX4_takesTail_ E T s M hR g2 g4 g1 hC b hb) (Nat.le_of_ble_eq_true rfl) (Nat.le_of_ble_eq_true rfl) (Nat.le_of_ble_eq_true rfl) (Nat.le_refl _) (Nat.le_refl _) (fun v sh1 M1 hq => ?_)
      have hq0 := hq
      obtain ⟨rfl, rfl, hF1, hN1, hS1⟩ := hq
      refine wp_ireturn dX4_takes_244 rfl (by first | rfl | exact nar_b2i _) (Nat.zero_le _) (Nat.zero_le _) ?_
      first
        | exact pO_eq hq0 (if_neg (fun e => c227 (by rw [e]; rfl)))
        | exact pO_yes (s1 := rGo s 14) (if_pos ((nIb hb (by decide)).mp c227)) (FrT.rf.sI (Or.inl rfl)) (RRx_go hR (fun _ => hC) (fun h => absurd h (by decide)))
    · refine wp_aload_n dX4_takes_230 rfl ?_
      refine wp_bipush (v := 14) dX4_takes_231 (by decide) ?_
      refine wp_cV1i dX4_takes_233 ml_X4_82 vX4_goTo ⟨3, (RX4, TX4, 8), rfl, rfl, rfl⟩ (cX4_goTo_ E _ _) (Nat.le_of_ble_eq_true rfl) (Nat.le_of_ble_eq_true rfl) (Nat.le_of_ble_eq_true rfl) ?_
      refine wp_goto (tgt := 244) dX4_takes_236 (by decide) ?_
      refine wp_ireturn dX4_takes_244 rfl (by first | rfl | exact nar_b2i _) (Nat.zero_le _) (Nat.zero_le _) ?_
      first
        | exact pO_eq hq0 (if_neg (fun e => c227 (by rw [e]; rfl)))
        | exact pO_yes (s1 := rGo s 14) (if_pos ((nIb hb (by decide)).mp c227)) (FrT.rf.sI (Or.inl rfl)) (RRx_go hR (fun _ => hC) (fun h => absurd h (by decide)))
  | 14, hn, h18 =>
    have hst : fI M 56 1 = nI 14 := hR.2.2.2.1.trans (congrArg nI hn.symm)
    have hdl : dl s b = (rDet s b 49 57) := by unfold dl; rw [← hn]; rfl
    rw [hdl]
    have hcu := hcu (by omega)
    have hC : RRc M T s := hC (by omega)
    have hoN := (g6 _ hcu.2).1
    refine wp_aload_n dX4_takes_0 rfl ?_
    refine wp_getI dX4_takes_1 fl_X4_18 rfl rfl ?_
    refine wp_tableIn (off := 241) (tgt := 245) dX4_takes_4 (by rw [hst]; decide) (by rw [hst]; decide) (by rw [hst]; rfl) (by decide) ?_
    refine wp_aload_n dX4_takes_245 rfl ?_
    refine wp_iload_n dX4_takes_246 rfl ?_
    refine wp_bipush (v := 49) dX4_takes_247 (by decide) ?_
    refine wp_bipush (v := 57) dX4_takes_249 (by decide) ?_
    refine wp_cV3p dX4_takes_251 ml_X4_69 vX4_takesDetail ⟨3, (RX4, TX4, 8), rfl, rfl, rfl⟩ (cX4_takesDetail_ E T s M hR hC hcu.2 b 49 57 hb (by decide) (by decide)) (Nat.le_of_ble_eq_true rfl) (Nat.le_of_ble_eq_true rfl) (Nat.le_of_ble_eq_true rfl) (Nat.le_refl _) (Nat.le_refl _) (fun v sh1 M1 hq => ?_)
    have hq0 := hq
    obtain ⟨rfl, rfl, hF1, hN1, hS1⟩ := hq
    refine wp_ireturn dX4_takes_254 rfl (nar_b2i _) (Nat.zero_le _) (Nat.zero_le _) ?_
    exact hq0
  | 15, hn, h18 =>
    have hst : fI M 56 1 = nI 15 := hR.2.2.2.1.trans (congrArg nI hn.symm)
    have hdl : dl s b = (rTail s b) := by unfold dl; rw [← hn]; rfl
    rw [hdl]
    have hcu := hcu (by omega)
    have hC : RRc M T s := hC (by omega)
    have hoN := (g6 _ hcu.2).1
    refine wp_aload_n dX4_takes_0 rfl ?_
    refine wp_getI dX4_takes_1 fl_X4_18 rfl rfl ?_
    refine wp_tableIn (off := 251) (tgt := 255) dX4_takes_4 (by rw [hst]; decide) (by rw [hst]; decide) (by rw [hst]; rfl) (by decide) ?_
    refine wp_aload_n dX4_takes_255 rfl ?_
    refine wp_iload_n dX4_takes_256 rfl ?_
    refine wp_cV1p dX4_takes_257 ml_X4_85 vX4_takesTail ⟨3, (RX4, TX4, 8), rfl, rfl, rfl⟩ (cX4_takesTail_ E T s M hR g2 g4 g1 hC b hb) (Nat.le_of_ble_eq_true rfl) (Nat.le_of_ble_eq_true rfl) (Nat.le_of_ble_eq_true rfl) (Nat.le_refl _) (Nat.le_refl _) (fun v sh1 M1 hq => ?_)
    have hq0 := hq
    obtain ⟨rfl, rfl, hF1, hN1, hS1⟩ := hq
    refine wp_ireturn dX4_takes_260 rfl (nar_b2i _) (Nat.zero_le _) (Nat.zero_le _) ?_
    exact hq0
  | 16, hn, h18 =>
    have hst : fI M 56 1 = nI 16 := hR.2.2.2.1.trans (congrArg nI hn.symm)
    have hdl : dl s b = (if isFg b then some (rBoo s (nI b - 48) 17) else none) := by unfold dl; rw [← hn]; rfl
    rw [hdl]
    have hcu := hcu (by omega)
    have hC : RRc M T s := hC (by omega)
    have hoN := (g6 _ hcu.2).1
    refine wp_aload_n dX4_takes_0 rfl ?_
    refine wp_getI dX4_takes_1 fl_X4_18 rfl rfl ?_
    refine wp_tableIn (off := 257) (tgt := 261) dX4_takes_4 (by rw [hst]; decide) (by rw [hst]; decide) (by rw [hst]; rfl) (by decide) ?_
    refine wp_iload_n dX4_takes_261 rfl ?_
    refine wp_cS1i dX4_takes_262 ml_X4_94 sX4_isFigure (cX4_isFigure_ E _ _ _) (Nat.le_of_ble_eq_true rfl) (Nat.le_of_ble_eq_true rfl) (Nat.le_of_ble_eq_true rfl) ?_
    refine wp_if_eq (tgt := 285) dX4_takes_265 (by decide) (fun c265 => ?_) (fun c265 => ?_)
    · refine wp_iconst (v := 0) dX4_takes_285 rfl ?_
      refine wp_ireturn dX4_takes_286 rfl rfl (Nat.zero_le _) (Nat.zero_le _) ?_
      first
        | exact pO_no (if_neg (fun h => b2i_e0.mp c265 ((isFg_i hb).mpr h)))
        | exact pO_yes (s1 := rBoo s (nI b - 48) 17) (if_pos ((isFg_i hb).mp (b2i_ne.mp c265))) hF1 (hS1 _ rfl)
    · refine wp_aload_n dX4_takes_268 rfl ?_
      refine wp_iload_n dX4_takes_269 rfl ?_
      refine wp_bipush (v := 48) dX4_takes_270 (by decide) ?_
      refine wp_isub dX4_takes_272 ?_
      refine wp_bipush (v := 17) dX4_takes_273 (by decide) ?_
      refine wp_cV2p dX4_takes_275 ml_X4_97 vX4_takeBoost ⟨3, (RX4, TX4, 8), rfl, rfl, rfl⟩ (cX4_takeBoost_ E T s M hR hC hcu.2 _ 17 (by decide)) (Nat.le_of_ble_eq_true rfl) (Nat.le_of_ble_eq_true rfl) (Nat.le_of_ble_eq_true rfl) (Nat.le_refl _) (Nat.le_refl _) (fun v sh1 M1 hq => ?_)
      obtain ⟨rfl, rfl, hF1, hN1, hS1⟩ := hq
      refine wp_if_eq (tgt := 285) dX4_takes_278 (by decide) (fun c278 => absurd (b2i_e0.mp c278) (fun h => h rfl)) (fun c278 => ?_)
      refine wp_iconst (v := 1) dX4_takes_281 rfl ?_
      refine wp_goto (tgt := 286) dX4_takes_282 (by decide) ?_
      refine wp_ireturn dX4_takes_286 rfl rfl (Nat.zero_le _) (Nat.zero_le _) ?_
      first
        | exact pO_no (if_neg (fun h => b2i_e0.mp c265 ((isFg_i hb).mpr h)))
        | exact pO_yes (s1 := rBoo s (nI b - 48) 17) (if_pos ((isFg_i hb).mp (b2i_ne.mp c265))) hF1 (hS1 _ rfl)
  | 17, hn, h18 =>
    have hst : fI M 56 1 = nI 17 := hR.2.2.2.1.trans (congrArg nI hn.symm)
    have hdl : dl s b = (if isFg b then some (rBoo s (10 * nBo (rCur s) + nI b - 48) 18) else rEnd s b) := by unfold dl; rw [← hn]; rfl
    rw [hdl]
    have hcu := hcu (by omega)
    have hC : RRc M T s := hC (by omega)
    have hoN := (g6 _ hcu.2).1
    refine wp_aload_n dX4_takes_0 rfl ?_
    refine wp_getI dX4_takes_1 fl_X4_18 rfl rfl ?_
    refine wp_tableIn (off := 283) (tgt := 287) dX4_takes_4 (by rw [hst]; decide) (by rw [hst]; decide) (by rw [hst]; rfl) (by decide) ?_
    have hc := isC_tree (k := qCu s) hT (by omega)
    have hbo : fI M (T + 2 + 2 * qCu s) 2 = nBo (rCur s) := (cN_of hR hcu.2).2.2.1
    refine wp_iload_n dX4_takes_287 rfl ?_
    refine wp_cS1i dX4_takes_288 ml_X4_94 sX4_isFigure (cX4_isFigure_ E _ _ _) (Nat.le_of_ble_eq_true rfl) (Nat.le_of_ble_eq_true rfl) (Nat.le_of_ble_eq_true rfl) ?_
    refine wp_if_eq (tgt := 318) dX4_takes_291 (by decide) (fun c291 => ?_) (fun c291 => ?_)
    · refine wp_aload_n dX4_takes_318 rfl ?_
      refine wp_iload_n dX4_takes_319 rfl ?_
      refine wp_cV1p dX4_takes_320 ml_X4_103 vX4_takesEnd ⟨3, (RX4, TX4, 8), rfl, rfl, rfl⟩ (cX4_takesEnd_ E T s M hR g2 g4 g1 b hb) (Nat.le_of_ble_eq_true rfl) (Nat.le_of_ble_eq_true rfl) (Nat.le_of_ble_eq_true rfl) (Nat.le_refl _) (Nat.le_refl _) (fun v sh1 M1 hq => ?_)
      have hq0 := hq
      obtain ⟨rfl, rfl, hF1, hN1, hS1⟩ := hq
      refine wp_ireturn dX4_takes_323 rfl (nar_b2i _) (Nat.zero_le _) (Nat.zero_le _) ?_
      first
        | exact pO_eq hq0 (if_neg (fun h => b2i_e0.mp c291 ((isFg_i hb).mpr h)))
        | (rw [hbo] at hq0; exact pO_eq hq0 (if_pos ((isFg_i hb).mp (b2i_ne.mp c291))))
    · refine wp_aload_n dX4_takes_294 rfl ?_
      refine wp_bipush (v := 10) dX4_takes_295 (by decide) ?_
      refine wp_aload_n dX4_takes_297 rfl ?_
      refine wp_getR dX4_takes_298 fl_X4_31 rfl rfl hC ?_
      refine wp_getI dX4_takes_301 fl_X4_100 hc.1 rfl ?_
      refine wp_imul dX4_takes_304 ?_
      refine wp_iload_n dX4_takes_305 rfl ?_
      refine wp_iadd dX4_takes_306 ?_
      refine wp_bipush (v := 48) dX4_takes_307 (by decide) ?_
      refine wp_isub dX4_takes_309 ?_
      refine wp_bipush (v := 18) dX4_takes_310 (by decide) ?_
      refine wp_cV2p dX4_takes_312 ml_X4_97 vX4_takeBoost ⟨3, (RX4, TX4, 8), rfl, rfl, rfl⟩ (cX4_takeBoost_ E T s M hR hC hcu.2 _ 18 (by decide)) (Nat.le_of_ble_eq_true rfl) (Nat.le_of_ble_eq_true rfl) (Nat.le_of_ble_eq_true rfl) (Nat.le_refl _) (Nat.le_refl _) (fun v sh1 M1 hq => ?_)
      have hq0 := hq
      obtain ⟨rfl, rfl, hF1, hN1, hS1⟩ := hq
      refine wp_goto (tgt := 323) dX4_takes_315 (by decide) ?_
      refine wp_ireturn dX4_takes_323 rfl (nar_b2i _) (Nat.zero_le _) (Nat.zero_le _) ?_
      first
        | exact pO_eq hq0 (if_neg (fun h => b2i_e0.mp c291 ((isFg_i hb).mpr h)))
        | (rw [hbo] at hq0; exact pO_eq hq0 (if_pos ((isFg_i hb).mp (b2i_ne.mp c291))))
  | 18, hn, h18 =>
    have hst : fI M 56 1 = nI 18 := hR.2.2.2.1.trans (congrArg nI hn.symm)
    have hdl : dl s b = (rEnd s b) := by unfold dl; rw [← hn]; rfl
    rw [hdl]
    have hcu := hcu (by omega)
    have hC : RRc M T s := hC (by omega)
    have hoN := (g6 _ hcu.2).1
    refine wp_aload_n dX4_takes_0 rfl ?_
    refine wp_getI dX4_takes_1 fl_X4_18 rfl rfl ?_
    refine wp_tableOut (tgt := 324) dX4_takes_4 (by rw [hst]; decide) (by decide) ?_
    refine wp_aload_n dX4_takes_324 rfl ?_
    refine wp_iload_n dX4_takes_325 rfl ?_
    refine wp_cV1p dX4_takes_326 ml_X4_103 vX4_takesEnd ⟨3, (RX4, TX4, 8), rfl, rfl, rfl⟩ (cX4_takesEnd_ E T s M hR g2 g4 g1 b hb) (Nat.le_of_ble_eq_true rfl) (Nat.le_of_ble_eq_true rfl) (Nat.le_of_ble_eq_true rfl) (Nat.le_refl _) (Nat.le_refl _) (fun v sh1 M1 hq => ?_)
    have hq0 := hq
    obtain ⟨rfl, rfl, hF1, hN1, hS1⟩ := hq
    refine wp_ireturn dX4_takes_329 rfl (nar_b2i _) (Nat.zero_le _) (Nat.zero_le _) ?_
    exact hq0
  | n + 19, _, h18 => exact absurd h18 (by omega)

set_option maxRecDepth 100000 in
set_option maxHeartbeats 4000000 in
theorem cX4_isWhole_ (E : GE) (T : Nat) (s : RS) (M : Mem) (hX : RRx M T s) (hA : aOk s) : Sp E mX4_isWhole 1 0 0 [.ref 56] SH M (RV (some (.int (b2i (qDep s = 0 ∧ ((qSt s = 0 ∧ 0 < nKi (qNd s 0)) ∨ qSt s = 3 ∨ qSt s = 8 ∨ qSt s = 13 ∨ qSt s = 15 ∨ qSt s = 17 ∨ qSt s = 18))))) SH M) := by
  refine sp_of vX4_isWhole.1 rfl (Nat.le_of_ble_eq_true rfl) ?_
  obtain ⟨hR, hC, hW⟩ := hX
  obtain ⟨⟨g1, g2, g3, g4, g5, g6⟩, so, h18, hcu⟩ := hA
  have hT := hR.2.1
  have h25 := hR.2.2.2.2.2.2.2.1
  have hc0 := isC_tree (k := 0) hT (by decide)
  have hN := hR.2.2.2.2.2.2.2.2 0 (by omega)
  have hkb := (g6 0 (by omega)).2
  have hsz : fI M (T + 2 + 2 * 0) 5 = nI (nKi (qNd s 0)) := by
    rw [hN.2.2.2.2.2.1]
    unfold nSz
    rw [g5, if_neg (by decide), if_pos rfl]
  refine wp_aload_n dX4_isWhole_0 rfl ?_
  refine wp_getI dX4_isWhole_1 fl_X4_22 rfl rfl ?_
  refine wp_if_le (tgt := 9) dX4_isWhole_4 (by decide) (fun c4 => ?_) (fun c4 => ?_)
  rotate_left
  · refine wp_iconst (v := 0) dX4_isWhole_7 rfl ?_
    refine wp_ireturn dX4_isWhole_8 rfl rfl (Nat.zero_le _) (Nat.zero_le _) ?_
    refine ⟨?_, rfl, rfl⟩
    congr 2
    exact (b2i_f (fun h => c4 (by rw [hR.2.2.2.2.1, h.1]; decide))).symm
  have hd0 : qDep s = 0 := by
    rw [hR.2.2.2.2.1] at c4
    exact Decidable.byContradiction fun q => nI_nle (by omega) (by omega) c4
  obtain ⟨n, hn⟩ : ∃ n, n = qSt s := ⟨_, rfl⟩
  rw [← hn] at h18
  match n, hn, h18 with
  | 0, hn, h18 =>
    have hst : fI M 56 1 = nI 0 := hR.2.2.2.1.trans (congrArg nI hn.symm)
    refine wp_aload_n dX4_isWhole_9 rfl ?_
    refine wp_getI dX4_isWhole_10 fl_X4_18 rfl rfl ?_
    refine wp_tableIn (off := 91) (tgt := 104) dX4_isWhole_13 (by rw [hst]; decide) (by rw [hst]; decide) (by rw [hst]; rfl) (by decide) ?_
    refine wp_aload_n dX4_isWhole_104 rfl ?_
    refine wp_getR dX4_isWhole_105 fl_X4_12 rfl rfl hR.1 ?_
    refine wp_iconst (v := 0) dX4_isWhole_108 rfl ?_
    refine wp_cV1a dX4_isWhole_109 ml_X4_48 vX7_at (isO_T hT) (cX7_at_ E T 0 M hT hR.2.2.1) (Nat.le_of_ble_eq_true rfl) (Nat.le_of_ble_eq_true rfl) (Nat.le_of_ble_eq_true rfl) ?_
    refine wp_getI dX4_isWhole_112 fl_X4_52 hc0.1 rfl ?_
    refine wp_if_le (tgt := 122) dX4_isWhole_115 (by decide) (fun c115 => ?_) (fun c115 => ?_)
    · refine wp_iconst (v := 0) dX4_isWhole_122 rfl ?_
      refine wp_ireturn dX4_isWhole_123 rfl rfl (Nat.zero_le _) (Nat.zero_le _) ?_
      refine ⟨?_, rfl, rfl⟩
      congr 2
      have c115 := c115
      rw [show T + 2 + 2 * atK 0 = T + 2 + 2 * 0 from rfl, hsz] at c115
      first
        | exact (b2i_f (fun h => by
            rcases h.2 with q | q
            · exact nI_nle q.2 (by omega) c115
            · omega)).symm
        | exact (b2i_t ⟨hd0, Or.inl ⟨hn.symm, Nat.pos_of_ne_zero fun q => c115 (by rw [q]; decide)⟩⟩).symm
    · refine wp_iconst (v := 1) dX4_isWhole_118 rfl ?_
      refine wp_goto (tgt := 123) dX4_isWhole_119 (by decide) ?_
      refine wp_ireturn dX4_isWhole_123 rfl rfl (Nat.zero_le _) (Nat.zero_le _) ?_
      refine ⟨?_, rfl, rfl⟩
      congr 2
      have c115 := c115
      rw [show T + 2 + 2 * atK 0 = T + 2 + 2 * 0 from rfl, hsz] at c115
      first
        | exact (b2i_f (fun h => by
            rcases h.2 with q | q
            · exact nI_nle q.2 (by omega) c115
            · omega)).symm
        | exact (b2i_t ⟨hd0, Or.inl ⟨hn.symm, Nat.pos_of_ne_zero fun q => c115 (by rw [q]; decide)⟩⟩).symm
  | 1, hn, h18 =>
    have hst : fI M 56 1 = nI 1 := hR.2.2.2.1.trans (congrArg nI hn.symm)
    refine wp_aload_n dX4_isWhole_9 rfl ?_
    refine wp_getI dX4_isWhole_10 fl_X4_18 rfl rfl ?_
    refine wp_tableIn (off := 113) (tgt := 126) dX4_isWhole_13 (by rw [hst]; decide) (by rw [hst]; decide) (by rw [hst]; rfl) (by decide) ?_
    refine wp_iconst (v := 0) dX4_isWhole_126 rfl ?_
    refine wp_ireturn dX4_isWhole_127 rfl rfl (Nat.zero_le _) (Nat.zero_le _) ?_
    refine ⟨?_, rfl, rfl⟩
    congr 2
    exact (b2i_f (fun h => by have := h.2; omega)).symm
  | 2, hn, h18 =>
    have hst : fI M 56 1 = nI 2 := hR.2.2.2.1.trans (congrArg nI hn.symm)
    refine wp_aload_n dX4_isWhole_9 rfl ?_
    refine wp_getI dX4_isWhole_10 fl_X4_18 rfl rfl ?_
    refine wp_tableIn (off := 113) (tgt := 126) dX4_isWhole_13 (by rw [hst]; decide) (by rw [hst]; decide) (by rw [hst]; rfl) (by decide) ?_
    refine wp_iconst (v := 0) dX4_isWhole_126 rfl ?_
    refine wp_ireturn dX4_isWhole_127 rfl rfl (Nat.zero_le _) (Nat.zero_le _) ?_
    refine ⟨?_, rfl, rfl⟩
    congr 2
    exact (b2i_f (fun h => by have := h.2; omega)).symm
  | 3, hn, h18 =>
    have hst : fI M 56 1 = nI 3 := hR.2.2.2.1.trans (congrArg nI hn.symm)
    refine wp_aload_n dX4_isWhole_9 rfl ?_
    refine wp_getI dX4_isWhole_10 fl_X4_18 rfl rfl ?_
    refine wp_tableIn (off := 111) (tgt := 124) dX4_isWhole_13 (by rw [hst]; decide) (by rw [hst]; decide) (by rw [hst]; rfl) (by decide) ?_
    refine wp_iconst (v := 1) dX4_isWhole_124 rfl ?_
    refine wp_ireturn dX4_isWhole_125 rfl rfl (Nat.zero_le _) (Nat.zero_le _) ?_
    refine ⟨?_, rfl, rfl⟩
    congr 2
    exact (b2i_t ⟨hd0, by omega⟩).symm
  | 4, hn, h18 =>
    have hst : fI M 56 1 = nI 4 := hR.2.2.2.1.trans (congrArg nI hn.symm)
    refine wp_aload_n dX4_isWhole_9 rfl ?_
    refine wp_getI dX4_isWhole_10 fl_X4_18 rfl rfl ?_
    refine wp_tableIn (off := 113) (tgt := 126) dX4_isWhole_13 (by rw [hst]; decide) (by rw [hst]; decide) (by rw [hst]; rfl) (by decide) ?_
    refine wp_iconst (v := 0) dX4_isWhole_126 rfl ?_
    refine wp_ireturn dX4_isWhole_127 rfl rfl (Nat.zero_le _) (Nat.zero_le _) ?_
    refine ⟨?_, rfl, rfl⟩
    congr 2
    exact (b2i_f (fun h => by have := h.2; omega)).symm
  | 5, hn, h18 =>
    have hst : fI M 56 1 = nI 5 := hR.2.2.2.1.trans (congrArg nI hn.symm)
    refine wp_aload_n dX4_isWhole_9 rfl ?_
    refine wp_getI dX4_isWhole_10 fl_X4_18 rfl rfl ?_
    refine wp_tableIn (off := 113) (tgt := 126) dX4_isWhole_13 (by rw [hst]; decide) (by rw [hst]; decide) (by rw [hst]; rfl) (by decide) ?_
    refine wp_iconst (v := 0) dX4_isWhole_126 rfl ?_
    refine wp_ireturn dX4_isWhole_127 rfl rfl (Nat.zero_le _) (Nat.zero_le _) ?_
    refine ⟨?_, rfl, rfl⟩
    congr 2
    exact (b2i_f (fun h => by have := h.2; omega)).symm
  | 6, hn, h18 =>
    have hst : fI M 56 1 = nI 6 := hR.2.2.2.1.trans (congrArg nI hn.symm)
    refine wp_aload_n dX4_isWhole_9 rfl ?_
    refine wp_getI dX4_isWhole_10 fl_X4_18 rfl rfl ?_
    refine wp_tableIn (off := 113) (tgt := 126) dX4_isWhole_13 (by rw [hst]; decide) (by rw [hst]; decide) (by rw [hst]; rfl) (by decide) ?_
    refine wp_iconst (v := 0) dX4_isWhole_126 rfl ?_
    refine wp_ireturn dX4_isWhole_127 rfl rfl (Nat.zero_le _) (Nat.zero_le _) ?_
    refine ⟨?_, rfl, rfl⟩
    congr 2
    exact (b2i_f (fun h => by have := h.2; omega)).symm
  | 7, hn, h18 =>
    have hst : fI M 56 1 = nI 7 := hR.2.2.2.1.trans (congrArg nI hn.symm)
    refine wp_aload_n dX4_isWhole_9 rfl ?_
    refine wp_getI dX4_isWhole_10 fl_X4_18 rfl rfl ?_
    refine wp_tableIn (off := 113) (tgt := 126) dX4_isWhole_13 (by rw [hst]; decide) (by rw [hst]; decide) (by rw [hst]; rfl) (by decide) ?_
    refine wp_iconst (v := 0) dX4_isWhole_126 rfl ?_
    refine wp_ireturn dX4_isWhole_127 rfl rfl (Nat.zero_le _) (Nat.zero_le _) ?_
    refine ⟨?_, rfl, rfl⟩
    congr 2
    exact (b2i_f (fun h => by have := h.2; omega)).symm
  | 8, hn, h18 =>
    have hst : fI M 56 1 = nI 8 := hR.2.2.2.1.trans (congrArg nI hn.symm)
    refine wp_aload_n dX4_isWhole_9 rfl ?_
    refine wp_getI dX4_isWhole_10 fl_X4_18 rfl rfl ?_
    refine wp_tableIn (off := 111) (tgt := 124) dX4_isWhole_13 (by rw [hst]; decide) (by rw [hst]; decide) (by rw [hst]; rfl) (by decide) ?_
    refine wp_iconst (v := 1) dX4_isWhole_124 rfl ?_
    refine wp_ireturn dX4_isWhole_125 rfl rfl (Nat.zero_le _) (Nat.zero_le _) ?_
    refine ⟨?_, rfl, rfl⟩
    congr 2
    exact (b2i_t ⟨hd0, by omega⟩).symm
  | 9, hn, h18 =>
    have hst : fI M 56 1 = nI 9 := hR.2.2.2.1.trans (congrArg nI hn.symm)
    refine wp_aload_n dX4_isWhole_9 rfl ?_
    refine wp_getI dX4_isWhole_10 fl_X4_18 rfl rfl ?_
    refine wp_tableIn (off := 113) (tgt := 126) dX4_isWhole_13 (by rw [hst]; decide) (by rw [hst]; decide) (by rw [hst]; rfl) (by decide) ?_
    refine wp_iconst (v := 0) dX4_isWhole_126 rfl ?_
    refine wp_ireturn dX4_isWhole_127 rfl rfl (Nat.zero_le _) (Nat.zero_le _) ?_
    refine ⟨?_, rfl, rfl⟩
    congr 2
    exact (b2i_f (fun h => by have := h.2; omega)).symm
  | 10, hn, h18 =>
    have hst : fI M 56 1 = nI 10 := hR.2.2.2.1.trans (congrArg nI hn.symm)
    refine wp_aload_n dX4_isWhole_9 rfl ?_
    refine wp_getI dX4_isWhole_10 fl_X4_18 rfl rfl ?_
    refine wp_tableIn (off := 113) (tgt := 126) dX4_isWhole_13 (by rw [hst]; decide) (by rw [hst]; decide) (by rw [hst]; rfl) (by decide) ?_
    refine wp_iconst (v := 0) dX4_isWhole_126 rfl ?_
    refine wp_ireturn dX4_isWhole_127 rfl rfl (Nat.zero_le _) (Nat.zero_le _) ?_
    refine ⟨?_, rfl, rfl⟩
    congr 2
    exact (b2i_f (fun h => by have := h.2; omega)).symm
  | 11, hn, h18 =>
    have hst : fI M 56 1 = nI 11 := hR.2.2.2.1.trans (congrArg nI hn.symm)
    refine wp_aload_n dX4_isWhole_9 rfl ?_
    refine wp_getI dX4_isWhole_10 fl_X4_18 rfl rfl ?_
    refine wp_tableIn (off := 113) (tgt := 126) dX4_isWhole_13 (by rw [hst]; decide) (by rw [hst]; decide) (by rw [hst]; rfl) (by decide) ?_
    refine wp_iconst (v := 0) dX4_isWhole_126 rfl ?_
    refine wp_ireturn dX4_isWhole_127 rfl rfl (Nat.zero_le _) (Nat.zero_le _) ?_
    refine ⟨?_, rfl, rfl⟩
    congr 2
    exact (b2i_f (fun h => by have := h.2; omega)).symm
  | 12, hn, h18 =>
    have hst : fI M 56 1 = nI 12 := hR.2.2.2.1.trans (congrArg nI hn.symm)
    refine wp_aload_n dX4_isWhole_9 rfl ?_
    refine wp_getI dX4_isWhole_10 fl_X4_18 rfl rfl ?_
    refine wp_tableIn (off := 113) (tgt := 126) dX4_isWhole_13 (by rw [hst]; decide) (by rw [hst]; decide) (by rw [hst]; rfl) (by decide) ?_
    refine wp_iconst (v := 0) dX4_isWhole_126 rfl ?_
    refine wp_ireturn dX4_isWhole_127 rfl rfl (Nat.zero_le _) (Nat.zero_le _) ?_
    refine ⟨?_, rfl, rfl⟩
    congr 2
    exact (b2i_f (fun h => by have := h.2; omega)).symm
  | 13, hn, h18 =>
    have hst : fI M 56 1 = nI 13 := hR.2.2.2.1.trans (congrArg nI hn.symm)
    refine wp_aload_n dX4_isWhole_9 rfl ?_
    refine wp_getI dX4_isWhole_10 fl_X4_18 rfl rfl ?_
    refine wp_tableIn (off := 111) (tgt := 124) dX4_isWhole_13 (by rw [hst]; decide) (by rw [hst]; decide) (by rw [hst]; rfl) (by decide) ?_
    refine wp_iconst (v := 1) dX4_isWhole_124 rfl ?_
    refine wp_ireturn dX4_isWhole_125 rfl rfl (Nat.zero_le _) (Nat.zero_le _) ?_
    refine ⟨?_, rfl, rfl⟩
    congr 2
    exact (b2i_t ⟨hd0, by omega⟩).symm
  | 14, hn, h18 =>
    have hst : fI M 56 1 = nI 14 := hR.2.2.2.1.trans (congrArg nI hn.symm)
    refine wp_aload_n dX4_isWhole_9 rfl ?_
    refine wp_getI dX4_isWhole_10 fl_X4_18 rfl rfl ?_
    refine wp_tableIn (off := 113) (tgt := 126) dX4_isWhole_13 (by rw [hst]; decide) (by rw [hst]; decide) (by rw [hst]; rfl) (by decide) ?_
    refine wp_iconst (v := 0) dX4_isWhole_126 rfl ?_
    refine wp_ireturn dX4_isWhole_127 rfl rfl (Nat.zero_le _) (Nat.zero_le _) ?_
    refine ⟨?_, rfl, rfl⟩
    congr 2
    exact (b2i_f (fun h => by have := h.2; omega)).symm
  | 15, hn, h18 =>
    have hst : fI M 56 1 = nI 15 := hR.2.2.2.1.trans (congrArg nI hn.symm)
    refine wp_aload_n dX4_isWhole_9 rfl ?_
    refine wp_getI dX4_isWhole_10 fl_X4_18 rfl rfl ?_
    refine wp_tableIn (off := 111) (tgt := 124) dX4_isWhole_13 (by rw [hst]; decide) (by rw [hst]; decide) (by rw [hst]; rfl) (by decide) ?_
    refine wp_iconst (v := 1) dX4_isWhole_124 rfl ?_
    refine wp_ireturn dX4_isWhole_125 rfl rfl (Nat.zero_le _) (Nat.zero_le _) ?_
    refine ⟨?_, rfl, rfl⟩
    congr 2
    exact (b2i_t ⟨hd0, by omega⟩).symm
  | 16, hn, h18 =>
    have hst : fI M 56 1 = nI 16 := hR.2.2.2.1.trans (congrArg nI hn.symm)
    refine wp_aload_n dX4_isWhole_9 rfl ?_
    refine wp_getI dX4_isWhole_10 fl_X4_18 rfl rfl ?_
    refine wp_tableIn (off := 113) (tgt := 126) dX4_isWhole_13 (by rw [hst]; decide) (by rw [hst]; decide) (by rw [hst]; rfl) (by decide) ?_
    refine wp_iconst (v := 0) dX4_isWhole_126 rfl ?_
    refine wp_ireturn dX4_isWhole_127 rfl rfl (Nat.zero_le _) (Nat.zero_le _) ?_
    refine ⟨?_, rfl, rfl⟩
    congr 2
    exact (b2i_f (fun h => by have := h.2; omega)).symm
  | 17, hn, h18 =>
    have hst : fI M 56 1 = nI 17 := hR.2.2.2.1.trans (congrArg nI hn.symm)
    refine wp_aload_n dX4_isWhole_9 rfl ?_
    refine wp_getI dX4_isWhole_10 fl_X4_18 rfl rfl ?_
    refine wp_tableIn (off := 111) (tgt := 124) dX4_isWhole_13 (by rw [hst]; decide) (by rw [hst]; decide) (by rw [hst]; rfl) (by decide) ?_
    refine wp_iconst (v := 1) dX4_isWhole_124 rfl ?_
    refine wp_ireturn dX4_isWhole_125 rfl rfl (Nat.zero_le _) (Nat.zero_le _) ?_
    refine ⟨?_, rfl, rfl⟩
    congr 2
    exact (b2i_t ⟨hd0, by omega⟩).symm
  | 18, hn, h18 =>
    have hst : fI M 56 1 = nI 18 := hR.2.2.2.1.trans (congrArg nI hn.symm)
    refine wp_aload_n dX4_isWhole_9 rfl ?_
    refine wp_getI dX4_isWhole_10 fl_X4_18 rfl rfl ?_
    refine wp_tableIn (off := 111) (tgt := 124) dX4_isWhole_13 (by rw [hst]; decide) (by rw [hst]; decide) (by rw [hst]; rfl) (by decide) ?_
    refine wp_iconst (v := 1) dX4_isWhole_124 rfl ?_
    refine wp_ireturn dX4_isWhole_125 rfl rfl (Nat.zero_le _) (Nat.zero_le _) ?_
    refine ⟨?_, rfl, rfl⟩
    congr 2
    exact (b2i_t ⟨hd0, by omega⟩).symm
  | n + 19, _, h18 => exact absurd h18 (by omega)

theorem RR_begin {M : Mem} {T : Nat} (hT : T = 4 ∨ T = 57) (hr : rcTr M T) (ha : fR M 56 0 = some T) : RRx (sI (sI (sI (trBegin M T) 56 1 0) 56 2 0) 56 3 0) T r0 ∧ FrT T M (sI (sI (sI (trBegin M T) 56 1 0) 56 2 0) 56 3 0) := by
  have hfr : ∀ q f, fR (sI (sI (sI (trBegin M T) 56 1 0) 56 2 0) 56 3 0) q f = fR M q f := fun q f => by
    unfold trBegin; simp only [fR_sI, fR_start]
  have hfi : ∀ q f, q ≠ 56 → fI (sI (sI (sI (trBegin M T) 56 1 0) 56 2 0) 56 3 0) q f = fI (trBegin M T) q f := fun q f hq => by
    simp only [fI_sI]; rw [if_neg (fun e => hq e.1), if_neg (fun e => hq e.1), if_neg (fun e => hq e.1)]
  have hn := Tne (k := 0) hT (by decide)
  refine ⟨⟨⟨(hfr _ _).trans ha, hT, ⟨(hfr _ _).trans hr.1, fun k hk => ?_, fun k hk => (hfr _ _).trans (hr.2.2 k hk)⟩, rfl, rfl, rfl, ?_, by decide, fun k hk => ?_⟩, fun h => absurd rfl h, fun h => absurd h (show ¬ wdSt 0 by decide)⟩, ?_⟩
  · refine Eq.trans ?_ (hr.2.1 k hk)
    unfold trBegin; simp only [aR_sI, aR_start]
  · rw [hfi _ _ hn.1]
    unfold trBegin
    simp only [fI_sI, fI_start]
    rw [if_neg (by omega), if_neg (by omega), if_neg (by omega), if_pos ⟨trivial, trivial⟩]
    rfl
  · have hk : k < 1 := hk
    have hk : k = 0 := by omega
    subst hk
    show cNode _ (T + 2) nd0
    have hq : ∀ f, fI (sI (sI (sI (trBegin M T) 56 1 0) 56 2 0) 56 3 0) (T + 2) f = fI (trBegin M T) (T + 2) f := fun f => hfi _ _ hn.2.1
    refine ⟨?_, ?_, ?_, ?_, ?_, ?_, ?_, fun j hj => ?_⟩
    · rw [hq]; unfold trBegin; simp only [fI_sI, fI_start]; simp; rfl
    · rw [hq]; unfold trBegin; simp only [fI_sI, fI_start]; simp; rfl
    · rw [hq]; unfold trBegin; simp only [fI_sI, fI_start]; simp; rfl
    · rw [hq]; unfold trBegin; simp only [fI_sI, fI_start]; simp; rfl
    · rw [hq]; unfold trBegin; simp only [fI_sI, fI_start]; simp; rfl
    · rw [hq]; unfold trBegin; simp only [fI_sI, fI_start]; simp; rfl
    · rw [hq]; unfold trBegin; simp only [fI_sI, fI_start]; simp; rfl
    · simp only [aL_sI]; unfold trBegin; simp only [aL_sI, aL_start]; rw [if_pos ⟨trivial, hj⟩]; rfl
  · unfold trBegin
    have h0 : FrT T M (clStart (sI M T 1 1) (T + 2 + 2 * 0) 0 (-1)) := (FrT.rf.sI (Or.inr ⟨by omega, by omega⟩)).start (by decide)
    exact ((((h0.sI (Or.inr ⟨by omega, by omega⟩)).sI (Or.inr ⟨by omega, by omega⟩)).sI (Or.inl rfl)).sI (Or.inl rfl)).sI (Or.inl rfl)
set_option maxRecDepth 100000 in
set_option maxHeartbeats 4000000 in
theorem cX4_begin_ (E : GE) (T : Nat) (M : Mem) (hT : T = 4 ∨ T = 57) (hr : rcTr M T) (ha : fR M 56 0 = some T) : Sp E mX4_begin 3 0 0 [.ref 56] SH M (fun v sh1 M1 => sh1 = SH ∧ v = none ∧ FrT T M M1 ∧ RRx M1 T r0) := by
  refine sp_of vX4_begin.1 rfl (Nat.le_of_ble_eq_true rfl) ?_
  refine wp_aload_n dX4_begin_0 rfl ?_
  refine wp_getR dX4_begin_1 fl_X4_12 rfl rfl ha ?_
  refine wp_cV0v dX4_begin_4 ml_X4_45 vX7_begin (isO_T hT) (cX7_begin_ E T M hT hr) (Nat.le_of_ble_eq_true rfl) (Nat.le_of_ble_eq_true rfl) (Nat.le_of_ble_eq_true rfl) ?_
  refine wp_aload_n dX4_begin_7 rfl ?_
  refine wp_iconst (v := 0) dX4_begin_8 rfl ?_
  refine wp_putI dX4_begin_9 fl_X4_18 rfl rfl (fun _ _ _ h => by cases h; rfl) rfl rfl ?_
  refine wp_aload_n dX4_begin_12 rfl ?_
  refine wp_iconst (v := 0) dX4_begin_13 rfl ?_
  refine wp_putI dX4_begin_14 fl_X4_22 rfl rfl (fun _ _ _ h => by cases h; rfl) rfl rfl ?_
  refine wp_aload_n dX4_begin_17 rfl ?_
  refine wp_iconst (v := 0) dX4_begin_18 rfl ?_
  refine wp_putI dX4_begin_19 fl_X4_25 rfl rfl (fun _ _ _ h => by cases h; rfl) rfl rfl ?_
  refine wp_ret0 dX4_begin_22 rfl (Nat.le_refl _) (Nat.le_refl _) ?_
  exact ⟨rfl, rfl, (RR_begin hT hr ha).2, (RR_begin hT hr ha).1⟩
set_option maxRecDepth 100000 in
set_option maxHeartbeats 4000000 in
theorem cX4_exchange_ (E : GE) (T Q : Nat) (M : Mem) (ha : fR M 56 0 = some T) : Sp E mX4_exchange 0 0 0 [.ref 56, .ref Q] SH M (RV (some (.ref T)) SH (sR M 56 0 (some Q))) := by
  refine sp_of vX4_exchange.1 rfl (Nat.le_of_ble_eq_true rfl) ?_
  refine wp_aload_n dX4_exchange_0 rfl ?_
  refine wp_getR dX4_exchange_1 fl_X4_12 rfl rfl ha ?_
  refine wp_astore_n dX4_exchange_4 (Nat.le_of_ble_eq_true rfl) ?_
  refine wp_aload_n dX4_exchange_5 rfl ?_
  refine wp_aload_n dX4_exchange_6 rfl ?_
  refine wp_putR dX4_exchange_7 fl_X4_12 rfl rfl (fun _ _ _ h => by cases h; rfl) (fun _ => rfl) (fun _ => rfl) ?_
  refine wp_aload_n dX4_exchange_10 rfl ?_
  refine wp_areturn dX4_exchange_11 rfl (Nat.zero_le _) (Nat.zero_le _) ?_
  exact ⟨rfl, rfl, rfl⟩
