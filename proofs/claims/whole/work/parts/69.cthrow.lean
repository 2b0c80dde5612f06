/-! ===== the class: node, sign, out, ratio ===== -/
abbrev nmA : List String := ["java/lang/IndexOutOfBoundsException", "java/lang/RuntimeException", "java/lang/Exception"]
abbrev nmR : List String := ["java/lang/RuntimeException", "java/lang/Exception"]
abbrev RAr : String := "java/lang/ArithmeticException"
theorem atA : atOk (vx_atS RX8 92 RJx00060 nmA) := atOk_of [12, 667, 611, 627, 630, 632, 668, 669, 28, 29, 605, 610, 628, 635, 661, 636, 662, 637, 663, 606, 608, 664, 603, 604, 634, 664, 591, 592, 593, 594, 653, 594, 595, 596, 597, 655, 597, 598, 599, 600, 657, 600, 601, 602, 603, 659, 681, 590, 651, 660, 614, 642, 644, 648, 640, 633, 665, 638] (by decide +kernel) (by decide +kernel)
theorem atC : atOk (vx_atS RX8 126 RJx3273f nmR) := atOk_of [12, 667, 611, 627, 630, 632, 668, 669, 28, 29, 605, 610, 628, 635, 661, 636, 662, 637, 663, 606, 608, 664, 603, 604, 634, 664, 688, 689, 690, 597, 655, 597, 598, 599, 600, 657, 600, 601, 602, 603, 659, 706, 687, 698, 699, 615, 693, 694, 696, 692, 633, 665, 691] (by decide +kernel) (by decide +kernel)
theorem atR : atOk (vx_atS RX8 204 RAr nmR) := atOk_of [12, 667, 611, 627, 630, 632, 668, 669, 28, 29, 605, 610, 628, 635, 661, 636, 662, 637, 663, 606, 608, 664, 603, 604, 634, 664, 763, 764, 765, 597, 655, 597, 598, 599, 600, 657, 600, 601, 602, 603, 659, 782, 762, 773, 774, 613, 768, 769, 771, 767, 633, 665, 766] (by decide +kernel) (by decide +kernel)
theorem atN : atOk ((npeL RX8 153).filter vx_no) := atOk_of [12, 667, 611, 627, 630, 632, 668, 669, 28, 29, 605, 610, 628, 635, 661, 636, 662, 637, 663, 606, 608, 664, 603, 604, 634, 664, 750, 751, 752, 597, 655, 597, 598, 599, 600, 657, 600, 601, 602, 603, 659, 735, 617, 618, 723, 725, 624, 625, 738, 749, 622, 736, 737, 616, 731, 732, 734, 730, 633, 665, 729] (by decide +kernel) (by decide +kernel)
theorem ii_Ar : Cond.initialized RAr ∈ BIG := big_t (i := 21) (by decide +kernel) (by decide +kernel)
def ndV (q : QQ) (k w : Int32) : Int32 := nodeS (q.2 k.toNatClampNeg) w
set_option maxRecDepth 100000 in
set_option maxHeartbeats 4000000 in
theorem cX8_node_ (E : GE) (hlt : E.1.stackTraces = false) (tp gn : List Nat) (q : QQ) (o : Option (List Nat)) (dc : Nat → List (List Nat)) (M : Mem) (h : RC M tp gn q o dc) (k w : Int32) : SpX E mX8_node 7 1 8 [.ref 0, .int k, .int w] SH M (fun v sh1 M1 => hasI q k ∧ v = some (.int (ndV q k w)) ∧ sh1 = SH ∧ M1 = M) (fun Ex sh1 M1 => Ex = RJx00060 ∧ ¬ hasI q k ∧ sh1 = SH ∧ M1 = M) := by
  refine spX_of vX8_node.1 rfl (by decide) (Nat.le_of_ble_eq_true rfl) ?_
  obtain ⟨tq, hq⟩ := h.2.2.2.1
  have hT := hq.2.2.1
  have hr := hT.elim (fun e => e ▸ h.1.2.1) (fun e => e ▸ h.1.2.2)
  have ec : fI M tq 1 = nI q.1 := hq.2.2.2.1
  have hn25 := hq.2.2.2.2.1
  have j5 : fR M 0 5 = some tq := hq.1
  have hb : b2i (¬ k < 0 ∧ ¬ fI M tq 1 ≤ k) = b2i (hasI q k) := by rw [ec]
  refine wp_aload_n dX8_node_0 rfl ?_
  refine wp_getR dX8_node_1 fl_X8_30 rfl rfl j5 ?_
  refine wp_iload_n dX8_node_4 rfl ?_
  refine wp_cV1i dX8_node_5 ml_X8_85 vX7_has (isO_T hT) (cX7_has_ E tq k M hT) (Nat.le_of_ble_eq_true rfl) (Nat.le_of_ble_eq_true rfl) (Nat.le_of_ble_eq_true rfl) ?_
  rw [hb]
  refine wp_if_ne (tgt := 21) dX8_node_8 (by decide) (fun c8 => ?_) (fun c8 => ?_)
  · have hh := b2i_ne.mp c8
    obtain ⟨K, hK, rfl⟩ := hasI_n hn25 hh
    have eK : (nI K).toNatClampNeg = K := nI_clamp (by omega)
    have hcx : CX M (tq + 2 + 2 * K) (q.2 K) := ⟨isC_tree hT (by omega), by omega, hr.2.2 K (by omega), hq.2.2.2.2.2 K hK⟩
    refine wp_aload_n dX8_node_21 rfl ?_
    refine wp_getR dX8_node_22 fl_X8_30 rfl rfl j5 ?_
    refine wp_iload_n dX8_node_25 rfl ?_
    refine wp_cV1a dX8_node_26 ml_X8_95 vX7_at (isO_T hT) (cX7_at_ E tq (nI K) M hT hr) (Nat.le_of_ble_eq_true rfl) (Nat.le_of_ble_eq_true rfl) (Nat.le_of_ble_eq_true rfl) ?_
    rw [atK_nI (show K < 25 by omega)]
    refine wp_astore_n dX8_node_29 (Nat.le_of_ble_eq_true rfl) ?_
    refine wp_iload_n dX8_node_30 rfl ?_
    rcases sw7 w with hw | rfl | rfl | rfl | rfl | rfl | rfl | rfl
    · refine wp_tableOut (tgt := 107) dX8_node_31 (by exact hw) (by decide) ?_
      refine wp_bipush (v := (-102)) dX8_node_107 (by decide) ?_
      refine wp_toX ?_
      refine wp_ireturn dX8_node_109 rfl rfl (Nat.zero_le _) (Nat.zero_le _) ?_
      have e : ndV q (nI K) w = -102 := by
        unfold ndV nodeS
        have h0 : ∀ z : Int32, (0 ≤ z.toInt ∧ z.toInt ≤ 6) → ¬ w = z := fun z hz e => by rw [e] at hw; omega
        rw [if_neg (h0 0 (by decide)), if_neg (h0 1 (by decide)), if_neg (h0 2 (by decide)), if_neg (h0 3 (by decide)), if_neg (h0 4 (by decide)), if_neg (h0 5 (by decide)), if_neg (h0 6 (by decide))]
      rw [e]
      exact ⟨hh, rfl, rfl, rfl⟩
    · refine wp_tableIn (off := 41) (tgt := 72) dX8_node_31 (by decide) (by decide) (by decide) (by decide) ?_
      refine wp_aload_n dX8_node_72 rfl ?_
      refine wp_getI dX8_node_73 fl_X8_99 hcx.1.1 rfl ?_
      rw [hcx.2.2.2.1]
      refine wp_toX ?_
      refine wp_ireturn dX8_node_76 rfl rfl (Nat.zero_le _) (Nat.zero_le _) ?_
      have e : ndV q (nI K) 0 = nCo (q.2 K) := by unfold ndV; rw [eK]; rfl
      rw [e]
      exact ⟨hh, rfl, rfl, rfl⟩
    · refine wp_tableIn (off := 46) (tgt := 77) dX8_node_31 (by decide) (by decide) (by decide) (by decide) ?_
      refine wp_aload_n dX8_node_77 rfl ?_
      refine wp_getI dX8_node_78 fl_X8_104 hcx.1.1 rfl ?_
      rw [hcx.2.2.2.2.1]
      refine wp_toX ?_
      refine wp_ireturn dX8_node_81 rfl rfl (Nat.zero_le _) (Nat.zero_le _) ?_
      have e : ndV q (nI K) 1 = nMa (q.2 K) := by unfold ndV; rw [eK]; rfl
      rw [e]
      exact ⟨hh, rfl, rfl, rfl⟩
    · refine wp_tableIn (off := 51) (tgt := 82) dX8_node_31 (by decide) (by decide) (by decide) (by decide) ?_
      refine wp_aload_n dX8_node_82 rfl ?_
      refine wp_getI dX8_node_83 fl_X8_107 hcx.1.1 rfl ?_
      rw [hcx.2.2.2.2.2.1]
      refine wp_toX ?_
      refine wp_ireturn dX8_node_86 rfl rfl (Nat.zero_le _) (Nat.zero_le _) ?_
      have e : ndV q (nI K) 2 = nBo (q.2 K) := by unfold ndV; rw [eK]; rfl
      rw [e]
      exact ⟨hh, rfl, rfl, rfl⟩
    · refine wp_tableIn (off := 56) (tgt := 87) dX8_node_31 (by decide) (by decide) (by decide) (by decide) ?_
      refine wp_aload_n dX8_node_87 rfl ?_
      refine wp_getI dX8_node_88 fl_X8_110 hcx.1.1 rfl ?_
      rw [hcx.2.2.2.2.2.2.1]
      refine wp_toX ?_
      refine wp_ireturn dX8_node_91 rfl rfl (Nat.zero_le _) (Nat.zero_le _) ?_
      have e : ndV q (nI K) 3 = nFi (q.2 K) := by unfold ndV; rw [eK]; rfl
      rw [e]
      exact ⟨hh, rfl, rfl, rfl⟩
    · refine wp_tableIn (off := 61) (tgt := 92) dX8_node_31 (by decide) (by decide) (by decide) (by decide) ?_
      refine wp_aload_n dX8_node_92 rfl ?_
      refine wp_getI dX8_node_93 fl_X8_113 hcx.1.1 rfl ?_
      rw [hcx.2.2.2.2.2.2.2.1]
      refine wp_toX ?_
      refine wp_ireturn dX8_node_96 rfl rfl (Nat.zero_le _) (Nat.zero_le _) ?_
      have e : ndV q (nI K) 4 = nDe (q.2 K) := by unfold ndV; rw [eK]; rfl
      rw [e]
      exact ⟨hh, rfl, rfl, rfl⟩
    · refine wp_tableIn (off := 66) (tgt := 97) dX8_node_31 (by decide) (by decide) (by decide) (by decide) ?_
      refine wp_aload_n dX8_node_97 rfl ?_
      refine wp_getI dX8_node_98 fl_X8_116 hcx.1.1 rfl ?_
      rw [hcx.2.2.2.2.2.2.2.2.1]
      refine wp_toX ?_
      refine wp_ireturn dX8_node_101 rfl rfl (Nat.zero_le _) (Nat.zero_le _) ?_
      have e : ndV q (nI K) 5 = nSz (q.2 K) := by unfold ndV; rw [eK]; rfl
      rw [e]
      exact ⟨hh, rfl, rfl, rfl⟩
    · refine wp_tableIn (off := 71) (tgt := 102) dX8_node_31 (by decide) (by decide) (by decide) (by decide) ?_
      refine wp_aload_n dX8_node_102 rfl ?_
      refine wp_getI dX8_node_103 fl_X8_119 hcx.1.1 rfl ?_
      rw [hcx.2.2.2.2.2.2.2.2.2.1]
      refine wp_toX ?_
      refine wp_ireturn dX8_node_106 rfl rfl (Nat.zero_le _) (Nat.zero_le _) ?_
      have e : ndV q (nI K) 6 = nAr (q.2 K) := by unfold ndV; rw [eK]; rfl
      rw [e]
      exact ⟨hh, rfl, rfl, rfl⟩
  · exact wp_throwS hlt rfl (text := "no such node") (names := nmA) (by decide) (by decide) cl_X8_88 ii_Jx00060 (by decide) atA dX8_node_11 dX8_node_14 dX8_node_15 dX8_node_17 dX8_node_20 (by decide) (by decide) (by decide) (by decide) ⟨rfl, b2i_e0.mp c8, rfl, rfl⟩
/-- a sign of a word of a node; 0: there is none -/
def sgV (x : ND) (j i : Int32) : Int32 := if ¬ j < 0 ∧ ¬ i < 0 then nI ((nWd x j.toNatClampNeg).getD i.toNatClampNeg 0) else 0
theorem pos_n {j : Int32} (h : ¬ j < 0) : j = nI j.toNatClampNeg ∧ j.toNatClampNeg < 2 ^ 31 := by
  have h1 : 0 ≤ j.toInt := by
    have := Int32.not_lt.mp h
    rw [Int32.le_iff_toInt_le] at this
    exact this
  have h3 := Int32.toInt_lt j
  have h4 : j.toNatClampNeg < 2 ^ 31 := by show j.toInt.toNat < _; omega
  refine ⟨?_, h4⟩
  apply Int32.toInt_inj.mp
  rw [nI_toInt h4]
  show j.toInt = ((j.toInt.toNat : Nat) : Int)
  omega
theorem getD_big {α : Type} {l : List α} {d : α} {i : Nat} (h : l.length ≤ i) : l.getD i d = d := by
  rw [List.getD_eq_getElem?_getD, List.getElem?_eq_none h]; rfl
theorem sgn_all {x : ND} (ho : okN x) (hx : ∀ j, okL (nWd x j)) (j i : Int32) : sgnAt (if ¬ j < 0 ∧ ¬ 5 ≤ j then pack (nWd x j.toNatClampNeg) else 0) i = sgV x j i := by
  have hz : ∀ i : Int32, sgnAt (pack []) i = 0 := fun i => by
    by_cases c : ¬ i < 0 ∧ ¬ 8 ≤ i
    · obtain ⟨e, -⟩ := pos_n c.1
      have hi : i.toNatClampNeg < 8 := Nat.lt_of_not_le fun w => c.2 (by rw [e]; exact nI_le (a := 8) w (pos_n c.1).2)
      rw [e, sgn_pack (by decide) (fun x hx => by cases hx) hi]
      rfl
    · unfold sgnAt; rw [if_neg c]
  unfold sgV
  by_cases cj : j < 0
  · rw [if_neg (fun q => q.1 cj), if_neg (fun q => q.1 cj)]
    exact hz i
  · obtain ⟨ej, hj⟩ := pos_n cj
    have e1 : (if ¬ j < 0 ∧ ¬ 5 ≤ j then pack (nWd x j.toNatClampNeg) else 0) = pack (nWd x j.toNatClampNeg) := by
      by_cases c5 : 5 ≤ j
      · rw [if_neg (fun q => q.2 c5)]
        have h5 : 5 ≤ j.toNatClampNeg := Nat.le_of_not_lt fun w => nI_ge (b := 5) w (by decide) (by rw [← ej]; exact c5)
        have : nWd x j.toNatClampNeg = [] := getD_big (by have := ho.1; omega)
        rw [this]; rfl
      · rw [if_pos ⟨cj, c5⟩]
    rw [e1]
    have hl := hx j.toNatClampNeg
    by_cases ci : i < 0
    · rw [if_neg (fun q => q.2 ci)]
      unfold sgnAt
      rw [if_neg (fun q => q.1 ci)]
    · rw [if_pos ⟨cj, ci⟩]
      obtain ⟨ei, hi⟩ := pos_n ci
      by_cases c8 : i.toNatClampNeg < 8
      · rw [ei, sgn_pack hl.1 (fun b hb => (okL_256 hl b hb).1) c8, ← ei]
      · unfold sgnAt
        rw [if_neg (fun q => q.2 (by rw [ei]; exact nI_le (a := 8) (by omega) hi)), getD_big (by have := hl.1; omega)]
        rfl
set_option maxRecDepth 100000 in
set_option maxHeartbeats 4000000 in
theorem cX8_sign_ (E : GE) (hlt : E.1.stackTraces = false) (tp gn : List Nat) (q : QQ) (o : Option (List Nat)) (dc : Nat → List (List Nat)) (M : Mem) (h : RC M tp gn q o dc) (hk : QOk q) (k j i : Int32) : SpX E mX8_sign 7 1 8 [.ref 0, .int k, .int j, .int i] SH M (fun v sh1 M1 => (hasI q k ∧ ¬ nCo (q.2 k.toNatClampNeg) = 3 ∧ ¬ sgV (q.2 k.toNatClampNeg) j i = 0) ∧ v = some (.int (sgV (q.2 k.toNatClampNeg) j i)) ∧ sh1 = SH ∧ M1 = M) (fun Ex sh1 M1 => ((Ex = RJx00060 ∧ (¬ hasI q k ∨ (hasI q k ∧ ¬ nCo (q.2 k.toNatClampNeg) = 3 ∧ sgV (q.2 k.toNatClampNeg) j i = 0))) ∨ (Ex = RJx3273f ∧ hasI q k ∧ nCo (q.2 k.toNatClampNeg) = 3)) ∧ sh1 = SH ∧ M1 = M) := by
  refine spX_of vX8_sign.1 rfl (by decide) (Nat.le_of_ble_eq_true rfl) ?_
  have hrt : q.1 ≠ 0 → nCo (q.2 0) = 3 := fun h0 => by
    rcases hk with z | z
    · exact absurd z h0
    · exact z.2.2.2.1.1
  have hok : ∀ K, K < q.1 → okN (q.2 K) := fun K hK => by
    rcases hk with z | z
    · omega
    · exact (z.2.2.2.2.2.1 K hK).1
  have hnd : ∀ K, 1 ≤ K → K < q.1 → nOk (q.2 K) := fun K h1 hK => by
    rcases hk with z | z
    · omega
    · exact z.2.2.2.2.1 K h1 hK
  obtain ⟨tq, hq⟩ := h.2.2.2.1
  have hT := hq.2.2.1
  have hr := hT.elim (fun e => e ▸ h.1.2.1) (fun e => e ▸ h.1.2.2)
  have ec : fI M tq 1 = nI q.1 := hq.2.2.2.1
  have hn25 := hq.2.2.2.2.1
  have j5 : fR M 0 5 = some tq := hq.1
  have hb : b2i (¬ k < 0 ∧ ¬ fI M tq 1 ≤ k) = b2i (hasI q k) := by rw [ec]
  refine wp_aload_n dX8_sign_0 rfl ?_
  refine wp_getR dX8_sign_1 fl_X8_30 rfl rfl j5 ?_
  refine wp_iload_n dX8_sign_4 rfl ?_
  refine wp_cV1i dX8_sign_5 ml_X8_85 vX7_has (isO_T hT) (cX7_has_ E tq k M hT) (Nat.le_of_ble_eq_true rfl) (Nat.le_of_ble_eq_true rfl) (Nat.le_of_ble_eq_true rfl) ?_
  rw [hb]
  refine wp_if_ne (tgt := 21) dX8_sign_8 (by decide) (fun c8 => ?_) (fun c8 => ?_)
  · have hh := b2i_ne.mp c8
    obtain ⟨K, hK, rfl⟩ := hasI_n hn25 hh
    have eK : (nI K).toNatClampNeg = K := nI_clamp (by omega)
    have hcx : CX M (tq + 2 + 2 * K) (q.2 K) := ⟨isC_tree hT (by omega), by omega, hr.2.2 K (by omega), hq.2.2.2.2.2 K hK⟩
    refine wp_aload_n dX8_sign_21 rfl ?_
    refine wp_getR dX8_sign_22 fl_X8_30 rfl rfl j5 ?_
    refine wp_iload_n dX8_sign_25 rfl ?_
    refine wp_cV1a dX8_sign_26 ml_X8_95 vX7_at (isO_T hT) (cX7_at_ E tq (nI K) M hT hr) (Nat.le_of_ble_eq_true rfl) (Nat.le_of_ble_eq_true rfl) (Nat.le_of_ble_eq_true rfl) ?_
    rw [atK_nI (show K < 25 by omega)]
    refine wp_astore dX8_sign_29 (Nat.le_of_ble_eq_true rfl) ?_
    refine wp_aload dX8_sign_31 rfl ?_
    refine wp_getI dX8_sign_33 fl_X8_99 hcx.1.1 rfl ?_
    rw [show fI M (tq + 2 + 2 * K) 0 = nCo (q.2 K) from hcx.2.2.2.1]
    refine wp_iconst (v := 3) dX8_sign_36 rfl ?_
    refine wp_icmp_ne (tgt := 50) dX8_sign_37 (by decide) (fun c37 => ?_) (fun c37 => ?_)
    · have hK1 : 1 ≤ K := Nat.pos_of_ne_zero fun z => c37 (by rw [z]; exact hrt (by omega))
      have hw5 : (if ¬ j < 0 ∧ ¬ 5 ≤ j then aL M (tq + 2 + 2 * K + 1) j.toNatClampNeg else 0) = (if ¬ j < 0 ∧ ¬ 5 ≤ j then pack (nWd (q.2 K) j.toNatClampNeg) else 0) := by
        by_cases cj : ¬ j < 0 ∧ ¬ 5 ≤ j
        · rw [if_pos cj, if_pos cj]
          obtain ⟨ej, hj⟩ := pos_n cj.1
          exact hcx.2.2.2.2.2.2.2.2.2.2 _ (Nat.lt_of_not_le fun w => cj.2 (by rw [ej]; exact nI_le (a := 5) w hj))
        · rw [if_neg cj, if_neg cj]
      refine wp_aload dX8_sign_50 rfl ?_
      refine wp_iload_n dX8_sign_52 rfl ?_
      refine wp_cV1l dX8_sign_53 ml_X8_127 vX0_wordAt (isO_cx hcx) (cX0_wordAt_ E (tq + 2 + 2 * K) j M hcx.1 hcx.2.2.1) (Nat.le_of_ble_eq_true rfl) (Nat.le_of_ble_eq_true rfl) (Nat.le_of_ble_eq_true rfl) ?_
      rw [hw5]
      refine wp_iload_n dX8_sign_56 rfl ?_
      refine wp_cS2i dX8_sign_57 ml_X8_131 sX2_signAt (cX2_signAt_ E _ _ _ _) (Nat.le_of_ble_eq_true rfl) (Nat.le_of_ble_eq_true rfl) (Nat.le_of_ble_eq_true rfl) ?_
      rw [sgn_all (hok K hK) (fun j => nd_okL (hnd K hK1 hK) (hok K hK) j) j i]
      refine wp_istore dX8_sign_60 (Nat.le_of_ble_eq_true rfl) ?_
      refine wp_iload dX8_sign_62 rfl ?_
      refine wp_if_ne (tgt := 77) dX8_sign_64 (by decide) (fun c64 => ?_) (fun c64 => ?_)
      · refine wp_iload dX8_sign_77 rfl ?_
        refine wp_toX ?_
        refine wp_ireturn dX8_sign_79 rfl rfl (Nat.zero_le _) (Nat.zero_le _) ?_
        refine ⟨⟨hh, by rw [eK]; exact c37, by rw [eK]; exact c64⟩, ?_, rfl, rfl⟩
        rw [eK]
      · exact wp_throwS hlt rfl (text := "no such word or sign") (names := nmA) (by decide) (by decide) cl_X8_88 ii_Jx00060 (by decide) atA dX8_sign_67 dX8_sign_70 dX8_sign_71 dX8_sign_73 dX8_sign_76 (by decide) (by decide) (by decide) (by decide) ⟨Or.inl ⟨rfl, Or.inr ⟨hh, by rw [eK]; exact c37, by rw [eK]; exact c64⟩⟩, rfl, rfl⟩
    · exact wp_throwS hlt rfl (text := "a group has no words") (names := nmR) (by decide) (by decide) cl_X8_122 ii_Jx3273f (by decide) atC dX8_sign_40 dX8_sign_43 dX8_sign_44 dX8_sign_46 dX8_sign_49 (by decide) (by decide) (by decide) (by decide) ⟨Or.inr ⟨rfl, hh, by rw [eK]; exact c37⟩, rfl, rfl⟩
  · exact wp_throwS hlt rfl (text := "no such node") (names := nmA) (by decide) (by decide) cl_X8_88 ii_Jx00060 (by decide) atA dX8_sign_11 dX8_sign_14 dX8_sign_15 dX8_sign_17 dX8_sign_20 (by decide) (by decide) (by decide) (by decide) ⟨Or.inl ⟨rfl, Or.inl (b2i_e0.mp c8)⟩, rfl, rfl⟩
abbrev inO (l : List Nat) (i : Int32) : Prop := ¬ i < 0 ∧ ¬ nI l.length ≤ i
theorem and255 (x : Int32) : ¬ x &&& 255 = -1 := fun e => by
  have h : x &&& 255 &&& 256 = -1 &&& 256 := by rw [e]
  rw [Int32.and_assoc, show (255 : Int32) &&& 256 = 0 by decide, Int32.and_zero] at h
  exact absurd h (by decide)
set_option maxRecDepth 100000 in
set_option maxHeartbeats 4000000 in
theorem cX8_out_ (E : GE) (hlt : E.1.stackTraces = false) (tp gn : List Nat) (q : QQ) (o : Option (List Nat)) (dc : Nat → List (List Nat)) (M : Mem) (h : RC M tp gn q o dc) (i : Int32) : SpX E mX8_out 7 1 8 [.ref 0, .int i] SH M (fun v sh1 M1 => (∃ l, o = some l ∧ inO l i ∧ v = some (.int (nI (l.getD i.toNatClampNeg 0)))) ∧ sh1 = SH ∧ M1 = M) (fun Ex sh1 M1 => ((Ex = Bundle.nN ∧ o = none) ∨ (Ex = RJx00060 ∧ ∃ l, o = some l ∧ ¬ inO l i)) ∧ sh1 = SH ∧ M1 = M) := by
  refine spX_of vX8_out.1 rfl (by decide) (Nat.le_of_ble_eq_true rfl) ?_
  obtain ⟨-, -, -, -, -, -, -, -, j7, j8⟩ := RC_jd h
  have hO := h.2.2.2.2.1
  refine wp_aload_n dX8_out_0 rfl ?_
  refine wp_getR dX8_out_1 fl_X8_44 rfl rfl j7 ?_
  refine wp_cV0i dX8_out_4 ml_X8_146 vX5_isWritten ⟨4, (RX5, TX5, 2), rfl, rfl, rfl⟩ (cX5_isWritten_ E M) (Nat.le_of_ble_eq_true rfl) (Nat.le_of_ble_eq_true rfl) (Nat.le_of_ble_eq_true rfl) ?_
  refine wp_if_ne (tgt := 20) dX8_out_7 (by decide) (fun c7 => ?_) (fun c7 => ?_)
  · obtain ⟨l, rfl⟩ : ∃ l, o = some l := by
      cases o with
      | none => exact absurd (b2i_ne.mp c7) (fun z => z (by rw [hO.1]; rfl))
      | some l => exact ⟨l, rfl⟩
    have el : fI M 111 1 = nI l.length := hO.1
    obtain ⟨hl240, hby⟩ := hO.2 l rfl
    have hin : (if (¬ i < 0 ∧ ¬ fI M 111 1 ≤ i) ∧ ¬ 240 ≤ i then aI M 112 i.toNatClampNeg &&& 255 else -1) = (if inO l i then nI (l.getD i.toNatClampNeg 0) else -1) := by
      rw [el]
      by_cases c : inO l i
      · obtain ⟨e, h31⟩ := pos_n c.1
        have hlt : i.toNatClampNeg < l.length := Nat.lt_of_not_le fun w => c.2 (by rw [e]; exact nI_le w h31)
        rw [if_pos c, if_pos ⟨c, by rw [e]; exact nI_ge (b := 240) (by omega) (by decide)⟩]
        exact hby _ hlt
      · rw [if_neg c, if_neg (fun z => c z.1)]
    refine wp_aload_n dX8_out_20 rfl ?_
    refine wp_getR dX8_out_21 fl_X8_44 rfl rfl j7 ?_
    refine wp_iload_n dX8_out_24 rfl ?_
    refine wp_cV1i dX8_out_25 ml_X8_154 vX5_byteAt ⟨4, (RX5, TX5, 2), rfl, rfl, rfl⟩ (cX5_byteAt_ E i M j8) (Nat.le_of_ble_eq_true rfl) (Nat.le_of_ble_eq_true rfl) (Nat.le_of_ble_eq_true rfl) ?_
    rw [hin]
    refine wp_istore_n dX8_out_28 (Nat.le_of_ble_eq_true rfl) ?_
    refine wp_iload_n dX8_out_29 rfl ?_
    refine wp_iconst (v := (-1)) dX8_out_30 rfl ?_
    refine wp_icmp_ne (tgt := 44) dX8_out_31 (by decide) (fun c31 => ?_) (fun c31 => ?_)
    · refine wp_iload_n dX8_out_44 rfl ?_
      refine wp_toX ?_
      refine wp_ireturn dX8_out_45 rfl rfl (Nat.zero_le _) (Nat.zero_le _) ?_
      have c : inO l i := Decidable.byContradiction fun z => c31 (by rw [if_neg z])
      rw [if_pos c]
      exact ⟨⟨l, rfl, c, rfl⟩, rfl, rfl⟩
    · exact wp_throwS hlt rfl (text := "no such byte") (names := nmA) (by decide) (by decide) cl_X8_88 ii_Jx00060 (by decide) atA dX8_out_34 dX8_out_37 dX8_out_38 dX8_out_40 dX8_out_43 (by decide) (by decide) (by decide) (by decide) ⟨Or.inr ⟨rfl, l, rfl, fun c => by
        rw [if_pos c] at c31
        obtain ⟨e, h31⟩ := pos_n c.1
        have hlt : i.toNatClampNeg < l.length := Nat.lt_of_not_le fun w => c.2 (by rw [e]; exact nI_le w h31)
        rw [← hby _ hlt] at c31
        exact and255 _ c31⟩, rfl, rfl⟩
  · exact wp_throwN hlt rfl (text := "nothing was printed yet") cl_X8_149 ii_Jx5d777 (by decide) atN dX8_out_10 dX8_out_13 dX8_out_14 dX8_out_16 dX8_out_19 (by decide) (by decide) (by decide) ⟨Or.inl ⟨rfl, by
      cases o with
      | none => rfl
      | some l => exact absurd (b2i_f (b2i_e0.mp c7)) (by
          have h1 : ¬ fI M 111 1 = -1 := by
            rw [show fI M 111 1 = nI l.length from hO.1]
            intro e
            have h240 := (hO.2 l rfl).1
            have := congrArg Int32.toInt e
            rw [nI_toInt (by omega)] at this
            have this : (l.length : Int) = -1 := this
            omega
          exact fun _ => b2i_e0.mp c7 h1)⟩, rfl, rfl⟩
abbrev rdOk (q : QQ) (dc : Nat → List (List Nat)) (d f : Int32) : Prop := (docI d ∧ docI f) ∧ q.1 ≠ 0
def rtV (q : QQ) (dc : Nat → List (List Nat)) (d f : Int32) : Int64 := if docI d ∧ docI f then if q.1 = 0 then -104 else mL (Vq q dc d.toNatClampNeg 0) / mL (Vq q dc f.toNatClampNeg 0) else -101
/-- the other document is worth nothing -/
abbrev rtX (q : QQ) (dc : Nat → List (List Nat)) (d f : Int32) : Prop := (docI d ∧ docI f) ∧ q.1 ≠ 0 ∧ mL (Vq q dc f.toNatClampNeg 0) = 0
theorem mL_ge {v : Option Nat} (h : ∀ w, v = some w → w < 2 ^ 62) : 0 ≤ mL v ∧ (¬ mL v = 0 → 0 < mL v) := by
  cases v with
  | none => exact ⟨by decide, fun z => absurd rfl z⟩
  | some w =>
    have hw := h w rfl
    refine ⟨(lNle (a := 0) (by decide) (by omega)).mpr (Nat.zero_le _), fun z => ?_⟩
    exact (lNlt (a := 0) (by decide) (by omega)).mpr (Nat.pos_of_ne_zero fun e => z (by rw [e]; rfl))
set_option maxRecDepth 100000 in
set_option maxHeartbeats 4000000 in
theorem cX8_ratio_ (E : GE) (hlt : E.1.stackTraces = false) (tp gn : List Nat) (q : QQ) (o : Option (List Nat)) (dc : Nat → List (List Nat)) (M : Mem) (h : RC M tp gn q o dc) (hk : QOk q) (hdc : dcOk dc) (d f : Int32) : SpX E mX8_ratio 8 1 8 [.ref 0, .int d, .int f] SH M (fun v sh1 M1 => ¬ rtX q dc d f ∧ v = some (.long (rtV q dc d f)) ∧ sh1 = SH ∧ qF M M1) (fun Ex sh1 M1 => Ex = RAr ∧ rtX q dc d f ∧ sh1 = SH ∧ qF M M1) := by
  refine spX_of vX8_ratio.1 rfl (by decide) (Nat.le_of_ble_eq_true rfl) ?_
  obtain ⟨tq, hq⟩ := h.2.2.2.1
  have hT := hq.2.2.1
  have ec : fI M tq 1 = nI q.1 := hq.2.2.2.1
  have hn25 := hq.2.2.2.2.1
  have hj := RC_JC h
  have hdl : ∀ r, r < 32 → (dc r).length ≤ 12 := fun r hr => (hj.2 r hr).2.1
  obtain ⟨j8, -, -, -, -, -, -, j9, -, -⟩ := RC_jd h
  have j5 : fR M 0 5 = some tq := hq.1
  have hdb : b2i (¬ d < 0 ∧ ¬ 8 ≤ d) = b2i (docI d) := b2i_c (doc_c d)
  have hfb : b2i (¬ f < 0 ∧ ¬ 8 ≤ f) = b2i (docI f) := b2i_c (doc_c f)
  refine wp_iload_n dX8_ratio_0 rfl ?_
  refine wp_cS1i dX8_ratio_1 ml_X8_160 sX8_isDocument (cX8_isDocument_ E d _ _) (Nat.le_of_ble_eq_true rfl) (Nat.le_of_ble_eq_true rfl) (Nat.le_of_ble_eq_true rfl) ?_
  rw [hdb]
  refine wp_if_eq (tgt := 14) dX8_ratio_4 (by decide) (fun c4 => ?_) (fun c4 => ?_)
  · refine wp_ldc2 dX8_ratio_14 kl_X8_190 ?_
    refine wp_toX ?_
    refine wp_lreturn dX8_ratio_17 rfl (Nat.zero_le _) (Nat.zero_le _) ?_
    have hb : ¬ (docI d ∧ docI f) := fun z => b2i_e0.mp c4 z.1
    refine ⟨fun z => hb z.1, ?_, rfl, Fr.rf⟩
    unfold rtV
    rw [if_neg hb]
  · have hd8 := b2i_ne.mp c4
    refine wp_iload_n dX8_ratio_7 rfl ?_
    refine wp_cS1i dX8_ratio_8 ml_X8_160 sX8_isDocument (cX8_isDocument_ E f _ _) (Nat.le_of_ble_eq_true rfl) (Nat.le_of_ble_eq_true rfl) (Nat.le_of_ble_eq_true rfl) ?_
    rw [hfb]
    refine wp_if_ne (tgt := 18) dX8_ratio_11 (by decide) (fun c11 => ?_) (fun c11 => ?_)
    · have hf8 := b2i_ne.mp c11
      refine wp_aload_n dX8_ratio_18 rfl ?_
      refine wp_getR dX8_ratio_19 fl_X8_30 rfl rfl j5 ?_
      refine wp_cV0i dX8_ratio_22 ml_X8_139 vX7_isEmpty (isO_T hT) (cX7_isEmpty_ E tq M hT) (Nat.le_of_ble_eq_true rfl) (Nat.le_of_ble_eq_true rfl) (Nat.le_of_ble_eq_true rfl) ?_
      refine wp_if_eq (tgt := 32) dX8_ratio_25 (by decide) (fun c25 => ?_) (fun c25 => ?_)
      · have h0 : q.1 ≠ 0 := fun e => b2i_e0.mp c25 (by rw [ec, e]; rfl)
        obtain ⟨D, hD, rfl⟩ := doc_n hd8
        obtain ⟨F, hF8, rfl⟩ := doc_n hf8
        have eD : (nI D).toNatClampNeg = D := nI_clamp (by omega)
        have eF : (nI F).toNatClampNeg = F := nI_clamp (by omega)
        have hct := RC_CT h hq hk h0
        have hdt : DT q.2 q.1 := QOk.dt hk h0
        have hbF := wh_b hk h0 hdl hF8 0 (by omega)
        have hbD := wh_b hk h0 hdl hD 0 (by omega)
        refine wp_lconst (v := 0) dX8_ratio_32 rfl ?_
        refine wp_aload_n dX8_ratio_33 rfl ?_
        refine wp_getR dX8_ratio_34 fl_X8_51 rfl rfl j8 ?_
        refine wp_aload_n dX8_ratio_37 rfl ?_
        refine wp_getR dX8_ratio_38 fl_X8_30 rfl rfl j5 ?_
        refine wp_iconst (v := 0) dX8_ratio_41 rfl ?_
        refine wp_iload_n dX8_ratio_42 rfl ?_
        refine wp_cV3p dX8_ratio_43 ml_X8_184 vX1_weigh ⟨1, (RX1, TX1, 3), rfl, rfl, rfl⟩ (cX1_weigh_ E tq q.1 0 F q.2 dc M hct hdt (by omega) hF8 hj hdc) (Nat.le_of_ble_eq_true rfl) (Nat.le_of_ble_eq_true rfl) (Nat.le_of_ble_eq_true rfl) (Nat.le_of_ble_eq_true rfl) (Nat.le_of_ble_eq_true rfl) (fun v sh1 M2 hqq => ?_)
        obtain ⟨rfl, rfl, hF, hrow⟩ := hqq
        rw [show vT q.2 q.1 dc F q.1 0 = Vq q dc F 0 from rfl]
        refine wp_cS2l dX8_ratio_46 ml_X8_192 sJ9_max_f86c9 (cJ9_max_ E _ _ _ _) (Nat.le_of_ble_eq_true rfl) (Nat.le_of_ble_eq_true rfl) (Nat.le_of_ble_eq_true rfl) ?_
        rw [cV_max hbF]
        refine wp_lstore_n dX8_ratio_49 (Nat.le_of_ble_eq_true rfl) ?_
        refine wp_lload_n dX8_ratio_50 rfl ?_
        refine wp_lconst (v := 0) dX8_ratio_51 rfl ?_
        refine wp_lcmp dX8_ratio_52 ?_
        refine wp_if_ne (tgt := 66) dX8_ratio_53 (by decide) (fun c53 => ?_) (fun c53 => ?_)
        · have hnz : ¬ mL (Vq q dc F 0) = 0 := fun z => c53 ((lg_eq _ _).mpr z)
          refine wp_lconst (v := 0) dX8_ratio_66 rfl ?_
          refine wp_aload_n dX8_ratio_67 rfl ?_
          refine wp_getR dX8_ratio_68 fl_X8_51 rfl rfl ((hF.2.2.2.1 _ _).trans j8) ?_
          refine wp_aload_n dX8_ratio_71 rfl ?_
          refine wp_getR dX8_ratio_72 fl_X8_30 rfl rfl ((hF.2.2.2.1 _ _).trans j5) ?_
          refine wp_iconst (v := 0) dX8_ratio_75 rfl ?_
          refine wp_iload_n dX8_ratio_76 rfl ?_
          refine wp_cV3p dX8_ratio_77 ml_X8_184 vX1_weigh ⟨1, (RX1, TX1, 3), rfl, rfl, rfl⟩ (cX1_weigh_ E tq q.1 0 D q.2 dc M2 (hct.fj hF) hdt (by omega) hD (hj.fr hF) hdc) (Nat.le_of_ble_eq_true rfl) (Nat.le_of_ble_eq_true rfl) (Nat.le_of_ble_eq_true rfl) (Nat.le_of_ble_eq_true rfl) (Nat.le_of_ble_eq_true rfl) (fun v sh1 M3 hqq => ?_)
          obtain ⟨rfl, rfl, hF2, hrow2⟩ := hqq
          rw [show vT q.2 q.1 dc D q.1 0 = Vq q dc D 0 from rfl]
          refine wp_cS2l dX8_ratio_80 ml_X8_192 sJ9_max_f86c9 (cJ9_max_ E _ _ _ _) (Nat.le_of_ble_eq_true rfl) (Nat.le_of_ble_eq_true rfl) (Nat.le_of_ble_eq_true rfl) ?_
          rw [cV_max hbD]
          refine wp_lload_n dX8_ratio_83 rfl ?_
          refine wp_cS2l dX8_ratio_84 ml_X8_205 sJ9_floorDiv_f86c9 (cJ9_floorDiv_ E _ _ (mL_ge hbD).1 ((mL_ge hbF).2 hnz) _ _) (Nat.le_of_ble_eq_true rfl) (Nat.le_of_ble_eq_true rfl) (Nat.le_of_ble_eq_true rfl) ?_
          refine wp_toX ?_
          refine wp_lreturn dX8_ratio_87 rfl (Nat.zero_le _) (Nat.zero_le _) ?_
          refine ⟨fun z => hnz (by have := z.2.2; rw [eF] at this; exact this), ?_, rfl, jF_q (hF.tr hF2)⟩
          unfold rtV
          rw [if_pos ⟨hd8, hf8⟩, if_neg h0, eD, eF]
        · exact wp_throwS hlt rfl (text := "the other document is worth nothing") (names := nmR) (by decide) (by decide) cl_X8_200 ii_Ar (by decide) atR dX8_ratio_56 dX8_ratio_59 dX8_ratio_60 dX8_ratio_62 dX8_ratio_65 (by decide) (by decide) (by decide) (by decide) ⟨rfl, ⟨⟨hd8, hf8⟩, h0, by rw [eF]; exact (lg_eq _ _).mp c53⟩, rfl, jF_q hF⟩
      · refine wp_ldc2 dX8_ratio_28 kl_X8_198 ?_
        refine wp_toX ?_
        refine wp_lreturn dX8_ratio_31 rfl (Nat.zero_le _) (Nat.zero_le _) ?_
        have h0 : q.1 = 0 := by
          have := b2i_ne.mp c25
          rw [ec] at this
          exact nI_e (b := 0) (by omega) (by decide) this
        refine ⟨fun z => z.2.1 h0, ?_, rfl, Fr.rf⟩
        unfold rtV
        rw [if_pos ⟨hd8, hf8⟩, if_pos h0]
    · refine wp_ldc2 dX8_ratio_14 kl_X8_190 ?_
      refine wp_toX ?_
      refine wp_lreturn dX8_ratio_17 rfl (Nat.zero_le _) (Nat.zero_le _) ?_
      have hb : ¬ (docI d ∧ docI f) := fun z => b2i_e0.mp c11 z.2
      refine ⟨fun z => hb z.1, ?_, rfl, Fr.rf⟩
      unfold rtV
      rw [if_neg hb]
