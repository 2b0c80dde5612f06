/-! ===== the class: changes, isFor ===== -/
abbrev kF (M M1 : Mem) : Prop := Fr [] [118] [] M M1
theorem min_n {a b : Nat} (ha : a < 2 ^ 31) (hb : b < 2 ^ 31) : (if nI b < nI a then nI b else nI a) = nI (min a b) := by
  have e : nI b < nI a ↔ b < a := by
    rw [Int32.lt_iff_toInt_lt, nI_toInt ha, nI_toInt hb]; omega
  by_cases c : b < a
  · rw [if_pos (e.mpr c), Nat.min_eq_right (by omega)]
  · rw [if_neg (fun q => c (e.mp q)), Nat.min_eq_left (by omega)]
theorem nI_m {i : Nat} (h : 1 ≤ i) : nI i - 1 = nI (i - 1) := by
  obtain ⟨z, rfl⟩ : ∃ z, i = z + 1 := ⟨i - 1, by omega⟩
  rw [← nI_1, Int32.add_sub_cancel]; rfl
set_option maxRecDepth 100000 in
set_option maxHeartbeats 4000000 in
theorem cX3_changes_ (E : GE) (v w : List Nat) (hv : okL v) (hw : okL w) (M : Mem) (hr : fR M 117 0 = some 118) : Sp E mX3_changes 2 0 0 [.ref 117, .long (pack w), .long (pack v)] SH M (fun o sh1 M1 => sh1 = SH ∧ o = some (.int (nI (ed v w v.length w.length))) ∧ kF M M1) := by
  refine sp_of vX3_changes.1 rfl (Nat.le_of_ble_eq_true rfl) ?_
  have h8 := hv.1
  have hw8 := hw.1
  have loopC : ∀ (i : Nat) (hi : 1 ≤ i ∧ i ≤ w.length) (kk : ∀ M2 : Mem, kF M M2 → (∀ j, j ≤ v.length → aI M2 118 j = nI (ed v w j i)) → Wp (xM E mX3_changes 2 0 0 SH.length (fun o sh1 M1 => sh1 = SH ∧ o = some (.int (nI (ed v w v.length w.length))) ∧ kF M M1)) 0 0 174 [(7, .int (nI i)), (5, .int (nI w.length)), (6, .int (nI v.length)), (1, .long (pack w)), (3, .long (pack v)), (0, .ref 117)] [] SH M2) (r j : Nat) (M1 : Mem), j + r = v.length + 1 → 1 ≤ j → kF M M1 → (∀ q, q < j → aI M1 118 q = nI (ed v w q i)) → (∀ q, j ≤ q → q ≤ v.length → aI M1 118 q = nI (ed v w q (i - 1))) → Wp (xM E mX3_changes 2 0 0 SH.length (fun o sh1 M1 => sh1 = SH ∧ o = some (.int (nI (ed v w v.length w.length))) ∧ kF M M1)) 0 0 76 [(9, .int (nI j)), (8, .int (nI (ed v w (j - 1) (i - 1)))), (7, .int (nI i)), (5, .int (nI w.length)), (6, .int (nI v.length)), (1, .long (pack w)), (3, .long (pack v)), (0, .ref 117)] [] SH M1 := by
    intro i hi kk r
    induction r with
    | zero =>
      intro j M1 hj h1 hF ha hb
      have hj : j = v.length + 1 := by omega
      subst hj
      refine wp_iload dX3_changes_76 rfl ?_
      refine wp_iload dX3_changes_78 rfl ?_
      refine wp_icmp_gt (tgt := 174) dX3_changes_80 (by decide) (fun c80 => ?_) (fun c80 => absurd (show nI v.length < nI (v.length + 1) by rw [Int32.lt_iff_toInt_lt, nI_toInt (by omega), nI_toInt (by omega)]; omega) c80)
      exact wp_lv (kk M1 hF (fun q hq => ha q (by omega))) (by repeat (first | exact trivial | refine ⟨rfl, ?_⟩))
    | succ r ih =>
      intro j M1 hj h1 hF ha hb
      have hjl : j ≤ v.length := by omega
      have hr0 := (hF.2.2.2.1 117 0).trans hr
      have s1 := sgn_at hw (i := i - 1) (by omega)
      have s2 := sgn_at hv (i := j - 1) (by omega)
      have a1 := okL_at hw (i - 1)
      have a2 := okL_at hv (j - 1)
      have l1 := ed_le v w (j - 1) (i - 1)
      have l2 := ed_le v w j (i - 1)
      have l3 := ed_le v w (j - 1) i
      have rj := hb j (Nat.le_refl _) hjl
      have rj1 := ha (j - 1) (by omega)
      have hcl : (nI j).toNatClampNeg = j := nI_clamp (by omega)
      have hcl1 : (nI (j - 1)).toNatClampNeg = j - 1 := nI_clamp (by omega)
      have eed : ed v w j i = min (ed v w (j - 1) (i - 1) + (if v.getD (j - 1) 0 = w.getD (i - 1) 0 then 0 else 1)) (1 + min (ed v w (j - 1) i) (ed v w j (i - 1))) := by
        obtain ⟨x, rfl⟩ : ∃ x, j = x + 1 := ⟨j - 1, by omega⟩
        obtain ⟨y, rfl⟩ : ∃ y, i = y + 1 := ⟨i - 1, by omega⟩
        exact ed_ss v w x y
      have J117 : ∀ o : Nat, o = (if v.getD (j - 1) 0 = w.getD (i - 1) 0 then 0 else 1) → Wp (xM E mX3_changes 2 0 0 SH.length (fun o sh1 M1 => sh1 = SH ∧ o = some (.int (nI (ed v w v.length w.length))) ∧ kF M M1)) 0 0 117 [(9, .int (nI j)), (8, .int (nI (ed v w (j - 1) (i - 1)))), (7, .int (nI i)), (5, .int (nI w.length)), (6, .int (nI v.length)), (1, .long (pack w)), (3, .long (pack v)), (0, .ref 117)] [.int (nI o)] SH M1 := by
        intro o ho
        have ho1 : o ≤ 1 := by rw [ho]; split <;> decide
        rw [← ho] at eed
        refine wp_istore dX3_changes_117 (Nat.le_of_ble_eq_true rfl) ?_
        refine wp_iload dX3_changes_119 rfl ?_
        refine wp_iload dX3_changes_121 rfl ?_
        refine wp_iadd dX3_changes_123 ?_
        refine wp_aload_n dX3_changes_124 rfl ?_
        refine wp_getR dX3_changes_125 fl_X3_9 rfl rfl hr0 ?_
        refine wp_iload dX3_changes_128 rfl ?_
        refine wp_iaload dX3_changes_130 rfl (vp_in_nI (by omega) (by decide)) ?_
        rw [hcl, rj]
        refine wp_aload_n dX3_changes_131 rfl ?_
        refine wp_getR dX3_changes_132 fl_X3_9 rfl rfl hr0 ?_
        refine wp_iload dX3_changes_135 rfl ?_
        refine wp_iconst (v := 1) dX3_changes_137 rfl ?_
        refine wp_isub dX3_changes_138 ?_
        rw [nI_m h1]
        refine wp_iaload dX3_changes_139 rfl (vp_in_nI (by omega) (by decide)) ?_
        rw [hcl1, rj1]
        refine wp_cS2i dX3_changes_140 ml_X3_50 sJ9_min_7cf53 (cJ9_min_ E _ _ _ _) (Nat.le_of_ble_eq_true rfl) (Nat.le_of_ble_eq_true rfl) (Nat.le_of_ble_eq_true rfl) ?_
        rw [min_n (by omega) (by omega)]
        refine wp_iconst (v := 1) dX3_changes_143 rfl ?_
        refine wp_iadd dX3_changes_144 ?_
        rw [nI_add, nI_1]
        refine wp_cS2i dX3_changes_145 ml_X3_50 sJ9_min_7cf53 (cJ9_min_ E _ _ _ _) (Nat.le_of_ble_eq_true rfl) (Nat.le_of_ble_eq_true rfl) (Nat.le_of_ble_eq_true rfl) ?_
        rw [min_n (by omega) (by omega), show min (ed v w (j - 1) (i - 1) + o) (min (ed v w j (i - 1)) (ed v w (j - 1) i) + 1) = ed v w j i by rw [eed, Nat.min_comm (ed v w (j - 1) i), Nat.add_comm 1]]
        refine wp_istore dX3_changes_148 (Nat.le_of_ble_eq_true rfl) ?_
        refine wp_aload_n dX3_changes_150 rfl ?_
        refine wp_getR dX3_changes_151 fl_X3_9 rfl rfl hr0 ?_
        refine wp_iload dX3_changes_154 rfl ?_
        refine wp_iaload dX3_changes_156 rfl (vp_in_nI (by omega) (by decide)) ?_
        rw [hcl, rj]
        refine wp_istore dX3_changes_157 (Nat.le_of_ble_eq_true rfl) ?_
        refine wp_aload_n dX3_changes_159 rfl ?_
        refine wp_getR dX3_changes_160 fl_X3_9 rfl rfl hr0 ?_
        refine wp_iload dX3_changes_163 rfl ?_
        refine wp_iload dX3_changes_165 rfl ?_
        refine wp_iastore dX3_changes_167 rfl (vp_in_nI (by omega) (by decide)) ?_
        rw [hcl]
        refine wp_iinc dX3_changes_168 rfl (i_inc _) (Nat.le_of_ble_eq_true rfl) ?_
        refine wp_goto (tgt := 76) dX3_changes_171 (by decide) ?_
        have h := ih (j + 1) (sA M1 118 j (nI (ed v w j i))) (by omega) (by omega) (hF.sA (by simp)) (fun q hq => by
          rw [aI_sA]
          by_cases c : q = j
          · rw [if_pos ⟨rfl, c⟩, c]
          · rw [if_neg (fun z => c z.2)]; exact ha q (by omega)) (fun q h2 h3 => by
          rw [aI_sA, if_neg (by omega)]; exact hb q (by omega) h3)
        rw [Nat.add_sub_cancel] at h
        exact wp_lv h (by repeat (first | exact trivial | refine ⟨rfl, ?_⟩))
      refine wp_iload dX3_changes_76 rfl ?_
      refine wp_iload dX3_changes_78 rfl ?_
      refine wp_icmp_gt (tgt := 174) dX3_changes_80 (by decide) (fun c80 => absurd c80 (by rw [Int32.lt_iff_toInt_lt, nI_toInt (by omega), nI_toInt (by omega)]; omega)) (fun c80 => ?_)
      refine wp_iload dX3_changes_83 rfl ?_
      refine wp_aload_n dX3_changes_85 rfl ?_
      refine wp_getR dX3_changes_86 fl_X3_9 rfl rfl hr0 ?_
      refine wp_alen dX3_changes_89 rfl (Nat.le_of_ble_eq_true rfl) ?_
      refine wp_icmp_ge (tgt := 174) dX3_changes_90 (by decide) (fun c90 => absurd c90 (nI_ge (b := 9) (by omega) (by decide))) (fun c90 => ?_)
      refine wp_lload_n dX3_changes_93 rfl ?_
      refine wp_iload dX3_changes_94 rfl ?_
      refine wp_iconst (v := 1) dX3_changes_96 rfl ?_
      refine wp_isub dX3_changes_97 ?_
      rw [nI_m hi.1]
      refine wp_cS2i dX3_changes_98 ml_X3_46 sX2_signAt (cX2_signAt_ E _ _ _ _) (Nat.le_of_ble_eq_true rfl) (Nat.le_of_ble_eq_true rfl) (Nat.le_of_ble_eq_true rfl) ?_
      rw [s1]
      refine wp_lload_n dX3_changes_101 rfl ?_
      refine wp_iload dX3_changes_102 rfl ?_
      refine wp_iconst (v := 1) dX3_changes_104 rfl ?_
      refine wp_isub dX3_changes_105 ?_
      rw [nI_m h1]
      refine wp_cS2i dX3_changes_106 ml_X3_46 sX2_signAt (cX2_signAt_ E _ _ _ _) (Nat.le_of_ble_eq_true rfl) (Nat.le_of_ble_eq_true rfl) (Nat.le_of_ble_eq_true rfl) ?_
      rw [s2]
      refine wp_icmp_ne (tgt := 116) dX3_changes_109 (by decide) (fun c109 => ?_) (fun c109 => ?_)
      · refine wp_iconst (v := 1) dX3_changes_116 rfl ?_
        exact wp_lv (J117 1 (by rw [if_neg (fun e => c109 (by rw [e]))])) (by repeat (first | exact trivial | refine ⟨rfl, ?_⟩))
      · refine wp_iconst (v := 0) dX3_changes_112 rfl ?_
        refine wp_goto (tgt := 117) dX3_changes_113 (by decide) ?_
        exact wp_lv (J117 0 (by rw [if_pos ((nIb a1 a2).mp c109).symm])) (by repeat (first | exact trivial | refine ⟨rfl, ?_⟩))
  have loopB : ∀ (r i : Nat) (M1 : Mem), i + r = w.length + 1 → 1 ≤ i → kF M M1 → (∀ j, j ≤ v.length → aI M1 118 j = nI (ed v w j (i - 1))) → Wp (xM E mX3_changes 2 0 0 SH.length (fun o sh1 M1 => sh1 = SH ∧ o = some (.int (nI (ed v w v.length w.length))) ∧ kF M M1)) 0 0 50 [(7, .int (nI i)), (5, .int (nI w.length)), (6, .int (nI v.length)), (1, .long (pack w)), (3, .long (pack v)), (0, .ref 117)] [] SH M1 := by
    intro r
    induction r with
    | zero =>
      intro i M1 hi h1 hF ha
      have hi : i = w.length + 1 := by omega
      subst hi
      have hr0 := (hF.2.2.2.1 117 0).trans hr
      rw [Nat.add_sub_cancel] at ha
      refine wp_iload dX3_changes_50 rfl ?_
      refine wp_iload dX3_changes_52 rfl ?_
      refine wp_icmp_gt (tgt := 180) dX3_changes_54 (by decide) (fun c54 => ?_) (fun c54 => absurd (show nI w.length < nI (w.length + 1) by rw [Int32.lt_iff_toInt_lt, nI_toInt (by omega), nI_toInt (by omega)]; omega) c54)
      refine wp_iload dX3_changes_180 rfl ?_
      refine wp_aload_n dX3_changes_182 rfl ?_
      refine wp_getR dX3_changes_183 fl_X3_9 rfl rfl hr0 ?_
      refine wp_alen dX3_changes_186 rfl (Nat.le_of_ble_eq_true rfl) ?_
      refine wp_icmp_ge (tgt := 200) dX3_changes_187 (by decide) (fun c187 => absurd c187 (nI_ge (b := 9) (by omega) (by decide))) (fun c187 => ?_)
      refine wp_aload_n dX3_changes_190 rfl ?_
      refine wp_getR dX3_changes_191 fl_X3_9 rfl rfl hr0 ?_
      refine wp_iload dX3_changes_194 rfl ?_
      refine wp_iaload dX3_changes_196 rfl (vp_in_nI (by omega) (by decide)) ?_
      refine wp_goto (tgt := 205) dX3_changes_197 (by decide) ?_
      refine wp_ireturn dX3_changes_205 rfl rfl (Nat.zero_le _) (Nat.zero_le _) ?_
      rw [nI_clamp (by omega), ha v.length (Nat.le_refl _)]
      exact ⟨rfl, rfl, hF⟩
    | succ r ih =>
      intro i M1 hi h1 hF ha
      have hr0 := (hF.2.2.2.1 117 0).trans hr
      have a0 : aI M1 118 0 = nI (i - 1) := by rw [ha 0 (Nat.zero_le _), ed_0]
      refine wp_iload dX3_changes_50 rfl ?_
      refine wp_iload dX3_changes_52 rfl ?_
      refine wp_icmp_gt (tgt := 180) dX3_changes_54 (by decide) (fun c54 => absurd c54 (by rw [Int32.lt_iff_toInt_lt, nI_toInt (by omega), nI_toInt (by omega)]; omega)) (fun c54 => ?_)
      refine wp_aload_n dX3_changes_57 rfl ?_
      refine wp_getR dX3_changes_58 fl_X3_9 rfl rfl hr0 ?_
      refine wp_iconst (v := 0) dX3_changes_61 rfl ?_
      refine wp_iaload dX3_changes_62 rfl (vp_in_nI (n := 0) (N := 9) (by decide) (by decide)) ?_
      refine wp_istore dX3_changes_63 (Nat.le_of_ble_eq_true rfl) ?_
      refine wp_aload_n dX3_changes_65 rfl ?_
      refine wp_getR dX3_changes_66 fl_X3_9 rfl rfl hr0 ?_
      refine wp_iconst (v := 0) dX3_changes_69 rfl ?_
      refine wp_iload dX3_changes_70 rfl ?_
      refine wp_iastore dX3_changes_72 rfl (vp_in_nI (n := 0) (N := 9) (by decide) (by decide)) ?_
      refine wp_iconst (v := 1) dX3_changes_73 rfl ?_
      refine wp_istore dX3_changes_74 (Nat.le_of_ble_eq_true rfl) ?_
      have e0 : (0 : Int32).toNatClampNeg = 0 := rfl
      rw [e0, a0]
      have hF2 : kF M (sA M1 118 0 (nI i)) := hF.sA (by simp)
      have h := loopC i ⟨h1, by omega⟩ (fun M2 hF3 hq => by
        refine wp_iinc dX3_changes_174 rfl (i_inc _) (Nat.le_of_ble_eq_true rfl) ?_
        refine wp_goto (tgt := 50) dX3_changes_177 (by decide) ?_
        have h := ih (i + 1) M2 (by omega) (by omega) hF3 (by rw [Nat.add_sub_cancel]; exact hq)
        exact wp_lv h (by repeat (first | exact trivial | refine ⟨rfl, ?_⟩))) v.length 1 _ (by omega) (Nat.le_refl _) hF2 (fun q hq => by
        have : q = 0 := by omega
        rw [this, aI_sA, if_pos ⟨rfl, rfl⟩, ed_0]) (fun q h2 h3 => by rw [aI_sA, if_neg (by omega)]; exact ha q h3)
      rw [Nat.sub_self, ed_0] at h
      exact wp_lv h (by repeat (first | exact trivial | refine ⟨rfl, ?_⟩))
  have loopA : ∀ (r j : Nat) (M1 : Mem), j + r = v.length + 1 → kF M M1 → (∀ q, q < j → aI M1 118 q = nI q) → Wp (xM E mX3_changes 2 0 0 SH.length (fun o sh1 M1 => sh1 = SH ∧ o = some (.int (nI (ed v w v.length w.length))) ∧ kF M M1)) 0 0 15 [(7, .int (nI j)), (5, .int (nI w.length)), (6, .int (nI v.length)), (1, .long (pack w)), (3, .long (pack v)), (0, .ref 117)] [] SH M1 := by
    intro r
    induction r with
    | zero =>
      intro j M1 hj hF ha
      have hj : j = v.length + 1 := by omega
      subst hj
      refine wp_iload dX3_changes_15 rfl ?_
      refine wp_iload dX3_changes_17 rfl ?_
      refine wp_icmp_gt (tgt := 47) dX3_changes_19 (by decide) (fun c19 => ?_) (fun c19 => absurd (show nI v.length < nI (v.length + 1) by rw [Int32.lt_iff_toInt_lt, nI_toInt (by omega), nI_toInt (by omega)]; omega) c19)
      refine wp_iconst (v := 1) dX3_changes_47 rfl ?_
      refine wp_istore dX3_changes_48 (Nat.le_of_ble_eq_true rfl) ?_
      exact wp_lv (loopB w.length 1 M1 (by omega) (Nat.le_refl _) hF (fun q hq => by rw [ha q (by omega), Nat.sub_self, ed_s0])) (by repeat (first | exact trivial | refine ⟨rfl, ?_⟩))
    | succ r ih =>
      intro j M1 hj hF ha
      have hr0 := (hF.2.2.2.1 117 0).trans hr
      refine wp_iload dX3_changes_15 rfl ?_
      refine wp_iload dX3_changes_17 rfl ?_
      refine wp_icmp_gt (tgt := 47) dX3_changes_19 (by decide) (fun c19 => absurd c19 (by rw [Int32.lt_iff_toInt_lt, nI_toInt (by omega), nI_toInt (by omega)]; omega)) (fun c19 => ?_)
      refine wp_iload dX3_changes_22 rfl ?_
      refine wp_aload_n dX3_changes_24 rfl ?_
      refine wp_getR dX3_changes_25 fl_X3_9 rfl rfl hr0 ?_
      refine wp_alen dX3_changes_28 rfl (Nat.le_of_ble_eq_true rfl) ?_
      refine wp_icmp_ge (tgt := 47) dX3_changes_29 (by decide) (fun c29 => absurd c29 (nI_ge (b := 9) (by omega) (by decide))) (fun c29 => ?_)
      refine wp_aload_n dX3_changes_32 rfl ?_
      refine wp_getR dX3_changes_33 fl_X3_9 rfl rfl hr0 ?_
      refine wp_iload dX3_changes_36 rfl ?_
      refine wp_iload dX3_changes_38 rfl ?_
      refine wp_iastore dX3_changes_40 rfl (vp_in_nI (by omega) (by decide)) ?_
      refine wp_iinc dX3_changes_41 rfl (i_inc _) (Nat.le_of_ble_eq_true rfl) ?_
      refine wp_goto (tgt := 15) dX3_changes_44 (by decide) ?_
      rw [nI_clamp (show j < 2 ^ 31 by omega)]
      refine wp_lv (ih (j + 1) _ (by omega) (hF.sA (by simp)) (fun q hq => ?_)) (by repeat (first | exact trivial | refine ⟨rfl, ?_⟩))
      rw [aI_sA]
      split
      · next c => rw [c.2]
      · next c => exact ha q (by omega)
  refine wp_lload_n dX3_changes_0 rfl ?_
  refine wp_cS1i dX3_changes_1 ml_X3_40 sX2_lengthOf (cX2_lengthOf_ E w hw8 (okL_256 hw) _ _) (Nat.le_of_ble_eq_true rfl) (Nat.le_of_ble_eq_true rfl) (Nat.le_of_ble_eq_true rfl) ?_
  refine wp_istore dX3_changes_4 (Nat.le_of_ble_eq_true rfl) ?_
  refine wp_lload_n dX3_changes_6 rfl ?_
  refine wp_cS1i dX3_changes_7 ml_X3_40 sX2_lengthOf (cX2_lengthOf_ E v h8 (okL_256 hv) _ _) (Nat.le_of_ble_eq_true rfl) (Nat.le_of_ble_eq_true rfl) (Nat.le_of_ble_eq_true rfl) ?_
  refine wp_istore dX3_changes_10 (Nat.le_of_ble_eq_true rfl) ?_
  refine wp_iconst (v := 0) dX3_changes_12 rfl ?_
  refine wp_istore dX3_changes_13 (Nat.le_of_ble_eq_true rfl) ?_
  exact wp_lv (loopA (v.length + 1) 0 M (by omega) Fr.rf (fun q hq => absurd hq (Nat.not_lt_zero q))) (by repeat (first | exact trivial | refine ⟨rfl, ?_⟩))
/-- the words of a node that was read -/
theorem nd_okL {x : ND} (h : nOk x) (ho : okN x) (j : Nat) : okL (nWd x j) := by
  refine ⟨(wd_ok ho j).1, fun b hb => ?_⟩
  by_cases c : j < (nWo x).length
  · have hm : nWd x j ∈ nWo x := by
      unfold nWd
      rw [List.getD_eq_getElem?_getD, List.getElem?_eq_getElem c]
      exact List.getElem_mem c
    have : isSg b ∨ isLt b := by
      rcases h.2 with ⟨_, _, e, _⟩ | ⟨_, _, e, _⟩ | ⟨_, _, e, _⟩ | ⟨_, e, _⟩
      · exact Or.inl ((e _ hm).2 b hb)
      · exact Or.inr ((e _ hm).2 b hb)
      · exact Or.inr ((e _ hm).2 b hb)
      · rw [e] at c; exact absurd c (Nat.not_lt_zero _)
    omega
  · have : nWd x j = [] := by unfold nWd; rw [List.getD_eq_getElem?_getD, List.getElem?_eq_none (by omega)]; rfl
    rw [this] at hb; exact absurd hb (by simp)
theorem ag_lt {v w : List Nat} (hv : okL v) (hw : okL w) : (pack v < pack w ↔ agn v w < 0) ∧ (pack w < pack v ↔ 0 < agn v w) := by
  obtain ⟨q1, q2⟩ := agn_pack v w 7 hv.1 hw.1 (okL_256 hv) (okL_256 hw)
  have e1 : pack v < pack w ↔ packN 7 v < packN 7 w := lNlt (pk63 hv) (pk63 hw)
  have e2 : pack w < pack v ↔ packN 7 w < packN 7 v := lNlt (pk63 hw) (pk63 hv)
  rw [e1, e2]
  refine ⟨q1.symm, ?_⟩
  constructor
  · intro h
    have n1 : ¬ agn v w < 0 := fun q => by have := q1.mp q; omega
    have n2 : ¬ agn v w = 0 := fun q => by have := q2.mp q; omega
    omega
  · intro h
    have n1 : ¬ packN 7 v < packN 7 w := fun q => by have := q1.mpr q; omega
    have n2 : ¬ packN 7 v = packN 7 w := fun q => by have := q2.mpr q; omega
    omega
set_option maxRecDepth 100000 in
set_option maxHeartbeats 4000000 in
theorem cX3_isWithin_ (E : GE) (p : Nat) (x : ND) (v : List Nat) (M : Mem) (hcx : CX M p x) (hx : nOk x) (ho : okN x) (hv : okL v) (hco : nCo x = 2) : Sp E mX3_isWithin 1 0 0 [.ref p, .long (pack v)] SH M (RV (some (.int (b2i (fitW x v = true)))) SH M) := by
  refine sp_of sX3_isWithin.1 rfl (Nat.le_of_ble_eq_true rfl) ?_
  have o0 := nd_okL hx ho 0
  have o1 := nd_okL hx ho 1
  obtain ⟨p1, p2⟩ := ag_lt hv o0
  obtain ⟨r1, r2⟩ := ag_lt hv o1
  have e4 : fI M p 4 = nDe x := hcx.2.2.2.2.2.2.2.1
  have hfit : fitW x v = (if nDe x = 1 then decide (agn v (nWd x 0) > 0) && decide (agn v (nWd x 1) < 0) else decide (agn v (nWd x 0) ≥ 0) && decide (agn v (nWd x 1) ≤ 0)) := by unfold fitW; rw [if_pos hco]
  refine wp_aload_n dX3_isWithin_0 rfl ?_
  refine wp_iconst (v := 0) dX3_isWithin_1 rfl ?_
  refine wp_cV1l dX3_isWithin_2 ml_X3_28 vX0_wordAt (isO_cx hcx) (cX0_wordN E p 0 x M hcx (by decide)) (Nat.le_of_ble_eq_true rfl) (Nat.le_of_ble_eq_true rfl) (Nat.le_of_ble_eq_true rfl) ?_
  refine wp_lstore_n dX3_isWithin_5 (Nat.le_of_ble_eq_true rfl) ?_
  refine wp_aload_n dX3_isWithin_6 rfl ?_
  refine wp_iconst (v := 1) dX3_isWithin_7 rfl ?_
  refine wp_cV1l dX3_isWithin_8 ml_X3_28 vX0_wordAt (isO_cx hcx) (cX0_wordN E p 1 x M hcx (by decide)) (Nat.le_of_ble_eq_true rfl) (Nat.le_of_ble_eq_true rfl) (Nat.le_of_ble_eq_true rfl) ?_
  refine wp_lstore dX3_isWithin_11 (Nat.le_of_ble_eq_true rfl) ?_
  refine wp_aload_n dX3_isWithin_13 rfl ?_
  refine wp_getI dX3_isWithin_14 fl_X3_25 hcx.1.1 rfl ?_
  refine wp_iconst (v := 1) dX3_isWithin_17 rfl ?_
  rw [e4]
  refine wp_icmp_ne (tgt := 42) dX3_isWithin_18 (by decide) (fun c18 => ?_) (fun c18 => ?_)
  · refine wp_lload_n dX3_isWithin_42 rfl ?_
    refine wp_lload_n dX3_isWithin_43 rfl ?_
    refine wp_lcmp dX3_isWithin_44 ?_
    refine wp_if_gt (tgt := 59) dX3_isWithin_45 (by decide) (fun c45 => ?_) (fun c45 => ?_)
    · refine wp_iconst (v := 0) dX3_isWithin_59 rfl ?_
      refine wp_ireturn dX3_isWithin_60 rfl rfl (Nat.zero_le _) (Nat.zero_le _) ?_
      rw [hfit, if_neg c18]
      have h := p1.mp ((lg_gt _ _).mp c45)
      rw [b2i_f (by simp only [Bool.and_eq_true, decide_eq_true_eq]; omega)]; exact ⟨rfl, rfl, rfl⟩
    · refine wp_lload_n dX3_isWithin_48 rfl ?_
      refine wp_lload dX3_isWithin_49 rfl ?_
      refine wp_lcmp dX3_isWithin_51 ?_
      refine wp_if_gt (tgt := 59) dX3_isWithin_52 (by decide) (fun c52 => ?_) (fun c52 => ?_)
      · refine wp_iconst (v := 0) dX3_isWithin_59 rfl ?_
        refine wp_ireturn dX3_isWithin_60 rfl rfl (Nat.zero_le _) (Nat.zero_le _) ?_
        rw [hfit, if_neg c18]
        have h := r2.mp ((lg_gt _ _).mp c52)
        rw [b2i_f (by simp only [Bool.and_eq_true, decide_eq_true_eq]; omega)]; exact ⟨rfl, rfl, rfl⟩
      · refine wp_iconst (v := 1) dX3_isWithin_55 rfl ?_
        refine wp_goto (tgt := 60) dX3_isWithin_56 (by decide) ?_
        refine wp_ireturn dX3_isWithin_60 rfl rfl (Nat.zero_le _) (Nat.zero_le _) ?_
        rw [hfit, if_neg c18]
        have h : ¬ agn v (nWd x 0) < 0 := fun q => c45 ((lg_gt _ _).mpr (p1.mpr q))
        have k : ¬ 0 < agn v (nWd x 1) := fun q => c52 ((lg_gt _ _).mpr (r2.mpr q))
        rw [b2i_t (by simp only [Bool.and_eq_true, decide_eq_true_eq]; omega)]; exact ⟨rfl, rfl, rfl⟩
  · refine wp_lload_n dX3_isWithin_21 rfl ?_
    refine wp_lload_n dX3_isWithin_22 rfl ?_
    refine wp_lcmp dX3_isWithin_23 ?_
    refine wp_if_ge (tgt := 38) dX3_isWithin_24 (by decide) (fun c24 => ?_) (fun c24 => ?_)
    · refine wp_iconst (v := 0) dX3_isWithin_38 rfl ?_
      refine wp_goto (tgt := 60) dX3_isWithin_39 (by decide) ?_
      refine wp_ireturn dX3_isWithin_60 rfl rfl (Nat.zero_le _) (Nat.zero_le _) ?_
      rw [hfit, if_pos c18]
      have h : ¬ 0 < agn v (nWd x 0) := fun q => absurd ((lg_ge _ _).mp c24) (Int64.not_le.mpr (p2.mpr q))
      rw [b2i_f (by simp only [Bool.and_eq_true, decide_eq_true_eq]; omega)]; exact ⟨rfl, rfl, rfl⟩
    · refine wp_lload_n dX3_isWithin_27 rfl ?_
      refine wp_lload dX3_isWithin_28 rfl ?_
      refine wp_lcmp dX3_isWithin_30 ?_
      refine wp_if_ge (tgt := 38) dX3_isWithin_31 (by decide) (fun c31 => ?_) (fun c31 => ?_)
      · refine wp_iconst (v := 0) dX3_isWithin_38 rfl ?_
        refine wp_goto (tgt := 60) dX3_isWithin_39 (by decide) ?_
        refine wp_ireturn dX3_isWithin_60 rfl rfl (Nat.zero_le _) (Nat.zero_le _) ?_
        rw [hfit, if_pos c18]
        have h : ¬ agn v (nWd x 1) < 0 := fun q => absurd ((lg_ge _ _).mp c31) (Int64.not_le.mpr (r1.mpr q))
        rw [b2i_f (by simp only [Bool.and_eq_true, decide_eq_true_eq]; omega)]; exact ⟨rfl, rfl, rfl⟩
      · refine wp_iconst (v := 1) dX3_isWithin_34 rfl ?_
        refine wp_goto (tgt := 60) dX3_isWithin_35 (by decide) ?_
        refine wp_ireturn dX3_isWithin_60 rfl rfl (Nat.zero_le _) (Nat.zero_le _) ?_
        rw [hfit, if_pos c18]
        have h := p2.mp (Int64.not_le.mp fun q => c24 ((lg_ge _ _).mpr q))
        have k := r1.mp (Int64.not_le.mp fun q => c31 ((lg_ge _ _).mpr q))
        rw [b2i_t (by simp only [Bool.and_eq_true, decide_eq_true_eq]; omega)]; exact ⟨rfl, rfl, rfl⟩
set_option maxRecDepth 100000 in
set_option maxHeartbeats 4000000 in
theorem cX3_isFor_ (E : GE) (p : Nat) (x : ND) (v : List Nat) (M : Mem) (hr : fR M 117 0 = some 118) (hcx : CX M p x) (hx : nOk x) (ho : okN x) (hv : okL v) : Sp E mX3_isFor 3 0 0 [.ref 117, .ref p, .long (pack v)] SH M (fun o sh1 M1 => sh1 = SH ∧ o = some (.int (b2i (fitW x v = true))) ∧ kF M M1) := by
  refine sp_of vX3_isFor.1 rfl (Nat.le_of_ble_eq_true rfl) ?_
  have o0 := nd_okL hx ho 0
  have e0 : fI M p 0 = nCo x := hcx.2.2.2.1
  have e4 : ∀ {M2 : Mem}, kF M M2 → fI M2 p 4 = nDe x := fun k => (k.1 _ _ (by simp)).trans hcx.2.2.2.2.2.2.2.1
  have hfa : ¬ nCo x = 2 → 0 < nDe x → fitW x v = decide (nI (ed v (nWd x 0) v.length (nWd x 0).length) ≤ nDe x) := fun h k => by unfold fitW; rw [if_neg h, if_pos k]
  have hfb : ¬ nCo x = 2 → ¬ 0 < nDe x → fitW x v = pmN v (nWd x 0) (nWd x 0).length v.length := fun h k => by unfold fitW; rw [if_neg h, if_neg k]
  refine wp_aload_n dX3_isFor_0 rfl ?_
  refine wp_getI dX3_isFor_1 fl_X3_15 hcx.1.1 rfl ?_
  refine wp_iconst (v := 2) dX3_isFor_4 rfl ?_
  rw [e0]
  refine wp_icmp_ne (tgt := 14) dX3_isFor_5 (by decide) (fun c5 => ?_) (fun c5 => ?_)
  · refine wp_aload_n dX3_isFor_14 rfl ?_
    refine wp_getI dX3_isFor_15 fl_X3_25 hcx.1.1 rfl ?_
    rw [e4 Fr.rf]
    refine wp_if_le (tgt := 46) dX3_isFor_18 (by decide) (fun c18 => ?_) (fun c18 => ?_)
    · refine wp_aload_n dX3_isFor_46 rfl ?_
      refine wp_iconst (v := 0) dX3_isFor_47 rfl ?_
      refine wp_cV1l dX3_isFor_48 ml_X3_28 vX0_wordAt (isO_cx hcx) (cX0_wordN E p 0 x M hcx (by decide)) (Nat.le_of_ble_eq_true rfl) (Nat.le_of_ble_eq_true rfl) (Nat.le_of_ble_eq_true rfl) ?_
      refine wp_lload_n dX3_isFor_51 rfl ?_
      refine wp_cS2i dX3_isFor_52 ml_X3_36 sX3_hasSigns (cX3_hasSigns_ E v (nWd x 0) hv o0 _ _) (Nat.le_of_ble_eq_true rfl) (Nat.le_of_ble_eq_true rfl) (Nat.le_of_ble_eq_true rfl) ?_
      refine wp_ireturn dX3_isFor_55 rfl (by first | exact nar_b2i _ | rfl) (Nat.zero_le _) (Nat.zero_le _) ?_
      rw [hfb c5 (fun q => by rw [← Int32.not_le] at q; exact q c18)]
      exact ⟨rfl, rfl, Fr.rf⟩
    · refine wp_aload_n dX3_isFor_21 rfl ?_
      refine wp_aload_n dX3_isFor_22 rfl ?_
      refine wp_iconst (v := 0) dX3_isFor_23 rfl ?_
      refine wp_cV1l dX3_isFor_24 ml_X3_28 vX0_wordAt (isO_cx hcx) (cX0_wordN E p 0 x M hcx (by decide)) (Nat.le_of_ble_eq_true rfl) (Nat.le_of_ble_eq_true rfl) (Nat.le_of_ble_eq_true rfl) ?_
      refine wp_lload_n dX3_isFor_27 rfl ?_
      refine wp_cV2p dX3_isFor_28 ml_X3_32 vX3_changes ⟨2, (RX3, TX3, 1), rfl, rfl, rfl⟩ (cX3_changes_ E v (nWd x 0) hv o0 M hr) (Nat.le_of_ble_eq_true rfl) (Nat.le_of_ble_eq_true rfl) (Nat.le_of_ble_eq_true rfl) (Nat.le_refl _) (Nat.le_refl _) (fun v sh1 M1 hqq => ?_)
      obtain ⟨rfl, rfl, hF⟩ := hqq
      refine wp_aload_n dX3_isFor_31 rfl ?_
      refine wp_getI dX3_isFor_32 fl_X3_25 hcx.1.1 rfl ?_
      rw [e4 hF]
      refine wp_icmp_gt (tgt := 42) dX3_isFor_35 (by decide) (fun c35 => ?_) (fun c35 => ?_)
      · refine wp_iconst (v := 0) dX3_isFor_42 rfl ?_
        refine wp_goto (tgt := 55) dX3_isFor_43 (by decide) ?_
        refine wp_ireturn dX3_isFor_55 rfl (by first | exact nar_b2i _ | rfl) (Nat.zero_le _) (Nat.zero_le _) ?_
        rw [hfa c5 (Int32.not_le.mp c18), b2i_f (by simp only [decide_eq_true_eq]; exact Int32.not_le.mpr c35)]
        exact ⟨rfl, rfl, hF⟩
      · refine wp_iconst (v := 1) dX3_isFor_38 rfl ?_
        refine wp_goto (tgt := 55) dX3_isFor_39 (by decide) ?_
        refine wp_ireturn dX3_isFor_55 rfl (by first | exact nar_b2i _ | rfl) (Nat.zero_le _) (Nat.zero_le _) ?_
        rw [hfa c5 (Int32.not_le.mp c18), b2i_t (by simp only [decide_eq_true_eq]; exact Int32.not_lt.mp c35)]
        exact ⟨rfl, rfl, hF⟩
  · refine wp_aload_n dX3_isFor_8 rfl ?_
    refine wp_lload_n dX3_isFor_9 rfl ?_
    refine wp_cS2i dX3_isFor_10 ml_X3_21 sX3_isWithin (cX3_isWithin_ E p x v M hcx hx ho hv c5) (Nat.le_of_ble_eq_true rfl) (Nat.le_of_ble_eq_true rfl) (Nat.le_of_ble_eq_true rfl) ?_
    refine wp_ireturn dX3_isFor_13 rfl (nar_b2i _) (Nat.zero_le _) (Nat.zero_le _) ?_
    exact ⟨rfl, rfl, Fr.rf⟩
