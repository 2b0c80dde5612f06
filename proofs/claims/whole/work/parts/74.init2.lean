/-! ===== constructors: the rest ===== -/
theorem tk_t4 : SH.take 5 ++ trSh = SH.take 56 := by decide +kernel
theorem tk_t57 : SH.take 58 ++ trSh = SH.take 109 := by decide +kernel
theorem tk_0 : SH.take 0 ++ [.inl 7] = SH.take 1 := by decide +kernel
theorem tl_0 : (SH.take 0).length = 0 := by decide +kernel
theorem tk_1 : SH.take 1 ++ [.inr (0, 240)] = SH.take 2 := by decide +kernel
theorem tl_1 : (SH.take 1).length = 1 := by decide +kernel
theorem tk_2 : SH.take 2 ++ [.inr (1, 240)] = SH.take 3 := by decide +kernel
theorem tl_2 : (SH.take 2).length = 2 := by decide +kernel
theorem tk_3 : SH.take 3 ++ [.inr (1, 240)] = SH.take 4 := by decide +kernel
theorem tl_3 : (SH.take 3).length = 3 := by decide +kernel
theorem tk_4 : SH.take 4 ++ [.inl 6] = SH.take 5 := by decide +kernel
theorem tl_4 : (SH.take 4).length = 4 := by decide +kernel
theorem tk_56 : SH.take 56 ++ [.inl 3] = SH.take 57 := by decide +kernel
theorem tl_56 : (SH.take 56).length = 56 := by decide +kernel
theorem tk_57 : SH.take 57 ++ [.inl 6] = SH.take 58 := by decide +kernel
theorem tl_57 : (SH.take 57).length = 57 := by decide +kernel
theorem tk_109 : SH.take 109 ++ [.inl 0] = SH.take 110 := by decide +kernel
theorem tl_109 : (SH.take 109).length = 109 := by decide +kernel
theorem tk_110 : SH.take 110 ++ [.inr (2, 5)] = SH.take 111 := by decide +kernel
theorem tl_110 : (SH.take 110).length = 110 := by decide +kernel
theorem tk_111 : SH.take 111 ++ [.inl 4] = SH.take 112 := by decide +kernel
theorem tl_111 : (SH.take 111).length = 111 := by decide +kernel
theorem tk_112 : SH.take 112 ++ [.inr (0, 240)] = SH.take 113 := by decide +kernel
theorem tl_112 : (SH.take 112).length = 112 := by decide +kernel
theorem tk_113 : SH.take 113 ++ [.inl 1] = SH.take 114 := by decide +kernel
theorem tl_113 : (SH.take 113).length = 113 := by decide +kernel
theorem tk_114 : SH.take 114 ++ [.inl 5] = SH.take 115 := by decide +kernel
theorem tl_114 : (SH.take 114).length = 114 := by decide +kernel
theorem tk_115 : SH.take 115 ++ [.inr (2, 384)] = SH.take 116 := by decide +kernel
theorem tl_115 : (SH.take 115).length = 115 := by decide +kernel
theorem tk_116 : SH.take 116 ++ [.inr (1, 32)] = SH.take 117 := by decide +kernel
theorem tl_116 : (SH.take 116).length = 116 := by decide +kernel
theorem tk_117 : SH.take 117 ++ [.inl 2] = SH.take 118 := by decide +kernel
theorem tl_117 : (SH.take 117).length = 117 := by decide +kernel
theorem tk_118 : SH.take 118 ++ [.inr (1, 9)] = SH.take 119 := by decide +kernel
theorem tl_118 : (SH.take 118).length = 118 := by decide +kernel
theorem tk_119 : SH.take 119 ++ [.inr (2, 25)] = SH.take 120 := by decide +kernel
theorem tl_119 : (SH.take 119).length = 119 := by decide +kernel
theorem tk_120 : SH.take 120 ++ [.inr (2, 8)] = SH.take 121 := by decide +kernel
theorem tl_120 : (SH.take 120).length = 120 := by decide +kernel
theorem tk_121 : SH.take 121 ++ [.inl 8] = SH.take 122 := by decide +kernel
theorem tl_121 : (SH.take 121).length = 121 := by decide +kernel
theorem tk_122 : SH.take 122 ++ [.inr (1, 240)] = SH.take 123 := by decide +kernel
theorem tl_122 : (SH.take 122).length = 122 := by decide +kernel
theorem tk_123 : SH.take 123 ++ [.inr (1, 25)] = SH.take 124 := by decide +kernel
theorem tl_123 : (SH.take 123).length = 123 := by decide +kernel
theorem tk_124 : SH.take 124 ++ [.inr (1, 25)] = SH.take 125 := by decide +kernel
theorem tl_124 : (SH.take 124).length = 124 := by decide +kernel
theorem tk_125 : SH.take 125 ++ [.inr (1, 25)] = SH.take 126 := by decide +kernel
theorem tl_125 : (SH.take 125).length = 125 := by decide +kernel
theorem tk_126 : SH.take 126 ++ [.inr (1, 25)] = SH.take 127 := by decide +kernel
theorem tl_126 : (SH.take 126).length = 126 := by decide +kernel
theorem tk_127 : SH.take 127 ++ [.inr (1, 25)] = SH.take 128 := by decide +kernel
theorem tl_127 : (SH.take 127).length = 127 := by decide +kernel
theorem tk_128 : SH.take 128 ++ [.inr (1, 25)] = SH.take 129 := by decide +kernel
theorem tl_128 : (SH.take 128).length = 128 := by decide +kernel
theorem tk_129 : SH.take 129 ++ [.inr (1, 25)] = SH.take 130 := by decide +kernel
theorem tl_129 : (SH.take 129).length = 129 := by decide +kernel
theorem tk_130 : SH.take 130 ++ [.inr (1, 125)] = SH.take 131 := by decide +kernel
theorem tl_130 : (SH.take 130).length = 130 := by decide +kernel
theorem tk_131 : SH.take 131 ++ [.inr (1, 1000)] = SH.take 132 := by decide +kernel
theorem tl_131 : (SH.take 131).length = 131 := by decide +kernel
theorem tk_132 : SH.take 132 ++ [.inr (1, 25)] = SH.take 133 := by decide +kernel
theorem tl_132 : (SH.take 132).length = 132 := by decide +kernel
theorem tk_133 : SH.take 133 ++ [.inr (1, 25)] = SH.take 134 := by decide +kernel
theorem tl_133 : (SH.take 133).length = 133 := by decide +kernel
theorem tk_134 : SH.take 134 ++ [.inr (1, 25)] = SH.take 135 := by decide +kernel
theorem tl_134 : (SH.take 134).length = 134 := by decide +kernel
theorem tk_135 : SH.take 135 ++ [.inr (1, 25)] = SH.take 136 := by decide +kernel
theorem tl_135 : (SH.take 135).length = 135 := by decide +kernel
theorem tk_136 : SH.take 136 ++ [.inr (1, 25)] = SH.take 137 := by decide +kernel
theorem tl_136 : (SH.take 136).length = 136 := by decide +kernel
theorem tk_137 : SH.take 137 ++ [.inr (1, 25)] = SH.take 138 := by decide +kernel
theorem tl_137 : (SH.take 137).length = 137 := by decide +kernel
theorem tk_138 : SH.take 138 ++ [.inr (1, 25)] = SH.take 139 := by decide +kernel
theorem tl_138 : (SH.take 138).length = 138 := by decide +kernel
theorem tk_139 : SH.take 139 ++ [.inr (1, 125)] = SH.take 140 := by decide +kernel
theorem tl_139 : (SH.take 139).length = 139 := by decide +kernel
theorem tk_140 : SH.take 140 ++ [.inr (1, 1000)] = SH.take 141 := by decide +kernel
theorem tl_140 : (SH.take 140).length = 140 := by decide +kernel
theorem tk_141 : SH.take 141 ++ [.inr (1, 240)] = SH.take 142 := by decide +kernel
theorem tl_141 : (SH.take 141).length = 141 := by decide +kernel
theorem tk_142 : SH.take 142 ++ [.inr (1, 240)] = SH.take 143 := by decide +kernel
theorem tl_142 : (SH.take 142).length = 142 := by decide +kernel
theorem tk_143 : SH.take 143 ++ [.inr (1, 300)] = SH.take 144 := by decide +kernel
theorem tl_143 : (SH.take 143).length = 143 := by decide +kernel
theorem tk_144 : SH.take 144 ++ [.inr (1, 32)] = SH.take 145 := by decide +kernel
theorem tl_144 : (SH.take 144).length = 144 := by decide +kernel
theorem tk_145 : SH.take 145 ++ [.inr (1, 384)] = SH.take 146 := by decide +kernel
theorem tl_145 : (SH.take 145).length = 145 := by decide +kernel
theorem tk_146 : SH.take 146 ++ [.inr (1, 3072)] = SH.take 147 := by decide +kernel
theorem tl_146 : (SH.take 146).length = 146 := by decide +kernel
theorem tk_147 : SH.take 147 ++ [.inr (1, 81)] = SH.take 148 := by decide +kernel
theorem tl_147 : (SH.take 147).length = 147 := by decide +kernel
theorem tk_148 : SH.take 148 ++ [.inr (3, 25)] = SH.take 149 := by decide +kernel
theorem tl_148 : (SH.take 148).length = 148 := by decide +kernel
theorem tk_149 : SH.take 149 ++ [.inr (2, 25)] = SH.take 150 := by decide +kernel
theorem tl_149 : (SH.take 149).length = 149 := by decide +kernel
theorem tk_150 : SH.take 150 ++ [.inr (1, 25)] = SH.take 151 := by decide +kernel
theorem tl_150 : (SH.take 150).length = 150 := by decide +kernel
theorem tk_151 : SH.take 151 ++ [.inr (3, 8)] = SH.take 152 := by decide +kernel
theorem tl_151 : (SH.take 151).length = 151 := by decide +kernel
theorem tk_152 : SH.take 152 ++ [.inr (2, 8)] = SH.take 153 := by decide +kernel
theorem tl_152 : (SH.take 152).length = 152 := by decide +kernel
theorem tk_153 : SH.take 153 ++ [.inr (2, 1)] = SH.take 154 := by decide +kernel
theorem tl_153 : (SH.take 153).length = 153 := by decide +kernel
set_option maxRecDepth 100000 in
set_option maxHeartbeats 4000000 in
theorem cX5_init_ (E : GE) (M : Mem) : Sp E mX5_init 1 1 240 [.ref 111] (SH.take 112) M (fun v sh1 M1 => v = none ∧ sh1 = SH.take 113 ∧ fR M1 111 0 = some 112 ∧ fI M1 111 1 = -1 ∧ ∀ p, p < 111 → EqP M M1 p) := by
  refine sp_of iX5_init.1 rfl (Nat.le_of_ble_eq_true rfl) ?_
  refine wp_aload_n dX5_init_0 rfl ?_
  refine wp_objInit dX5_init_1 ml_X5_3 oI1 oI2 (Nat.le_of_ble_eq_true rfl) (Nat.le_of_ble_eq_true rfl) ?_
  refine wp_aload_n dX5_init_4 rfl ?_
  refine wp_sipush (v := 240) dX5_init_5 (by decide) ?_
  refine wp_newarray (t := 0) (N := 240) dX5_init_8 rfl (fun _ => rfl) aw0 (hcI (by decide) (by decide) rfl) (by decide) (by decide) (by decide) (by decide) (Nat.le_of_ble_eq_true rfl) (Nat.le_of_ble_eq_true rfl) (Nat.le_of_ble_eq_true rfl) ?_
  rw [tl_112, tk_112]
  refine wp_putFR dX5_init_10 fl_X5_9 rfl rfl (fun _ _ _ h => by cases h; exact ⟨rfl, rfl⟩) rfl (fun _ => rfl) (fun _ => rfl) ?_
  refine wp_aload_n dX5_init_13 rfl ?_
  refine wp_iconst (v := (-1)) dX5_init_14 rfl ?_
  refine wp_putI dX5_init_15 fl_X5_15 rfl rfl (fun _ _ _ h => by cases h; rfl) rfl rfl ?_
  refine wp_ret0 dX5_init_18 rfl (Nat.le_of_ble_eq_true rfl) (Nat.le_of_ble_eq_true rfl) ?_
  refine ⟨rfl, rfl, ?_, ?_, fun p hp => ?_⟩
  · rfl
  · rfl
  · exact ((EqP.rf.cl0 (by omega)).sR (by omega)).sI (by omega)
set_option maxRecDepth 100000 in
set_option maxHeartbeats 4000000 in
theorem cX6_init_ (E : GE) (M : Mem) : Sp E mX6_init 1 2 416 [.ref 114] (SH.take 115) M (fun v sh1 M1 => v = none ∧ sh1 = SH.take 117 ∧ fR M1 114 0 = some 115 ∧ fR M1 114 1 = some 116 ∧ (∀ r, aI M1 116 r = 0) ∧ ∀ p, p < 114 → EqP M M1 p) := by
  refine sp_of iX6_init.1 rfl (Nat.le_of_ble_eq_true rfl) ?_
  refine wp_aload_n dX6_init_0 rfl ?_
  refine wp_objInit dX6_init_1 ml_X6_3 oI1 oI2 (Nat.le_of_ble_eq_true rfl) (Nat.le_of_ble_eq_true rfl) ?_
  refine wp_aload_n dX6_init_4 rfl ?_
  refine wp_sipush (v := 384) dX6_init_5 (by decide) ?_
  refine wp_newarray (t := 2) (N := 384) dX6_init_8 rfl (fun _ => rfl) aw2 hcLo (by decide) (by decide) (by decide) (by decide) (Nat.le_of_ble_eq_true rfl) (Nat.le_of_ble_eq_true rfl) (Nat.le_of_ble_eq_true rfl) ?_
  rw [tl_115, tk_115]
  refine wp_putFR dX6_init_10 fl_X6_9 rfl rfl (fun _ _ _ h => by cases h; exact ⟨rfl, rfl⟩) rfl (fun _ => rfl) (fun _ => rfl) ?_
  refine wp_aload_n dX6_init_13 rfl ?_
  refine wp_bipush (v := 32) dX6_init_14 (by decide) ?_
  refine wp_newarray (t := 1) (N := 32) dX6_init_16 rfl (fun _ => rfl) aw1 (hcI (by decide) (by decide) rfl) (by decide) (by decide) (by decide) (by decide) (Nat.le_of_ble_eq_true rfl) (Nat.le_of_ble_eq_true rfl) (Nat.le_of_ble_eq_true rfl) ?_
  rw [tl_116, tk_116]
  refine wp_putFR dX6_init_18 fl_X6_15 rfl rfl (fun _ _ _ h => by cases h; exact ⟨rfl, rfl⟩) rfl (fun _ => rfl) (fun _ => rfl) ?_
  refine wp_ret0 dX6_init_21 rfl (Nat.le_of_ble_eq_true rfl) (Nat.le_of_ble_eq_true rfl) ?_
  refine ⟨rfl, rfl, rfl, rfl, fun r => rfl, fun p hp => ?_⟩
  exact (((EqP.rf.cl0 (by omega)).sR (by omega)).cl0 (by omega)).sR (by omega)
set_option maxRecDepth 100000 in
set_option maxHeartbeats 4000000 in
theorem cX3_init_ (E : GE) (M : Mem) : Sp E mX3_init 1 1 9 [.ref 117] (SH.take 118) M (fun v sh1 M1 => v = none ∧ sh1 = SH.take 119 ∧ fR M1 117 0 = some 118 ∧ ∀ p, p < 117 → EqP M M1 p) := by
  refine sp_of iX3_init.1 rfl (Nat.le_of_ble_eq_true rfl) ?_
  refine wp_aload_n dX3_init_0 rfl ?_
  refine wp_objInit dX3_init_1 ml_X3_3 oI1 oI2 (Nat.le_of_ble_eq_true rfl) (Nat.le_of_ble_eq_true rfl) ?_
  refine wp_aload_n dX3_init_4 rfl ?_
  refine wp_bipush (v := 9) dX3_init_5 (by decide) ?_
  refine wp_newarray (t := 1) (N := 9) dX3_init_7 rfl (fun _ => rfl) aw1 (hcI (by decide) (by decide) rfl) (by decide) (by decide) (by decide) (by decide) (Nat.le_of_ble_eq_true rfl) (Nat.le_of_ble_eq_true rfl) (Nat.le_of_ble_eq_true rfl) ?_
  rw [tl_118, tk_118]
  refine wp_putFR dX3_init_9 fl_X3_9 rfl rfl (fun _ _ _ h => by cases h; exact ⟨rfl, rfl⟩) rfl (fun _ => rfl) (fun _ => rfl) ?_
  refine wp_ret0 dX3_init_12 rfl (Nat.le_of_ble_eq_true rfl) (Nat.le_of_ble_eq_true rfl) ?_
  refine ⟨rfl, rfl, rfl, fun p hp => ?_⟩
  exact (EqP.rf.cl0 (by omega)).sR (by omega)
set_option maxRecDepth 100000 in
set_option maxHeartbeats 4000000 in
theorem cX1_init_ (E : GE) (M : Mem) : Sp E mX1_init 2 6 453 [.ref 113] (SH.take 114) M (fun v sh1 M1 => v = none ∧ sh1 = SH.take 120 ∧ (fR M1 113 0 = some 114 ∧ fR M1 113 1 = some 117 ∧ fR M1 113 2 = some 119 ∧ fR M1 114 0 = some 115 ∧ fR M1 114 1 = some 116 ∧ fR M1 117 0 = some 118 ∧ ∀ r, aI M1 116 r = 0) ∧ ∀ p, p < 113 → EqP M M1 p) := by
  refine sp_of iX1_init.1 rfl (Nat.le_of_ble_eq_true rfl) ?_
  refine wp_aload_n dX1_init_0 rfl ?_
  refine wp_objInit dX1_init_1 ml_X1_3 oI1 oI2 (Nat.le_of_ble_eq_true rfl) (Nat.le_of_ble_eq_true rfl) ?_
  refine wp_aload_n dX1_init_4 rfl ?_
  refine wp_new (ci := 5) (Cn := RX6) (T := TX6) (N := 2) dX1_init_5 rfl cl_X1_9 in_X6 ii_X6 (Nat.le_of_ble_eq_true rfl) (Nat.le_of_ble_eq_true rfl) (Nat.le_of_ble_eq_true rfl) ?_
  rw [tl_114, tk_114]
  refine wp_dup dX1_init_8 rfl ?_
  refine wp_cN0p dX1_init_9 (List.mem_of_getElem? (i := 5) rfl) iX6_init (cX6_init_ E _) (Nat.le_of_ble_eq_true rfl) (Nat.le_of_ble_eq_true rfl) (Nat.le_of_ble_eq_true rfl) (Nat.le_of_ble_eq_true rfl) (Nat.le_of_ble_eq_true rfl) (fun v sh1 M2 hqq => ?_)
  obtain ⟨rfl, rfl, s1, s2, s3, s4⟩ := hqq
  refine wp_putFR dX1_init_12 fl_X1_12 rfl rfl (fun _ _ _ h => by cases h; exact ⟨rfl, rfl⟩) rfl (fun _ => rfl) (fun _ => rfl) ?_
  refine wp_aload_n dX1_init_15 rfl ?_
  refine wp_new (ci := 2) (Cn := RX3) (T := TX3) (N := 1) dX1_init_16 rfl cl_X1_18 in_X3 ii_X3 (Nat.le_of_ble_eq_true rfl) (Nat.le_of_ble_eq_true rfl) (Nat.le_of_ble_eq_true rfl) ?_
  rw [tl_117, tk_117]
  refine wp_dup dX1_init_19 rfl ?_
  refine wp_cN0p dX1_init_20 (List.mem_of_getElem? (i := 6) rfl) iX3_init (cX3_init_ E _) (Nat.le_of_ble_eq_true rfl) (Nat.le_of_ble_eq_true rfl) (Nat.le_of_ble_eq_true rfl) (Nat.le_of_ble_eq_true rfl) (Nat.le_of_ble_eq_true rfl) (fun v sh1 M3 hqq => ?_)
  obtain ⟨rfl, rfl, l1, l2⟩ := hqq
  refine wp_putFR dX1_init_23 fl_X1_21 rfl rfl (fun _ _ _ h => by cases h; exact ⟨rfl, rfl⟩) rfl (fun _ => rfl) (fun _ => rfl) ?_
  refine wp_aload_n dX1_init_26 rfl ?_
  refine wp_bipush (v := 25) dX1_init_27 (by decide) ?_
  refine wp_newarray (t := 2) (N := 25) dX1_init_29 rfl (fun _ => rfl) aw2 hcLo (by decide) (by decide) (by decide) (by decide) (Nat.le_of_ble_eq_true rfl) (Nat.le_of_ble_eq_true rfl) (Nat.le_of_ble_eq_true rfl) ?_
  rw [tl_119, tk_119]
  refine wp_putFR dX1_init_31 fl_X1_25 rfl rfl (fun _ _ _ h => by cases h; exact ⟨rfl, rfl⟩) rfl (fun _ => rfl) (fun _ => rfl) ?_
  refine wp_ret0 dX1_init_34 rfl (Nat.le_of_ble_eq_true rfl) (Nat.le_of_ble_eq_true rfl) ?_
  have e3 : ∀ p, p ≠ 113 → p < 117 → EqP M2 M3 p := fun p h1 h2 => ((EqP.rf.sR h1).cl0 (by omega)).tr (l2 p h2)
  have e4 : ∀ p, p ≠ 113 → p < 119 → EqP M3 (sR (cl0 (sR M3 113 1 (some 117)) 119) 113 2 (some 119)) p := fun p h1 h2 => ((EqP.rf.sR h1).cl0 (by omega)).sR h1
  have z : fR M3 113 0 = some 114 := ((l2 113 (by decide)).2.1 0).trans rfl
  refine ⟨rfl, rfl, ⟨z, rfl, rfl, ?_, ?_, ?_, fun r => ?_⟩, fun p hp => ?_⟩
  · exact (((e3 114 (by decide) (by decide)).tr (e4 114 (by decide) (by decide))).2.1 0).trans s1
  · exact (((e3 114 (by decide) (by decide)).tr (e4 114 (by decide) (by decide))).2.1 1).trans s2
  · exact ((e4 117 (by decide) (by decide)).2.1 0).trans l1
  · exact (((e3 116 (by decide) (by decide)).tr (e4 116 (by decide) (by decide))).2.2.1 r).trans (s3 r)
  · exact ((((EqP.rf.cl0 (show p ≠ 114 by omega)).tr (s4 p (by omega))).tr (e3 p (by omega) (by omega))).tr (e4 p (by omega) (by omega)))
set_option maxRecDepth 100000 in
set_option maxHeartbeats 4000000 in
theorem cX4_init_ (E : GE) (M : Mem) : Sp E mX4_init 3 54 365 [.ref 56] (SH.take 57) M (fun v sh1 M1 => v = none ∧ sh1 = SH.take 111 ∧ fR M1 56 0 = some 57 ∧ rcTr M1 57 ∧ ∀ p, p < 56 → EqP M M1 p) := by
  refine sp_of iX4_init.1 rfl (Nat.le_of_ble_eq_true rfl) ?_
  refine wp_aload_n dX4_init_0 rfl ?_
  refine wp_objInit dX4_init_1 ml_X4_3 oI1 oI2 (Nat.le_of_ble_eq_true rfl) (Nat.le_of_ble_eq_true rfl) ?_
  refine wp_aload_n dX4_init_4 rfl ?_
  refine wp_new (ci := 6) (Cn := RX7) (T := TX7) (N := 2) dX4_init_5 rfl cl_X4_9 in_X7 ii_X7 (Nat.le_of_ble_eq_true rfl) (Nat.le_of_ble_eq_true rfl) (Nat.le_of_ble_eq_true rfl) ?_
  rw [tl_57, tk_57]
  refine wp_dup dX4_init_8 rfl ?_
  refine wp_cI0p dX4_init_9 ml_X4_11 iX7_init (cX7_init_ E 57 (SH.take 58) _ rfl rfl (by decide)) (Nat.le_of_ble_eq_true rfl) (Nat.le_of_ble_eq_true rfl) (Nat.le_of_ble_eq_true rfl) (Nat.le_of_ble_eq_true rfl) (Nat.le_of_ble_eq_true rfl) (fun v sh1 M2 hqq => ?_)
  obtain ⟨rfl, rfl, t1, t2, t3⟩ := hqq
  rw [tk_t57]
  refine wp_putR dX4_init_12 fl_X4_12 rfl rfl (fun _ _ _ h => by cases h; rfl) (fun _ => rfl) (fun _ => rfl) ?_
  refine wp_aload_n dX4_init_15 rfl ?_
  refine wp_iconst (v := 0) dX4_init_16 rfl ?_
  refine wp_putI dX4_init_17 fl_X4_18 rfl rfl (fun _ _ _ h => by cases h; rfl) rfl rfl ?_
  refine wp_aload_n dX4_init_20 rfl ?_
  refine wp_iconst (v := 0) dX4_init_21 rfl ?_
  refine wp_putI dX4_init_22 fl_X4_22 rfl rfl (fun _ _ _ h => by cases h; rfl) rfl rfl ?_
  refine wp_aload_n dX4_init_25 rfl ?_
  refine wp_iconst (v := 0) dX4_init_26 rfl ?_
  refine wp_putI dX4_init_27 fl_X4_25 rfl rfl (fun _ _ _ h => by cases h; rfl) rfl rfl ?_
  refine wp_aload_n dX4_init_30 rfl ?_
  refine wp_new (ci := 0) (Cn := RX0) (T := TX0) (N := 8) dX4_init_31 rfl cl_X4_28 in_X0 ii_X0 (Nat.le_of_ble_eq_true rfl) (Nat.le_of_ble_eq_true rfl) (Nat.le_of_ble_eq_true rfl) ?_
  rw [tl_109, tk_109]
  refine wp_dup dX4_init_34 rfl ?_
  refine wp_cN0p dX4_init_35 (List.mem_of_getElem? (i := 2) rfl) iX0_init (cX0_init_ E 109 (SH.take 110) _ rfl (by decide)) (Nat.le_of_ble_eq_true rfl) (Nat.le_of_ble_eq_true rfl) (Nat.le_of_ble_eq_true rfl) (Nat.le_of_ble_eq_true rfl) (Nat.le_of_ble_eq_true rfl) (fun v sh1 M3 hqq => ?_)
  obtain ⟨rfl, rfl, c1, c2⟩ := hqq
  rw [tl_110] at c1 c2
  rw [tk_110]
  refine wp_putR dX4_init_38 fl_X4_31 rfl rfl (fun _ _ _ h => by cases h; rfl) (fun _ => rfl) (fun _ => rfl) ?_
  refine wp_aload_n dX4_init_41 rfl ?_
  refine wp_iconst (v := 0) dX4_init_42 rfl ?_
  refine wp_putI dX4_init_43 fl_X4_35 rfl rfl (fun _ _ _ h => by cases h; rfl) rfl rfl ?_
  refine wp_aload_n dX4_init_46 rfl ?_
  refine wp_iconst (v := 0) dX4_init_47 rfl ?_
  refine wp_putI dX4_init_48 fl_X4_38 rfl rfl (fun _ _ _ h => by cases h; rfl) rfl rfl ?_
  refine wp_aload_n dX4_init_51 rfl ?_
  refine wp_iconst (v := 1) dX4_init_52 rfl ?_
  refine wp_putI dX4_init_53 fl_X4_41 rfl rfl (fun _ _ _ h => by cases h; rfl) rfl rfl ?_
  refine wp_ret0 dX4_init_56 rfl (Nat.le_of_ble_eq_true rfl) (Nat.le_of_ble_eq_true rfl) ?_
  have e3 : ∀ p, p ≠ 56 → p < 109 → EqP M2 M3 p := fun p h1 h2 => (((((EqP.rf.sR h1).sI h1).sI h1).sI h1).cl0 (by omega)).tr (c2 p (by omega) (by omega))
  have e4 : ∀ p, p ≠ 56 → p < 109 → EqP M3 (sI (sI (sI (sR M3 56 4 (some 109)) 56 5 0) 56 6 0) 56 7 1) p := fun p h1 h2 => (((EqP.rf.sR h1).sI h1).sI h1).sI h1
  have z : fR M3 56 0 = some 57 := ((c2 56 (by decide) (by decide)).2.1 0).trans rfl
  refine ⟨rfl, rfl, z, rcTr_eq t1 (fun p h1 h2 => (e3 p (by omega) (by omega)).tr (e4 p (by omega) (by omega))), fun p hp => ?_⟩
  exact (((EqP.rf.cl0 (show p ≠ 57 by omega)).tr (t3 p (by omega))).tr (e3 p (by omega) (by omega))).tr (e4 p (by omega) (by omega))
set_option maxRecDepth 100000 in
set_option maxHeartbeats 4000000 in
theorem cX8_init_ (E : GE) (nd : Nat → ND) (M : Mem) : Sp E mX8_init 4 120 2151 [.ref 0] (SH.take 1) M (fun v sh1 M1 => v = none ∧ sh1 = SH.take 121 ∧ RC M1 [] [] (0, nd) none (fun _ => []) ∧ ∀ p, p < 0 → EqP M M1 p) := by
  refine sp_of iX8_init.1 rfl (Nat.le_of_ble_eq_true rfl) ?_
  refine wp_aload_n dX8_init_0 rfl ?_
  refine wp_objInit dX8_init_1 ml_X8_1 oI1 oI2 (Nat.le_of_ble_eq_true rfl) (Nat.le_of_ble_eq_true rfl) ?_
  refine wp_aload_n dX8_init_4 rfl ?_
  refine wp_sipush (v := 240) dX8_init_5 (by decide) ?_
  refine wp_newarray (t := 0) (N := 240) dX8_init_8 rfl (fun _ => rfl) aw0 (hcI (by decide) (by decide) rfl) (by decide) (by decide) (by decide) (by decide) (Nat.le_of_ble_eq_true rfl) (Nat.le_of_ble_eq_true rfl) (Nat.le_of_ble_eq_true rfl) ?_
  rw [tl_1, tk_1]
  refine wp_putFR dX8_init_10 fl_X8_9 rfl rfl (fun _ _ _ h => by cases h; exact ⟨rfl, rfl⟩) rfl (fun _ => rfl) (fun _ => rfl) ?_
  refine wp_aload_n dX8_init_13 rfl ?_
  refine wp_iconst (v := 0) dX8_init_14 rfl ?_
  refine wp_putI dX8_init_15 fl_X8_13 rfl rfl (fun _ _ _ h => by cases h; rfl) rfl rfl ?_
  refine wp_aload_n dX8_init_18 rfl ?_
  refine wp_sipush (v := 240) dX8_init_19 (by decide) ?_
  refine wp_newarray (t := 1) (N := 240) dX8_init_22 rfl (fun _ => rfl) aw1 (hcI (by decide) (by decide) rfl) (by decide) (by decide) (by decide) (by decide) (Nat.le_of_ble_eq_true rfl) (Nat.le_of_ble_eq_true rfl) (Nat.le_of_ble_eq_true rfl) ?_
  rw [tl_2, tk_2]
  refine wp_putFR dX8_init_24 fl_X8_17 rfl rfl (fun _ _ _ h => by cases h; exact ⟨rfl, rfl⟩) rfl (fun _ => rfl) (fun _ => rfl) ?_
  refine wp_aload_n dX8_init_27 rfl ?_
  refine wp_sipush (v := 240) dX8_init_28 (by decide) ?_
  refine wp_newarray (t := 1) (N := 240) dX8_init_31 rfl (fun _ => rfl) aw1 (hcI (by decide) (by decide) rfl) (by decide) (by decide) (by decide) (by decide) (Nat.le_of_ble_eq_true rfl) (Nat.le_of_ble_eq_true rfl) (Nat.le_of_ble_eq_true rfl) ?_
  rw [tl_3, tk_3]
  refine wp_putFR dX8_init_33 fl_X8_21 rfl rfl (fun _ _ _ h => by cases h; exact ⟨rfl, rfl⟩) rfl (fun _ => rfl) (fun _ => rfl) ?_
  refine wp_aload_n dX8_init_36 rfl ?_
  refine wp_iconst (v := 0) dX8_init_37 rfl ?_
  refine wp_putI dX8_init_38 fl_X8_24 rfl rfl (fun _ _ _ h => by cases h; rfl) rfl rfl ?_
  refine wp_aload_n dX8_init_41 rfl ?_
  refine wp_new (ci := 6) (Cn := RX7) (T := TX7) (N := 2) dX8_init_42 rfl cl_X8_27 in_X7 ii_X7 (Nat.le_of_ble_eq_true rfl) (Nat.le_of_ble_eq_true rfl) (Nat.le_of_ble_eq_true rfl) ?_
  rw [tl_4, tk_4]
  refine wp_dup dX8_init_45 rfl ?_
  refine wp_cI0p dX8_init_46 ml_X8_29 iX7_init (cX7_init_ E 4 (SH.take 5) _ rfl rfl (by decide)) (Nat.le_of_ble_eq_true rfl) (Nat.le_of_ble_eq_true rfl) (Nat.le_of_ble_eq_true rfl) (Nat.le_of_ble_eq_true rfl) (Nat.le_of_ble_eq_true rfl) (fun v sh1 M2 hqq => ?_)
  obtain ⟨rfl, rfl, t1, t2, t3⟩ := hqq
  rw [tk_t4]
  refine wp_putR dX8_init_49 fl_X8_30 rfl rfl (fun _ _ _ h => by cases h; rfl) (fun _ => rfl) (fun _ => rfl) ?_
  refine wp_aload_n dX8_init_52 rfl ?_
  refine wp_new (ci := 3) (Cn := RX4) (T := TX4) (N := 8) dX8_init_53 rfl cl_X8_34 in_X4 ii_X4 (Nat.le_of_ble_eq_true rfl) (Nat.le_of_ble_eq_true rfl) (Nat.le_of_ble_eq_true rfl) ?_
  rw [tl_56, tk_56]
  refine wp_dup dX8_init_56 rfl ?_
  refine wp_cN0p dX8_init_57 (List.mem_of_getElem? (i := 1) rfl) iX4_init (cX4_init_ E _) (Nat.le_of_ble_eq_true rfl) (Nat.le_of_ble_eq_true rfl) (Nat.le_of_ble_eq_true rfl) (Nat.le_of_ble_eq_true rfl) (Nat.le_of_ble_eq_true rfl) (fun v sh1 M3 hqq => ?_)
  obtain ⟨rfl, rfl, r1, r2, r3⟩ := hqq
  refine wp_putFR dX8_init_60 fl_X8_37 rfl rfl (fun _ _ _ h => by cases h; exact ⟨rfl, rfl⟩) rfl (fun _ => rfl) (fun _ => rfl) ?_
  refine wp_aload_n dX8_init_63 rfl ?_
  refine wp_new (ci := 4) (Cn := RX5) (T := TX5) (N := 2) dX8_init_64 rfl cl_X8_41 in_X5 ii_X5 (Nat.le_of_ble_eq_true rfl) (Nat.le_of_ble_eq_true rfl) (Nat.le_of_ble_eq_true rfl) ?_
  rw [tl_111, tk_111]
  refine wp_dup dX8_init_67 rfl ?_
  refine wp_cN0p dX8_init_68 (List.mem_of_getElem? (i := 3) rfl) iX5_init (cX5_init_ E _) (Nat.le_of_ble_eq_true rfl) (Nat.le_of_ble_eq_true rfl) (Nat.le_of_ble_eq_true rfl) (Nat.le_of_ble_eq_true rfl) (Nat.le_of_ble_eq_true rfl) (fun v sh1 M4 hqq => ?_)
  obtain ⟨rfl, rfl, s1, s2, s3⟩ := hqq
  refine wp_putFR dX8_init_71 fl_X8_44 rfl rfl (fun _ _ _ h => by cases h; exact ⟨rfl, rfl⟩) rfl (fun _ => rfl) (fun _ => rfl) ?_
  refine wp_aload_n dX8_init_74 rfl ?_
  refine wp_new (ci := 1) (Cn := RX1) (T := TX1) (N := 3) dX8_init_75 rfl cl_X8_48 in_X1 ii_X1 (Nat.le_of_ble_eq_true rfl) (Nat.le_of_ble_eq_true rfl) (Nat.le_of_ble_eq_true rfl) ?_
  rw [tl_113, tk_113]
  refine wp_dup dX8_init_78 rfl ?_
  refine wp_cN0p dX8_init_79 (List.mem_of_getElem? (i := 4) rfl) iX1_init (cX1_init_ E _) (Nat.le_of_ble_eq_true rfl) (Nat.le_of_ble_eq_true rfl) (Nat.le_of_ble_eq_true rfl) (Nat.le_of_ble_eq_true rfl) (Nat.le_of_ble_eq_true rfl) (fun v sh1 M5 hqq => ?_)
  obtain ⟨rfl, rfl, ⟨j1, j2, j3, j4, j5, j6, j7⟩, j8⟩ := hqq
  refine wp_putFR dX8_init_82 fl_X8_51 rfl rfl (fun _ _ _ h => by cases h; exact ⟨rfl, rfl⟩) rfl (fun _ => rfl) (fun _ => rfl) ?_
  refine wp_aload_n dX8_init_85 rfl ?_
  refine wp_bipush (v := 8) dX8_init_86 (by decide) ?_
  refine wp_newarray (t := 2) (N := 8) dX8_init_88 rfl (fun _ => rfl) aw2 hcLo (by decide) (by decide) (by decide) (by decide) (Nat.le_of_ble_eq_true rfl) (Nat.le_of_ble_eq_true rfl) (Nat.le_of_ble_eq_true rfl) ?_
  rw [tl_120, tk_120]
  refine wp_putFR dX8_init_90 fl_X8_55 rfl rfl (fun _ _ _ h => by cases h; exact ⟨rfl, rfl⟩) rfl (fun _ => rfl) (fun _ => rfl) ?_
  refine wp_ret0 dX8_init_93 rfl (Nat.le_of_ble_eq_true rfl) (Nat.le_of_ble_eq_true rfl) ?_
  have e2 : ∀ p, p ≠ 0 → p < 56 → EqP M2 M3 p := fun p h1 h2 => ((EqP.rf.sR h1).cl0 (by omega)).tr (r3 p h2)
  have e3 : ∀ p, p ≠ 0 → p < 111 → EqP M3 M4 p := fun p h1 h2 => ((EqP.rf.sR h1).cl0 (by omega)).tr (s3 p h2)
  have e4 : ∀ p, p ≠ 0 → p < 113 → EqP M4 M5 p := fun p h1 h2 => ((EqP.rf.sR h1).cl0 (by omega)).tr (j8 p h2)
  have e5 : ∀ p, p ≠ 0 → p < 120 → EqP M5 (sR (cl0 (sR M5 0 8 (some 113)) 120) 0 9 (some 120)) p := fun p h1 h2 => ((EqP.rf.sR h1).cl0 (by omega)).sR h1
  have z2 : ∀ g, fR M2 0 g = fR (cl0 (sI (sR (cl0 (sR (cl0 (sI (sR (cl0 M 1) 0 0 (some 1)) 0 1 0) 2) 0 2 (some 2)) 3) 0 3 (some 3)) 0 4 0) 4) 0 g := fun g => (t3 0 (by decide)).2.1 g
  have z3 : ∀ g, fR M3 0 g = fR (cl0 (sR M2 0 5 (some 4)) 56) 0 g := fun g => (r3 0 (by decide)).2.1 g
  have z4 : ∀ g, fR M4 0 g = fR (cl0 (sR M3 0 6 (some 56)) 111) 0 g := fun g => (s3 0 (by decide)).2.1 g
  have z5 : ∀ g, fR M5 0 g = fR (cl0 (sR M4 0 7 (some 111)) 113) 0 g := fun g => (j8 0 (by decide)).2.1 g
  have i5 : ∀ g, fI M5 0 g = fI (cl0 (sI (sR (cl0 (sR (cl0 (sI (sR (cl0 M 1) 0 0 (some 1)) 0 1 0) 2) 0 2 (some 2)) 3) 0 3 (some 3)) 0 4 0) 4) 0 g := fun g => ((((j8 0 (by decide)).1 g).trans (((s3 0 (by decide)).1 g).trans (((r3 0 (by decide)).1 g).trans ((t3 0 (by decide)).1 g)))))
  have f5 : fR M5 0 5 = some 4 := (z5 5).trans ((z4 5).trans ((z3 5).trans rfl))
  have f0 : ∀ g, g ≠ 5 → g ≠ 6 → g ≠ 7 → fR M5 0 g = fR (cl0 (sI (sR (cl0 (sR (cl0 (sI (sR (cl0 M 1) 0 0 (some 1)) 0 1 0) 2) 0 2 (some 2)) 3) 0 3 (some 3)) 0 4 0) 4) 0 g := fun g g5 g6 g7 => by
    rw [z5, fR_cl0, if_neg (by decide), fR_sR, if_neg (fun w => g7 w.2), z4, fR_cl0, if_neg (by decide), fR_sR, if_neg (fun w => g6 w.2), z3, fR_cl0, if_neg (by decide), fR_sR, if_neg (fun w => g5 w.2), z2]
  have f6 : fR M5 0 6 = some 56 := (z5 6).trans ((z4 6).trans rfl)
  have f7 : fR M5 0 7 = some 111 := (z5 7).trans rfl
  have p56 : ∀ p, p ≠ 0 → 56 ≤ p → p < 111 → EqP M3 (sR (cl0 (sR M5 0 8 (some 113)) 120) 0 9 (some 120)) p := fun p h0 h1 h2 => ((e3 p h0 h2).tr (e4 p h0 (by omega))).tr (e5 p h0 (by omega))
  refine ⟨rfl, rfl, ⟨⟨fun x hx => ?_, rcTr_eq t1 (fun p h1 h2 => (e2 p (by omega) (by omega)).tr (((e3 p (by omega) (by omega)).tr (e4 p (by omega) (by omega))).tr (e5 p (by omega) (by omega)))), rcTr_eq r2 (fun p h1 h2 => p56 p (by omega) (by omega) (by omega))⟩, ⟨(i5 1).trans rfl, by decide, fun i hi => absurd hi (Nat.not_lt_zero i)⟩, ⟨(i5 4).trans rfl, by decide, fun i hi => absurd hi (Nat.not_lt_zero i)⟩, ⟨4, f5, ((p56 56 (by decide) (by decide) (by decide)).2.1 0).trans r1, Or.inl rfl, ?_, Nat.zero_le _, fun k hk => absurd hk (Nat.not_lt_zero k)⟩, ⟨?_, fun l hl => by cases hl⟩, fun r hr => ⟨?_, Nat.zero_le _, fun p hp => absurd hp (Nat.not_lt_zero p)⟩⟩, fun p hp => ?_⟩
  · simp only [gCL, List.mem_cons, List.not_mem_nil, or_false] at hx
    rcases hx with rfl | rfl | rfl | rfl | rfl | rfl | rfl | rfl | rfl | rfl | rfl | rfl | rfl | rfl
    · exact (f0 0 (by decide) (by decide) (by decide)).trans rfl
    · exact (f0 2 (by decide) (by decide) (by decide)).trans rfl
    · exact (f0 3 (by decide) (by decide) (by decide)).trans rfl
    · exact f6
    · exact f7
    · rfl
    · rfl
    · exact (((e4 111 (by decide) (by decide)).tr (e5 111 (by decide) (by decide))).2.1 0).trans s1
    · exact ((e5 113 (by decide) (by decide)).2.1 0).trans j1
    · exact ((e5 113 (by decide) (by decide)).2.1 1).trans j2
    · exact ((e5 113 (by decide) (by decide)).2.1 2).trans j3
    · exact ((e5 114 (by decide) (by decide)).2.1 0).trans j4
    · exact ((e5 114 (by decide) (by decide)).2.1 1).trans j5
    · exact ((e5 117 (by decide) (by decide)).2.1 0).trans j6
  · exact (((e2 4 (by decide) (by decide)).tr (((e3 4 (by decide) (by decide)).tr (e4 4 (by decide) (by decide))).tr (e5 4 (by decide) (by decide)))).1 1).trans t2
  · exact (((e4 111 (by decide) (by decide)).tr (e5 111 (by decide) (by decide))).1 1).trans s2
  · exact ((e5 116 (by decide) (by decide)).2.2.1 r).trans (j7 r)
  · exact absurd hp (Nat.not_lt_zero p)
