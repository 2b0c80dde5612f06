/-! ===== the model's constructor ===== -/
set_option maxRecDepth 100000 in
set_option maxHeartbeats 4000000 in
theorem cX9_init_ (E : GE) (nd : Nat → ND) (M : Mem) (hz : ∀ f, fI M 121 f = 0 ∧ fR M 121 f = none) : Sp E mX9_init 1 31 7280 [.ref 121] (SH.take 122) M (fun v sh1 M1 => v = none ∧ sh1 = SH.take 153 ∧ RM M1 [] [] (0, nd) none (fun _ => []) ∧ ∀ p, p < 121 → EqP M M1 p) := by
  refine sp_of iX9_init.1 rfl (Nat.le_of_ble_eq_true rfl) ?_
  refine wp_aload_n dX9_init_0 rfl ?_
  refine wp_objInit dX9_init_1 ml_X9_7 oI1 oI2 (Nat.le_of_ble_eq_true rfl) (Nat.le_of_ble_eq_true rfl) ?_
  refine wp_aload_n dX9_init_4 rfl ?_
  refine wp_sipush (v := 240) dX9_init_5 (by decide) ?_
  refine wp_newarray (t := 1) (N := 240) dX9_init_8 rfl (fun _ => rfl) aw1 (hcI (by decide) (by decide) rfl) (by decide) (by decide) (by decide) (by decide) (Nat.le_of_ble_eq_true rfl) (Nat.le_of_ble_eq_true rfl) (Nat.le_of_ble_eq_true rfl) ?_
  rw [tl_122, tk_122]
  refine wp_putFR dX9_init_10 fl_X9_13 rfl rfl (fun _ _ _ h => by cases h; exact ⟨rfl, rfl⟩) rfl (fun _ => rfl) (fun _ => rfl) ?_
  refine wp_aload_n dX9_init_13 rfl ?_
  refine wp_bipush (v := 25) dX9_init_14 (by decide) ?_
  refine wp_newarray (t := 1) (N := 25) dX9_init_16 rfl (fun _ => rfl) aw1 (hcI (by decide) (by decide) rfl) (by decide) (by decide) (by decide) (by decide) (Nat.le_of_ble_eq_true rfl) (Nat.le_of_ble_eq_true rfl) (Nat.le_of_ble_eq_true rfl) ?_
  rw [tl_123, tk_123]
  refine wp_putFR dX9_init_18 fl_X9_17 rfl rfl (fun _ _ _ h => by cases h; exact ⟨rfl, rfl⟩) rfl (fun _ => rfl) (fun _ => rfl) ?_
  refine wp_aload_n dX9_init_21 rfl ?_
  refine wp_bipush (v := 25) dX9_init_22 (by decide) ?_
  refine wp_newarray (t := 1) (N := 25) dX9_init_24 rfl (fun _ => rfl) aw1 (hcI (by decide) (by decide) rfl) (by decide) (by decide) (by decide) (by decide) (Nat.le_of_ble_eq_true rfl) (Nat.le_of_ble_eq_true rfl) (Nat.le_of_ble_eq_true rfl) ?_
  rw [tl_124, tk_124]
  refine wp_putFR dX9_init_26 fl_X9_20 rfl rfl (fun _ _ _ h => by cases h; exact ⟨rfl, rfl⟩) rfl (fun _ => rfl) (fun _ => rfl) ?_
  refine wp_aload_n dX9_init_29 rfl ?_
  refine wp_bipush (v := 25) dX9_init_30 (by decide) ?_
  refine wp_newarray (t := 1) (N := 25) dX9_init_32 rfl (fun _ => rfl) aw1 (hcI (by decide) (by decide) rfl) (by decide) (by decide) (by decide) (by decide) (Nat.le_of_ble_eq_true rfl) (Nat.le_of_ble_eq_true rfl) (Nat.le_of_ble_eq_true rfl) ?_
  rw [tl_125, tk_125]
  refine wp_putFR dX9_init_34 fl_X9_23 rfl rfl (fun _ _ _ h => by cases h; exact ⟨rfl, rfl⟩) rfl (fun _ => rfl) (fun _ => rfl) ?_
  refine wp_aload_n dX9_init_37 rfl ?_
  refine wp_bipush (v := 25) dX9_init_38 (by decide) ?_
  refine wp_newarray (t := 1) (N := 25) dX9_init_40 rfl (fun _ => rfl) aw1 (hcI (by decide) (by decide) rfl) (by decide) (by decide) (by decide) (by decide) (Nat.le_of_ble_eq_true rfl) (Nat.le_of_ble_eq_true rfl) (Nat.le_of_ble_eq_true rfl) ?_
  rw [tl_126, tk_126]
  refine wp_putFR dX9_init_42 fl_X9_26 rfl rfl (fun _ _ _ h => by cases h; exact ⟨rfl, rfl⟩) rfl (fun _ => rfl) (fun _ => rfl) ?_
  refine wp_aload_n dX9_init_45 rfl ?_
  refine wp_bipush (v := 25) dX9_init_46 (by decide) ?_
  refine wp_newarray (t := 1) (N := 25) dX9_init_48 rfl (fun _ => rfl) aw1 (hcI (by decide) (by decide) rfl) (by decide) (by decide) (by decide) (by decide) (Nat.le_of_ble_eq_true rfl) (Nat.le_of_ble_eq_true rfl) (Nat.le_of_ble_eq_true rfl) ?_
  rw [tl_127, tk_127]
  refine wp_putFR dX9_init_50 fl_X9_29 rfl rfl (fun _ _ _ h => by cases h; exact ⟨rfl, rfl⟩) rfl (fun _ => rfl) (fun _ => rfl) ?_
  refine wp_aload_n dX9_init_53 rfl ?_
  refine wp_bipush (v := 25) dX9_init_54 (by decide) ?_
  refine wp_newarray (t := 1) (N := 25) dX9_init_56 rfl (fun _ => rfl) aw1 (hcI (by decide) (by decide) rfl) (by decide) (by decide) (by decide) (by decide) (Nat.le_of_ble_eq_true rfl) (Nat.le_of_ble_eq_true rfl) (Nat.le_of_ble_eq_true rfl) ?_
  rw [tl_128, tk_128]
  refine wp_putFR dX9_init_58 fl_X9_32 rfl rfl (fun _ _ _ h => by cases h; exact ⟨rfl, rfl⟩) rfl (fun _ => rfl) (fun _ => rfl) ?_
  refine wp_aload_n dX9_init_61 rfl ?_
  refine wp_bipush (v := 25) dX9_init_62 (by decide) ?_
  refine wp_newarray (t := 1) (N := 25) dX9_init_64 rfl (fun _ => rfl) aw1 (hcI (by decide) (by decide) rfl) (by decide) (by decide) (by decide) (by decide) (Nat.le_of_ble_eq_true rfl) (Nat.le_of_ble_eq_true rfl) (Nat.le_of_ble_eq_true rfl) ?_
  rw [tl_129, tk_129]
  refine wp_putFR dX9_init_66 fl_X9_35 rfl rfl (fun _ _ _ h => by cases h; exact ⟨rfl, rfl⟩) rfl (fun _ => rfl) (fun _ => rfl) ?_
  refine wp_aload_n dX9_init_69 rfl ?_
  refine wp_bipush (v := 125) dX9_init_70 (by decide) ?_
  refine wp_newarray (t := 1) (N := 125) dX9_init_72 rfl (fun _ => rfl) aw1 (hcI (by decide) (by decide) rfl) (by decide) (by decide) (by decide) (by decide) (Nat.le_of_ble_eq_true rfl) (Nat.le_of_ble_eq_true rfl) (Nat.le_of_ble_eq_true rfl) ?_
  rw [tl_130, tk_130]
  refine wp_putFR dX9_init_74 fl_X9_38 rfl rfl (fun _ _ _ h => by cases h; exact ⟨rfl, rfl⟩) rfl (fun _ => rfl) (fun _ => rfl) ?_
  refine wp_aload_n dX9_init_77 rfl ?_
  refine wp_sipush (v := 1000) dX9_init_78 (by decide) ?_
  refine wp_newarray (t := 1) (N := 1000) dX9_init_81 rfl (fun _ => rfl) aw1 (hcI (by decide) (by decide) rfl) (by decide) (by decide) (by decide) (by decide) (Nat.le_of_ble_eq_true rfl) (Nat.le_of_ble_eq_true rfl) (Nat.le_of_ble_eq_true rfl) ?_
  rw [tl_131, tk_131]
  refine wp_putFR dX9_init_83 fl_X9_41 rfl rfl (fun _ _ _ h => by cases h; exact ⟨rfl, rfl⟩) rfl (fun _ => rfl) (fun _ => rfl) ?_
  refine wp_aload_n dX9_init_86 rfl ?_
  refine wp_bipush (v := 25) dX9_init_87 (by decide) ?_
  refine wp_newarray (t := 1) (N := 25) dX9_init_89 rfl (fun _ => rfl) aw1 (hcI (by decide) (by decide) rfl) (by decide) (by decide) (by decide) (by decide) (Nat.le_of_ble_eq_true rfl) (Nat.le_of_ble_eq_true rfl) (Nat.le_of_ble_eq_true rfl) ?_
  rw [tl_132, tk_132]
  refine wp_putFR dX9_init_91 fl_X9_44 rfl rfl (fun _ _ _ h => by cases h; exact ⟨rfl, rfl⟩) rfl (fun _ => rfl) (fun _ => rfl) ?_
  refine wp_aload_n dX9_init_94 rfl ?_
  refine wp_bipush (v := 25) dX9_init_95 (by decide) ?_
  refine wp_newarray (t := 1) (N := 25) dX9_init_97 rfl (fun _ => rfl) aw1 (hcI (by decide) (by decide) rfl) (by decide) (by decide) (by decide) (by decide) (Nat.le_of_ble_eq_true rfl) (Nat.le_of_ble_eq_true rfl) (Nat.le_of_ble_eq_true rfl) ?_
  rw [tl_133, tk_133]
  refine wp_putFR dX9_init_99 fl_X9_47 rfl rfl (fun _ _ _ h => by cases h; exact ⟨rfl, rfl⟩) rfl (fun _ => rfl) (fun _ => rfl) ?_
  refine wp_aload_n dX9_init_102 rfl ?_
  refine wp_bipush (v := 25) dX9_init_103 (by decide) ?_
  refine wp_newarray (t := 1) (N := 25) dX9_init_105 rfl (fun _ => rfl) aw1 (hcI (by decide) (by decide) rfl) (by decide) (by decide) (by decide) (by decide) (Nat.le_of_ble_eq_true rfl) (Nat.le_of_ble_eq_true rfl) (Nat.le_of_ble_eq_true rfl) ?_
  rw [tl_134, tk_134]
  refine wp_putFR dX9_init_107 fl_X9_50 rfl rfl (fun _ _ _ h => by cases h; exact ⟨rfl, rfl⟩) rfl (fun _ => rfl) (fun _ => rfl) ?_
  refine wp_aload_n dX9_init_110 rfl ?_
  refine wp_bipush (v := 25) dX9_init_111 (by decide) ?_
  refine wp_newarray (t := 1) (N := 25) dX9_init_113 rfl (fun _ => rfl) aw1 (hcI (by decide) (by decide) rfl) (by decide) (by decide) (by decide) (by decide) (Nat.le_of_ble_eq_true rfl) (Nat.le_of_ble_eq_true rfl) (Nat.le_of_ble_eq_true rfl) ?_
  rw [tl_135, tk_135]
  refine wp_putFR dX9_init_115 fl_X9_53 rfl rfl (fun _ _ _ h => by cases h; exact ⟨rfl, rfl⟩) rfl (fun _ => rfl) (fun _ => rfl) ?_
  refine wp_aload_n dX9_init_118 rfl ?_
  refine wp_bipush (v := 25) dX9_init_119 (by decide) ?_
  refine wp_newarray (t := 1) (N := 25) dX9_init_121 rfl (fun _ => rfl) aw1 (hcI (by decide) (by decide) rfl) (by decide) (by decide) (by decide) (by decide) (Nat.le_of_ble_eq_true rfl) (Nat.le_of_ble_eq_true rfl) (Nat.le_of_ble_eq_true rfl) ?_
  rw [tl_136, tk_136]
  refine wp_putFR dX9_init_123 fl_X9_56 rfl rfl (fun _ _ _ h => by cases h; exact ⟨rfl, rfl⟩) rfl (fun _ => rfl) (fun _ => rfl) ?_
  refine wp_aload_n dX9_init_126 rfl ?_
  refine wp_bipush (v := 25) dX9_init_127 (by decide) ?_
  refine wp_newarray (t := 1) (N := 25) dX9_init_129 rfl (fun _ => rfl) aw1 (hcI (by decide) (by decide) rfl) (by decide) (by decide) (by decide) (by decide) (Nat.le_of_ble_eq_true rfl) (Nat.le_of_ble_eq_true rfl) (Nat.le_of_ble_eq_true rfl) ?_
  rw [tl_137, tk_137]
  refine wp_putFR dX9_init_131 fl_X9_59 rfl rfl (fun _ _ _ h => by cases h; exact ⟨rfl, rfl⟩) rfl (fun _ => rfl) (fun _ => rfl) ?_
  refine wp_aload_n dX9_init_134 rfl ?_
  refine wp_bipush (v := 25) dX9_init_135 (by decide) ?_
  refine wp_newarray (t := 1) (N := 25) dX9_init_137 rfl (fun _ => rfl) aw1 (hcI (by decide) (by decide) rfl) (by decide) (by decide) (by decide) (by decide) (Nat.le_of_ble_eq_true rfl) (Nat.le_of_ble_eq_true rfl) (Nat.le_of_ble_eq_true rfl) ?_
  rw [tl_138, tk_138]
  refine wp_putFR dX9_init_139 fl_X9_62 rfl rfl (fun _ _ _ h => by cases h; exact ⟨rfl, rfl⟩) rfl (fun _ => rfl) (fun _ => rfl) ?_
  refine wp_aload_n dX9_init_142 rfl ?_
  refine wp_bipush (v := 125) dX9_init_143 (by decide) ?_
  refine wp_newarray (t := 1) (N := 125) dX9_init_145 rfl (fun _ => rfl) aw1 (hcI (by decide) (by decide) rfl) (by decide) (by decide) (by decide) (by decide) (Nat.le_of_ble_eq_true rfl) (Nat.le_of_ble_eq_true rfl) (Nat.le_of_ble_eq_true rfl) ?_
  rw [tl_139, tk_139]
  refine wp_putFR dX9_init_147 fl_X9_65 rfl rfl (fun _ _ _ h => by cases h; exact ⟨rfl, rfl⟩) rfl (fun _ => rfl) (fun _ => rfl) ?_
  refine wp_aload_n dX9_init_150 rfl ?_
  refine wp_sipush (v := 1000) dX9_init_151 (by decide) ?_
  refine wp_newarray (t := 1) (N := 1000) dX9_init_154 rfl (fun _ => rfl) aw1 (hcI (by decide) (by decide) rfl) (by decide) (by decide) (by decide) (by decide) (Nat.le_of_ble_eq_true rfl) (Nat.le_of_ble_eq_true rfl) (Nat.le_of_ble_eq_true rfl) ?_
  rw [tl_140, tk_140]
  refine wp_putFR dX9_init_156 fl_X9_68 rfl rfl (fun _ _ _ h => by cases h; exact ⟨rfl, rfl⟩) rfl (fun _ => rfl) (fun _ => rfl) ?_
  refine wp_aload_n dX9_init_159 rfl ?_
  refine wp_sipush (v := 240) dX9_init_160 (by decide) ?_
  refine wp_newarray (t := 1) (N := 240) dX9_init_163 rfl (fun _ => rfl) aw1 (hcI (by decide) (by decide) rfl) (by decide) (by decide) (by decide) (by decide) (Nat.le_of_ble_eq_true rfl) (Nat.le_of_ble_eq_true rfl) (Nat.le_of_ble_eq_true rfl) ?_
  rw [tl_141, tk_141]
  refine wp_putFR dX9_init_165 fl_X9_71 rfl rfl (fun _ _ _ h => by cases h; exact ⟨rfl, rfl⟩) rfl (fun _ => rfl) (fun _ => rfl) ?_
  refine wp_aload_n dX9_init_168 rfl ?_
  refine wp_sipush (v := 240) dX9_init_169 (by decide) ?_
  refine wp_newarray (t := 1) (N := 240) dX9_init_172 rfl (fun _ => rfl) aw1 (hcI (by decide) (by decide) rfl) (by decide) (by decide) (by decide) (by decide) (Nat.le_of_ble_eq_true rfl) (Nat.le_of_ble_eq_true rfl) (Nat.le_of_ble_eq_true rfl) ?_
  rw [tl_142, tk_142]
  refine wp_putFR dX9_init_174 fl_X9_74 rfl rfl (fun _ _ _ h => by cases h; exact ⟨rfl, rfl⟩) rfl (fun _ => rfl) (fun _ => rfl) ?_
  refine wp_aload_n dX9_init_177 rfl ?_
  refine wp_sipush (v := 300) dX9_init_178 (by decide) ?_
  refine wp_newarray (t := 1) (N := 300) dX9_init_181 rfl (fun _ => rfl) aw1 (hcI (by decide) (by decide) rfl) (by decide) (by decide) (by decide) (by decide) (Nat.le_of_ble_eq_true rfl) (Nat.le_of_ble_eq_true rfl) (Nat.le_of_ble_eq_true rfl) ?_
  rw [tl_143, tk_143]
  refine wp_putFR dX9_init_183 fl_X9_77 rfl rfl (fun _ _ _ h => by cases h; exact ⟨rfl, rfl⟩) rfl (fun _ => rfl) (fun _ => rfl) ?_
  refine wp_aload_n dX9_init_186 rfl ?_
  refine wp_iconst (v := (-1)) dX9_init_187 rfl ?_
  refine wp_putI dX9_init_188 fl_X9_80 rfl rfl (fun _ _ _ h => by cases h; rfl) rfl rfl ?_
  refine wp_aload_n dX9_init_191 rfl ?_
  refine wp_bipush (v := 32) dX9_init_192 (by decide) ?_
  refine wp_newarray (t := 1) (N := 32) dX9_init_194 rfl (fun _ => rfl) aw1 (hcI (by decide) (by decide) rfl) (by decide) (by decide) (by decide) (by decide) (Nat.le_of_ble_eq_true rfl) (Nat.le_of_ble_eq_true rfl) (Nat.le_of_ble_eq_true rfl) ?_
  rw [tl_144, tk_144]
  refine wp_putFR dX9_init_196 fl_X9_83 rfl rfl (fun _ _ _ h => by cases h; exact ⟨rfl, rfl⟩) rfl (fun _ => rfl) (fun _ => rfl) ?_
  refine wp_aload_n dX9_init_199 rfl ?_
  refine wp_sipush (v := 384) dX9_init_200 (by decide) ?_
  refine wp_newarray (t := 1) (N := 384) dX9_init_203 rfl (fun _ => rfl) aw1 (hcI (by decide) (by decide) rfl) (by decide) (by decide) (by decide) (by decide) (Nat.le_of_ble_eq_true rfl) (Nat.le_of_ble_eq_true rfl) (Nat.le_of_ble_eq_true rfl) ?_
  rw [tl_145, tk_145]
  refine wp_putFR dX9_init_205 fl_X9_86 rfl rfl (fun _ _ _ h => by cases h; exact ⟨rfl, rfl⟩) rfl (fun _ => rfl) (fun _ => rfl) ?_
  refine wp_aload_n dX9_init_208 rfl ?_
  refine wp_sipush (v := 3072) dX9_init_209 (by decide) ?_
  refine wp_newarray (t := 1) (N := 3072) dX9_init_212 rfl (fun _ => rfl) aw1 (hcI (by decide) (by decide) rfl) (by decide) (by decide) (by decide) (by decide) (Nat.le_of_ble_eq_true rfl) (Nat.le_of_ble_eq_true rfl) (Nat.le_of_ble_eq_true rfl) ?_
  rw [tl_146, tk_146]
  refine wp_putFR dX9_init_214 fl_X9_89 rfl rfl (fun _ _ _ h => by cases h; exact ⟨rfl, rfl⟩) rfl (fun _ => rfl) (fun _ => rfl) ?_
  refine wp_aload_n dX9_init_217 rfl ?_
  refine wp_bipush (v := 81) dX9_init_218 (by decide) ?_
  refine wp_newarray (t := 1) (N := 81) dX9_init_220 rfl (fun _ => rfl) aw1 (hcI (by decide) (by decide) rfl) (by decide) (by decide) (by decide) (by decide) (Nat.le_of_ble_eq_true rfl) (Nat.le_of_ble_eq_true rfl) (Nat.le_of_ble_eq_true rfl) ?_
  rw [tl_147, tk_147]
  refine wp_putFR dX9_init_222 fl_X9_92 rfl rfl (fun _ _ _ h => by cases h; exact ⟨rfl, rfl⟩) rfl (fun _ => rfl) (fun _ => rfl) ?_
  refine wp_aload_n dX9_init_225 rfl ?_
  refine wp_bipush (v := 25) dX9_init_226 (by decide) ?_
  refine wp_newarray (t := 3) (N := 25) dX9_init_228 rfl (fun _ => rfl) aw3 (hcI (by decide) (by decide) rfl) (by decide) (by decide) (by decide) (by decide) (Nat.le_of_ble_eq_true rfl) (Nat.le_of_ble_eq_true rfl) (Nat.le_of_ble_eq_true rfl) ?_
  rw [tl_148, tk_148]
  refine wp_putFR dX9_init_230 fl_X9_95 rfl rfl (fun _ _ _ h => by cases h; exact ⟨rfl, rfl⟩) rfl (fun _ => rfl) (fun _ => rfl) ?_
  refine wp_aload_n dX9_init_233 rfl ?_
  refine wp_bipush (v := 25) dX9_init_234 (by decide) ?_
  refine wp_newarray (t := 2) (N := 25) dX9_init_236 rfl (fun _ => rfl) aw2 hcLo (by decide) (by decide) (by decide) (by decide) (Nat.le_of_ble_eq_true rfl) (Nat.le_of_ble_eq_true rfl) (Nat.le_of_ble_eq_true rfl) ?_
  rw [tl_149, tk_149]
  refine wp_putFR dX9_init_238 fl_X9_99 rfl rfl (fun _ _ _ h => by cases h; exact ⟨rfl, rfl⟩) rfl (fun _ => rfl) (fun _ => rfl) ?_
  refine wp_aload_n dX9_init_241 rfl ?_
  refine wp_bipush (v := 25) dX9_init_242 (by decide) ?_
  refine wp_newarray (t := 1) (N := 25) dX9_init_244 rfl (fun _ => rfl) aw1 (hcI (by decide) (by decide) rfl) (by decide) (by decide) (by decide) (by decide) (Nat.le_of_ble_eq_true rfl) (Nat.le_of_ble_eq_true rfl) (Nat.le_of_ble_eq_true rfl) ?_
  rw [tl_150, tk_150]
  refine wp_putFR dX9_init_246 fl_X9_103 rfl rfl (fun _ _ _ h => by cases h; exact ⟨rfl, rfl⟩) rfl (fun _ => rfl) (fun _ => rfl) ?_
  refine wp_aload_n dX9_init_249 rfl ?_
  refine wp_bipush (v := 8) dX9_init_250 (by decide) ?_
  refine wp_newarray (t := 3) (N := 8) dX9_init_252 rfl (fun _ => rfl) aw3 (hcI (by decide) (by decide) rfl) (by decide) (by decide) (by decide) (by decide) (Nat.le_of_ble_eq_true rfl) (Nat.le_of_ble_eq_true rfl) (Nat.le_of_ble_eq_true rfl) ?_
  rw [tl_151, tk_151]
  refine wp_putFR dX9_init_254 fl_X9_106 rfl rfl (fun _ _ _ h => by cases h; exact ⟨rfl, rfl⟩) rfl (fun _ => rfl) (fun _ => rfl) ?_
  refine wp_aload_n dX9_init_257 rfl ?_
  refine wp_bipush (v := 8) dX9_init_258 (by decide) ?_
  refine wp_newarray (t := 2) (N := 8) dX9_init_260 rfl (fun _ => rfl) aw2 hcLo (by decide) (by decide) (by decide) (by decide) (Nat.le_of_ble_eq_true rfl) (Nat.le_of_ble_eq_true rfl) (Nat.le_of_ble_eq_true rfl) ?_
  rw [tl_152, tk_152]
  refine wp_putFR dX9_init_262 fl_X9_109 rfl rfl (fun _ _ _ h => by cases h; exact ⟨rfl, rfl⟩) rfl (fun _ => rfl) (fun _ => rfl) ?_
  refine wp_aload_n dX9_init_265 rfl ?_
  refine wp_iconst (v := 0) dX9_init_266 rfl ?_
  refine wp_putI dX9_init_267 fl_X9_112 rfl rfl (fun _ _ _ h => by cases h; rfl) rfl rfl ?_
  refine wp_ret0 dX9_init_270 rfl (Nat.le_of_ble_eq_true rfl) (Nat.le_of_ble_eq_true rfl) ?_
  refine ⟨rfl, rfl, ⟨?_, ⟨(hz 2).1, by decide, fun i hi => absurd hi (Nat.not_lt_zero i)⟩, ⟨(hz 27).1, by decide, fun i hi => absurd hi (Nat.not_lt_zero i)⟩, ⟨rfl, Nat.zero_le _, fun k hk => absurd hk (Nat.not_lt_zero k)⟩, ⟨rfl, fun l hl => by cases hl⟩, fun r hr => ⟨rfl, Nat.zero_le _, fun p hp => absurd hp (Nat.not_lt_zero p)⟩⟩, fun p hp => ?_⟩
  · exact fun f => match f with
      | 0 => (hz 0).2
      | 1 => rfl
      | 2 => (hz 2).2
      | 3 => (hz 3).2
      | 4 => rfl
      | 5 => rfl
      | 6 => rfl
      | 7 => rfl
      | 8 => rfl
      | 9 => rfl
      | 10 => rfl
      | 11 => rfl
      | 12 => rfl
      | 13 => (hz 13).2
      | 14 => rfl
      | 15 => rfl
      | 16 => rfl
      | 17 => rfl
      | 18 => rfl
      | 19 => rfl
      | 20 => rfl
      | 21 => rfl
      | 22 => rfl
      | 23 => (hz 23).2
      | 24 => (hz 24).2
      | 25 => rfl
      | 26 => rfl
      | 27 => (hz 27).2
      | 28 => rfl
      | 29 => (hz 29).2
      | 30 => rfl
      | 31 => rfl
      | 32 => rfl
      | 33 => rfl
      | 34 => rfl
      | 35 => rfl
      | 36 => rfl
      | 37 => rfl
      | 38 => rfl
      | n + 39 => by
        refine Eq.trans ?_ ((hz (n + 39)).2.trans rfl)
        repeat (first | rw [fR_sI] | rw [fR_sR, if_neg (by omega)] | rw [fR_cl0, if_neg (by decide)])
  · repeat (first | exact EqP.rf | refine EqP.sI ?_ (by omega) | refine EqP.sR ?_ (by omega) | refine EqP.cl0 ?_ (by omega))
