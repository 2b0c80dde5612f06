/-! ===== the law: a call ===== -/
theorem RC_fd {M M1 : Mem} {tp tp1 gn : List Nat} {q : QQ} {o : Option (List Nat)} {dc : Nat → List (List Nat)} (h : RC M tp gn q o dc) (k : Fr [(0, 1)] [1] [] M M1) (ht : rcT M1 tp1) : RC M1 tp1 gn q o dc := by
  obtain ⟨hg, -, hd, ⟨tq, q1, q2, q3, q4⟩, ho, hw⟩ := h
  exact ⟨hg.fr k, ht, hd.fr k (by simp) (by simp), ⟨tq, (k.2.2.2.1 _ _).trans q1, (k.2.2.2.1 _ _).trans q2, q3, q4.fr k (fun j hj f => by simp; omega) (fun j hj => by simp)⟩, ho.fr k (by simp) (by simp), hw.fr k (by simp) (by simp)⟩
theorem RM_fd {M M1 : Mem} {tp tp1 gn : List Nat} {q : QQ} {o : Option (List Nat)} {dc : Nat → List (List Nat)} (h : RM M tp gn q o dc) (k : Fr [(121, 0), (121, 2)] [122] [] M M1) (ht : rmT M1 tp1) : RM M1 tp1 gn q o dc :=
  ⟨h.1.fr k, ht, h.2.2.1.fr k (by simp) (by simp), h.2.2.2.1.fr k (by simp) (fun j hj => by simp; omega), h.2.2.2.2.1.fr k (by simp) (by simp), h.2.2.2.2.2.fr k (by simp) (by simp) (by simp)⟩
theorem RM_oC {M M1 : Mem} {tp gn : List Nat} {q : QQ} {o : Option (List Nat)} {dc : Nat → List (List Nat)} (h : RM M tp gn q o dc) (k : OutC M M1) : RM M1 tp gn q o dc := RM_eq h (fun p h1 _ => k p h1)
theorem RC_oM {M M1 : Mem} {tp gn : List Nat} {q : QQ} {o : Option (List Nat)} {dc : Nat → List (List Nat)} (h : RC M tp gn q o dc) (k : OutM M M1) : RC M1 tp gn q o dc := RC_eq h (fun p h1 => k p (Or.inl h1))
theorem nmL_node : okName yL_node 4 := ⟨by decide, by decide, by decide +kernel⟩
theorem nmL_sign : okName yL_sign 5 := ⟨by decide, by decide, by decide +kernel⟩
theorem nmL_out : okName yL_out 3 := ⟨by decide, by decide, by decide +kernel⟩
theorem nmL_ratio : okName yL_ratio 4 := ⟨by decide, by decide, by decide +kernel⟩
theorem i_inc5 (i : Nat) : nI i + Int32.ofInt 5 = nI (i + 5) := nI_add i 5
theorem q_wd {q : QQ} (hk : QOk q) : ∀ j, j < q.1 → nCo (q.2 j) = 0 → 0 < (nWo (q.2 j)).length := fun j hj h0 => by
  rcases hk with z | z
  · omega
  · by_cases c : j = 0
    · rw [c, z.2.2.2.1.1] at h0; exact absurd h0 (by decide)
    · rcases (z.2.2.2.2.1 j (by omega) hj).2 with ⟨_, e, _⟩ | ⟨e, _⟩ | ⟨e, _⟩ | ⟨e, _⟩
      · omega
      · exact absurd (h0.symm.trans e) (by decide)
      · exact absurd (h0.symm.trans e) (by decide)
      · exact absurd (h0.symm.trans e) (by decide)
theorem th_get {M : Mem} {z : Int32} : fI (sI M 121 0 z) 121 0 = z := by rw [fI_sI, if_pos ⟨rfl, rfl⟩]
theorem Out2.sI121 {M : Mem} {z : Int32} {p : Nat} (h : p < 121) : EqP M (sI M 121 0 z) p := EqP.rf.sI (by omega)
set_option maxRecDepth 100000 in
set_option maxHeartbeats 4000000 in
theorem law_a0 (E : GE) (hlt : E.1.stackTraces = false) {L : Nat} {xs : Nat → Int32} (hL : L ≤ 2560) (i : Nat) (hi : i + 5 ≤ L) (M : Mem) (tp gn : List Nat) (q : QQ) (o : Option (List Nat)) (dc : Nat → List (List Nat)) (hC : RC M tp gn q o dc) (hR : RM M tp gn q o dc) (hk : QOk q) (hdc : dcOk dc) (kc ks : Nat) (hkc : kc ≤ 200 + i) (hks : ks ≤ 10000 + 8 * i)
    (kk : ∀ (M' : Mem) (kc' ks' : Nat), Inv M' → kc' ≤ 201 + i → ks' ≤ 10008 + 8 * i → Wp (xLaw E L xs) kc' ks' 747 [(4, .int (nI i)), (1, .ref 0), (2, .ref 121), (3, .ref 153), (0, .ref scP)] [] SH M') : Wp (xLaw E L xs) kc ks 112 [(4, .int (nI i)), (1, .ref 0), (2, .ref 121), (3, .ref 153), (0, .ref scP)] [] SH M := by
  have e1 : nI i + 1 = nI (i + 1) := nI_add i 1
  have e2 : nI i + 2 = nI (i + 2) := nI_add i 2
  have e3 : nI i + 3 = nI (i + 3) := nI_add i 3
  have e4 : nI i + 4 = nI (i + 4) := nI_add i 4
  have htl : tp.length ≤ 240 := hC.2.1.2.1
  have hdl : ∀ r, r < 32 → (dc r).length ≤ 12 := fun r hr => (hC.2.2.2.2.2 r hr).2.1
  refine wp_aload_n dL_law_112 rfl ?_
  refine wp_aload_n dL_law_113 rfl ?_
  refine wp_iload dL_law_114 rfl ?_
  refine wp_iconst (v := 1) dL_law_116 rfl ?_
  refine wp_iadd dL_law_117 ?_
  rw [e1]
  refine wp_sld (i := i + 1) dL_law_118 (by omega) hL ?_
  refine wp_aload_n dL_law_119 rfl ?_
  refine wp_iload dL_law_120 rfl ?_
  refine wp_iconst (v := 2) dL_law_122 rfl ?_
  refine wp_iadd dL_law_123 ?_
  rw [e2]
  refine wp_sld (i := i + 2) dL_law_124 (by omega) hL ?_
  refine wp_i2l dL_law_125 ?_
  refine wp_bipush (v := 32) dL_law_126 (by decide) ?_
  refine wp_lshl dL_law_128 ?_
  refine wp_aload_n dL_law_129 rfl ?_
  refine wp_iload dL_law_130 rfl ?_
  refine wp_iconst (v := 3) dL_law_132 rfl ?_
  refine wp_iadd dL_law_133 ?_
  rw [e3]
  refine wp_sld (i := i + 3) dL_law_134 (by omega) hL ?_
  refine wp_i2l dL_law_135 ?_
  refine wp_ldc2 dL_law_136 kl_L_37 ?_
  refine wp_land dL_law_139 ?_
  refine wp_lor dL_law_140 ?_
  refine wp_cV2p dL_law_141 ml_L_39 vX8_feed ⟨7, (RX8, TX8, 10), rfl, rfl, rfl⟩ (cX8_feed_ E _ _ tp M hC.1 hC.2.1) (Nat.le_of_ble_eq_true rfl) (Nat.le_of_ble_eq_true rfl) (Nat.le_of_ble_eq_true rfl) (by show _ ≤ 603072; omega) (by show _ ≤ 7262314; omega) (fun v sh1 M2 hqq => ?_)
  obtain ⟨rfl, f1, rfl, f2⟩ := hqq
  have hC2 := RC_fd hC f1 f2
  have hR2 := RM_oC hR (f1.outC (by simp) (by simp) (by simp))
  refine wp_aload_n dL_law_144 rfl ?_
  refine wp_aload_n dL_law_145 rfl ?_
  refine wp_iload dL_law_146 rfl ?_
  refine wp_iconst (v := 1) dL_law_148 rfl ?_
  refine wp_iadd dL_law_149 ?_
  rw [e1]
  refine wp_sld (i := i + 1) dL_law_150 (by omega) hL ?_
  refine wp_aload_n dL_law_151 rfl ?_
  refine wp_iload dL_law_152 rfl ?_
  refine wp_iconst (v := 2) dL_law_154 rfl ?_
  refine wp_iadd dL_law_155 ?_
  rw [e2]
  refine wp_sld (i := i + 2) dL_law_156 (by omega) hL ?_
  refine wp_i2l dL_law_157 ?_
  refine wp_bipush (v := 32) dL_law_158 (by decide) ?_
  refine wp_lshl dL_law_160 ?_
  refine wp_aload_n dL_law_161 rfl ?_
  refine wp_iload dL_law_162 rfl ?_
  refine wp_iconst (v := 3) dL_law_164 rfl ?_
  refine wp_iadd dL_law_165 ?_
  rw [e3]
  refine wp_sld (i := i + 3) dL_law_166 (by omega) hL ?_
  refine wp_i2l dL_law_167 ?_
  refine wp_ldc2 dL_law_168 kl_L_37 ?_
  refine wp_land dL_law_171 ?_
  refine wp_lor dL_law_172 ?_
  refine wp_cV2p dL_law_173 ml_L_43 vX9_feed ⟨8, (RX9, TX9, 39), rfl, rfl, rfl⟩ (cX9_feed_ E _ _ tp M2 hR2.1 hR2.2.1) (Nat.le_of_ble_eq_true rfl) (Nat.le_of_ble_eq_true rfl) (Nat.le_of_ble_eq_true rfl) (by show _ ≤ 603072; omega) (by show _ ≤ 7262314; omega) (fun v sh1 M3 hqq => ?_)
  obtain ⟨rfl, g1, rfl, g2⟩ := hqq
  have hR3 := RM_fd hR2 g1 g2
  have hC3 := RC_oM hC2 (g1.out (by simp) (by simp) (by simp))
  refine wp_icmp_eq (tgt := 747) dL_law_176 (by decide) (fun c176 => ?_) (fun c176 => absurd rfl c176)
  exact wp_lv (kk _ _ _ ⟨_, _, _, _, _, hC3, hR3, hk, hdc⟩ (by omega) (by omega)) (by repeat (first | exact trivial | refine ⟨rfl, ?_⟩))
set_option maxRecDepth 100000 in
set_option maxHeartbeats 4000000 in
theorem law_a1 (E : GE) (hlt : E.1.stackTraces = false) {L : Nat} {xs : Nat → Int32} (hL : L ≤ 2560) (i : Nat) (hi : i + 5 ≤ L) (M : Mem) (tp gn : List Nat) (q : QQ) (o : Option (List Nat)) (dc : Nat → List (List Nat)) (hC : RC M tp gn q o dc) (hR : RM M tp gn q o dc) (hk : QOk q) (hdc : dcOk dc) (kc ks : Nat) (hkc : kc ≤ 200 + i) (hks : ks ≤ 10000 + 8 * i)
    (kk : ∀ (M' : Mem) (kc' ks' : Nat), Inv M' → kc' ≤ 201 + i → ks' ≤ 10008 + 8 * i → Wp (xLaw E L xs) kc' ks' 747 [(4, .int (nI i)), (1, .ref 0), (2, .ref 121), (3, .ref 153), (0, .ref scP)] [] SH M') : Wp (xLaw E L xs) kc ks 181 [(4, .int (nI i)), (1, .ref 0), (2, .ref 121), (3, .ref 153), (0, .ref scP)] [] SH M := by
  have e1 : nI i + 1 = nI (i + 1) := nI_add i 1
  have e2 : nI i + 2 = nI (i + 2) := nI_add i 2
  have e3 : nI i + 3 = nI (i + 3) := nI_add i 3
  have e4 : nI i + 4 = nI (i + 4) := nI_add i 4
  have htl : tp.length ≤ 240 := hC.2.1.2.1
  have hdl : ∀ r, r < 32 → (dc r).length ≤ 12 := fun r hr => (hC.2.2.2.2.2 r hr).2.1
  refine wp_aload_n dL_law_181 rfl ?_
  refine wp_cV0p dL_law_182 ml_L_44 vX8_read ⟨7, (RX8, TX8, 10), rfl, rfl, rfl⟩ (cX8_read_ E tp gn q o dc M hC) (Nat.le_of_ble_eq_true rfl) (Nat.le_of_ble_eq_true rfl) (Nat.le_of_ble_eq_true rfl) (by show _ ≤ 603072; omega) (by show _ ≤ 7262314; omega) (fun v sh1 M2 hqq => ?_)
  obtain ⟨rfl, rfl, hC2, hO⟩ := hqq
  have hR2 := RM_oC hR hO
  refine wp_aload_n dL_law_185 rfl ?_
  refine wp_cV0p dL_law_186 ml_L_48 vX9_read ⟨8, (RX9, TX9, 39), rfl, rfl, rfl⟩ (cX9_read_ E tp gn q o dc M2 hR2) (Nat.le_of_ble_eq_true rfl) (Nat.le_of_ble_eq_true rfl) (Nat.le_of_ble_eq_true rfl) (by show _ ≤ 603072; omega) (by show _ ≤ 7262314; omega) (fun v sh1 M3 hqq => ?_)
  obtain ⟨rfl, rfl, -, hR3, hO3⟩ := hqq
  have hC3 := RC_oM hC2 hO3
  refine wp_icmp_eq (tgt := 747) dL_law_189 (by decide) (fun c189 => ?_) (fun c189 => absurd rfl c189)
  exact wp_lv (kk _ _ _ ⟨_, _, _, _, _, hC3, hR3, QOk_rd htl hk, hdc⟩ (by omega) (by omega)) (by repeat (first | exact trivial | refine ⟨rfl, ?_⟩))
set_option maxRecDepth 100000 in
set_option maxHeartbeats 4000000 in
theorem law_a2 (E : GE) (hlt : E.1.stackTraces = false) {L : Nat} {xs : Nat → Int32} (hL : L ≤ 2560) (i : Nat) (hi : i + 5 ≤ L) (M : Mem) (tp gn : List Nat) (q : QQ) (o : Option (List Nat)) (dc : Nat → List (List Nat)) (hC : RC M tp gn q o dc) (hR : RM M tp gn q o dc) (hk : QOk q) (hdc : dcOk dc) (kc ks : Nat) (hkc : kc ≤ 200 + i) (hks : ks ≤ 10000 + 8 * i)
    (kk : ∀ (M' : Mem) (kc' ks' : Nat), Inv M' → kc' ≤ 201 + i → ks' ≤ 10008 + 8 * i → Wp (xLaw E L xs) kc' ks' 747 [(4, .int (nI i)), (1, .ref 0), (2, .ref 121), (3, .ref 153), (0, .ref scP)] [] SH M') : Wp (xLaw E L xs) kc ks 194 [(4, .int (nI i)), (1, .ref 0), (2, .ref 121), (3, .ref 153), (0, .ref scP)] [] SH M := by
  have e1 : nI i + 1 = nI (i + 1) := nI_add i 1
  have e2 : nI i + 2 = nI (i + 2) := nI_add i 2
  have e3 : nI i + 3 = nI (i + 3) := nI_add i 3
  have e4 : nI i + 4 = nI (i + 4) := nI_add i 4
  have htl : tp.length ≤ 240 := hC.2.1.2.1
  have hdl : ∀ r, r < 32 → (dc r).length ≤ 12 := fun r hr => (hC.2.2.2.2.2 r hr).2.1
  refine wp_aload_n dL_law_194 rfl ?_
  refine wp_cV0p dL_law_195 ml_L_49 vX8_lenient ⟨7, (RX8, TX8, 10), rfl, rfl, rfl⟩ (cX8_lenient_ E tp gn q o dc M hC) (Nat.le_of_ble_eq_true rfl) (Nat.le_of_ble_eq_true rfl) (Nat.le_of_ble_eq_true rfl) (by show _ ≤ 603072; omega) (by show _ ≤ 7262314; omega) (fun v sh1 M2 hqq => ?_)
  obtain ⟨rfl, rfl, hC2, hO⟩ := hqq
  have hR2 := RM_oC hR hO
  refine wp_aload_n dL_law_198 rfl ?_
  refine wp_cV0p dL_law_199 ml_L_52 vX9_lenient ⟨8, (RX9, TX9, 39), rfl, rfl, rfl⟩ (cX9_lenient_ E tp gn q o dc M2 hR2) (Nat.le_of_ble_eq_true rfl) (Nat.le_of_ble_eq_true rfl) (Nat.le_of_ble_eq_true rfl) (by show _ ≤ 603072; omega) (by show _ ≤ 7262314; omega) (fun v sh1 M3 hqq => ?_)
  obtain ⟨rfl, rfl, -, hR3, hO3⟩ := hqq
  have hC3 := RC_oM hC2 hO3
  refine wp_icmp_eq (tgt := 747) dL_law_202 (by decide) (fun c202 => ?_) (fun c202 => absurd rfl c202)
  exact wp_lv (kk _ _ _ ⟨_, _, _, _, _, hC3, hR3, QOk_ln htl hk, hdc⟩ (by omega) (by omega)) (by repeat (first | exact trivial | refine ⟨rfl, ?_⟩))
set_option maxRecDepth 100000 in
set_option maxHeartbeats 4000000 in
theorem law_a3 (E : GE) (hlt : E.1.stackTraces = false) {L : Nat} {xs : Nat → Int32} (hL : L ≤ 2560) (i : Nat) (hi : i + 5 ≤ L) (M : Mem) (tp gn : List Nat) (q : QQ) (o : Option (List Nat)) (dc : Nat → List (List Nat)) (hC : RC M tp gn q o dc) (hR : RM M tp gn q o dc) (hk : QOk q) (hdc : dcOk dc) (kc ks : Nat) (hkc : kc ≤ 200 + i) (hks : ks ≤ 10000 + 8 * i)
    (kk : ∀ (M' : Mem) (kc' ks' : Nat), Inv M' → kc' ≤ 201 + i → ks' ≤ 10008 + 8 * i → Wp (xLaw E L xs) kc' ks' 747 [(4, .int (nI i)), (1, .ref 0), (2, .ref 121), (3, .ref 153), (0, .ref scP)] [] SH M') : Wp (xLaw E L xs) kc ks 207 [(4, .int (nI i)), (1, .ref 0), (2, .ref 121), (3, .ref 153), (0, .ref scP)] [] SH M := by
  have e1 : nI i + 1 = nI (i + 1) := nI_add i 1
  have e2 : nI i + 2 = nI (i + 2) := nI_add i 2
  have e3 : nI i + 3 = nI (i + 3) := nI_add i 3
  have e4 : nI i + 4 = nI (i + 4) := nI_add i 4
  have htl : tp.length ≤ 240 := hC.2.1.2.1
  have hdl : ∀ r, r < 32 → (dc r).length ≤ 12 := fun r hr => (hC.2.2.2.2.2 r hr).2.1
  refine wp_aload_n dL_law_207 rfl ?_
  refine wp_aload_n dL_law_208 rfl ?_
  refine wp_iload dL_law_209 rfl ?_
  refine wp_iconst (v := 1) dL_law_211 rfl ?_
  refine wp_iadd dL_law_212 ?_
  rw [e1]
  refine wp_sld (i := i + 1) dL_law_213 (by omega) hL ?_
  refine wp_cV1p dL_law_214 ml_L_53 vX8_dropped ⟨7, (RX8, TX8, 10), rfl, rfl, rfl⟩ (cX8_dropped_ E _ gn M hC.1 hC.2.2.1) (Nat.le_of_ble_eq_true rfl) (Nat.le_of_ble_eq_true rfl) (Nat.le_of_ble_eq_true rfl) (by show _ ≤ 603072; omega) (by show _ ≤ 7262314; omega) (fun v sh1 M2 hqq => ?_)
  obtain ⟨rfl, rfl, hM⟩ := hqq
  have hM := hM.symm
  subst hM
  refine wp_aload_n dL_law_217 rfl ?_
  refine wp_aload_n dL_law_218 rfl ?_
  refine wp_iload dL_law_219 rfl ?_
  refine wp_iconst (v := 1) dL_law_221 rfl ?_
  refine wp_iadd dL_law_222 ?_
  rw [e1]
  refine wp_sld (i := i + 1) dL_law_223 (by omega) hL ?_
  refine wp_cV1p dL_law_224 ml_L_56 vX9_dropped ⟨8, (RX9, TX9, 39), rfl, rfl, rfl⟩ (cX9_dropped_ E _ gn M hR.1 hR.2.2.1) (Nat.le_of_ble_eq_true rfl) (Nat.le_of_ble_eq_true rfl) (Nat.le_of_ble_eq_true rfl) (by show _ ≤ 603072; omega) (by show _ ≤ 7262314; omega) (fun v sh1 M3 hqq => ?_)
  obtain ⟨rfl, rfl, rfl⟩ := hqq
  have hR3 := RM_sI (x := 0) hR (show (0 : Nat) ≠ 2 ∧ (0 : Nat) ≠ 13 ∧ (0 : Nat) ≠ 27 ∧ (0 : Nat) ≠ 29 by decide)
  have hC3 := RC_eq hC (fun p hp => Out2.sI121 (z := 0) hp)
  refine wp_icmp_eq (tgt := 747) dL_law_227 (by decide) (fun c227 => ?_) (fun c227 => absurd rfl c227)
  exact wp_lv (kk _ _ _ ⟨_, _, _, _, _, hC3, hR3, hk, hdc⟩ (by omega) (by omega)) (by repeat (first | exact trivial | refine ⟨rfl, ?_⟩))
set_option maxRecDepth 100000 in
set_option maxHeartbeats 4000000 in
theorem law_a4 (E : GE) (hlt : E.1.stackTraces = false) {L : Nat} {xs : Nat → Int32} (hL : L ≤ 2560) (i : Nat) (hi : i + 5 ≤ L) (M : Mem) (tp gn : List Nat) (q : QQ) (o : Option (List Nat)) (dc : Nat → List (List Nat)) (hC : RC M tp gn q o dc) (hR : RM M tp gn q o dc) (hk : QOk q) (hdc : dcOk dc) (kc ks : Nat) (hkc : kc ≤ 200 + i) (hks : ks ≤ 10000 + 8 * i)
    (kk : ∀ (M' : Mem) (kc' ks' : Nat), Inv M' → kc' ≤ 201 + i → ks' ≤ 10008 + 8 * i → Wp (xLaw E L xs) kc' ks' 747 [(4, .int (nI i)), (1, .ref 0), (2, .ref 121), (3, .ref 153), (0, .ref scP)] [] SH M') : Wp (xLaw E L xs) kc ks 232 [(4, .int (nI i)), (1, .ref 0), (2, .ref 121), (3, .ref 153), (0, .ref scP)] [] SH M := by
  have e1 : nI i + 1 = nI (i + 1) := nI_add i 1
  have e2 : nI i + 2 = nI (i + 2) := nI_add i 2
  have e3 : nI i + 3 = nI (i + 3) := nI_add i 3
  have e4 : nI i + 4 = nI (i + 4) := nI_add i 4
  have htl : tp.length ≤ 240 := hC.2.1.2.1
  have hdl : ∀ r, r < 32 → (dc r).length ≤ 12 := fun r hr => (hC.2.2.2.2.2 r hr).2.1
  refine wp_aload_n dL_law_232 rfl ?_
  refine wp_aload_n dL_law_233 rfl ?_
  refine wp_iload dL_law_234 rfl ?_
  refine wp_iconst (v := 1) dL_law_236 rfl ?_
  refine wp_iadd dL_law_237 ?_
  rw [e1]
  refine wp_sld (i := i + 1) dL_law_238 (by omega) hL ?_
  refine wp_aload_n dL_law_239 rfl ?_
  refine wp_iload dL_law_240 rfl ?_
  refine wp_iconst (v := 2) dL_law_242 rfl ?_
  refine wp_iadd dL_law_243 ?_
  rw [e2]
  refine wp_sld (i := i + 2) dL_law_244 (by omega) hL ?_
  refine wp_aload_n dL_law_245 rfl ?_
  show Wp _ _ _ _ _ ([.ref 0, .int (xs (i + 1)), .int (xs (i + 2)), .ref 153].reverse ++ []) SH M
  refine wp_callSH (n := 4) (As := [.ref 0, .int (xs (i + 1)), .int (xs (i + 2)), .ref 153]) (rest := []) dL_law_246 ml_L_57 hcN ii_L hsN nmL_node rfl (cL_node_ E hlt tp gn q o dc M hC _ _) (Nat.le_of_ble_eq_true rfl) (Nat.le_of_ble_eq_true rfl) (Nat.le_of_ble_eq_true rfl) (by show _ ≤ 603072; omega) (by show _ ≤ 7262314; omega) (fun v sh1 M2 hqq => ?_)
  obtain ⟨rfl, rfl, h153, hC2, hO2⟩ := hqq
  have hR2 := RM_eq hR hO2
  refine wp_istore dL_law_249 (Nat.le_of_ble_eq_true rfl) ?_
  refine wp_aload_n dL_law_251 rfl ?_
  refine wp_aload_n dL_law_252 rfl ?_
  refine wp_iload dL_law_253 rfl ?_
  refine wp_iconst (v := 1) dL_law_255 rfl ?_
  refine wp_iadd dL_law_256 ?_
  rw [e1]
  refine wp_sld (i := i + 1) dL_law_257 (by omega) hL ?_
  refine wp_aload_n dL_law_258 rfl ?_
  refine wp_iload dL_law_259 rfl ?_
  refine wp_iconst (v := 2) dL_law_261 rfl ?_
  refine wp_iadd dL_law_262 ?_
  rw [e2]
  refine wp_sld (i := i + 2) dL_law_263 (by omega) hL ?_
  refine wp_cV2p dL_law_264 ml_L_62 vX9_node ⟨8, (RX9, TX9, 39), rfl, rfl, rfl⟩ (cX9_node_ E _ _ q.1 q.2 M2 hR2.1 hR2.2.2.2.1 (q_wd hk)) (Nat.le_of_ble_eq_true rfl) (Nat.le_of_ble_eq_true rfl) (Nat.le_of_ble_eq_true rfl) (by show _ ≤ 603072; omega) (by show _ ≤ 7262314; omega) (fun v sh1 M3 hqq => ?_)
  obtain ⟨rfl, rfl, rfl⟩ := hqq
  have hR3 := RM_sI (x := thrI (okK (xs (i + 1)) q.1)) hR2 (show (0 : Nat) ≠ 2 ∧ (0 : Nat) ≠ 13 ∧ (0 : Nat) ≠ 27 ∧ (0 : Nat) ≠ 29 by decide)
  have hC3 := RC_eq hC2 (fun p hp => Out2.sI121 (z := thrI (okK (xs (i + 1)) q.1)) hp)
  refine wp_istore dL_law_267 (Nat.le_of_ble_eq_true rfl) ?_
  refine wp_aload_n dL_law_269 rfl ?_
  refine wp_cV0p dL_law_270 ml_L_63 vX9_thrown ⟨8, (RX9, TX9, 39), rfl, rfl, rfl⟩ (cX9_thrown_ E _) (Nat.le_of_ble_eq_true rfl) (Nat.le_of_ble_eq_true rfl) (Nat.le_of_ble_eq_true rfl) (by show _ ≤ 603072; omega) (by show _ ≤ 7262314; omega) (fun v sh1 M4 hqq => ?_)
  obtain ⟨rfl, rfl, rfl⟩ := hqq
  refine wp_iload dL_law_273 rfl ?_
  refine wp_icmp_eq (tgt := 280) dL_law_275 (by decide) (fun c275 => ?_) (fun c275 => absurd (th_get) c275)
  refine wp_iload dL_law_280 rfl ?_
  refine wp_if_ne (tgt := 297) dL_law_282 (by decide) (fun c282 => ?_) (fun c282 => ?_)
  · refine wp_goto (tgt := 747) dL_law_297 (by decide) ?_
    exact wp_lv (kk _ _ _ ⟨_, _, _, _, _, hC3, hR3, hk, hdc⟩ (by omega) (by omega)) (by repeat (first | exact trivial | refine ⟨rfl, ?_⟩))
  · refine wp_aload_n dL_law_285 rfl ?_
    refine wp_iconst (v := 0) dL_law_286 rfl ?_
    refine wp_laload dL_law_287 rfl in01 ?_
    refine wp_iload dL_law_288 rfl ?_
    refine wp_i2l dL_law_290 ?_
    refine wp_lcmp dL_law_291 ?_
    refine wp_if_eq (tgt := 297) dL_law_292 (by decide) (fun c292 => ?_) (fun c292 => absurd ((lg_eq _ _).mpr (h153 c282)) c292)
    refine wp_goto (tgt := 747) dL_law_297 (by decide) ?_
    exact wp_lv (kk _ _ _ ⟨_, _, _, _, _, hC3, hR3, hk, hdc⟩ (by omega) (by omega)) (by repeat (first | exact trivial | refine ⟨rfl, ?_⟩))
set_option maxRecDepth 100000 in
set_option maxHeartbeats 4000000 in
theorem law_a5 (E : GE) (hlt : E.1.stackTraces = false) {L : Nat} {xs : Nat → Int32} (hL : L ≤ 2560) (i : Nat) (hi : i + 5 ≤ L) (M : Mem) (tp gn : List Nat) (q : QQ) (o : Option (List Nat)) (dc : Nat → List (List Nat)) (hC : RC M tp gn q o dc) (hR : RM M tp gn q o dc) (hk : QOk q) (hdc : dcOk dc) (kc ks : Nat) (hkc : kc ≤ 200 + i) (hks : ks ≤ 10000 + 8 * i)
    (kk : ∀ (M' : Mem) (kc' ks' : Nat), Inv M' → kc' ≤ 201 + i → ks' ≤ 10008 + 8 * i → Wp (xLaw E L xs) kc' ks' 747 [(4, .int (nI i)), (1, .ref 0), (2, .ref 121), (3, .ref 153), (0, .ref scP)] [] SH M') : Wp (xLaw E L xs) kc ks 300 [(4, .int (nI i)), (1, .ref 0), (2, .ref 121), (3, .ref 153), (0, .ref scP)] [] SH M := by
  have e1 : nI i + 1 = nI (i + 1) := nI_add i 1
  have e2 : nI i + 2 = nI (i + 2) := nI_add i 2
  have e3 : nI i + 3 = nI (i + 3) := nI_add i 3
  have e4 : nI i + 4 = nI (i + 4) := nI_add i 4
  have htl : tp.length ≤ 240 := hC.2.1.2.1
  have hdl : ∀ r, r < 32 → (dc r).length ≤ 12 := fun r hr => (hC.2.2.2.2.2 r hr).2.1
  refine wp_aload_n dL_law_300 rfl ?_
  refine wp_aload_n dL_law_301 rfl ?_
  refine wp_iload dL_law_302 rfl ?_
  refine wp_iconst (v := 1) dL_law_304 rfl ?_
  refine wp_iadd dL_law_305 ?_
  rw [e1]
  refine wp_sld (i := i + 1) dL_law_306 (by omega) hL ?_
  refine wp_aload_n dL_law_307 rfl ?_
  refine wp_iload dL_law_308 rfl ?_
  refine wp_iconst (v := 2) dL_law_310 rfl ?_
  refine wp_iadd dL_law_311 ?_
  rw [e2]
  refine wp_sld (i := i + 2) dL_law_312 (by omega) hL ?_
  refine wp_aload_n dL_law_313 rfl ?_
  refine wp_iload dL_law_314 rfl ?_
  refine wp_iconst (v := 3) dL_law_316 rfl ?_
  refine wp_iadd dL_law_317 ?_
  rw [e3]
  refine wp_sld (i := i + 3) dL_law_318 (by omega) hL ?_
  refine wp_aload_n dL_law_319 rfl ?_
  show Wp _ _ _ _ _ ([.ref 0, .int (xs (i + 1)), .int (xs (i + 2)), .int (xs (i + 3)), .ref 153].reverse ++ []) SH M
  refine wp_callSH (n := 5) (As := [.ref 0, .int (xs (i + 1)), .int (xs (i + 2)), .int (xs (i + 3)), .ref 153]) (rest := []) dL_law_320 ml_L_66 hcS ii_L hsS nmL_sign rfl (cL_sign_ E hlt tp gn q o dc M hC hk _ _ _) (Nat.le_of_ble_eq_true rfl) (Nat.le_of_ble_eq_true rfl) (Nat.le_of_ble_eq_true rfl) (by show _ ≤ 603072; omega) (by show _ ≤ 7262314; omega) (fun v sh1 M2 hqq => ?_)
  obtain ⟨rfl, rfl, h153, hC2, hO2⟩ := hqq
  have hR2 := RM_eq hR hO2
  refine wp_istore dL_law_323 (Nat.le_of_ble_eq_true rfl) ?_
  refine wp_aload_n dL_law_325 rfl ?_
  refine wp_aload_n dL_law_326 rfl ?_
  refine wp_iload dL_law_327 rfl ?_
  refine wp_iconst (v := 1) dL_law_329 rfl ?_
  refine wp_iadd dL_law_330 ?_
  rw [e1]
  refine wp_sld (i := i + 1) dL_law_331 (by omega) hL ?_
  refine wp_aload_n dL_law_332 rfl ?_
  refine wp_iload dL_law_333 rfl ?_
  refine wp_iconst (v := 2) dL_law_335 rfl ?_
  refine wp_iadd dL_law_336 ?_
  rw [e2]
  refine wp_sld (i := i + 2) dL_law_337 (by omega) hL ?_
  refine wp_aload_n dL_law_338 rfl ?_
  refine wp_iload dL_law_339 rfl ?_
  refine wp_iconst (v := 3) dL_law_341 rfl ?_
  refine wp_iadd dL_law_342 ?_
  rw [e3]
  refine wp_sld (i := i + 3) dL_law_343 (by omega) hL ?_
  refine wp_cV3p dL_law_344 ml_L_69 vX9_sign ⟨8, (RX9, TX9, 39), rfl, rfl, rfl⟩ (cX9_sign_ E tp gn q o dc M2 hR2 hk _ _ _) (Nat.le_of_ble_eq_true rfl) (Nat.le_of_ble_eq_true rfl) (Nat.le_of_ble_eq_true rfl) (by show _ ≤ 603072; omega) (by show _ ≤ 7262314; omega) (fun v sh1 M3 hqq => ?_)
  obtain ⟨rfl, rfl, rfl⟩ := hqq
  have hR3 := RM_sI (x := sgC q (xs (i + 1)) (xs (i + 2)) (xs (i + 3))) hR2 (show (0 : Nat) ≠ 2 ∧ (0 : Nat) ≠ 13 ∧ (0 : Nat) ≠ 27 ∧ (0 : Nat) ≠ 29 by decide)
  have hC3 := RC_eq hC2 (fun p hp => Out2.sI121 (z := sgC q (xs (i + 1)) (xs (i + 2)) (xs (i + 3))) hp)
  refine wp_istore dL_law_347 (Nat.le_of_ble_eq_true rfl) ?_
  refine wp_aload_n dL_law_349 rfl ?_
  refine wp_cV0p dL_law_350 ml_L_63 vX9_thrown ⟨8, (RX9, TX9, 39), rfl, rfl, rfl⟩ (cX9_thrown_ E _) (Nat.le_of_ble_eq_true rfl) (Nat.le_of_ble_eq_true rfl) (Nat.le_of_ble_eq_true rfl) (by show _ ≤ 603072; omega) (by show _ ≤ 7262314; omega) (fun v sh1 M4 hqq => ?_)
  obtain ⟨rfl, rfl, rfl⟩ := hqq
  refine wp_iload dL_law_353 rfl ?_
  refine wp_icmp_eq (tgt := 360) dL_law_355 (by decide) (fun c355 => ?_) (fun c355 => absurd (th_get) c355)
  refine wp_iload dL_law_360 rfl ?_
  refine wp_if_ne (tgt := 377) dL_law_362 (by decide) (fun c362 => ?_) (fun c362 => ?_)
  · refine wp_goto (tgt := 747) dL_law_377 (by decide) ?_
    exact wp_lv (kk _ _ _ ⟨_, _, _, _, _, hC3, hR3, hk, hdc⟩ (by omega) (by omega)) (by repeat (first | exact trivial | refine ⟨rfl, ?_⟩))
  · refine wp_aload_n dL_law_365 rfl ?_
    refine wp_iconst (v := 0) dL_law_366 rfl ?_
    refine wp_laload dL_law_367 rfl in01 ?_
    refine wp_iload dL_law_368 rfl ?_
    refine wp_i2l dL_law_370 ?_
    refine wp_lcmp dL_law_371 ?_
    refine wp_if_eq (tgt := 377) dL_law_372 (by decide) (fun c372 => ?_) (fun c372 => absurd ((lg_eq _ _).mpr (h153 c362)) c372)
    refine wp_goto (tgt := 747) dL_law_377 (by decide) ?_
    exact wp_lv (kk _ _ _ ⟨_, _, _, _, _, hC3, hR3, hk, hdc⟩ (by omega) (by omega)) (by repeat (first | exact trivial | refine ⟨rfl, ?_⟩))
set_option maxRecDepth 100000 in
set_option maxHeartbeats 4000000 in
theorem law_a6 (E : GE) (hlt : E.1.stackTraces = false) {L : Nat} {xs : Nat → Int32} (hL : L ≤ 2560) (i : Nat) (hi : i + 5 ≤ L) (M : Mem) (tp gn : List Nat) (q : QQ) (o : Option (List Nat)) (dc : Nat → List (List Nat)) (hC : RC M tp gn q o dc) (hR : RM M tp gn q o dc) (hk : QOk q) (hdc : dcOk dc) (kc ks : Nat) (hkc : kc ≤ 200 + i) (hks : ks ≤ 10000 + 8 * i)
    (kk : ∀ (M' : Mem) (kc' ks' : Nat), Inv M' → kc' ≤ 201 + i → ks' ≤ 10008 + 8 * i → Wp (xLaw E L xs) kc' ks' 747 [(4, .int (nI i)), (1, .ref 0), (2, .ref 121), (3, .ref 153), (0, .ref scP)] [] SH M') : Wp (xLaw E L xs) kc ks 380 [(4, .int (nI i)), (1, .ref 0), (2, .ref 121), (3, .ref 153), (0, .ref scP)] [] SH M := by
  have e1 : nI i + 1 = nI (i + 1) := nI_add i 1
  have e2 : nI i + 2 = nI (i + 2) := nI_add i 2
  have e3 : nI i + 3 = nI (i + 3) := nI_add i 3
  have e4 : nI i + 4 = nI (i + 4) := nI_add i 4
  have htl : tp.length ≤ 240 := hC.2.1.2.1
  have hdl : ∀ r, r < 32 → (dc r).length ≤ 12 := fun r hr => (hC.2.2.2.2.2 r hr).2.1
  refine wp_aload_n dL_law_380 rfl ?_
  refine wp_cV0p dL_law_381 ml_L_70 vX8_print ⟨7, (RX8, TX8, 10), rfl, rfl, rfl⟩ (cX8_print_ E tp gn q o dc M hC hk) (Nat.le_of_ble_eq_true rfl) (Nat.le_of_ble_eq_true rfl) (Nat.le_of_ble_eq_true rfl) (by show _ ≤ 603072; omega) (by show _ ≤ 7262314; omega) (fun v sh1 M2 hqq => ?_)
  obtain ⟨rfl, rfl, hC2, hO⟩ := hqq
  have hR2 := RM_oC hR hO
  refine wp_aload_n dL_law_384 rfl ?_
  refine wp_cV0p dL_law_385 ml_L_73 vX9_print ⟨8, (RX9, TX9, 39), rfl, rfl, rfl⟩ (cX9_print_ E tp gn q o dc M2 hR2 hk) (Nat.le_of_ble_eq_true rfl) (Nat.le_of_ble_eq_true rfl) (Nat.le_of_ble_eq_true rfl) (by show _ ≤ 603072; omega) (by show _ ≤ 7262314; omega) (fun v sh1 M3 hqq => ?_)
  obtain ⟨rfl, rfl, -, hR3, hO3⟩ := hqq
  have hC3 := RC_oM hC2 hO3
  refine wp_icmp_eq (tgt := 747) dL_law_388 (by decide) (fun c388 => ?_) (fun c388 => absurd rfl c388)
  exact wp_lv (kk _ _ _ ⟨_, _, _, _, _, hC3, hR3, hk, hdc⟩ (by omega) (by omega)) (by repeat (first | exact trivial | refine ⟨rfl, ?_⟩))
set_option maxRecDepth 100000 in
set_option maxHeartbeats 4000000 in
theorem law_a7 (E : GE) (hlt : E.1.stackTraces = false) {L : Nat} {xs : Nat → Int32} (hL : L ≤ 2560) (i : Nat) (hi : i + 5 ≤ L) (M : Mem) (tp gn : List Nat) (q : QQ) (o : Option (List Nat)) (dc : Nat → List (List Nat)) (hC : RC M tp gn q o dc) (hR : RM M tp gn q o dc) (hk : QOk q) (hdc : dcOk dc) (kc ks : Nat) (hkc : kc ≤ 200 + i) (hks : ks ≤ 10000 + 8 * i)
    (kk : ∀ (M' : Mem) (kc' ks' : Nat), Inv M' → kc' ≤ 201 + i → ks' ≤ 10008 + 8 * i → Wp (xLaw E L xs) kc' ks' 747 [(4, .int (nI i)), (1, .ref 0), (2, .ref 121), (3, .ref 153), (0, .ref scP)] [] SH M') : Wp (xLaw E L xs) kc ks 393 [(4, .int (nI i)), (1, .ref 0), (2, .ref 121), (3, .ref 153), (0, .ref scP)] [] SH M := by
  have e1 : nI i + 1 = nI (i + 1) := nI_add i 1
  have e2 : nI i + 2 = nI (i + 2) := nI_add i 2
  have e3 : nI i + 3 = nI (i + 3) := nI_add i 3
  have e4 : nI i + 4 = nI (i + 4) := nI_add i 4
  have htl : tp.length ≤ 240 := hC.2.1.2.1
  have hdl : ∀ r, r < 32 → (dc r).length ≤ 12 := fun r hr => (hC.2.2.2.2.2 r hr).2.1
  refine wp_aload_n dL_law_393 rfl ?_
  refine wp_aload_n dL_law_394 rfl ?_
  refine wp_iload dL_law_395 rfl ?_
  refine wp_iconst (v := 1) dL_law_397 rfl ?_
  refine wp_iadd dL_law_398 ?_
  rw [e1]
  refine wp_sld (i := i + 1) dL_law_399 (by omega) hL ?_
  refine wp_aload_n dL_law_400 rfl ?_
  show Wp _ _ _ _ _ ([.ref 0, .int (xs (i + 1)), .ref 153].reverse ++ []) SH M
  refine wp_callSH (n := 3) (As := [.ref 0, .int (xs (i + 1)), .ref 153]) (rest := []) dL_law_401 ml_L_74 hcO ii_L hsO nmL_out rfl (cL_out_ E hlt tp gn q o dc M hC _) (Nat.le_of_ble_eq_true rfl) (Nat.le_of_ble_eq_true rfl) (Nat.le_of_ble_eq_true rfl) (by show _ ≤ 603072; omega) (by show _ ≤ 7262314; omega) (fun v sh1 M2 hqq => ?_)
  obtain ⟨rfl, rfl, h153, hC2, hO2⟩ := hqq
  have hR2 := RM_eq hR hO2
  refine wp_istore dL_law_404 (Nat.le_of_ble_eq_true rfl) ?_
  refine wp_aload_n dL_law_406 rfl ?_
  refine wp_aload_n dL_law_407 rfl ?_
  refine wp_iload dL_law_408 rfl ?_
  refine wp_iconst (v := 1) dL_law_410 rfl ?_
  refine wp_iadd dL_law_411 ?_
  rw [e1]
  refine wp_sld (i := i + 1) dL_law_412 (by omega) hL ?_
  refine wp_cV1p dL_law_413 ml_L_77 vX9_out ⟨8, (RX9, TX9, 39), rfl, rfl, rfl⟩ (cX9_out_ E tp gn q o dc M2 hR2 _) (Nat.le_of_ble_eq_true rfl) (Nat.le_of_ble_eq_true rfl) (Nat.le_of_ble_eq_true rfl) (by show _ ≤ 603072; omega) (by show _ ≤ 7262314; omega) (fun v sh1 M3 hqq => ?_)
  obtain ⟨rfl, rfl, rfl⟩ := hqq
  have hR3 := RM_sI (x := ouC o (xs (i + 1))) hR2 (show (0 : Nat) ≠ 2 ∧ (0 : Nat) ≠ 13 ∧ (0 : Nat) ≠ 27 ∧ (0 : Nat) ≠ 29 by decide)
  have hC3 := RC_eq hC2 (fun p hp => Out2.sI121 (z := ouC o (xs (i + 1))) hp)
  refine wp_istore dL_law_416 (Nat.le_of_ble_eq_true rfl) ?_
  refine wp_aload_n dL_law_418 rfl ?_
  refine wp_cV0p dL_law_419 ml_L_63 vX9_thrown ⟨8, (RX9, TX9, 39), rfl, rfl, rfl⟩ (cX9_thrown_ E _) (Nat.le_of_ble_eq_true rfl) (Nat.le_of_ble_eq_true rfl) (Nat.le_of_ble_eq_true rfl) (by show _ ≤ 603072; omega) (by show _ ≤ 7262314; omega) (fun v sh1 M4 hqq => ?_)
  obtain ⟨rfl, rfl, rfl⟩ := hqq
  refine wp_iload dL_law_422 rfl ?_
  refine wp_icmp_eq (tgt := 429) dL_law_424 (by decide) (fun c424 => ?_) (fun c424 => absurd (th_get) c424)
  refine wp_iload dL_law_429 rfl ?_
  refine wp_if_ne (tgt := 446) dL_law_431 (by decide) (fun c431 => ?_) (fun c431 => ?_)
  · refine wp_goto (tgt := 747) dL_law_446 (by decide) ?_
    exact wp_lv (kk _ _ _ ⟨_, _, _, _, _, hC3, hR3, hk, hdc⟩ (by omega) (by omega)) (by repeat (first | exact trivial | refine ⟨rfl, ?_⟩))
  · refine wp_aload_n dL_law_434 rfl ?_
    refine wp_iconst (v := 0) dL_law_435 rfl ?_
    refine wp_laload dL_law_436 rfl in01 ?_
    refine wp_iload dL_law_437 rfl ?_
    refine wp_i2l dL_law_439 ?_
    refine wp_lcmp dL_law_440 ?_
    refine wp_if_eq (tgt := 446) dL_law_441 (by decide) (fun c441 => ?_) (fun c441 => absurd ((lg_eq _ _).mpr (h153 c431)) c441)
    refine wp_goto (tgt := 747) dL_law_446 (by decide) ?_
    exact wp_lv (kk _ _ _ ⟨_, _, _, _, _, hC3, hR3, hk, hdc⟩ (by omega) (by omega)) (by repeat (first | exact trivial | refine ⟨rfl, ?_⟩))
set_option maxRecDepth 100000 in
set_option maxHeartbeats 4000000 in
theorem law_a8 (E : GE) (hlt : E.1.stackTraces = false) {L : Nat} {xs : Nat → Int32} (hL : L ≤ 2560) (i : Nat) (hi : i + 5 ≤ L) (M : Mem) (tp gn : List Nat) (q : QQ) (o : Option (List Nat)) (dc : Nat → List (List Nat)) (hC : RC M tp gn q o dc) (hR : RM M tp gn q o dc) (hk : QOk q) (hdc : dcOk dc) (kc ks : Nat) (hkc : kc ≤ 200 + i) (hks : ks ≤ 10000 + 8 * i)
    (kk : ∀ (M' : Mem) (kc' ks' : Nat), Inv M' → kc' ≤ 201 + i → ks' ≤ 10008 + 8 * i → Wp (xLaw E L xs) kc' ks' 747 [(4, .int (nI i)), (1, .ref 0), (2, .ref 121), (3, .ref 153), (0, .ref scP)] [] SH M') : Wp (xLaw E L xs) kc ks 449 [(4, .int (nI i)), (1, .ref 0), (2, .ref 121), (3, .ref 153), (0, .ref scP)] [] SH M := by
  have e1 : nI i + 1 = nI (i + 1) := nI_add i 1
  have e2 : nI i + 2 = nI (i + 2) := nI_add i 2
  have e3 : nI i + 3 = nI (i + 3) := nI_add i 3
  have e4 : nI i + 4 = nI (i + 4) := nI_add i 4
  have htl : tp.length ≤ 240 := hC.2.1.2.1
  have hdl : ∀ r, r < 32 → (dc r).length ≤ 12 := fun r hr => (hC.2.2.2.2.2 r hr).2.1
  refine wp_aload_n dL_law_449 rfl ?_
  refine wp_aload_n dL_law_450 rfl ?_
  refine wp_iload dL_law_451 rfl ?_
  refine wp_iconst (v := 1) dL_law_453 rfl ?_
  refine wp_iadd dL_law_454 ?_
  rw [e1]
  refine wp_sld (i := i + 1) dL_law_455 (by omega) hL ?_
  refine wp_aload_n dL_law_456 rfl ?_
  refine wp_iload dL_law_457 rfl ?_
  refine wp_iconst (v := 2) dL_law_459 rfl ?_
  refine wp_iadd dL_law_460 ?_
  rw [e2]
  refine wp_sld (i := i + 2) dL_law_461 (by omega) hL ?_
  refine wp_aload_n dL_law_462 rfl ?_
  refine wp_iload dL_law_463 rfl ?_
  refine wp_iconst (v := 3) dL_law_465 rfl ?_
  refine wp_iadd dL_law_466 ?_
  rw [e3]
  refine wp_sld (i := i + 3) dL_law_467 (by omega) hL ?_
  refine wp_i2l dL_law_468 ?_
  refine wp_bipush (v := 32) dL_law_469 (by decide) ?_
  refine wp_lshl dL_law_471 ?_
  refine wp_aload_n dL_law_472 rfl ?_
  refine wp_iload dL_law_473 rfl ?_
  refine wp_iconst (v := 4) dL_law_475 rfl ?_
  refine wp_iadd dL_law_476 ?_
  rw [e4]
  refine wp_sld (i := i + 4) dL_law_477 (by omega) hL ?_
  refine wp_i2l dL_law_478 ?_
  refine wp_ldc2 dL_law_479 kl_L_37 ?_
  refine wp_land dL_law_482 ?_
  refine wp_lor dL_law_483 ?_
  refine wp_cV3p dL_law_484 ml_L_78 vX8_word ⟨7, (RX8, TX8, 10), rfl, rfl, rfl⟩ (cX8_word_ E tp gn q o dc M hC _ _ _) (Nat.le_of_ble_eq_true rfl) (Nat.le_of_ble_eq_true rfl) (Nat.le_of_ble_eq_true rfl) (by show _ ≤ 603072; omega) (by show _ ≤ 7262314; omega) (fun v sh1 M2 hqq => ?_)
  obtain ⟨rfl, rfl, hC2, hO⟩ := hqq
  have hR2 := RM_oC hR hO
  refine wp_aload_n dL_law_487 rfl ?_
  refine wp_aload_n dL_law_488 rfl ?_
  refine wp_iload dL_law_489 rfl ?_
  refine wp_iconst (v := 1) dL_law_491 rfl ?_
  refine wp_iadd dL_law_492 ?_
  rw [e1]
  refine wp_sld (i := i + 1) dL_law_493 (by omega) hL ?_
  refine wp_aload_n dL_law_494 rfl ?_
  refine wp_iload dL_law_495 rfl ?_
  refine wp_iconst (v := 2) dL_law_497 rfl ?_
  refine wp_iadd dL_law_498 ?_
  rw [e2]
  refine wp_sld (i := i + 2) dL_law_499 (by omega) hL ?_
  refine wp_aload_n dL_law_500 rfl ?_
  refine wp_iload dL_law_501 rfl ?_
  refine wp_iconst (v := 3) dL_law_503 rfl ?_
  refine wp_iadd dL_law_504 ?_
  rw [e3]
  refine wp_sld (i := i + 3) dL_law_505 (by omega) hL ?_
  refine wp_i2l dL_law_506 ?_
  refine wp_bipush (v := 32) dL_law_507 (by decide) ?_
  refine wp_lshl dL_law_509 ?_
  refine wp_aload_n dL_law_510 rfl ?_
  refine wp_iload dL_law_511 rfl ?_
  refine wp_iconst (v := 4) dL_law_513 rfl ?_
  refine wp_iadd dL_law_514 ?_
  rw [e4]
  refine wp_sld (i := i + 4) dL_law_515 (by omega) hL ?_
  refine wp_i2l dL_law_516 ?_
  refine wp_ldc2 dL_law_517 kl_L_37 ?_
  refine wp_land dL_law_520 ?_
  refine wp_lor dL_law_521 ?_
  refine wp_cV3p dL_law_522 ml_L_82 vX9_word_ ⟨8, (RX9, TX9, 39), rfl, rfl, rfl⟩ (cX9_word__ E tp gn q o dc M2 hR2 _ _ _) (Nat.le_of_ble_eq_true rfl) (Nat.le_of_ble_eq_true rfl) (Nat.le_of_ble_eq_true rfl) (by show _ ≤ 603072; omega) (by show _ ≤ 7262314; omega) (fun v sh1 M3 hqq => ?_)
  obtain ⟨rfl, rfl, -, hR3, hO3⟩ := hqq
  have hC3 := RC_oM hC2 hO3
  refine wp_icmp_eq (tgt := 747) dL_law_525 (by decide) (fun c525 => ?_) (fun c525 => absurd rfl c525)
  exact wp_lv (kk _ _ _ ⟨_, _, _, _, _, hC3, hR3, hk, dcOk_wd hdc hdl _ _ _⟩ (by omega) (by omega)) (by repeat (first | exact trivial | refine ⟨rfl, ?_⟩))
set_option maxRecDepth 100000 in
set_option maxHeartbeats 4000000 in
theorem law_a9 (E : GE) (hlt : E.1.stackTraces = false) {L : Nat} {xs : Nat → Int32} (hL : L ≤ 2560) (i : Nat) (hi : i + 5 ≤ L) (M : Mem) (tp gn : List Nat) (q : QQ) (o : Option (List Nat)) (dc : Nat → List (List Nat)) (hC : RC M tp gn q o dc) (hR : RM M tp gn q o dc) (hk : QOk q) (hdc : dcOk dc) (kc ks : Nat) (hkc : kc ≤ 200 + i) (hks : ks ≤ 10000 + 8 * i)
    (kk : ∀ (M' : Mem) (kc' ks' : Nat), Inv M' → kc' ≤ 201 + i → ks' ≤ 10008 + 8 * i → Wp (xLaw E L xs) kc' ks' 747 [(4, .int (nI i)), (1, .ref 0), (2, .ref 121), (3, .ref 153), (0, .ref scP)] [] SH M') : Wp (xLaw E L xs) kc ks 530 [(4, .int (nI i)), (1, .ref 0), (2, .ref 121), (3, .ref 153), (0, .ref scP)] [] SH M := by
  have e1 : nI i + 1 = nI (i + 1) := nI_add i 1
  have e2 : nI i + 2 = nI (i + 2) := nI_add i 2
  have e3 : nI i + 3 = nI (i + 3) := nI_add i 3
  have e4 : nI i + 4 = nI (i + 4) := nI_add i 4
  have htl : tp.length ≤ 240 := hC.2.1.2.1
  have hdl : ∀ r, r < 32 → (dc r).length ≤ 12 := fun r hr => (hC.2.2.2.2.2 r hr).2.1
  refine wp_aload_n dL_law_530 rfl ?_
  refine wp_aload_n dL_law_531 rfl ?_
  refine wp_iload dL_law_532 rfl ?_
  refine wp_iconst (v := 1) dL_law_534 rfl ?_
  refine wp_iadd dL_law_535 ?_
  rw [e1]
  refine wp_sld (i := i + 1) dL_law_536 (by omega) hL ?_
  refine wp_cV1p dL_law_537 ml_L_83 vX8_clear ⟨7, (RX8, TX8, 10), rfl, rfl, rfl⟩ (cX8_clear_ E tp gn q o dc M hC _) (Nat.le_of_ble_eq_true rfl) (Nat.le_of_ble_eq_true rfl) (Nat.le_of_ble_eq_true rfl) (by show _ ≤ 603072; omega) (by show _ ≤ 7262314; omega) (fun v sh1 M2 hqq => ?_)
  obtain ⟨rfl, rfl, hC2, hO⟩ := hqq
  have hR2 := RM_oC hR hO
  refine wp_aload_n dL_law_540 rfl ?_
  refine wp_aload_n dL_law_541 rfl ?_
  refine wp_iload dL_law_542 rfl ?_
  refine wp_iconst (v := 1) dL_law_544 rfl ?_
  refine wp_iadd dL_law_545 ?_
  rw [e1]
  refine wp_sld (i := i + 1) dL_law_546 (by omega) hL ?_
  refine wp_cV1p dL_law_547 ml_L_86 vX9_clear ⟨8, (RX9, TX9, 39), rfl, rfl, rfl⟩ (cX9_clear_ E tp gn q o dc M2 hR2 _) (Nat.le_of_ble_eq_true rfl) (Nat.le_of_ble_eq_true rfl) (Nat.le_of_ble_eq_true rfl) (by show _ ≤ 603072; omega) (by show _ ≤ 7262314; omega) (fun v sh1 M3 hqq => ?_)
  obtain ⟨rfl, rfl, -, hR3, hO3⟩ := hqq
  have hC3 := RC_oM hC2 hO3
  refine wp_icmp_eq (tgt := 747) dL_law_550 (by decide) (fun c550 => ?_) (fun c550 => absurd rfl c550)
  exact wp_lv (kk _ _ _ ⟨_, _, _, _, _, hC3, hR3, hk, dcOk_cl hdc _⟩ (by omega) (by omega)) (by repeat (first | exact trivial | refine ⟨rfl, ?_⟩))
set_option maxRecDepth 100000 in
set_option maxHeartbeats 4000000 in
theorem law_a10 (E : GE) (hlt : E.1.stackTraces = false) {L : Nat} {xs : Nat → Int32} (hL : L ≤ 2560) (i : Nat) (hi : i + 5 ≤ L) (M : Mem) (tp gn : List Nat) (q : QQ) (o : Option (List Nat)) (dc : Nat → List (List Nat)) (hC : RC M tp gn q o dc) (hR : RM M tp gn q o dc) (hk : QOk q) (hdc : dcOk dc) (kc ks : Nat) (hkc : kc ≤ 200 + i) (hks : ks ≤ 10000 + 8 * i)
    (kk : ∀ (M' : Mem) (kc' ks' : Nat), Inv M' → kc' ≤ 201 + i → ks' ≤ 10008 + 8 * i → Wp (xLaw E L xs) kc' ks' 747 [(4, .int (nI i)), (1, .ref 0), (2, .ref 121), (3, .ref 153), (0, .ref scP)] [] SH M') : Wp (xLaw E L xs) kc ks 555 [(4, .int (nI i)), (1, .ref 0), (2, .ref 121), (3, .ref 153), (0, .ref scP)] [] SH M := by
  have e1 : nI i + 1 = nI (i + 1) := nI_add i 1
  have e2 : nI i + 2 = nI (i + 2) := nI_add i 2
  have e3 : nI i + 3 = nI (i + 3) := nI_add i 3
  have e4 : nI i + 4 = nI (i + 4) := nI_add i 4
  have htl : tp.length ≤ 240 := hC.2.1.2.1
  have hdl : ∀ r, r < 32 → (dc r).length ≤ 12 := fun r hr => (hC.2.2.2.2.2 r hr).2.1
  refine wp_aload_n dL_law_555 rfl ?_
  refine wp_aload_n dL_law_556 rfl ?_
  refine wp_iload dL_law_557 rfl ?_
  refine wp_iconst (v := 1) dL_law_559 rfl ?_
  refine wp_iadd dL_law_560 ?_
  rw [e1]
  refine wp_sld (i := i + 1) dL_law_561 (by omega) hL ?_
  refine wp_aload_n dL_law_562 rfl ?_
  refine wp_iload dL_law_563 rfl ?_
  refine wp_iconst (v := 2) dL_law_565 rfl ?_
  refine wp_iadd dL_law_566 ?_
  rw [e2]
  refine wp_sld (i := i + 2) dL_law_567 (by omega) hL ?_
  refine wp_cV2p dL_law_568 ml_L_87 vX8_fits ⟨7, (RX8, TX8, 10), rfl, rfl, rfl⟩ (cX8_fits_ E tp gn q o dc M hC hk hdc _ _) (Nat.le_of_ble_eq_true rfl) (Nat.le_of_ble_eq_true rfl) (Nat.le_of_ble_eq_true rfl) (by show _ ≤ 603072; omega) (by show _ ≤ 7262314; omega) (fun v sh1 M2 hqq => ?_)
  obtain ⟨rfl, rfl, hC2, hO⟩ := hqq
  have hR2 := RM_oC hR hO
  refine wp_aload_n dL_law_571 rfl ?_
  refine wp_aload_n dL_law_572 rfl ?_
  refine wp_iload dL_law_573 rfl ?_
  refine wp_iconst (v := 1) dL_law_575 rfl ?_
  refine wp_iadd dL_law_576 ?_
  rw [e1]
  refine wp_sld (i := i + 1) dL_law_577 (by omega) hL ?_
  refine wp_aload_n dL_law_578 rfl ?_
  refine wp_iload dL_law_579 rfl ?_
  refine wp_iconst (v := 2) dL_law_581 rfl ?_
  refine wp_iadd dL_law_582 ?_
  rw [e2]
  refine wp_sld (i := i + 2) dL_law_583 (by omega) hL ?_
  refine wp_cV2p dL_law_584 ml_L_90 vX9_fits ⟨8, (RX9, TX9, 39), rfl, rfl, rfl⟩ (cX9_fits_ E tp gn q o dc M2 hR2 hk hdc _ _) (Nat.le_of_ble_eq_true rfl) (Nat.le_of_ble_eq_true rfl) (Nat.le_of_ble_eq_true rfl) (by show _ ≤ 603072; omega) (by show _ ≤ 7262314; omega) (fun v sh1 M3 hqq => ?_)
  obtain ⟨rfl, rfl, -, hR3, hO3⟩ := hqq
  have hC3 := RC_oM hC2 hO3
  refine wp_icmp_eq (tgt := 747) dL_law_587 (by decide) (fun c587 => ?_) (fun c587 => absurd rfl c587)
  exact wp_lv (kk _ _ _ ⟨_, _, _, _, _, hC3, hR3, hk, hdc⟩ (by omega) (by omega)) (by repeat (first | exact trivial | refine ⟨rfl, ?_⟩))
set_option maxRecDepth 100000 in
set_option maxHeartbeats 4000000 in
theorem law_a11 (E : GE) (hlt : E.1.stackTraces = false) {L : Nat} {xs : Nat → Int32} (hL : L ≤ 2560) (i : Nat) (hi : i + 5 ≤ L) (M : Mem) (tp gn : List Nat) (q : QQ) (o : Option (List Nat)) (dc : Nat → List (List Nat)) (hC : RC M tp gn q o dc) (hR : RM M tp gn q o dc) (hk : QOk q) (hdc : dcOk dc) (kc ks : Nat) (hkc : kc ≤ 200 + i) (hks : ks ≤ 10000 + 8 * i)
    (kk : ∀ (M' : Mem) (kc' ks' : Nat), Inv M' → kc' ≤ 201 + i → ks' ≤ 10008 + 8 * i → Wp (xLaw E L xs) kc' ks' 747 [(4, .int (nI i)), (1, .ref 0), (2, .ref 121), (3, .ref 153), (0, .ref scP)] [] SH M') : Wp (xLaw E L xs) kc ks 592 [(4, .int (nI i)), (1, .ref 0), (2, .ref 121), (3, .ref 153), (0, .ref scP)] [] SH M := by
  have e1 : nI i + 1 = nI (i + 1) := nI_add i 1
  have e2 : nI i + 2 = nI (i + 2) := nI_add i 2
  have e3 : nI i + 3 = nI (i + 3) := nI_add i 3
  have e4 : nI i + 4 = nI (i + 4) := nI_add i 4
  have htl : tp.length ≤ 240 := hC.2.1.2.1
  have hdl : ∀ r, r < 32 → (dc r).length ≤ 12 := fun r hr => (hC.2.2.2.2.2 r hr).2.1
  refine wp_aload_n dL_law_592 rfl ?_
  refine wp_aload_n dL_law_593 rfl ?_
  refine wp_iload dL_law_594 rfl ?_
  refine wp_iconst (v := 1) dL_law_596 rfl ?_
  refine wp_iadd dL_law_597 ?_
  rw [e1]
  refine wp_sld (i := i + 1) dL_law_598 (by omega) hL ?_
  refine wp_aload_n dL_law_599 rfl ?_
  refine wp_iload dL_law_600 rfl ?_
  refine wp_iconst (v := 2) dL_law_602 rfl ?_
  refine wp_iadd dL_law_603 ?_
  rw [e2]
  refine wp_sld (i := i + 2) dL_law_604 (by omega) hL ?_
  refine wp_cV2p dL_law_605 ml_L_91 vX8_worth ⟨7, (RX8, TX8, 10), rfl, rfl, rfl⟩ (cX8_worth_ E tp gn q o dc M hC hk hdc _ _) (Nat.le_of_ble_eq_true rfl) (Nat.le_of_ble_eq_true rfl) (Nat.le_of_ble_eq_true rfl) (by show _ ≤ 603072; omega) (by show _ ≤ 7262314; omega) (fun v sh1 M2 hqq => ?_)
  obtain ⟨rfl, rfl, hC2, hO⟩ := hqq
  have hR2 := RM_oC hR hO
  refine wp_aload_n dL_law_608 rfl ?_
  refine wp_aload_n dL_law_609 rfl ?_
  refine wp_iload dL_law_610 rfl ?_
  refine wp_iconst (v := 1) dL_law_612 rfl ?_
  refine wp_iadd dL_law_613 ?_
  rw [e1]
  refine wp_sld (i := i + 1) dL_law_614 (by omega) hL ?_
  refine wp_aload_n dL_law_615 rfl ?_
  refine wp_iload dL_law_616 rfl ?_
  refine wp_iconst (v := 2) dL_law_618 rfl ?_
  refine wp_iadd dL_law_619 ?_
  rw [e2]
  refine wp_sld (i := i + 2) dL_law_620 (by omega) hL ?_
  refine wp_cV2p dL_law_621 ml_L_94 vX9_worth ⟨8, (RX9, TX9, 39), rfl, rfl, rfl⟩ (cX9_worth_ E tp gn q o dc M2 hR2 hk hdc _ _) (Nat.le_of_ble_eq_true rfl) (Nat.le_of_ble_eq_true rfl) (Nat.le_of_ble_eq_true rfl) (by show _ ≤ 603072; omega) (by show _ ≤ 7262314; omega) (fun v sh1 M3 hqq => ?_)
  obtain ⟨rfl, rfl, -, hR3, hO3⟩ := hqq
  have hC3 := RC_oM hC2 hO3
  refine wp_lcmp dL_law_624 ?_
  refine wp_if_eq (tgt := 747) dL_law_625 (by decide) (fun c625 => ?_) (fun c625 => absurd ((lg_eq _ _).mpr rfl) c625)
  exact wp_lv (kk _ _ _ ⟨_, _, _, _, _, hC3, hR3, hk, hdc⟩ (by omega) (by omega)) (by repeat (first | exact trivial | refine ⟨rfl, ?_⟩))
set_option maxRecDepth 100000 in
set_option maxHeartbeats 4000000 in
theorem law_a12 (E : GE) (hlt : E.1.stackTraces = false) {L : Nat} {xs : Nat → Int32} (hL : L ≤ 2560) (i : Nat) (hi : i + 5 ≤ L) (M : Mem) (tp gn : List Nat) (q : QQ) (o : Option (List Nat)) (dc : Nat → List (List Nat)) (hC : RC M tp gn q o dc) (hR : RM M tp gn q o dc) (hk : QOk q) (hdc : dcOk dc) (kc ks : Nat) (hkc : kc ≤ 200 + i) (hks : ks ≤ 10000 + 8 * i)
    (kk : ∀ (M' : Mem) (kc' ks' : Nat), Inv M' → kc' ≤ 201 + i → ks' ≤ 10008 + 8 * i → Wp (xLaw E L xs) kc' ks' 747 [(4, .int (nI i)), (1, .ref 0), (2, .ref 121), (3, .ref 153), (0, .ref scP)] [] SH M') : Wp (xLaw E L xs) kc ks 630 [(4, .int (nI i)), (1, .ref 0), (2, .ref 121), (3, .ref 153), (0, .ref scP)] [] SH M := by
  have e1 : nI i + 1 = nI (i + 1) := nI_add i 1
  have e2 : nI i + 2 = nI (i + 2) := nI_add i 2
  have e3 : nI i + 3 = nI (i + 3) := nI_add i 3
  have e4 : nI i + 4 = nI (i + 4) := nI_add i 4
  have htl : tp.length ≤ 240 := hC.2.1.2.1
  have hdl : ∀ r, r < 32 → (dc r).length ≤ 12 := fun r hr => (hC.2.2.2.2.2 r hr).2.1
  refine wp_aload_n dL_law_630 rfl ?_
  refine wp_aload_n dL_law_631 rfl ?_
  refine wp_iload dL_law_632 rfl ?_
  refine wp_iconst (v := 1) dL_law_634 rfl ?_
  refine wp_iadd dL_law_635 ?_
  rw [e1]
  refine wp_sld (i := i + 1) dL_law_636 (by omega) hL ?_
  refine wp_aload_n dL_law_637 rfl ?_
  refine wp_iload dL_law_638 rfl ?_
  refine wp_iconst (v := 2) dL_law_640 rfl ?_
  refine wp_iadd dL_law_641 ?_
  rw [e2]
  refine wp_sld (i := i + 2) dL_law_642 (by omega) hL ?_
  refine wp_aload_n dL_law_643 rfl ?_
  show Wp _ _ _ _ _ ([.ref 0, .int (xs (i + 1)), .int (xs (i + 2)), .ref 153].reverse ++ []) SH M
  refine wp_callSH (n := 4) (As := [.ref 0, .int (xs (i + 1)), .int (xs (i + 2)), .ref 153]) (rest := []) dL_law_644 ml_L_95 hcR ii_L hsR nmL_ratio rfl (cL_ratio_ E hlt tp gn q o dc M hC hk hdc _ _) (Nat.le_of_ble_eq_true rfl) (Nat.le_of_ble_eq_true rfl) (Nat.le_of_ble_eq_true rfl) (by show _ ≤ 603072; omega) (by show _ ≤ 7262314; omega) (fun v sh1 M2 hqq => ?_)
  obtain ⟨rfl, rfl, h153, hC2, hO2⟩ := hqq
  have hR2 := RM_eq hR hO2
  refine wp_istore dL_law_647 (Nat.le_of_ble_eq_true rfl) ?_
  refine wp_aload_n dL_law_649 rfl ?_
  refine wp_aload_n dL_law_650 rfl ?_
  refine wp_iload dL_law_651 rfl ?_
  refine wp_iconst (v := 1) dL_law_653 rfl ?_
  refine wp_iadd dL_law_654 ?_
  rw [e1]
  refine wp_sld (i := i + 1) dL_law_655 (by omega) hL ?_
  refine wp_aload_n dL_law_656 rfl ?_
  refine wp_iload dL_law_657 rfl ?_
  refine wp_iconst (v := 2) dL_law_659 rfl ?_
  refine wp_iadd dL_law_660 ?_
  rw [e2]
  refine wp_sld (i := i + 2) dL_law_661 (by omega) hL ?_
  refine wp_cV2p dL_law_662 ml_L_97 vX9_ratio ⟨8, (RX9, TX9, 39), rfl, rfl, rfl⟩ (cX9_ratio_ E tp gn q o dc M2 hR2 hk hdc _ _) (Nat.le_of_ble_eq_true rfl) (Nat.le_of_ble_eq_true rfl) (Nat.le_of_ble_eq_true rfl) (by show _ ≤ 603072; omega) (by show _ ≤ 7262314; omega) (fun v sh1 M3 hqq => ?_)
  obtain ⟨rfl, rfl, hth, hR3, hO3⟩ := hqq
  have hC3 := RC_oM hC2 hO3
  refine wp_lstore dL_law_665 (Nat.le_of_ble_eq_true rfl) ?_
  refine wp_aload_n dL_law_667 rfl ?_
  refine wp_cV0p dL_law_668 ml_L_63 vX9_thrown ⟨8, (RX9, TX9, 39), rfl, rfl, rfl⟩ (cX9_thrown_ E _) (Nat.le_of_ble_eq_true rfl) (Nat.le_of_ble_eq_true rfl) (Nat.le_of_ble_eq_true rfl) (by show _ ≤ 603072; omega) (by show _ ≤ 7262314; omega) (fun v sh1 M4 hqq => ?_)
  obtain ⟨rfl, rfl, rfl⟩ := hqq
  refine wp_iload dL_law_671 rfl ?_
  refine wp_icmp_eq (tgt := 678) dL_law_673 (by decide) (fun c673 => ?_) (fun c673 => absurd hth c673)
  refine wp_iload dL_law_678 rfl ?_
  refine wp_if_ne (tgt := 694) dL_law_680 (by decide) (fun c680 => ?_) (fun c680 => ?_)
  · refine wp_goto (tgt := 747) dL_law_694 (by decide) ?_
    exact wp_lv (kk _ _ _ ⟨_, _, _, _, _, hC3, hR3, hk, hdc⟩ (by omega) (by omega)) (by repeat (first | exact trivial | refine ⟨rfl, ?_⟩))
  · refine wp_aload_n dL_law_683 rfl ?_
    refine wp_iconst (v := 0) dL_law_684 rfl ?_
    refine wp_laload dL_law_685 rfl in01 ?_
    refine wp_lload dL_law_686 rfl ?_
    refine wp_lcmp dL_law_688 ?_
    refine wp_if_eq (tgt := 694) dL_law_689 (by decide) (fun c689 => ?_) (fun c689 => absurd ((lg_eq _ _).mpr (((hO3 153 (Or.inr rfl)).2.2.2.1 _).trans (h153 c680))) c689)
    refine wp_goto (tgt := 747) dL_law_694 (by decide) ?_
    exact wp_lv (kk _ _ _ ⟨_, _, _, _, _, hC3, hR3, hk, hdc⟩ (by omega) (by omega)) (by repeat (first | exact trivial | refine ⟨rfl, ?_⟩))
set_option maxRecDepth 100000 in
set_option maxHeartbeats 4000000 in
theorem law_a13 (E : GE) (hlt : E.1.stackTraces = false) {L : Nat} {xs : Nat → Int32} (hL : L ≤ 2560) (i : Nat) (hi : i + 5 ≤ L) (M : Mem) (tp gn : List Nat) (q : QQ) (o : Option (List Nat)) (dc : Nat → List (List Nat)) (hC : RC M tp gn q o dc) (hR : RM M tp gn q o dc) (hk : QOk q) (hdc : dcOk dc) (kc ks : Nat) (hkc : kc ≤ 200 + i) (hks : ks ≤ 10000 + 8 * i)
    (kk : ∀ (M' : Mem) (kc' ks' : Nat), Inv M' → kc' ≤ 201 + i → ks' ≤ 10008 + 8 * i → Wp (xLaw E L xs) kc' ks' 747 [(4, .int (nI i)), (1, .ref 0), (2, .ref 121), (3, .ref 153), (0, .ref scP)] [] SH M') : Wp (xLaw E L xs) kc ks 697 [(4, .int (nI i)), (1, .ref 0), (2, .ref 121), (3, .ref 153), (0, .ref scP)] [] SH M := by
  have e1 : nI i + 1 = nI (i + 1) := nI_add i 1
  have e2 : nI i + 2 = nI (i + 2) := nI_add i 2
  have e3 : nI i + 3 = nI (i + 3) := nI_add i 3
  have e4 : nI i + 4 = nI (i + 4) := nI_add i 4
  have htl : tp.length ≤ 240 := hC.2.1.2.1
  have hdl : ∀ r, r < 32 → (dc r).length ≤ 12 := fun r hr => (hC.2.2.2.2.2 r hr).2.1
  refine wp_aload_n dL_law_697 rfl ?_
  refine wp_aload_n dL_law_698 rfl ?_
  refine wp_iload dL_law_699 rfl ?_
  refine wp_iconst (v := 1) dL_law_701 rfl ?_
  refine wp_iadd dL_law_702 ?_
  rw [e1]
  refine wp_sld (i := i + 1) dL_law_703 (by omega) hL ?_
  refine wp_cV1p dL_law_704 ml_L_98 vX8_why ⟨7, (RX8, TX8, 10), rfl, rfl, rfl⟩ (cX8_why_ E tp gn q o dc M hC hk hdc _) (Nat.le_of_ble_eq_true rfl) (Nat.le_of_ble_eq_true rfl) (Nat.le_of_ble_eq_true rfl) (by show _ ≤ 603072; omega) (by show _ ≤ 7262314; omega) (fun v sh1 M2 hqq => ?_)
  obtain ⟨rfl, rfl, hC2, hO⟩ := hqq
  have hR2 := RM_oC hR hO
  refine wp_aload_n dL_law_707 rfl ?_
  refine wp_aload_n dL_law_708 rfl ?_
  refine wp_iload dL_law_709 rfl ?_
  refine wp_iconst (v := 1) dL_law_711 rfl ?_
  refine wp_iadd dL_law_712 ?_
  rw [e1]
  refine wp_sld (i := i + 1) dL_law_713 (by omega) hL ?_
  refine wp_cV1p dL_law_714 ml_L_101 vX9_why ⟨8, (RX9, TX9, 39), rfl, rfl, rfl⟩ (cX9_why_ E tp gn q o dc M2 hR2 hk hdc _) (Nat.le_of_ble_eq_true rfl) (Nat.le_of_ble_eq_true rfl) (Nat.le_of_ble_eq_true rfl) (by show _ ≤ 603072; omega) (by show _ ≤ 7262314; omega) (fun v sh1 M3 hqq => ?_)
  obtain ⟨rfl, rfl, -, hR3, hO3⟩ := hqq
  have hC3 := RC_oM hC2 hO3
  refine wp_icmp_eq (tgt := 747) dL_law_717 (by decide) (fun c717 => ?_) (fun c717 => absurd rfl c717)
  exact wp_lv (kk _ _ _ ⟨_, _, _, _, _, hC3, hR3, hk, hdc⟩ (by omega) (by omega)) (by repeat (first | exact trivial | refine ⟨rfl, ?_⟩))
set_option maxRecDepth 100000 in
set_option maxHeartbeats 4000000 in
theorem law_a14 (E : GE) (hlt : E.1.stackTraces = false) {L : Nat} {xs : Nat → Int32} (hL : L ≤ 2560) (i : Nat) (hi : i + 5 ≤ L) (M : Mem) (tp gn : List Nat) (q : QQ) (o : Option (List Nat)) (dc : Nat → List (List Nat)) (hC : RC M tp gn q o dc) (hR : RM M tp gn q o dc) (hk : QOk q) (hdc : dcOk dc) (kc ks : Nat) (hkc : kc ≤ 200 + i) (hks : ks ≤ 10000 + 8 * i)
    (kk : ∀ (M' : Mem) (kc' ks' : Nat), Inv M' → kc' ≤ 201 + i → ks' ≤ 10008 + 8 * i → Wp (xLaw E L xs) kc' ks' 747 [(4, .int (nI i)), (1, .ref 0), (2, .ref 121), (3, .ref 153), (0, .ref scP)] [] SH M') : Wp (xLaw E L xs) kc ks 722 [(4, .int (nI i)), (1, .ref 0), (2, .ref 121), (3, .ref 153), (0, .ref scP)] [] SH M := by
  have e1 : nI i + 1 = nI (i + 1) := nI_add i 1
  have e2 : nI i + 2 = nI (i + 2) := nI_add i 2
  have e3 : nI i + 3 = nI (i + 3) := nI_add i 3
  have e4 : nI i + 4 = nI (i + 4) := nI_add i 4
  have htl : tp.length ≤ 240 := hC.2.1.2.1
  have hdl : ∀ r, r < 32 → (dc r).length ≤ 12 := fun r hr => (hC.2.2.2.2.2 r hr).2.1
  refine wp_aload_n dL_law_722 rfl ?_
  refine wp_aload_n dL_law_723 rfl ?_
  refine wp_iload dL_law_724 rfl ?_
  refine wp_iconst (v := 1) dL_law_726 rfl ?_
  refine wp_iadd dL_law_727 ?_
  rw [e1]
  refine wp_sld (i := i + 1) dL_law_728 (by omega) hL ?_
  refine wp_cV1p dL_law_729 ml_L_102 vX8_rank ⟨7, (RX8, TX8, 10), rfl, rfl, rfl⟩ (cX8_rank_ E tp gn q o dc M hC hk hdc _) (Nat.le_of_ble_eq_true rfl) (Nat.le_of_ble_eq_true rfl) (Nat.le_of_ble_eq_true rfl) (by show _ ≤ 603072; omega) (by show _ ≤ 7262314; omega) (fun v sh1 M2 hqq => ?_)
  obtain ⟨rfl, rfl, hC2, hO⟩ := hqq
  have hR2 := RM_oC hR hO
  refine wp_aload_n dL_law_732 rfl ?_
  refine wp_aload_n dL_law_733 rfl ?_
  refine wp_iload dL_law_734 rfl ?_
  refine wp_iconst (v := 1) dL_law_736 rfl ?_
  refine wp_iadd dL_law_737 ?_
  rw [e1]
  refine wp_sld (i := i + 1) dL_law_738 (by omega) hL ?_
  refine wp_cV1p dL_law_739 ml_L_105 vX9_rank ⟨8, (RX9, TX9, 39), rfl, rfl, rfl⟩ (cX9_rank_ E tp gn q o dc M2 hR2 hk hdc _) (Nat.le_of_ble_eq_true rfl) (Nat.le_of_ble_eq_true rfl) (Nat.le_of_ble_eq_true rfl) (by show _ ≤ 603072; omega) (by show _ ≤ 7262314; omega) (fun v sh1 M3 hqq => ?_)
  obtain ⟨rfl, rfl, -, hR3, hO3⟩ := hqq
  have hC3 := RC_oM hC2 hO3
  refine wp_icmp_eq (tgt := 747) dL_law_742 (by decide) (fun c742 => ?_) (fun c742 => absurd rfl c742)
  exact wp_lv (kk _ _ _ ⟨_, _, _, _, _, hC3, hR3, hk, hdc⟩ (by omega) (by omega)) (by repeat (first | exact trivial | refine ⟨rfl, ?_⟩))
set_option maxRecDepth 100000 in
set_option maxHeartbeats 4000000 in
theorem law_call (E : GE) (hlt : E.1.stackTraces = false) {L : Nat} {xs : Nat → Int32} (hL : L ≤ 2560) (i : Nat) (hi : i + 5 ≤ L) (M : Mem) (tp gn : List Nat) (q : QQ) (o : Option (List Nat)) (dc : Nat → List (List Nat)) (hC : RC M tp gn q o dc) (hR : RM M tp gn q o dc) (hk : QOk q) (hdc : dcOk dc) (kc ks : Nat) (hkc : kc ≤ 200 + i) (hks : ks ≤ 10000 + 8 * i)
    (kk : ∀ (M' : Mem) (kc' ks' : Nat), Inv M' → kc' ≤ 201 + i → ks' ≤ 10008 + 8 * i → Wp (xLaw E L xs) kc' ks' 747 [(4, .int (nI i)), (1, .ref 0), (2, .ref 121), (3, .ref 153), (0, .ref scP)] [] SH M') : Wp (xLaw E L xs) kc ks 32 [(4, .int (nI i)), (1, .ref 0), (2, .ref 121), (3, .ref 153), (0, .ref scP)] [] SH M := by
  obtain ⟨n, hn, en⟩ := and15 (xs i)
  refine wp_aload_n dL_law_32 rfl ?_
  refine wp_iload dL_law_33 rfl ?_
  refine wp_sld (i := i) dL_law_35 (by omega) hL ?_
  refine wp_bipush (v := 15) dL_law_36 (by decide) ?_
  refine wp_iand dL_law_38 ?_
  rw [en]
  rcases (show n = 0 ∨ n = 1 ∨ n = 2 ∨ n = 3 ∨ n = 4 ∨ n = 5 ∨ n = 6 ∨ n = 7 ∨ n = 8 ∨ n = 9 ∨ n = 10 ∨ n = 11 ∨ n = 12 ∨ n = 13 ∨ n = 14 ∨ n = 15 by omega) with rfl | rfl | rfl | rfl | rfl | rfl | rfl | rfl | rfl | rfl | rfl | rfl | rfl | rfl | rfl | rfl
  · refine wp_tableIn (off := 73) (tgt := 112) dL_law_39 (by decide) (by decide) rfl (by decide) ?_
    exact law_a0 E hlt hL i hi M tp gn q o dc hC hR hk hdc kc ks hkc hks kk
  · refine wp_tableIn (off := 142) (tgt := 181) dL_law_39 (by decide) (by decide) rfl (by decide) ?_
    exact law_a1 E hlt hL i hi M tp gn q o dc hC hR hk hdc kc ks hkc hks kk
  · refine wp_tableIn (off := 155) (tgt := 194) dL_law_39 (by decide) (by decide) rfl (by decide) ?_
    exact law_a2 E hlt hL i hi M tp gn q o dc hC hR hk hdc kc ks hkc hks kk
  · refine wp_tableIn (off := 168) (tgt := 207) dL_law_39 (by decide) (by decide) rfl (by decide) ?_
    exact law_a3 E hlt hL i hi M tp gn q o dc hC hR hk hdc kc ks hkc hks kk
  · refine wp_tableIn (off := 193) (tgt := 232) dL_law_39 (by decide) (by decide) rfl (by decide) ?_
    exact law_a4 E hlt hL i hi M tp gn q o dc hC hR hk hdc kc ks hkc hks kk
  · refine wp_tableIn (off := 261) (tgt := 300) dL_law_39 (by decide) (by decide) rfl (by decide) ?_
    exact law_a5 E hlt hL i hi M tp gn q o dc hC hR hk hdc kc ks hkc hks kk
  · refine wp_tableIn (off := 341) (tgt := 380) dL_law_39 (by decide) (by decide) rfl (by decide) ?_
    exact law_a6 E hlt hL i hi M tp gn q o dc hC hR hk hdc kc ks hkc hks kk
  · refine wp_tableIn (off := 354) (tgt := 393) dL_law_39 (by decide) (by decide) rfl (by decide) ?_
    exact law_a7 E hlt hL i hi M tp gn q o dc hC hR hk hdc kc ks hkc hks kk
  · refine wp_tableIn (off := 410) (tgt := 449) dL_law_39 (by decide) (by decide) rfl (by decide) ?_
    exact law_a8 E hlt hL i hi M tp gn q o dc hC hR hk hdc kc ks hkc hks kk
  · refine wp_tableIn (off := 491) (tgt := 530) dL_law_39 (by decide) (by decide) rfl (by decide) ?_
    exact law_a9 E hlt hL i hi M tp gn q o dc hC hR hk hdc kc ks hkc hks kk
  · refine wp_tableIn (off := 516) (tgt := 555) dL_law_39 (by decide) (by decide) rfl (by decide) ?_
    exact law_a10 E hlt hL i hi M tp gn q o dc hC hR hk hdc kc ks hkc hks kk
  · refine wp_tableIn (off := 553) (tgt := 592) dL_law_39 (by decide) (by decide) rfl (by decide) ?_
    exact law_a11 E hlt hL i hi M tp gn q o dc hC hR hk hdc kc ks hkc hks kk
  · refine wp_tableIn (off := 591) (tgt := 630) dL_law_39 (by decide) (by decide) rfl (by decide) ?_
    exact law_a12 E hlt hL i hi M tp gn q o dc hC hR hk hdc kc ks hkc hks kk
  · refine wp_tableIn (off := 658) (tgt := 697) dL_law_39 (by decide) (by decide) rfl (by decide) ?_
    exact law_a13 E hlt hL i hi M tp gn q o dc hC hR hk hdc kc ks hkc hks kk
  · refine wp_tableIn (off := 683) (tgt := 722) dL_law_39 (by decide) (by decide) rfl (by decide) ?_
    exact law_a14 E hlt hL i hi M tp gn q o dc hC hR hk hdc kc ks hkc hks kk
  · refine wp_tableOut (tgt := 747) dL_law_39 (by decide) (by decide) ?_
    exact wp_lv (kk M kc ks ⟨tp, gn, q, o, dc, hC, hR, hk, hdc⟩ (by omega) (by omega)) (by repeat (first | exact trivial | refine ⟨rfl, ?_⟩))
