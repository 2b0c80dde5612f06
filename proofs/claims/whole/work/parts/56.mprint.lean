/-! ===== the model prints: all ===== -/
/-- the model's tree -/
def MT (M : Mem) (n : Nat) (nd : Nat → ND) : Prop := rmG M ∧ rmQ M n nd ∧ TreeOk nd n ∧ rt (nd 0) ∧ (∀ k, 1 ≤ k → k < n → nOk (nd k)) ∧ ∀ k, k < n → okN (nd k)
theorem MT.fr {M M1 : Mem} {n : Nat} {nd : Nat → ND} (h : MT M n nd) (k : oF M M1) : MT M1 n nd :=
  ⟨h.1.fr k, h.2.1.fr k (by simp) (fun j hj => by simp; omega), h.2.2⟩
theorem MT.nx {M : Mem} {n k : Nat} {nd : Nat → ND} (h : MT M n nd) (hk : k < n) : NX M k (nd k) := ⟨h.1, by have := h.2.1.2.1; omega, h.2.1.2.2 k hk, h.2.2.2.2.2 k hk⟩
theorem chn_up {nd : Nat → ND} {n j a : Nat} (hn : n ≤ 25) (hj : j < n) (h1 : a < j) (h2 : nAr (nd j) = nI a) (hch : ∃ d, chn nd d j) : nCo (nd j) = 3 ∧ ∃ d, chn nd d a := by
  obtain ⟨d, hch⟩ := hch
  cases d with
  | zero => have hch : j = 0 := hch; omega
  | succ d =>
    obtain ⟨-, k2, b, k3, k4, k5⟩ := hch
    have : b = a := nI_e (by omega) (by omega) (k4.symm.trans h2)
    exact ⟨k2, d, by rw [← this]; exact k5⟩
def pPr (M : Mem) (n : Nat) (nd : Nat → ND) : PT := fun v sh1 M1 => sh1 = SH ∧ v = some (.int (nI (prS nd n).length)) ∧ oF M M1 ∧ rmO M1 (some (prS nd n))
abbrev XPr (E : GE) (M : Mem) (n : Nat) (nd : Nat → ND) (P : PT) : MX := xM E mX9_print 3 0 0 SH.length P
set_option maxRecDepth 100000 in
set_option maxHeartbeats 4000000 in
theorem pr_last (E : GE) {M : Mem} {n : Nat} {nd : Nat → ND} {P : PT} (hP : ∀ v s M1, pPr M n nd v s M1 → P v s M1) (hmt : MT M n nd) (hlen : (prS nd n).length ≤ 240) : ∀ (r j : Nat) (l1 : List Nat) (M1 : Mem), j < n → (∃ d, chn nd d j) → anc nd r j 0 → oF M M1 → rmO M1 (some l1) → prS nd n = l1 ++ cL nd r j → Wp (XPr E M n nd P) 0 0 172 [(1, .int (nI j)), (0, .ref 121)] [] SH M1 := by
  have hn25 := hmt.2.1.2.1
  intro r
  induction r with
  | zero =>
    intro j l1 M1 hj hch ha hF0 hO0 hl1
    have ha : j = 0 := ha
    subst ha
    have hl1 : prS nd n = l1 := by rw [hl1]; exact List.append_nil _
    refine wp_iload_n dX9_print_172 rfl ?_
    refine wp_if_eq (tgt := 191) dX9_print_173 (by decide) (fun c173 => ?_) (fun c173 => absurd rfl c173)
    refine wp_aload_n dX9_print_191 rfl ?_
    refine wp_getI dX9_print_192 fl_X9_80 rfl rfl ?_
    refine wp_ireturn dX9_print_195 rfl rfl (Nat.zero_le _) (Nat.zero_le _) ?_
    rw [show fI M1 121 29 = nI l1.length from hO0.1, ← hl1]
    exact hP _ _ _ ⟨rfl, rfl, hF0, by rw [hl1]; exact hO0⟩
  | succ r ih =>
    intro j l1 M1 hj hch ha hF0 hO0 hl1
    obtain ⟨a, h1, h2, h3⟩ := ha
    have hmt1 := hmt.fr hF0
    have hx := hmt.2.2.2.2.1 j (by omega) hj
    obtain ⟨hc3, hcha⟩ := chn_up hn25 hj h1 h2 hch
    have ea : par nd j = a := par_n h2 (by omega)
    have hcl : cL nd (r + 1) j = closeS (nd j) ++ cL nd r a := by
      show closeS (nd j) ++ cL nd r (par nd j) = _
      rw [ea]
    rw [hcl] at hl1
    have hll : l1.length + (closeS (nd j)).length ≤ 240 := by
      have := congrArg List.length hl1
      simp only [List.length_append] at this
      omega
    have hin : vp_in (nI j) 25 := vp_in_nI (by omega) (by decide)
    have hjcl : (nI j).toNatClampNeg = j := nI_clamp (by omega)
    have f6 : ∀ {M2 : Mem}, oF M1 M2 → aI M2 137 j = nI a := fun q => ((hmt1.nx hj).fr q).2.2.1.2.2.2.2.2.1.trans h2
    refine wp_iload_n dX9_print_172 rfl ?_
    refine wp_if_eq (tgt := 191) dX9_print_173 (by decide) (fun c173 => absurd (nI_e (b := 0) (by omega) (by decide) c173) (by omega)) (fun c173 => ?_)
    refine wp_aload_n dX9_print_176 rfl ?_
    refine wp_iload_n dX9_print_177 rfl ?_
    refine wp_cV1p dX9_print_178 ml_X9_206 vX9_closes ⟨8, (RX9, TX9, 39), rfl, rfl, rfl⟩ (cX9_closes_ E j (nd j) l1 M1 (hmt1.nx hj) hO0 hx hc3 hll) (Nat.le_of_ble_eq_true rfl) (Nat.le_of_ble_eq_true rfl) (Nat.le_of_ble_eq_true rfl) (Nat.le_refl _) (Nat.le_refl _) (fun v sh1 M1 hqq => ?_)
    obtain ⟨rfl, rfl, hF1, hO1⟩ := hqq
    refine wp_aload_n dX9_print_181 rfl ?_
    refine wp_getR dX9_print_182 fl_X9_59 rfl rfl ((hmt1.fr hF1).1 19) ?_
    refine wp_iload_n dX9_print_185 rfl ?_
    refine wp_iaload dX9_print_186 rfl hin ?_
    rw [hjcl, f6 hF1]
    refine wp_istore_n dX9_print_187 (Nat.le_of_ble_eq_true rfl) ?_
    refine wp_goto (tgt := 172) dX9_print_188 (by decide) ?_
    exact wp_lv (ih a _ _ (by omega) hcha h3 (hF0.tr hF1) hO1 (by rw [hl1, List.append_assoc])) (by repeat (first | exact trivial | refine ⟨rfl, ?_⟩))
set_option maxRecDepth 100000 in
set_option maxHeartbeats 4000000 in
theorem pr_loop (E : GE) {M : Mem} {n : Nat} {nd : Nat → ND} {P : PT} (hP : ∀ v s M1, pPr M n nd v s M1 → P v s M1) (hmt : MT M n nd) (hopl : opk nd (n - 1) < n) (hlast : ∃ m, m ≤ 5 ∧ anc nd m (opk nd (n - 1)) 0) (hlen : (prS nd n).length ≤ 240) : ∀ (r k : Nat) (M1 : Mem), k + r = n → 1 ≤ k → oF M M1 → rmO M1 (some (pT nd k)) → Wp (XPr E M n nd P) 0 0 26 [(3, .int (nI k)), (2, .int (b2i (opk nd (k - 1) = k - 1))), (1, .int (nI (opk nd (k - 1)))), (0, .ref 121)] [] SH M1 := by
  have hn25 := hmt.2.1.2.1
  have hTO := hmt.2.2.1
  have hrt := hmt.2.2.2.1
  have hnk := hmt.2.2.2.2.1
  have hpre : ∀ k, k ≤ n → (pT nd k).length ≤ 240 := fun k hk => by
    have h1 := pT_pre nd n k hk
    have h2 : (pT nd n).length ≤ (prS nd n).length := by unfold prS; rw [List.length_append]; omega
    omega
  intro r
  induction r with
  | zero =>
    intro k M1 hk h1 hF0 hO0
    have hk : k = n := by omega
    subst hk
    have hmt1 := hmt.fr hF0
    have en : fI M1 121 13 = nI k := hmt1.2.1.1
    obtain ⟨m, hm5, hanc⟩ := hlast
    have hst : stp nd 5 (opk nd (k - 1)) 0 = m := stp_anc m 5 _ 0 hanc hm5 (by omega)
    have epr : prS nd k = pT nd k ++ cL nd m (opk nd (k - 1)) := by unfold prS; rw [hst]
    refine wp_iload_n dX9_print_26 rfl ?_
    refine wp_aload_n dX9_print_27 rfl ?_
    refine wp_getI dX9_print_28 fl_X9_112 rfl rfl ?_
    rw [en]
    refine wp_icmp_ge (tgt := 172) dX9_print_31 (by decide) (fun c31 => ?_) (fun c31 => absurd (Int32.le_refl _) c31)
    exact wp_lv (pr_last E hP hmt hlen m _ _ M1 hopl (opk_chn hrt hTO (by omega) hn25).1 hanc hF0 hO0 epr) (by repeat (first | exact trivial | refine ⟨rfl, ?_⟩))
  | succ r ih =>
    intro k M1 hk h1 hF0 hO0
    have hkn : k < n := by omega
    have hmt1 := hmt.fr hF0
    have en : fI M1 121 13 = nI n := hmt1.2.1.1
    obtain ⟨a, d, m, p1, p2, p3, p4, p5, p6, p7, p8⟩ := hTO k h1 hkn
    have hnx := hmt1.nx hkn
    have hx := hnk k h1 hkn
    have ea : par nd k = a := par_n p2 (by omega)
    have hst : stp nd 5 (opk nd (k - 1)) (par nd k) = m := by rw [ea]; exact stp_anc m 5 _ a p7 p5 (by omega)
    have hopn := opk_chn hrt hTO (show k - 1 < n by omega) hn25
    have hin : vp_in (nI k) 25 := vp_in_nI (by omega) (by decide)
    have hkcl : (nI k).toNatClampNeg = k := nI_clamp (by omega)
    have f6 : ∀ {M2 : Mem}, oF M1 M2 → aI M2 137 k = nI a := fun q => (hnx.fr q).2.2.1.2.2.2.2.2.1.trans p2
    have f0 : ∀ {M2 : Mem}, oF M1 M2 → aI M2 132 k = nCo (nd k) := fun q => (hnx.fr q).2.2.1.1
    have f1 : ∀ {M2 : Mem}, oF M1 M2 → aI M2 133 k = nMa (nd k) := fun q => (hnx.fr q).2.2.1.2.1
    have f3 : ∀ {M2 : Mem}, oF M1 M2 → aI M2 135 k = nFi (nd k) := fun q => (hnx.fr q).2.2.1.2.2.2.1
    have hpk := hpre (k + 1) hkn
    have enod : pT nd (k + 1) = pT nd k ++ cL nd m (opk nd (k - 1)) ++ (if a = k - 1 then [] else [32]) ++ (if nMa (nd k) = 0 then [] else [if nMa (nd k) = 1 then 43 else 45]) ++ (if nFi (nd k) = -1 then [] else [97 + (nFi (nd k)).toNatClampNeg] ++ [58]) ++ bodS (nd k) := by
      rw [pT_s h1]; unfold nodS headS; rw [hst, ea]; simp only [List.append_assoc]
    rw [enod] at hpk
    obtain ⟨l1, hl1⟩ : ∃ l1, l1 = pT nd k ++ cL nd m (opk nd (k - 1)) := ⟨_, rfl⟩
    obtain ⟨l2, hl2⟩ : ∃ l2, l2 = l1 ++ (if a = k - 1 then [] else [32]) := ⟨_, rfl⟩
    obtain ⟨l3, hl3⟩ : ∃ l3, l3 = l2 ++ (if nMa (nd k) = 0 then [] else [if nMa (nd k) = 1 then 43 else 45]) := ⟨_, rfl⟩
    obtain ⟨l4, hl4⟩ : ∃ l4, l4 = l3 ++ (if nFi (nd k) = -1 then [] else [97 + (nFi (nd k)).toNatClampNeg] ++ [58]) := ⟨_, rfl⟩
    rw [← hl1, ← hl2, ← hl3, ← hl4] at hpk enod
    have hl4b : l4.length + (bodS (nd k)).length ≤ 240 := by rw [List.length_append] at hpk; exact hpk
    have hl3b : l3.length + (if nFi (nd k) = -1 then 0 else 2) ≤ 240 := by
      have : l4.length = l3.length + (if nFi (nd k) = -1 then 0 else 2) := by rw [hl4, List.length_append]; congr 1; split <;> rfl
      omega
    have hl2b : l2.length + (if nMa (nd k) = 0 then 0 else 1) ≤ 240 := by
      have : l3.length = l2.length + (if nMa (nd k) = 0 then 0 else 1) := by rw [hl3, List.length_append]; congr 1; split <;> rfl
      omega
    have hl1b : l1.length + (if a = k - 1 then 0 else 1) ≤ 240 := by
      have : l2.length = l1.length + (if a = k - 1 then 0 else 1) := by rw [hl2, List.length_append]; congr 1; split <;> rfl
      omega
    obtain ⟨bn, hbn, hbo⟩ := hx.1.2.1
    have eo : opk nd k = if nCo (nd k) = 3 then k else a := by
      unfold opk
      split
      · rfl
      · exact ea
    have J130 : ∀ (M2 : Mem) (y : Int32), oF M1 M2 → rmO M2 (some l4) → Wp (XPr E M n nd P) 0 0 130 [(2, .int y), (1, .int (nI a)), (3, .int (nI k)), (0, .ref 121)] [] SH M2 := by
      intro M2 y hFz hOz
      refine wp_aload_n dX9_print_130 rfl ?_
      refine wp_getR dX9_print_131 fl_X9_44 rfl rfl ((hmt1.fr hFz).1 14) ?_
      refine wp_iload_n dX9_print_134 rfl ?_
      refine wp_iaload dX9_print_135 rfl hin ?_
      rw [hkcl, f0 hFz]
      refine wp_iconst (v := 3) dX9_print_136 rfl ?_
      refine wp_icmp_ne (tgt := 144) dX9_print_137 (by decide) (fun c137 => ?_) (fun c137 => ?_)
      · refine wp_iconst (v := 0) dX9_print_144 rfl ?_
        have eb : bodS (nd k) = coreS (nd k) ++ told 94 (nBo (nd k)) 1 := by unfold bodS; rw [if_neg c137]
        rw [eb] at hl4b enod
        rw [List.length_append] at hl4b
        refine wp_istore_n dX9_print_145 (Nat.le_of_ble_eq_true rfl) ?_
        refine wp_iload_n dX9_print_146 rfl ?_
        refine wp_if_eq (tgt := 161) dX9_print_147 (by decide) (fun c147 => ?_) (fun c147 => absurd rfl c147)
        refine wp_aload_n dX9_print_161 rfl ?_
        refine wp_iload_n dX9_print_162 rfl ?_
        refine wp_cV1p dX9_print_163 ml_X9_209 vX9_putCore ⟨8, (RX9, TX9, 39), rfl, rfl, rfl⟩ (cX9_putCore_ E k (nd k) l4 M2 (hnx.fr hFz) hOz hx c137 hl4b) (Nat.le_of_ble_eq_true rfl) (Nat.le_of_ble_eq_true rfl) (Nat.le_of_ble_eq_true rfl) (Nat.le_refl _) (Nat.le_refl _) (fun v sh1 M1 hqq => ?_)
        obtain ⟨rfl, rfl, hF1, hO1⟩ := hqq
        refine wp_iinc dX9_print_166 rfl (i_inc _) (Nat.le_of_ble_eq_true rfl) ?_
        refine wp_goto (tgt := 26) dX9_print_169 (by decide) ?_
        rw [List.append_assoc, ← enod] at hO1
        have h := ih (k + 1) _ (by omega) (by omega) ((hF0.tr hFz).tr hF1) hO1
        rw [Nat.add_sub_cancel, eo, if_neg c137, b2i_f (p := a = k) (by omega)] at h
        exact wp_lv h (by repeat (first | exact trivial | refine ⟨rfl, ?_⟩))
      · refine wp_iconst (v := 1) dX9_print_140 rfl ?_
        refine wp_goto (tgt := 145) dX9_print_141 (by decide) ?_
        have eb : bodS (nd k) = [40] := by unfold bodS; rw [if_pos c137]
        rw [eb] at hl4b enod
        have hl4c : l4.length + 1 ≤ 240 := hl4b
        refine wp_istore_n dX9_print_145 (Nat.le_of_ble_eq_true rfl) ?_
        refine wp_iload_n dX9_print_146 rfl ?_
        refine wp_if_eq (tgt := 161) dX9_print_147 (by decide) (fun c147 => absurd c147 (by decide)) (fun c147 => ?_)
        refine wp_aload_n dX9_print_150 rfl ?_
        refine wp_bipush (v := 40) dX9_print_151 (by decide) ?_
        refine wp_cV1p dX9_print_153 ml_X9_196 vX9_put ⟨8, (RX9, TX9, 39), rfl, rfl, rfl⟩ (cX9_putN E 40 l4 M2 (hmt1.fr hFz).1 hOz (by omega)) (Nat.le_of_ble_eq_true rfl) (Nat.le_of_ble_eq_true rfl) (Nat.le_of_ble_eq_true rfl) (Nat.le_refl _) (Nat.le_refl _) (fun v sh1 M1 hqq => ?_)
        obtain ⟨rfl, rfl, hF1, hO1⟩ := hqq
        refine wp_iload_n dX9_print_156 rfl ?_
        refine wp_istore_n dX9_print_157 (Nat.le_of_ble_eq_true rfl) ?_
        refine wp_goto (tgt := 166) dX9_print_158 (by decide) ?_
        refine wp_iinc dX9_print_166 rfl (i_inc _) (Nat.le_of_ble_eq_true rfl) ?_
        refine wp_goto (tgt := 26) dX9_print_169 (by decide) ?_
        rw [← enod] at hO1
        have h := ih (k + 1) _ (by omega) (by omega) ((hF0.tr hFz).tr hF1) hO1
        rw [Nat.add_sub_cancel, eo, if_pos c137, b2i_t rfl] at h
        exact wp_lv h (by repeat (first | exact trivial | refine ⟨rfl, ?_⟩))
    have J101 : ∀ (M2 : Mem) (y : Int32), oF M1 M2 → rmO M2 (some l3) → Wp (XPr E M n nd P) 0 0 101 [(2, .int y), (1, .int (nI a)), (3, .int (nI k)), (0, .ref 121)] [] SH M2 := by
      intro M2 y hFz hOz
      have hA : ∀ z, (l3 ++ [z]).length = l3.length + 1 := fun z => by rw [List.length_append]; rfl
      refine wp_aload_n dX9_print_101 rfl ?_
      refine wp_getR dX9_print_102 fl_X9_53 rfl rfl ((hmt1.fr hFz).1 17) ?_
      refine wp_iload_n dX9_print_105 rfl ?_
      refine wp_iaload dX9_print_106 rfl hin ?_
      rw [hkcl, f3 hFz]
      refine wp_iconst (v := (-1)) dX9_print_107 rfl ?_
      refine wp_icmp_eq (tgt := 130) dX9_print_108 (by decide) (fun c108 => ?_) (fun c108 => ?_)
      · rw [if_pos c108, List.append_nil] at hl4
        exact wp_lv (J130 M2 y hFz (by rw [hl4]; exact hOz)) (by repeat (first | exact trivial | refine ⟨rfl, ?_⟩))
      · obtain ⟨f, hf4, hf⟩ : ∃ f, f < 4 ∧ nFi (nd k) = nI f := by
          rcases hx.1.2.2 with q | q
          · exact absurd q c108
          · exact q
        have hfc : (nFi (nd k)).toNatClampNeg = f := by rw [hf]; exact nI_clamp (by omega)
        rw [if_neg c108] at hl3b
        rw [if_neg c108, hfc] at hl4
        have hA1 := hA (97 + f)
        refine wp_aload_n dX9_print_111 rfl ?_
        refine wp_bipush (v := 97) dX9_print_112 (by decide) ?_
        refine wp_aload_n dX9_print_114 rfl ?_
        refine wp_getR dX9_print_115 fl_X9_53 rfl rfl ((hmt1.fr hFz).1 17) ?_
        refine wp_iload_n dX9_print_118 rfl ?_
        refine wp_iaload dX9_print_119 rfl hin ?_
        refine wp_iadd dX9_print_120 ?_
        rw [hkcl, f3 hFz, show (97 : Int32) + nFi (nd k) = nI (97 + f) by rw [hf, show (97 : Int32) = nI 97 from rfl, nI_add]]
        refine wp_cV1p dX9_print_121 ml_X9_196 vX9_put ⟨8, (RX9, TX9, 39), rfl, rfl, rfl⟩ (cX9_putN E (97 + f) l3 M2 (hmt1.fr hFz).1 hOz (by omega)) (Nat.le_of_ble_eq_true rfl) (Nat.le_of_ble_eq_true rfl) (Nat.le_of_ble_eq_true rfl) (Nat.le_refl _) (Nat.le_refl _) (fun v sh1 M1 hqq => ?_)
        obtain ⟨rfl, rfl, hF1, hO1⟩ := hqq
        refine wp_aload_n dX9_print_124 rfl ?_
        refine wp_bipush (v := 58) dX9_print_125 (by decide) ?_
        refine wp_cV1p dX9_print_127 ml_X9_196 vX9_put ⟨8, (RX9, TX9, 39), rfl, rfl, rfl⟩ (cX9_putN E 58 (l3 ++ [97 + f]) _ (hmt1.fr (hFz.tr hF1)).1 hO1 (by omega)) (Nat.le_of_ble_eq_true rfl) (Nat.le_of_ble_eq_true rfl) (Nat.le_of_ble_eq_true rfl) (Nat.le_refl _) (Nat.le_refl _) (fun v sh1 M1 hqq => ?_)
        obtain ⟨rfl, rfl, hF2, hO2⟩ := hqq
        exact wp_lv (J130 _ y ((hFz.tr hF1).tr hF2) (by rw [hl4, ← List.append_assoc]; exact hO2)) (by repeat (first | exact trivial | refine ⟨rfl, ?_⟩))
    have J71 : ∀ (M2 : Mem) (y : Int32), oF M1 M2 → rmO M2 (some l2) → Wp (XPr E M n nd P) 0 0 71 [(2, .int y), (1, .int (nI a)), (3, .int (nI k)), (0, .ref 121)] [] SH M2 := by
      intro M2 y hFz hOz
      have J98 : nMa (nd k) ≠ 0 → ∀ z : Nat, z = (if nMa (nd k) = 1 then 43 else 45) → Wp (XPr E M n nd P) 0 0 98 [(2, .int y), (1, .int (nI a)), (3, .int (nI k)), (0, .ref 121)] [.int (nI z), .ref 121] SH M2 := by
        intro hma z hz
        rw [if_neg hma] at hl2b hl3
        rw [← hz] at hl3
        refine wp_cV1p dX9_print_98 ml_X9_196 vX9_put ⟨8, (RX9, TX9, 39), rfl, rfl, rfl⟩ (cX9_putN E z l2 M2 (hmt1.fr hFz).1 hOz (by omega)) (Nat.le_of_ble_eq_true rfl) (Nat.le_of_ble_eq_true rfl) (Nat.le_of_ble_eq_true rfl) (Nat.le_refl _) (Nat.le_refl _) (fun v sh1 M1 hqq => ?_)
        obtain ⟨rfl, rfl, hF1, hO1⟩ := hqq
        exact wp_lv (J101 _ y (hFz.tr hF1) (by rw [hl3]; exact hO1)) (by repeat (first | exact trivial | refine ⟨rfl, ?_⟩))
      refine wp_aload_n dX9_print_71 rfl ?_
      refine wp_getR dX9_print_72 fl_X9_47 rfl rfl ((hmt1.fr hFz).1 15) ?_
      refine wp_iload_n dX9_print_75 rfl ?_
      refine wp_iaload dX9_print_76 rfl hin ?_
      rw [hkcl, f1 hFz]
      refine wp_if_eq (tgt := 101) dX9_print_77 (by decide) (fun c77 => ?_) (fun c77 => ?_)
      · rw [if_pos c77, List.append_nil] at hl3
        exact wp_lv (J101 M2 y hFz (by rw [hl3]; exact hOz)) (by repeat (first | exact trivial | refine ⟨rfl, ?_⟩))
      · refine wp_aload_n dX9_print_80 rfl ?_
        refine wp_aload_n dX9_print_81 rfl ?_
        refine wp_getR dX9_print_82 fl_X9_47 rfl rfl ((hmt1.fr hFz).1 15) ?_
        refine wp_iload_n dX9_print_85 rfl ?_
        refine wp_iaload dX9_print_86 rfl hin ?_
        rw [hkcl, f1 hFz]
        refine wp_iconst (v := 1) dX9_print_87 rfl ?_
        refine wp_icmp_ne (tgt := 96) dX9_print_88 (by decide) (fun c88 => ?_) (fun c88 => ?_)
        · refine wp_bipush (v := 45) dX9_print_96 (by decide) ?_
          exact J98 c77 45 (by rw [if_neg c88])
        · refine wp_bipush (v := 43) dX9_print_91 (by decide) ?_
          refine wp_goto (tgt := 98) dX9_print_93 (by decide) ?_
          exact J98 c77 43 (by rw [if_pos c88])
    have J61 : ∀ (M2 : Mem), oF M1 M2 → rmO M2 (some l1) → Wp (XPr E M n nd P) 0 0 61 [(2, .int (b2i (a = k - 1))), (1, .int (nI a)), (3, .int (nI k)), (0, .ref 121)] [] SH M2 := by
      intro M2 hFz hOz
      refine wp_iload_n dX9_print_61 rfl ?_
      refine wp_if_ne (tgt := 71) dX9_print_62 (by decide) (fun c62 => ?_) (fun c62 => ?_)
      · rw [if_pos (b2i_ne.mp c62), List.append_nil] at hl2
        exact wp_lv (J71 M2 _ hFz (by rw [hl2]; exact hOz)) (by repeat (first | exact trivial | refine ⟨rfl, ?_⟩))
      · refine wp_aload_n dX9_print_65 rfl ?_
        refine wp_bipush (v := 32) dX9_print_66 (by decide) ?_
        refine wp_cV1p dX9_print_68 ml_X9_196 vX9_put ⟨8, (RX9, TX9, 39), rfl, rfl, rfl⟩ (cX9_putN E 32 l1 M2 (hmt1.fr hFz).1 hOz (by rw [if_neg (b2i_e0.mp c62)] at hl1b; omega)) (Nat.le_of_ble_eq_true rfl) (Nat.le_of_ble_eq_true rfl) (Nat.le_of_ble_eq_true rfl) (Nat.le_refl _) (Nat.le_refl _) (fun v sh1 M1 hqq => ?_)
        obtain ⟨rfl, rfl, hF1, hO1⟩ := hqq
        rw [if_neg (b2i_e0.mp c62)] at hl2
        exact wp_lv (J71 _ _ (hFz.tr hF1) (by rw [hl2]; exact hO1)) (by repeat (first | exact trivial | refine ⟨rfl, ?_⟩))
    have J34 : ∀ (r j : Nat) (lz : List Nat) (M2 : Mem), j ≤ k - 1 → (∃ d, chn nd d j) → anc nd r j a → oF M1 M2 → rmO M2 (some lz) → l1 = lz ++ cL nd r j → Wp (XPr E M n nd P) 0 0 34 [(2, .int (b2i (j = k - 1))), (1, .int (nI j)), (3, .int (nI k)), (0, .ref 121)] [] SH M2 := by
      intro r
      induction r with
      | zero =>
        intro j lz M2 hj hch ha hFz hOz hlz
        have ha : j = a := ha
        subst ha
        have hlz : l1 = lz := by rw [hlz]; exact List.append_nil _
        refine wp_aload_n dX9_print_34 rfl ?_
        refine wp_getR dX9_print_35 fl_X9_59 rfl rfl ((hmt1.fr hFz).1 19) ?_
        refine wp_iload_n dX9_print_38 rfl ?_
        refine wp_iaload dX9_print_39 rfl hin ?_
        rw [hkcl, f6 hFz]
        refine wp_iload_n dX9_print_40 rfl ?_
        refine wp_icmp_eq (tgt := 61) dX9_print_41 (by decide) (fun c41 => ?_) (fun c41 => absurd rfl c41)
        exact wp_lv (J61 M2 hFz (by rw [hlz]; exact hOz)) (by repeat (first | exact trivial | refine ⟨rfl, ?_⟩))
      | succ r ihr =>
        intro j lz M2 hj hch ha hFz hOz hlz
        obtain ⟨b, h1', h2, h3⟩ := ha
        have hba := anc_le r b a h3
        have hxj := hnk j (by omega) (by omega)
        obtain ⟨hc3, hcha⟩ := chn_up hn25 (show j < n by omega) h1' h2 hch
        have eb : par nd j = b := par_n h2 (by omega)
        have hcl : cL nd (r + 1) j = closeS (nd j) ++ cL nd r b := by
          show closeS (nd j) ++ cL nd r (par nd j) = _
          rw [eb]
        rw [hcl] at hlz
        have hll : lz.length + (closeS (nd j)).length ≤ 240 := by
          have := congrArg List.length hlz
          simp only [List.length_append] at this
          omega
        have hinj : vp_in (nI j) 25 := vp_in_nI (by omega) (by decide)
        have hjcl : (nI j).toNatClampNeg = j := nI_clamp (by omega)
        have g6 : ∀ {M3 : Mem}, oF M2 M3 → aI M3 137 j = nI b := fun q => (((hmt1.fr hFz).nx (show j < n by omega)).fr q).2.2.1.2.2.2.2.2.1.trans h2
        refine wp_aload_n dX9_print_34 rfl ?_
        refine wp_getR dX9_print_35 fl_X9_59 rfl rfl ((hmt1.fr hFz).1 19) ?_
        refine wp_iload_n dX9_print_38 rfl ?_
        refine wp_iaload dX9_print_39 rfl hin ?_
        rw [hkcl, f6 hFz]
        refine wp_iload_n dX9_print_40 rfl ?_
        refine wp_icmp_eq (tgt := 61) dX9_print_41 (by decide) (fun c41 => absurd (nI_e (by omega) (by omega) c41) (by omega)) (fun c41 => ?_)
        refine wp_aload_n dX9_print_44 rfl ?_
        refine wp_iload_n dX9_print_45 rfl ?_
        refine wp_cV1p dX9_print_46 ml_X9_206 vX9_closes ⟨8, (RX9, TX9, 39), rfl, rfl, rfl⟩ (cX9_closes_ E j (nd j) lz M2 ((hmt1.fr hFz).nx (by omega)) hOz hxj hc3 hll) (Nat.le_of_ble_eq_true rfl) (Nat.le_of_ble_eq_true rfl) (Nat.le_of_ble_eq_true rfl) (Nat.le_refl _) (Nat.le_refl _) (fun v sh1 M1 hqq => ?_)
        obtain ⟨rfl, rfl, hF1, hO1⟩ := hqq
        refine wp_aload_n dX9_print_49 rfl ?_
        refine wp_getR dX9_print_50 fl_X9_59 rfl rfl ((hmt1.fr (hFz.tr hF1)).1 19) ?_
        refine wp_iload_n dX9_print_53 rfl ?_
        refine wp_iaload dX9_print_54 rfl hinj ?_
        rw [hjcl, g6 hF1]
        refine wp_istore_n dX9_print_55 (Nat.le_of_ble_eq_true rfl) ?_
        refine wp_iconst (v := 0) dX9_print_56 rfl ?_
        refine wp_istore_n dX9_print_57 (Nat.le_of_ble_eq_true rfl) ?_
        refine wp_goto (tgt := 34) dX9_print_58 (by decide) ?_
        have h := ihr b _ _ (by omega) hcha h3 (hFz.tr hF1) hO1 (by rw [hlz, List.append_assoc])
        rw [b2i_f (p := b = k - 1) (by omega)] at h
        exact wp_lv h (by repeat (first | exact trivial | refine ⟨rfl, ?_⟩))
    refine wp_iload_n dX9_print_26 rfl ?_
    refine wp_aload_n dX9_print_27 rfl ?_
    refine wp_getI dX9_print_28 fl_X9_112 rfl rfl ?_
    rw [en]
    refine wp_icmp_ge (tgt := 172) dX9_print_31 (by decide) (fun c31 => absurd c31 (nI_ge hkn (by omega))) (fun c31 => ?_)
    exact wp_lv (J34 m _ _ M1 hopn.2 hopn.1 p7 Fr.rf hO0 hl1) (by repeat (first | exact trivial | refine ⟨rfl, ?_⟩))
theorem RM_O {M M1 : Mem} {tp gn : List Nat} {q : QQ} {o o1 : Option (List Nat)} {dc : Nat → List (List Nat)} (h : RM M tp gn q o dc) (k : oF M M1) (ho : rmO M1 o1) : RM M1 tp gn q o1 dc :=
  ⟨h.1.fr k, h.2.1.fr k (by simp) (by simp), h.2.2.1.fr k (by simp) (by simp), h.2.2.2.1.fr k (by simp) (fun j hj => by simp; omega), ho, h.2.2.2.2.2.fr k (by simp) (by simp) (by simp)⟩
theorem RM_MT {M : Mem} {tp gn : List Nat} {q : QQ} {o : Option (List Nat)} {dc : Nat → List (List Nat)} (h : RM M tp gn q o dc) (hk : QOk q) (h0 : q.1 ≠ 0) : MT M q.1 q.2 := by
  rcases hk with hk | ⟨a1, a2, a3, a4, a5, a6, -⟩
  · exact absurd hk h0
  · exact ⟨h.1, h.2.2.2.1, a3, a4, a5, fun k hk => (a6 k hk).1⟩
set_option maxRecDepth 100000 in
set_option maxHeartbeats 4000000 in
theorem cX9_print_ (E : GE) (tp gn : List Nat) (q : QQ) (o : Option (List Nat)) (dc : Nat → List (List Nat)) (M : Mem) (h : RM M tp gn q o dc) (hk : QOk q) : Sp E mX9_print 3 0 0 [.ref 121] SH M (pDocM M (prV q) tp gn q (prO q o) dc) := by
  refine sp_of vX9_print.1 rfl (Nat.le_of_ble_eq_true rfl) ?_
  have h0m : RM (sI M 121 0 0) tp gn q o dc := RM_sI h (by decide)
  have en : fI (sI M 121 0 0) 121 13 = nI q.1 := h0m.2.2.2.1.1
  have hn25 := h.2.2.2.1.2.1
  refine wp_aload_n dX9_print_0 rfl ?_
  refine wp_iconst (v := 0) dX9_print_1 rfl ?_
  refine wp_putI dX9_print_2 fl_X9_1 rfl rfl (fun _ _ _ h => by cases h; rfl) rfl rfl ?_
  refine wp_aload_n dX9_print_5 rfl ?_
  refine wp_getI dX9_print_6 fl_X9_112 rfl rfl ?_
  rw [en]
  refine wp_if_ne (tgt := 15) dX9_print_9 (by decide) (fun c9 => ?_) (fun c9 => ?_)
  · have h0 : q.1 ≠ 0 := fun e => c9 (by rw [e]; rfl)
    have hkk := hk
    obtain ⟨a1, a2, a3, a4, a5, a6, a7, hopl, hlast⟩ := hkk.resolve_left h0
    refine wp_aload_n dX9_print_15 rfl ?_
    refine wp_iconst (v := 0) dX9_print_16 rfl ?_
    refine wp_putI dX9_print_17 fl_X9_80 rfl rfl (fun _ _ _ h => by cases h; rfl) rfl rfl ?_
    refine wp_iconst (v := 0) dX9_print_20 rfl ?_
    refine wp_istore_n dX9_print_21 (Nat.le_of_ble_eq_true rfl) ?_
    refine wp_iconst (v := 1) dX9_print_22 rfl ?_
    refine wp_istore_n dX9_print_23 (Nat.le_of_ble_eq_true rfl) ?_
    refine wp_iconst (v := 1) dX9_print_24 rfl ?_
    refine wp_istore_n dX9_print_25 (Nat.le_of_ble_eq_true rfl) ?_
    have hF1 : oF (sI M 121 0 0) (sI (sI M 121 0 0) 121 29 0) := Fr.rf.sI (by simp)
    have hO0 : rmO (sI (sI M 121 0 0) 121 29 0) (some (pT q.2 1)) := ⟨rfl, fun l e => by injection e with e; subst e; exact ⟨Nat.zero_le _, fun i hi => absurd hi (Nat.not_lt_zero i)⟩⟩
    have h1 := pr_loop E (M := sI M 121 0 0) (n := q.1) (nd := q.2) (P := pDocM M (prV q) tp gn q (prO q o) dc) (fun v s M1 hp => by
      obtain ⟨e1, e2, e3, e4⟩ := hp
      unfold prV prO
      rw [if_neg h0, if_neg h0]
      exact ⟨e1, e2, e3.1 _ _ (by simp), RM_O h0m e3 e4, sI_out.tr (e3.out (by simp) (by simp) (by simp))⟩) (RM_MT h0m hk h0) hopl hlast (pr_len hk h0) (q.1 - 1) 1 _ (by omega) (Nat.le_refl _) hF1 hO0
    have eo : opk q.2 (1 - 1) = 0 := by show opk q.2 0 = 0; unfold opk; rw [if_pos a4.1]
    rw [eo, b2i_t (p := 0 = 1 - 1) rfl] at h1
    exact wp_lv h1 (by repeat (first | exact trivial | refine ⟨rfl, ?_⟩))
  · refine wp_bipush (v := (-104)) dX9_print_12 (by decide) ?_
    refine wp_ireturn dX9_print_14 rfl rfl (Nat.zero_le _) (Nat.zero_le _) ?_
    have h0 : q.1 = 0 := nI_e (by omega) (by decide) c9
    unfold prV prO
    rw [if_pos h0, if_pos h0]
    exact ⟨rfl, rfl, rfl, h0m, sI_out⟩
