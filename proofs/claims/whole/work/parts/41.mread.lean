/-! ===== the model reads: become, read ===== -/
abbrev mBeL : List Nat := [132, 133, 134, 135, 136, 137, 138, 139, 140]
abbrev mBF (M M1 : Mem) : Prop := Fr [(121, 13)] mBeL [] M M1
theorem mBF_lo {M M1 : Mem} (h : mBF M M1) {p : Nat} (hp : p < 132) (i : Nat) : aI M1 p i = aI M p i := h.2.1 p (by simp; omega) i
theorem mNode_cp {M M1 : Mem} {k : Nat} {x : ND} (h : mNode 123 M k x) (ho : okN x) (hk : k < 25) (h1 : ∀ q, q < 7 → aI M1 (132 + q) k = aI M (123 + q) k) (h2 : ∀ i, i < 125 → aI M1 139 i = aI M 130 i) (h3 : ∀ i, i < 1000 → aI M1 140 i = aI M 131 i) : mNode 132 M1 k x := by
  obtain ⟨e0, e1, e2, e3, e4, e5, e6, e7⟩ := h
  have hl := ho.1
  refine ⟨(h1 0 (by decide)).trans e0, (h1 1 (by decide)).trans e1, (h1 2 (by decide)).trans e2, (h1 3 (by decide)).trans e3, (h1 4 (by decide)).trans e4, (h1 5 (by decide)).trans e5, (h1 6 (by decide)).trans e6, fun j hj => ⟨(h2 _ (by omega)).trans (e7 j hj).1, fun i hi => (h3 _ ?_).trans ((e7 j hj).2 i hi)⟩⟩
  have := (okN_w ho j).1
  omega
abbrev XBe (E : GE) (M : Mem) (n : Nat) (nd : Nat → ND) : MX := xM E mX9_become 0 0 0 SH.length (fun v sh1 M1 => sh1 = SH ∧ v = none ∧ mBF M M1 ∧ rmQ M1 n nd)
set_option maxRecDepth 100000 in
set_option maxHeartbeats 4000000 in
theorem cX9_become_ (E : GE) (n : Nat) (nd : Nat → ND) (M : Mem) (hG : rmG M) (hm : fI M 121 3 = nI n) (hn : n ≤ 25) (hmn : ∀ k, k < n → mNode 123 M k (nd k)) (hok : ∀ k, k < n → okN (nd k)) : Sp E mX9_become 0 0 0 [.ref 121] SH M (fun v sh1 M1 => sh1 = SH ∧ v = none ∧ mBF M M1 ∧ rmQ M1 n nd) := by
  refine sp_of vX9_become.1 rfl (Nat.le_of_ble_eq_true rfl) ?_
  have hloop3 : ∀ (r k : Nat) (M1 : Mem), r + k = 1000 → mBF M M1 → fI M1 121 13 = nI n → (∀ q, q < 7 → ∀ j, j < n → aI M1 (132 + q) j = aI M (123 + q) j) → (∀ j, j < 125 → aI M1 139 j = aI M 130 j) → (∀ j, j < k → aI M1 140 j = aI M 131 j) → Wp (XBe E M n nd) 0 0 136 [(1, .int (nI k)), (0, .ref 121)] [] SH M1 := by
    intro r
    induction r with
    | zero =>
      intro k M1 hr hF h13 h1 h2 h3
      have hk : k = 1000 := by omega
      subst hk
      refine wp_iload_n dX9_become_136 rfl ?_
      refine wp_sipush (v := 1000) dX9_become_137 (by decide) ?_
      refine wp_icmp_ge (tgt := 161) dX9_become_140 (by decide) (fun c140 => ?_) (fun c140 => absurd (show (1000 : Int32) ≤ nI 1000 by decide) c140)
      refine wp_ret0 dX9_become_161 rfl (Nat.le_refl _) (Nat.le_refl _) ?_
      exact ⟨rfl, rfl, hF, h13, hn, fun k hk => mNode_cp (hmn k hk) (hok k hk) (by omega) (fun q hq => h1 q hq k hk) h2 h3⟩
    | succ r ih =>
      intro k M1 hr hF h13 h1 h2 h3
      have hG1 := hG.fr hF
      have hin : vp_in (nI k) 1000 := vp_in_nI (by omega) (by decide)
      have hcl : (nI k).toNatClampNeg = k := nI_clamp (by omega)
      refine wp_iload_n dX9_become_136 rfl ?_
      refine wp_sipush (v := 1000) dX9_become_137 (by decide) ?_
      refine wp_icmp_ge (tgt := 161) dX9_become_140 (by decide) (fun c140 => absurd c140 (nI_ge (b := 1000) (by omega) (by decide))) (fun c140 => ?_)
      refine wp_aload_n dX9_become_143 rfl ?_
      refine wp_getR dX9_become_144 fl_X9_68 rfl rfl (hG1 22) ?_
      refine wp_iload_n dX9_become_147 rfl ?_
      refine wp_aload_n dX9_become_148 rfl ?_
      refine wp_getR dX9_become_149 fl_X9_41 rfl rfl (hG1 12) ?_
      refine wp_iload_n dX9_become_152 rfl ?_
      refine wp_iaload dX9_become_153 rfl hin ?_
      refine wp_iastore dX9_become_154 rfl hin ?_
      refine wp_iinc dX9_become_155 rfl (i_pos1 _) (Nat.le_of_ble_eq_true rfl) ?_
      refine wp_goto (tgt := 136) dX9_become_158 (by decide) ?_
      rw [hcl, nI_1]
      refine ih (k + 1) _ (by omega) (hF.sA (by simp)) h13 (fun q hq j hj => ?_) (fun j hj => ?_) (fun j hj => ?_)
      · rw [aI_sA, if_neg (by omega)]; exact h1 q hq j hj
      · rw [aI_sA, if_neg (by omega)]; exact h2 j hj
      · rw [aI_sA]
        split
        · next e => rw [e.2]; exact mBF_lo hF (by decide) k
        · next e => exact h3 j (by omega)
  have hloop2 : ∀ (r k : Nat) (M1 : Mem), r + k = 125 → mBF M M1 → fI M1 121 13 = nI n → (∀ q, q < 7 → ∀ j, j < n → aI M1 (132 + q) j = aI M (123 + q) j) → (∀ j, j < k → aI M1 139 j = aI M 130 j) → Wp (XBe E M n nd) 0 0 110 [(1, .int (nI k)), (0, .ref 121)] [] SH M1 := by
    intro r
    induction r with
    | zero =>
      intro k M1 hr hF h13 h1 h2
      have hk : k = 125 := by omega
      subst hk
      refine wp_iload_n dX9_become_110 rfl ?_
      refine wp_bipush (v := 125) dX9_become_111 (by decide) ?_
      refine wp_icmp_ge (tgt := 134) dX9_become_113 (by decide) (fun c113 => ?_) (fun c113 => absurd (show (125 : Int32) ≤ nI 125 by decide) c113)
      refine wp_iconst (v := 0) dX9_become_134 rfl ?_
      refine wp_istore_n dX9_become_135 (Nat.le_of_ble_eq_true rfl) ?_
      exact wp_lv (hloop3 1000 0 M1 rfl hF h13 h1 h2 (fun j hj => absurd hj (Nat.not_lt_zero j))) (by repeat (first | exact trivial | refine ⟨rfl, ?_⟩))
    | succ r ih =>
      intro k M1 hr hF h13 h1 h2
      have hG1 := hG.fr hF
      have hin : vp_in (nI k) 125 := vp_in_nI (by omega) (by decide)
      have hcl : (nI k).toNatClampNeg = k := nI_clamp (by omega)
      refine wp_iload_n dX9_become_110 rfl ?_
      refine wp_bipush (v := 125) dX9_become_111 (by decide) ?_
      refine wp_icmp_ge (tgt := 134) dX9_become_113 (by decide) (fun c113 => absurd c113 (nI_ge (b := 125) (by omega) (by decide))) (fun c113 => ?_)
      refine wp_aload_n dX9_become_116 rfl ?_
      refine wp_getR dX9_become_117 fl_X9_65 rfl rfl (hG1 21) ?_
      refine wp_iload_n dX9_become_120 rfl ?_
      refine wp_aload_n dX9_become_121 rfl ?_
      refine wp_getR dX9_become_122 fl_X9_38 rfl rfl (hG1 11) ?_
      refine wp_iload_n dX9_become_125 rfl ?_
      refine wp_iaload dX9_become_126 rfl hin ?_
      refine wp_iastore dX9_become_127 rfl hin ?_
      refine wp_iinc dX9_become_128 rfl (i_pos1 _) (Nat.le_of_ble_eq_true rfl) ?_
      refine wp_goto (tgt := 110) dX9_become_131 (by decide) ?_
      rw [hcl, nI_1]
      refine ih (k + 1) _ (by omega) (hF.sA (by simp)) h13 (fun q hq j hj => ?_) (fun j hj => ?_)
      · rw [aI_sA, if_neg (by omega)]; exact h1 q hq j hj
      · rw [aI_sA]
        split
        · next e => rw [e.2]; exact mBF_lo hF (by decide) k
        · next e => exact h2 j (by omega)
  have hloop1 : ∀ (r k : Nat) (M1 : Mem), r + k = n → mBF M M1 → fI M1 121 13 = nI n → (∀ q, q < 7 → ∀ j, j < k → aI M1 (132 + q) j = aI M (123 + q) j) → Wp (XBe E M n nd) 0 0 10 [(1, .int (nI k)), (0, .ref 121)] [] SH M1 := by
    intro r
    induction r with
    | zero =>
      intro k M1 hr hF h13 h1
      have hk : k = n := by omega
      subst hk
      have h3 : fI M1 121 3 = nI k := (hF.1 _ _ (by simp)).trans hm
      refine wp_iload_n dX9_become_10 rfl ?_
      refine wp_aload_n dX9_become_11 rfl ?_
      refine wp_getI dX9_become_12 fl_X9_131 rfl rfl ?_
      refine wp_icmp_ge (tgt := 108) dX9_become_15 (by decide) (fun c15 => ?_) (fun c15 => absurd (show fI M1 121 3 ≤ nI k by rw [h3]; exact nI_le (Nat.le_refl _) (by omega)) c15)
      refine wp_iconst (v := 0) dX9_become_108 rfl ?_
      refine wp_istore_n dX9_become_109 (Nat.le_of_ble_eq_true rfl) ?_
      exact wp_lv (hloop2 125 0 M1 rfl hF h13 h1 (fun j hj => absurd hj (Nat.not_lt_zero j))) (by repeat (first | exact trivial | refine ⟨rfl, ?_⟩))
    | succ r ih =>
      intro k M1 hr hF h13 h1
      have h3 : fI M1 121 3 = nI n := (hF.1 _ _ (by simp)).trans hm
      have hG1 := hG.fr hF
      have hin : vp_in (nI k) 25 := vp_in_nI (by omega) (by decide)
      have hcl : (nI k).toNatClampNeg = k := nI_clamp (by omega)
      refine wp_iload_n dX9_become_10 rfl ?_
      refine wp_aload_n dX9_become_11 rfl ?_
      refine wp_getI dX9_become_12 fl_X9_131 rfl rfl ?_
      refine wp_icmp_ge (tgt := 108) dX9_become_15 (by decide) (fun c15 => absurd c15 (by rw [h3]; exact nI_ge (by omega) (by omega))) (fun c15 => ?_)
      refine wp_aload_n dX9_become_18 rfl ?_
      refine wp_getR dX9_become_19 fl_X9_44 rfl rfl (hG1 14) ?_
      refine wp_iload_n dX9_become_22 rfl ?_
      refine wp_aload_n dX9_become_23 rfl ?_
      refine wp_getR dX9_become_24 fl_X9_17 rfl rfl (hG1 4) ?_
      refine wp_iload_n dX9_become_27 rfl ?_
      refine wp_iaload dX9_become_28 rfl hin ?_
      refine wp_iastore dX9_become_29 rfl hin ?_
      refine wp_aload_n dX9_become_30 rfl ?_
      refine wp_getR dX9_become_31 fl_X9_47 rfl rfl (hG1 15) ?_
      refine wp_iload_n dX9_become_34 rfl ?_
      refine wp_aload_n dX9_become_35 rfl ?_
      refine wp_getR dX9_become_36 fl_X9_20 rfl rfl (hG1 5) ?_
      refine wp_iload_n dX9_become_39 rfl ?_
      refine wp_iaload dX9_become_40 rfl hin ?_
      refine wp_iastore dX9_become_41 rfl hin ?_
      refine wp_aload_n dX9_become_42 rfl ?_
      refine wp_getR dX9_become_43 fl_X9_50 rfl rfl (hG1 16) ?_
      refine wp_iload_n dX9_become_46 rfl ?_
      refine wp_aload_n dX9_become_47 rfl ?_
      refine wp_getR dX9_become_48 fl_X9_23 rfl rfl (hG1 6) ?_
      refine wp_iload_n dX9_become_51 rfl ?_
      refine wp_iaload dX9_become_52 rfl hin ?_
      refine wp_iastore dX9_become_53 rfl hin ?_
      refine wp_aload_n dX9_become_54 rfl ?_
      refine wp_getR dX9_become_55 fl_X9_53 rfl rfl (hG1 17) ?_
      refine wp_iload_n dX9_become_58 rfl ?_
      refine wp_aload_n dX9_become_59 rfl ?_
      refine wp_getR dX9_become_60 fl_X9_26 rfl rfl (hG1 7) ?_
      refine wp_iload_n dX9_become_63 rfl ?_
      refine wp_iaload dX9_become_64 rfl hin ?_
      refine wp_iastore dX9_become_65 rfl hin ?_
      refine wp_aload_n dX9_become_66 rfl ?_
      refine wp_getR dX9_become_67 fl_X9_56 rfl rfl (hG1 18) ?_
      refine wp_iload_n dX9_become_70 rfl ?_
      refine wp_aload_n dX9_become_71 rfl ?_
      refine wp_getR dX9_become_72 fl_X9_29 rfl rfl (hG1 8) ?_
      refine wp_iload_n dX9_become_75 rfl ?_
      refine wp_iaload dX9_become_76 rfl hin ?_
      refine wp_iastore dX9_become_77 rfl hin ?_
      refine wp_aload_n dX9_become_78 rfl ?_
      refine wp_getR dX9_become_79 fl_X9_59 rfl rfl (hG1 19) ?_
      refine wp_iload_n dX9_become_82 rfl ?_
      refine wp_aload_n dX9_become_83 rfl ?_
      refine wp_getR dX9_become_84 fl_X9_32 rfl rfl (hG1 9) ?_
      refine wp_iload_n dX9_become_87 rfl ?_
      refine wp_iaload dX9_become_88 rfl hin ?_
      refine wp_iastore dX9_become_89 rfl hin ?_
      refine wp_aload_n dX9_become_90 rfl ?_
      refine wp_getR dX9_become_91 fl_X9_62 rfl rfl (hG1 20) ?_
      refine wp_iload_n dX9_become_94 rfl ?_
      refine wp_aload_n dX9_become_95 rfl ?_
      refine wp_getR dX9_become_96 fl_X9_35 rfl rfl (hG1 10) ?_
      refine wp_iload_n dX9_become_99 rfl ?_
      refine wp_iaload dX9_become_100 rfl hin ?_
      refine wp_iastore dX9_become_101 rfl hin ?_
      refine wp_iinc dX9_become_102 rfl (i_pos1 _) (Nat.le_of_ble_eq_true rfl) ?_
      refine wp_goto (tgt := 10) dX9_become_105 (by decide) ?_
      rw [hcl, nI_1]
      refine ih (k + 1) _ (by omega) (((((((hF.sA (by simp)).sA (by simp)).sA (by simp)).sA (by simp)).sA (by simp)).sA (by simp)).sA (by simp)) h13 (fun q hq j hj => ?_)
      have e := fun p (hp : p < 132) => mBF_lo hF hp k
      have hj1 : j < k → aI M1 (132 + q) j = aI M (123 + q) j := h1 q hq j
      have : q = 0 ∨ q = 1 ∨ q = 2 ∨ q = 3 ∨ q = 4 ∨ q = 5 ∨ q = 6 := by omega
      by_cases hjk : j = k
      · subst hjk
        rcases this with rfl | rfl | rfl | rfl | rfl | rfl | rfl <;> simp [aI_sA] <;> exact e _ (by decide)
      · rcases this with rfl | rfl | rfl | rfl | rfl | rfl | rfl <;> simp [aI_sA, hjk] <;> exact hj1 (by omega)
  refine wp_aload_n dX9_become_0 rfl ?_
  refine wp_aload_n dX9_become_1 rfl ?_
  refine wp_getI dX9_become_2 fl_X9_131 rfl rfl ?_
  refine wp_putI dX9_become_5 fl_X9_112 rfl rfl (fun _ _ _ h => by cases h; rfl) rfl rfl ?_
  refine wp_iconst (v := 0) dX9_become_8 rfl ?_
  refine wp_istore_n dX9_become_9 (Nat.le_of_ble_eq_true rfl) ?_
  have e13 : fI (sI M 121 13 (fI M 121 3)) 121 13 = nI n := hm
  exact wp_lv (hloop1 n 0 _ rfl (Fr.rf.sI (by simp)) e13 (fun q hq j hj => absurd hj (Nat.not_lt_zero j))) (by repeat (first | exact trivial | refine ⟨rfl, ?_⟩))
def RM (M : Mem) (tp gn : List Nat) (q : QQ) (o : Option (List Nat)) (dc : Nat → List (List Nat)) : Prop := rmG M ∧ rmT M tp ∧ rmD M gn ∧ rmQ M q.1 q.2 ∧ rmO M o ∧ rmW M dc
def OutM (M M1 : Mem) : Prop := ∀ p, (p < 121 ∨ p = 153) → EqP M M1 p
theorem OutM.rf {M : Mem} : OutM M M := fun _ _ => EqP.rf
theorem OutM.tr {M M1 M2 : Mem} (h : OutM M M1) (k : OutM M1 M2) : OutM M M2 := fun p hp => (h p hp).tr (k p hp)
theorem Fr.out {LI : List (Nat × Nat)} {LA LL : List Nat} {M M1 : Mem} (h : Fr LI LA LL M M1) (h1 : ∀ x ∈ LI, 121 ≤ x.1 ∧ x.1 ≤ 152) (h2 : ∀ x ∈ LA, 121 ≤ x ∧ x ≤ 152) (h3 : ∀ x ∈ LL, 121 ≤ x ∧ x ≤ 152) : OutM M M1 := fun p hp =>
  ⟨fun f => h.1 p f (fun q => by have := h1 _ q; simp at this; omega), fun f => h.2.2.2.1 p f, fun i => h.2.1 p (fun q => by have := h2 _ q; omega) i, fun i => h.2.2.1 p (fun q => by have := h3 _ q; omega) i, fun i => h.2.2.2.2 p i⟩
theorem mPF_out {M M1 : Mem} (h : mPF M M1) : OutM M M1 := h.out (by simp) (by simp) (by simp)
theorem mBF_out {M M1 : Mem} (h : mBF M M1) : OutM M M1 := h.out (by simp) (by simp) (by simp)
theorem sI_out {M : Mem} {f : Nat} {x : Int32} : OutM M (sI M 121 f x) := fun p hp => EqP.rf.sI (by omega)
theorem RM_PF {M M1 : Mem} {tp gn : List Nat} {q : QQ} {o : Option (List Nat)} {dc : Nat → List (List Nat)} (h : RM M tp gn q o dc) (hF : mPF M M1) : RM M1 tp gn q o dc :=
  ⟨h.1.fr hF, h.2.1.fr hF (by simp) (by simp), h.2.2.1.fr hF (by simp) (by simp), h.2.2.2.1.fr hF (by simp) (fun j hj => by simp; omega), h.2.2.2.2.1.fr hF (by simp) (by simp), h.2.2.2.2.2.fr hF (by simp) (by simp) (by simp)⟩
theorem RM_sI {M : Mem} {tp gn : List Nat} {q : QQ} {o : Option (List Nat)} {dc : Nat → List (List Nat)} {f : Nat} {x : Int32} (h : RM M tp gn q o dc) (hf : f ≠ 2 ∧ f ≠ 13 ∧ f ≠ 27 ∧ f ≠ 29) : RM (sI M 121 f x) tp gn q o dc := by
  have hF : Fr [(121, f)] [] [] M (sI M 121 f x) := Fr.rf.sI (by simp)
  exact ⟨h.1.fr hF, h.2.1.fr hF (by simp; omega) (by simp), h.2.2.1.fr hF (by simp; omega) (by simp), h.2.2.2.1.fr hF (by simp; omega) (fun j hj => by simp), h.2.2.2.2.1.fr hF (by simp; omega) (by simp), h.2.2.2.2.2.fr hF (by simp) (by simp) (by simp)⟩
theorem RM_0 {M : Mem} {tp gn : List Nat} {q : QQ} {o : Option (List Nat)} {dc : Nat → List (List Nat)} (h : RM M tp gn q o dc) : RM (sI M 121 2 0) [] gn q o dc := by
  have hF : Fr [(121, 2)] [] [] M (sI M 121 2 0) := Fr.rf.sI (by simp)
  exact ⟨h.1.fr hF, ⟨rfl, Nat.zero_le _, fun i hi => absurd hi (Nat.not_lt_zero i)⟩, h.2.2.1.fr hF (by simp) (by simp), h.2.2.2.1.fr hF (by simp) (fun j hj => by simp), h.2.2.2.2.1.fr hF (by simp) (by simp), h.2.2.2.2.2.fr hF (by simp) (by simp) (by simp)⟩
theorem RM_BF {M M1 : Mem} {tp gn : List Nat} {q q1 : QQ} {o : Option (List Nat)} {dc : Nat → List (List Nat)} (h : RM M tp gn q o dc) (hF : mBF M M1) (hq : rmQ M1 q1.1 q1.2) : RM M1 tp gn q1 o dc :=
  ⟨h.1.fr hF, h.2.1.fr hF (by simp) (by simp), h.2.2.1.fr hF (by simp) (by simp), hq, h.2.2.2.2.1.fr hF (by simp) (by simp), h.2.2.2.2.2.fr hF (by simp) (by simp) (by simp)⟩
def pRdM (M : Mem) (tp gn : List Nat) (q : QQ) (o : Option (List Nat)) (dc : Nat → List (List Nat)) : PT := fun v sh1 M1 => sh1 = SH ∧ v = some (.int (rdV tp)) ∧ fI M1 121 0 = 0 ∧ RM M1 [] gn (rdQ tp q) o dc ∧ OutM M M1
set_option maxRecDepth 100000 in
set_option maxHeartbeats 4000000 in
theorem cX9_read_ (E : GE) (tp gn : List Nat) (q : QQ) (o : Option (List Nat)) (dc : Nat → List (List Nat)) (M : Mem) (h : RM M tp gn q o dc) : Sp E mX9_read 5 0 0 [.ref 121] SH M (pRdM M tp gn q o dc) := by
  refine sp_of vX9_read.1 rfl (Nat.le_of_ble_eq_true rfl) ?_
  have h0 : RM (sI M 121 0 0) tp gn q o dc := RM_sI h (by decide)
  refine wp_aload_n dX9_read_0 rfl ?_
  refine wp_iconst (v := 0) dX9_read_1 rfl ?_
  refine wp_putI dX9_read_2 fl_X9_1 rfl rfl (fun _ _ _ h => by cases h; rfl) rfl rfl ?_
  refine wp_aload_n dX9_read_5 rfl ?_
  refine wp_cV0p dX9_read_6 ml_X9_184 vX9_goAlong ⟨8, (RX9, TX9, 39), rfl, rfl, rfl⟩ (cX9_goAlong_ E tp _ h0.1 h0.2.1) (Nat.le_of_ble_eq_true rfl) (Nat.le_of_ble_eq_true rfl) (Nat.le_of_ble_eq_true rfl) (Nat.le_refl _) (Nat.le_refl _) (fun v sh1 M1 hq => ?_)
  obtain ⟨rfl, hF, hq⟩ := hq
  have h1 := RM_0 (RM_PF h0 hF)
  have ho1 : OutM M (sI M1 121 2 0) := (sI_out.tr (mPF_out hF)).tr sI_out
  have ht : fI M1 121 0 = 0 := hF.1 _ _ (by simp)
  rcases hq with ⟨a, hle, hr, rfl⟩ | ⟨a, s, hr, hok, rfl, hmy, hmn⟩
  · have ev : rdV tp = -200 - nI a := by unfold rdV; rw [hr]
    have eq : rdQ tp q = q := by unfold rdQ; rw [hr]
    refine wp_istore_n dX9_read_9 (Nat.le_of_ble_eq_true rfl) ?_
    refine wp_aload_n dX9_read_10 rfl ?_
    refine wp_iconst (v := 0) dX9_read_11 rfl ?_
    refine wp_putI dX9_read_12 fl_X9_121 rfl rfl (fun _ _ _ h => by cases h; rfl) rfl rfl ?_
    refine wp_iload_n dX9_read_15 rfl ?_
    refine wp_iconst (v := (-1)) dX9_read_16 rfl ?_
    refine wp_icmp_eq (tgt := 26) dX9_read_17 (by decide) (fun c17 => absurd c17 (by have := h.2.1.2.1; intro e; have := congrArg Int32.toInt e; rw [nI_toInt (by omega)] at this; simp at this)) (fun c17 => ?_)
    refine wp_sipush (v := (-200)) dX9_read_20 (by decide) ?_
    refine wp_iload_n dX9_read_23 rfl ?_
    refine wp_isub dX9_read_24 ?_
    refine wp_ireturn dX9_read_25 rfl rfl (Nat.zero_le _) (Nat.zero_le _) ?_
    exact ⟨rfl, by rw [ev], ht, by rw [eq]; exact h1, ho1⟩
  · refine wp_istore_n dX9_read_9 (Nat.le_of_ble_eq_true rfl) ?_
    refine wp_aload_n dX9_read_10 rfl ?_
    refine wp_iconst (v := 0) dX9_read_11 rfl ?_
    refine wp_putI dX9_read_12 fl_X9_121 rfl rfl (fun _ _ _ h => by cases h; rfl) rfl rfl ?_
    refine wp_iload_n dX9_read_15 rfl ?_
    refine wp_iconst (v := (-1)) dX9_read_16 rfl ?_
    refine wp_icmp_eq (tgt := 26) dX9_read_17 (by decide) (fun c17 => ?_) (fun c17 => absurd rfl c17)
    refine wp_aload_n dX9_read_26 rfl ?_
    refine wp_cV0p dX9_read_27 ml_X9_187 vX9_become ⟨8, (RX9, TX9, 39), rfl, rfl, rfl⟩ (cX9_become_ E (qCn s) (qNd s) _ h1.1 hmy hok.1.2.2.1 hmn (fun k hk => (hok.1.2.2.2.2.2 k hk).1)) (Nat.le_of_ble_eq_true rfl) (Nat.le_of_ble_eq_true rfl) (Nat.le_of_ble_eq_true rfl) (Nat.le_refl _) (Nat.le_refl _) (fun v sh1 M1 hq => ?_)
    obtain ⟨rfl, rfl, hF2, hQ2⟩ := hq
    have ev : rdV tp = nI (qCn s) := by unfold rdV; rw [hr]
    have eq : rdQ tp q = (qCn s, qNd s) := by unfold rdQ; rw [hr]
    refine wp_aload_n dX9_read_30 rfl ?_
    refine wp_getI dX9_read_31 fl_X9_112 rfl rfl ?_
    refine wp_ireturn dX9_read_34 rfl rfl (Nat.zero_le _) (Nat.zero_le _) ?_
    exact ⟨rfl, by rw [ev, hQ2.1], (hF2.1 _ _ (by simp)).trans ht, by rw [eq]; exact RM_BF h1 hF2 hQ2, ho1.tr (mBF_out hF2)⟩
