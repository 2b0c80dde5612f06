/-! ===== the model prints ===== -/
abbrev oF (M M1 : Mem) : Prop := Fr [(121, 29)] [143] [] M M1
def pP (M : Mem) (l : List Nat) : PT := fun v sh1 M1 => sh1 = SH ∧ v = none ∧ oF M M1 ∧ rmO M1 (some l)
theorem rmO_push {M : Mem} {l : List Nat} {b : Nat} (h : rmO M (some l)) (hl : l.length < 240) : rmO (sI (sA M 143 l.length (nI b)) 121 29 (nI (l.length + 1))) (some (l ++ [b])) := by
  refine ⟨?_, fun l1 e => ?_⟩
  · show nI (l.length + 1) = nI (l ++ [b]).length
    rw [List.length_append]; rfl
  · injection e with e
    subst e
    refine ⟨by rw [List.length_append]; exact hl, fun i hi => ?_⟩
    rw [List.length_append] at hi
    have hi : i < l.length + 1 := hi
    rw [aI_sI, aI_sA, getD_app]
    by_cases c : i = l.length
    · rw [if_pos ⟨rfl, c⟩, if_pos c]
    · rw [if_neg (fun q => c q.2), if_neg c]; exact (h.2 l rfl).2 i (by omega)
def NX (M : Mem) (k : Nat) (x : ND) : Prop := rmG M ∧ k < 25 ∧ mNode 132 M k x ∧ okN x
theorem NX.fr {M M1 : Mem} {k : Nat} {x : ND} (h : NX M k x) (q : oF M M1) : NX M1 k x := ⟨h.1.fr q, h.2.1, h.2.2.1.fr q (fun j hj => by simp; omega), h.2.2.2⟩
set_option maxRecDepth 100000 in
set_option maxHeartbeats 4000000 in
theorem cX9_putN (E : GE) (b : Nat) (l : List Nat) (M : Mem) (hG : rmG M) (hO : rmO M (some l)) (hl : l.length < 240) : Sp E mX9_put 0 0 0 [.ref 121, .int (nI b)] SH M (pP M (l ++ [b])) := by
  refine sp_of vX9_put.1 rfl (Nat.le_of_ble_eq_true rfl) ?_
  have h1 : fI M 121 29 = nI l.length := hO.1
  have hcl : (fI M 121 29).toNatClampNeg = l.length := by rw [h1]; exact nI_clamp (by omega)
  refine wp_aload_n dX9_put_0 rfl ?_
  refine wp_getR dX9_put_1 fl_X9_77 rfl rfl (hG 28) ?_
  refine wp_aload_n dX9_put_4 rfl ?_
  refine wp_getI dX9_put_5 fl_X9_80 rfl rfl ?_
  refine wp_iload_n dX9_put_8 rfl ?_
  refine wp_iastore dX9_put_9 rfl (by rw [h1]; exact vp_in_nI (by omega) (by decide)) ?_
  refine wp_aload_n dX9_put_10 rfl ?_
  refine wp_dup dX9_put_11 rfl ?_
  refine wp_getI dX9_put_12 fl_X9_80 rfl rfl ?_
  refine wp_iconst (v := 1) dX9_put_15 rfl ?_
  refine wp_iadd dX9_put_16 ?_
  refine wp_putI dX9_put_17 fl_X9_80 rfl rfl (fun _ _ _ h => by cases h; rfl) rfl rfl ?_
  refine wp_ret0 dX9_put_20 rfl (Nat.le_refl _) (Nat.le_refl _) ?_
  have e : fI (sA M 143 (fI M 121 29).toNatClampNeg (nI b)) 121 29 + 1 = nI (l.length + 1) := by show fI M 121 29 + 1 = _; rw [h1, nI_1]
  rw [e, hcl]
  exact ⟨rfl, rfl, (Fr.rf.sA (by simp)).sI (by simp), rmO_push hO hl⟩
set_option maxRecDepth 100000 in
set_option maxHeartbeats 4000000 in
theorem cX9_putWord_ (E : GE) (k j : Nat) (x : ND) (l : List Nat) (M : Mem) (hn : NX M k x) (hO : rmO M (some l)) (hj : j < (nWo x).length) (hl : l.length + (nWd x j).length ≤ 240) : Sp E mX9_putWord 1 0 0 [.ref 121, .int (nI k), .int (nI j)] SH M (pP M (l ++ nWd x j)) := by
  refine sp_of vX9_putWord.1 rfl (Nat.le_of_ble_eq_true rfl) ?_
  have h5 := hn.2.2.2.1
  have hk := hn.2.1
  have h8 := (wd_ok hn.2.2.2 j).1
  have e5 : 5 * nI k + nI j = nI (5 * k + j) := by rw [show (5 : Int32) = nI 5 from rfl, pk_mul, nI_add]
  have loop : ∀ (r i : Nat) (M1 : Mem), i + r = (nWd x j).length → oF M M1 → rmO M1 (some (l ++ (nWd x j).take i)) → Wp (xM E mX9_putWord 1 0 0 SH.length (pP M (l ++ nWd x j))) 0 0 2 [(3, .int (nI i)), (1, .int (nI k)), (2, .int (nI j)), (0, .ref 121)] [] SH M1 := by
    intro r
    induction r with
    | zero =>
      intro i M1 hi hF hO1
      have hi : i = (nWd x j).length := by omega
      subst hi
      have hn1 := hn.fr hF
      have el : aI M1 139 (5 * k + j) = nI (nWd x j).length := (hn1.2.2.1.2.2.2.2.2.2.2 j hj).1
      have hG1 := hn1.1
      rw [List.take_length] at hO1
      refine wp_iload_n dX9_putWord_2 rfl ?_
      refine wp_aload_n dX9_putWord_3 rfl ?_
      refine wp_getR dX9_putWord_4 fl_X9_65 rfl rfl (hG1 21) ?_
      refine wp_iconst (v := 5) dX9_putWord_7 rfl ?_
      refine wp_iload_n dX9_putWord_8 rfl ?_
      refine wp_imul dX9_putWord_9 ?_
      refine wp_iload_n dX9_putWord_10 rfl ?_
      refine wp_iadd dX9_putWord_11 ?_
      rw [e5]
      refine wp_iaload dX9_putWord_12 rfl (vp_in_nI (by omega) (by decide)) ?_
      rw [nI_clamp (show 5 * k + j < 2 ^ 31 by omega), el]
      refine wp_icmp_ge (tgt := 42) dX9_putWord_13 (by decide) (fun c13 => ?_) (fun c13 => absurd (Int32.le_refl _) c13)
      refine wp_ret0 dX9_putWord_42 rfl (Nat.le_refl _) (Nat.le_refl _) ?_
      exact ⟨rfl, rfl, hF, hO1⟩
    | succ r ih =>
      intro i M1 hi hF hO1
      have hil : i < (nWd x j).length := by omega
      have hn1 := hn.fr hF
      have hG1 := hn1.1
      have el : aI M1 139 (5 * k + j) = nI (nWd x j).length := (hn1.2.2.1.2.2.2.2.2.2.2 j hj).1
      have es : aI M1 140 (40 * k + 8 * j + i) = nI ((nWd x j).getD i 0) := (hn1.2.2.1.2.2.2.2.2.2.2 j hj).2 i hil
      have e40 : 40 * nI k + 8 * nI j + nI i = nI (40 * k + 8 * j + i) := by rw [show (40 : Int32) = nI 40 from rfl, show (8 : Int32) = nI 8 from rfl, pk_mul, pk_mul, nI_add, nI_add]
      have et : (nWd x j).take (i + 1) = (nWd x j).take i ++ [(nWd x j).getD i 0] := by
        rw [List.take_succ, List.getD_eq_getElem?_getD, List.getElem?_eq_getElem hil]; rfl
      have hl1 : (l ++ (nWd x j).take i).length < 240 := by rw [List.length_append, List.length_take]; omega
      refine wp_iload_n dX9_putWord_2 rfl ?_
      refine wp_aload_n dX9_putWord_3 rfl ?_
      refine wp_getR dX9_putWord_4 fl_X9_65 rfl rfl (hG1 21) ?_
      refine wp_iconst (v := 5) dX9_putWord_7 rfl ?_
      refine wp_iload_n dX9_putWord_8 rfl ?_
      refine wp_imul dX9_putWord_9 ?_
      refine wp_iload_n dX9_putWord_10 rfl ?_
      refine wp_iadd dX9_putWord_11 ?_
      rw [e5]
      refine wp_iaload dX9_putWord_12 rfl (vp_in_nI (by omega) (by decide)) ?_
      rw [nI_clamp (show 5 * k + j < 2 ^ 31 by omega), el]
      refine wp_icmp_ge (tgt := 42) dX9_putWord_13 (by decide) (fun c13 => absurd c13 (nI_ge hil (by omega))) (fun c13 => ?_)
      refine wp_aload_n dX9_putWord_16 rfl ?_
      refine wp_aload_n dX9_putWord_17 rfl ?_
      refine wp_getR dX9_putWord_18 fl_X9_68 rfl rfl (hG1 22) ?_
      refine wp_bipush (v := 40) dX9_putWord_21 (by decide) ?_
      refine wp_iload_n dX9_putWord_23 rfl ?_
      refine wp_imul dX9_putWord_24 ?_
      refine wp_bipush (v := 8) dX9_putWord_25 (by decide) ?_
      refine wp_iload_n dX9_putWord_27 rfl ?_
      refine wp_imul dX9_putWord_28 ?_
      refine wp_iadd dX9_putWord_29 ?_
      refine wp_iload_n dX9_putWord_30 rfl ?_
      refine wp_iadd dX9_putWord_31 ?_
      rw [e40]
      refine wp_iaload dX9_putWord_32 rfl (vp_in_nI (by omega) (by decide)) ?_
      rw [nI_clamp (show 40 * k + 8 * j + i < 2 ^ 31 by omega), es]
      refine wp_cV1p dX9_putWord_33 ml_X9_196 vX9_put ⟨8, (RX9, TX9, 39), rfl, rfl, rfl⟩ (cX9_putN E ((nWd x j).getD i 0) (l ++ (nWd x j).take i) M1 hG1 hO1 hl1) (Nat.le_of_ble_eq_true rfl) (Nat.le_of_ble_eq_true rfl) (Nat.le_of_ble_eq_true rfl) (Nat.le_refl _) (Nat.le_refl _) (fun v sh1 M1 hqq => ?_)
      obtain ⟨rfl, rfl, hF2, hO2⟩ := hqq
      refine wp_iinc dX9_putWord_36 rfl (i_inc _) (Nat.le_of_ble_eq_true rfl) ?_
      refine wp_goto (tgt := 2) dX9_putWord_39 (by decide) ?_
      rw [List.append_assoc, ← et] at hO2
      exact wp_lv (ih (i + 1) _ (by omega) (hF.tr hF2) hO2) (by repeat (first | exact trivial | refine ⟨rfl, ?_⟩))
  refine wp_iconst (v := 0) dX9_putWord_0 rfl ?_
  refine wp_istore_n dX9_putWord_1 (Nat.le_of_ble_eq_true rfl) ?_
  exact wp_lv (loop (nWd x j).length 0 M (by omega) Fr.rf (by rw [List.take_zero, List.append_nil]; exact hO)) (by repeat (first | exact trivial | refine ⟨rfl, ?_⟩))
set_option maxRecDepth 100000 in
set_option maxHeartbeats 4000000 in
theorem cX9_putBoost_ (E : GE) (k : Nat) (x : ND) (l : List Nat) (M : Mem) (hn : NX M k x) (hO : rmO M (some l)) (hx : nOk x) (hl : l.length + (told 94 (nBo x) 1).length ≤ 240) : Sp E mX9_putBoost 1 0 0 [.ref 121, .int (nI k)] SH M (pP M (l ++ told 94 (nBo x) 1)) := by
  refine sp_of vX9_putBoost.1 rfl (Nat.le_of_ble_eq_true rfl) ?_
  have hk := hn.2.1
  have hin : vp_in (nI k) 25 := vp_in_nI hk (by decide)
  have hcl : (nI k).toNatClampNeg = k := nI_clamp (by omega)
  have hG := hn.1
  have eb : ∀ {M1 : Mem}, oF M M1 → aI M1 134 k = nBo x := fun q => (hn.fr q).2.2.1.2.2.1
  by_cases hu : nBo x = 1
  · have e : told 94 (nBo x) 1 = [] := if_pos hu
    rw [e, List.append_nil]
    refine wp_aload_n dX9_putBoost_0 rfl ?_
    refine wp_getR dX9_putBoost_1 fl_X9_50 rfl rfl (hG 16) ?_
    refine wp_iload_n dX9_putBoost_4 rfl ?_
    refine wp_iaload dX9_putBoost_5 rfl hin ?_
    rw [hcl, eb Fr.rf]
    refine wp_iconst (v := 1) dX9_putBoost_6 rfl ?_
    refine wp_icmp_eq (tgt := 59) dX9_putBoost_7 (by decide) (fun c7 => ?_) (fun c7 => absurd hu c7)
    refine wp_ret0 dX9_putBoost_59 rfl (Nat.le_refl _) (Nat.le_refl _) ?_
    exact ⟨rfl, rfl, Fr.rf, hO⟩
  · obtain ⟨n, h99, hbn⟩ := hx.1.2.1
    have e : told 94 (nBo x) 1 = tld 94 n := by unfold told; rw [if_neg hu, hbn, nI_clamp (by omega)]
    rw [e] at hl ⊢
    obtain ⟨d1, d2⟩ := dig n h99
    by_cases h9 : 9 < n
    · have e2 : tld 94 n = [94] ++ ([48 + n / 10] ++ [48 + n % 10]) := by unfold tld; rw [if_pos h9]
      rw [e2] at hl ⊢
      simp only [List.length_append, List.length_cons, List.length_nil] at hl
      have hA : (l ++ [94]).length = l.length + 1 := by rw [List.length_append]; rfl
      have hB : (l ++ [94] ++ [48 + n / 10]).length = l.length + 2 := by rw [List.length_append, hA]; rfl
      refine wp_aload_n dX9_putBoost_0 rfl ?_
      refine wp_getR dX9_putBoost_1 fl_X9_50 rfl rfl (hG 16) ?_
      refine wp_iload_n dX9_putBoost_4 rfl ?_
      refine wp_iaload dX9_putBoost_5 rfl hin ?_
      rw [hcl, eb Fr.rf]
      refine wp_iconst (v := 1) dX9_putBoost_6 rfl ?_
      refine wp_icmp_eq (tgt := 59) dX9_putBoost_7 (by decide) (fun c7 => absurd c7 hu) (fun c7 => ?_)
      refine wp_aload_n dX9_putBoost_10 rfl ?_
      refine wp_bipush (v := 94) dX9_putBoost_11 (by decide) ?_
      refine wp_cV1p dX9_putBoost_13 ml_X9_196 vX9_put ⟨8, (RX9, TX9, 39), rfl, rfl, rfl⟩ (cX9_putN E 94 l M hG hO (by omega)) (Nat.le_of_ble_eq_true rfl) (Nat.le_of_ble_eq_true rfl) (Nat.le_of_ble_eq_true rfl) (Nat.le_refl _) (Nat.le_refl _) (fun v sh1 M1 hqq => ?_)
      obtain ⟨rfl, rfl, hF1, hO1⟩ := hqq
      refine wp_aload_n dX9_putBoost_16 rfl ?_
      refine wp_getR dX9_putBoost_17 fl_X9_50 rfl rfl ((hn.fr hF1).1 16) ?_
      refine wp_iload_n dX9_putBoost_20 rfl ?_
      refine wp_iaload dX9_putBoost_21 rfl hin ?_
      rw [hcl, eb hF1, hbn]
      refine wp_bipush (v := 9) dX9_putBoost_22 (by decide) ?_
      refine wp_icmp_le (tgt := 43) dX9_putBoost_24 (by decide) (fun c24 => absurd c24 (by rw [Int32.not_le, Int32.lt_iff_toInt_lt, nI_toInt (by omega)]; show (9 : Int) < _; omega)) (fun c24 => ?_)
      refine wp_aload_n dX9_putBoost_27 rfl ?_
      refine wp_bipush (v := 48) dX9_putBoost_28 (by decide) ?_
      refine wp_aload_n dX9_putBoost_30 rfl ?_
      refine wp_getR dX9_putBoost_31 fl_X9_50 rfl rfl ((hn.fr hF1).1 16) ?_
      refine wp_iload_n dX9_putBoost_34 rfl ?_
      refine wp_iaload dX9_putBoost_35 rfl hin ?_
      rw [hcl, eb hF1, hbn]
      refine wp_bipush (v := 10) dX9_putBoost_36 (by decide) ?_
      refine wp_idiv dX9_putBoost_38 (by decide) ?_
      refine wp_iadd dX9_putBoost_39 ?_
      rw [d1]
      refine wp_cV1p dX9_putBoost_40 ml_X9_196 vX9_put ⟨8, (RX9, TX9, 39), rfl, rfl, rfl⟩ (cX9_putN E (48 + n / 10) (l ++ [94]) _ (hn.fr hF1).1 hO1 (by omega)) (Nat.le_of_ble_eq_true rfl) (Nat.le_of_ble_eq_true rfl) (Nat.le_of_ble_eq_true rfl) (Nat.le_refl _) (Nat.le_refl _) (fun v sh1 M1 hqq => ?_)
      obtain ⟨rfl, rfl, hF2, hO2⟩ := hqq
      refine wp_aload_n dX9_putBoost_43 rfl ?_
      refine wp_bipush (v := 48) dX9_putBoost_44 (by decide) ?_
      refine wp_aload_n dX9_putBoost_46 rfl ?_
      refine wp_getR dX9_putBoost_47 fl_X9_50 rfl rfl ((hn.fr (hF1.tr hF2)).1 16) ?_
      refine wp_iload_n dX9_putBoost_50 rfl ?_
      refine wp_iaload dX9_putBoost_51 rfl hin ?_
      rw [hcl, eb (hF1.tr hF2), hbn]
      refine wp_bipush (v := 10) dX9_putBoost_52 (by decide) ?_
      refine wp_irem dX9_putBoost_54 (by decide) ?_
      refine wp_iadd dX9_putBoost_55 ?_
      rw [d2]
      refine wp_cV1p dX9_putBoost_56 ml_X9_196 vX9_put ⟨8, (RX9, TX9, 39), rfl, rfl, rfl⟩ (cX9_putN E (48 + n % 10) (l ++ [94] ++ [48 + n / 10]) _ (hn.fr (hF1.tr hF2)).1 hO2 (by omega)) (Nat.le_of_ble_eq_true rfl) (Nat.le_of_ble_eq_true rfl) (Nat.le_of_ble_eq_true rfl) (Nat.le_refl _) (Nat.le_refl _) (fun v sh1 M1 hqq => ?_)
      obtain ⟨rfl, rfl, hF3, hO3⟩ := hqq
      refine wp_ret0 dX9_putBoost_59 rfl (Nat.le_refl _) (Nat.le_refl _) ?_
      rw [List.append_assoc, List.append_assoc] at hO3
      exact ⟨rfl, rfl, (hF1.tr hF2).tr hF3, hO3⟩
    · have e2 : tld 94 n = [94] ++ [48 + n % 10] := by unfold tld; rw [if_neg h9]; rfl
      rw [e2] at hl ⊢
      simp only [List.length_append, List.length_cons, List.length_nil] at hl
      have hA : (l ++ [94]).length = l.length + 1 := by rw [List.length_append]; rfl
      refine wp_aload_n dX9_putBoost_0 rfl ?_
      refine wp_getR dX9_putBoost_1 fl_X9_50 rfl rfl (hG 16) ?_
      refine wp_iload_n dX9_putBoost_4 rfl ?_
      refine wp_iaload dX9_putBoost_5 rfl hin ?_
      rw [hcl, eb Fr.rf]
      refine wp_iconst (v := 1) dX9_putBoost_6 rfl ?_
      refine wp_icmp_eq (tgt := 59) dX9_putBoost_7 (by decide) (fun c7 => absurd c7 hu) (fun c7 => ?_)
      refine wp_aload_n dX9_putBoost_10 rfl ?_
      refine wp_bipush (v := 94) dX9_putBoost_11 (by decide) ?_
      refine wp_cV1p dX9_putBoost_13 ml_X9_196 vX9_put ⟨8, (RX9, TX9, 39), rfl, rfl, rfl⟩ (cX9_putN E 94 l M hG hO (by omega)) (Nat.le_of_ble_eq_true rfl) (Nat.le_of_ble_eq_true rfl) (Nat.le_of_ble_eq_true rfl) (Nat.le_refl _) (Nat.le_refl _) (fun v sh1 M1 hqq => ?_)
      obtain ⟨rfl, rfl, hF1, hO1⟩ := hqq
      refine wp_aload_n dX9_putBoost_16 rfl ?_
      refine wp_getR dX9_putBoost_17 fl_X9_50 rfl rfl ((hn.fr hF1).1 16) ?_
      refine wp_iload_n dX9_putBoost_20 rfl ?_
      refine wp_iaload dX9_putBoost_21 rfl hin ?_
      rw [hcl, eb hF1, hbn]
      refine wp_bipush (v := 9) dX9_putBoost_22 (by decide) ?_
      refine wp_icmp_le (tgt := 43) dX9_putBoost_24 (by decide) (fun c24 => ?_) (fun c24 => absurd (nI_le (b := 9) (by omega) (by decide)) c24)
      refine wp_aload_n dX9_putBoost_43 rfl ?_
      refine wp_bipush (v := 48) dX9_putBoost_44 (by decide) ?_
      refine wp_aload_n dX9_putBoost_46 rfl ?_
      refine wp_getR dX9_putBoost_47 fl_X9_50 rfl rfl ((hn.fr hF1).1 16) ?_
      refine wp_iload_n dX9_putBoost_50 rfl ?_
      refine wp_iaload dX9_putBoost_51 rfl hin ?_
      rw [hcl, eb hF1, hbn]
      refine wp_bipush (v := 10) dX9_putBoost_52 (by decide) ?_
      refine wp_irem dX9_putBoost_54 (by decide) ?_
      refine wp_iadd dX9_putBoost_55 ?_
      rw [d2]
      refine wp_cV1p dX9_putBoost_56 ml_X9_196 vX9_put ⟨8, (RX9, TX9, 39), rfl, rfl, rfl⟩ (cX9_putN E (48 + n % 10) (l ++ [94]) _ (hn.fr hF1).1 hO1 (by omega)) (Nat.le_of_ble_eq_true rfl) (Nat.le_of_ble_eq_true rfl) (Nat.le_of_ble_eq_true rfl) (Nat.le_refl _) (Nat.le_refl _) (fun v sh1 M1 hqq => ?_)
      obtain ⟨rfl, rfl, hF2, hO2⟩ := hqq
      refine wp_ret0 dX9_putBoost_59 rfl (Nat.le_refl _) (Nat.le_refl _) ?_
      rw [List.append_assoc] at hO2
      exact ⟨rfl, rfl, hF1.tr hF2, hO2⟩
theorem told1 {sg n : Nat} {v u : Int32} (hv : v = nI n) (h9 : n ≤ 9) (hu : ¬ v = u) : told sg v u = [sg] ++ [48 + n] := by
  unfold told
  rw [if_neg hu, hv, nI_clamp (by omega)]
  unfold tld
  rw [if_neg (by omega), Nat.mod_eq_of_lt (by omega)]; rfl
theorem gr_de9 {x : ND} (h : nOk x) (h3 : nCo x = 3) : ¬ nDe x = -1 → ∃ n, n ≤ 9 ∧ nDe x = nI n := by
  intro hn
  rcases h.2 with ⟨e, _⟩ | ⟨e, _⟩ | ⟨e, _⟩ | ⟨_, _, e⟩
  · exact absurd (e.symm.trans h3) (by decide)
  · exact absurd (e.symm.trans h3) (by decide)
  · exact absurd (e.symm.trans h3) (by decide)
  · rcases e with e | ⟨d, _, h9, e⟩
    · exact absurd e hn
    · exact ⟨d, h9, e⟩
set_option maxRecDepth 100000 in
set_option maxHeartbeats 4000000 in
theorem cX9_closes_ (E : GE) (k : Nat) (x : ND) (l : List Nat) (M : Mem) (hn : NX M k x) (hO : rmO M (some l)) (hx : nOk x) (h3 : nCo x = 3) (hl : l.length + (closeS x).length ≤ 240) : Sp E mX9_closes 2 0 0 [.ref 121, .int (nI k)] SH M (pP M (l ++ closeS x)) := by
  refine sp_of vX9_closes.1 rfl (Nat.le_of_ble_eq_true rfl) ?_
  have hk := hn.2.1
  have hin : vp_in (nI k) 25 := vp_in_nI hk (by decide)
  have hcl : (nI k).toNatClampNeg = k := nI_clamp (by omega)
  have hG := hn.1
  have ed : ∀ {M1 : Mem}, oF M M1 → aI M1 136 k = nDe x := fun q => (hn.fr q).2.2.1.2.2.2.2.1
  have hll : l.length + (1 + ((told 64 (nDe x) (-1)).length + (told 94 (nBo x) 1).length)) ≤ 240 := by
    have : (closeS x).length = 1 + ((told 64 (nDe x) (-1)).length + (told 94 (nBo x) 1).length) := by unfold closeS; rw [List.length_append, List.length_append]; rfl
    rw [← this]; exact hl
  have es : l ++ closeS x = l ++ [41] ++ told 64 (nDe x) (-1) ++ told 94 (nBo x) 1 := by unfold closeS; simp only [List.append_assoc]
  rw [es]
  have hA : (l ++ [41]).length = l.length + 1 := by rw [List.length_append]; rfl
  have hB : (l ++ [41] ++ told 64 (nDe x) (-1)).length = l.length + 1 + (told 64 (nDe x) (-1)).length := by rw [List.length_append, hA]
  have J35 : ∀ (M1 : Mem), oF M M1 → rmO M1 (some (l ++ [41] ++ told 64 (nDe x) (-1))) → Wp (xM E mX9_closes 2 0 0 SH.length (pP M (l ++ [41] ++ told 64 (nDe x) (-1) ++ told 94 (nBo x) 1))) 0 0 35 [(1, .int (nI k)), (0, .ref 121)] [] SH M1 := by
    intro M1 hF0 hO0
    refine wp_aload_n dX9_closes_35 rfl ?_
    refine wp_iload_n dX9_closes_36 rfl ?_
    refine wp_cV1p dX9_closes_37 ml_X9_203 vX9_putBoost ⟨8, (RX9, TX9, 39), rfl, rfl, rfl⟩ (cX9_putBoost_ E k x _ M1 (hn.fr hF0) hO0 hx (by omega)) (Nat.le_of_ble_eq_true rfl) (Nat.le_of_ble_eq_true rfl) (Nat.le_of_ble_eq_true rfl) (Nat.le_refl _) (Nat.le_refl _) (fun v sh1 M1 hqq => ?_)
    obtain ⟨rfl, rfl, hF1, hO1⟩ := hqq
    refine wp_ret0 dX9_closes_40 rfl (Nat.le_refl _) (Nat.le_refl _) ?_
    exact ⟨rfl, rfl, hF0.tr hF1, hO1⟩
  refine wp_aload_n dX9_closes_0 rfl ?_
  refine wp_bipush (v := 41) dX9_closes_1 (by decide) ?_
  refine wp_cV1p dX9_closes_3 ml_X9_196 vX9_put ⟨8, (RX9, TX9, 39), rfl, rfl, rfl⟩ (cX9_putN E 41 l M hG hO (by omega)) (Nat.le_of_ble_eq_true rfl) (Nat.le_of_ble_eq_true rfl) (Nat.le_of_ble_eq_true rfl) (Nat.le_refl _) (Nat.le_refl _) (fun v sh1 M1 hqq => ?_)
  obtain ⟨rfl, rfl, hF1, hO1⟩ := hqq
  refine wp_aload_n dX9_closes_6 rfl ?_
  refine wp_getR dX9_closes_7 fl_X9_56 rfl rfl ((hn.fr hF1).1 18) ?_
  refine wp_iload_n dX9_closes_10 rfl ?_
  refine wp_iaload dX9_closes_11 rfl hin ?_
  rw [hcl, ed hF1]
  refine wp_iconst (v := (-1)) dX9_closes_12 rfl ?_
  refine wp_icmp_eq (tgt := 35) dX9_closes_13 (by decide) (fun c13 => ?_) (fun c13 => ?_)
  · have e : told 64 (nDe x) (-1) = [] := by unfold told; rw [if_pos c13]
    exact wp_lv (J35 _ hF1 (by rw [e, List.append_nil]; exact hO1)) (by repeat (first | exact trivial | refine ⟨rfl, ?_⟩))
  · obtain ⟨d, hd9, hd⟩ := gr_de9 hx h3 c13
    have et := told1 (sg := 64) hd hd9 c13
    rw [et] at hll hB
    simp only [List.length_append, List.length_cons, List.length_nil] at hll
    have hC : (l ++ [41] ++ [64]).length = l.length + 2 := by rw [List.length_append, hA]; rfl
    refine wp_aload_n dX9_closes_16 rfl ?_
    refine wp_bipush (v := 64) dX9_closes_17 (by decide) ?_
    refine wp_cV1p dX9_closes_19 ml_X9_196 vX9_put ⟨8, (RX9, TX9, 39), rfl, rfl, rfl⟩ (cX9_putN E 64 (l ++ [41]) _ (hn.fr hF1).1 hO1 (by omega)) (Nat.le_of_ble_eq_true rfl) (Nat.le_of_ble_eq_true rfl) (Nat.le_of_ble_eq_true rfl) (Nat.le_refl _) (Nat.le_refl _) (fun v sh1 M1 hqq => ?_)
    obtain ⟨rfl, rfl, hF2, hO2⟩ := hqq
    refine wp_aload_n dX9_closes_22 rfl ?_
    refine wp_bipush (v := 48) dX9_closes_23 (by decide) ?_
    refine wp_aload_n dX9_closes_25 rfl ?_
    refine wp_getR dX9_closes_26 fl_X9_56 rfl rfl ((hn.fr (hF1.tr hF2)).1 18) ?_
    refine wp_iload_n dX9_closes_29 rfl ?_
    refine wp_iaload dX9_closes_30 rfl hin ?_
    refine wp_iadd dX9_closes_31 ?_
    rw [hcl, ed (hF1.tr hF2), show (48 : Int32) + nDe x = nI (48 + d) by rw [hd, show (48 : Int32) = nI 48 from rfl, nI_add]]
    refine wp_cV1p dX9_closes_32 ml_X9_196 vX9_put ⟨8, (RX9, TX9, 39), rfl, rfl, rfl⟩ (cX9_putN E (48 + d) (l ++ [41] ++ [64]) _ (hn.fr (hF1.tr hF2)).1 hO2 (by omega)) (Nat.le_of_ble_eq_true rfl) (Nat.le_of_ble_eq_true rfl) (Nat.le_of_ble_eq_true rfl) (Nat.le_refl _) (Nat.le_refl _) (fun v sh1 M1 hqq => ?_)
    obtain ⟨rfl, rfl, hF3, hO3⟩ := hqq
    exact wp_lv (J35 _ ((hF1.tr hF2).tr hF3) (by rw [et, ← List.append_assoc]; exact hO3)) (by repeat (first | exact trivial | refine ⟨rfl, ?_⟩))
set_option maxRecDepth 100000 in
set_option maxHeartbeats 4000000 in
theorem cX9_putCore_ (E : GE) (k : Nat) (x : ND) (l : List Nat) (M : Mem) (hn : NX M k x) (hO : rmO M (some l)) (hx : nOk x) (h3 : nCo x ≠ 3) (hl : l.length + ((coreS x).length + (told 94 (nBo x) 1).length) ≤ 240) : Sp E mX9_putCore 2 0 0 [.ref 121, .int (nI k)] SH M (pP M (l ++ coreS x ++ told 94 (nBo x) 1)) := by
  refine sp_of vX9_putCore.1 rfl (Nat.le_of_ble_eq_true rfl) ?_
  have hk := hn.2.1
  have hin : vp_in (nI k) 25 := vp_in_nI hk (by decide)
  have hcl : (nI k).toNatClampNeg = k := nI_clamp (by omega)
  have hG := hn.1
  have ec : ∀ {M1 : Mem}, oF M M1 → aI M1 132 k = nCo x := fun q => (hn.fr q).2.2.1.1
  have ed : ∀ {M1 : Mem}, oF M M1 → aI M1 136 k = nDe x := fun q => (hn.fr q).2.2.1.2.2.2.2.1
  have en : ∀ {M1 : Mem}, oF M M1 → aI M1 138 k = nI (nWo x).length := fun q => by
    have := (hn.fr q).2.2.1.2.2.2.2.2.2.1
    rw [if_neg h3] at this; exact this
  have h5 := hn.2.2.2.1
  have hlc : (l ++ coreS x).length = l.length + (coreS x).length := List.length_append
  have J180 : ∀ (M1 : Mem), oF M M1 → rmO M1 (some (l ++ coreS x)) → Wp (xM E mX9_putCore 2 0 0 SH.length (pP M (l ++ coreS x ++ told 94 (nBo x) 1))) 0 0 180 [(1, .int (nI k)), (0, .ref 121)] [] SH M1 := by
    intro M1 hF0 hO0
    refine wp_aload_n dX9_putCore_180 rfl ?_
    refine wp_iload_n dX9_putCore_181 rfl ?_
    refine wp_cV1p dX9_putCore_182 ml_X9_203 vX9_putBoost ⟨8, (RX9, TX9, 39), rfl, rfl, rfl⟩ (cX9_putBoost_ E k x _ M1 (hn.fr hF0) hO0 hx (by omega)) (Nat.le_of_ble_eq_true rfl) (Nat.le_of_ble_eq_true rfl) (Nat.le_of_ble_eq_true rfl) (Nat.le_refl _) (Nat.le_refl _) (fun v sh1 M1 hqq => ?_)
    obtain ⟨rfl, rfl, hF1, hO1⟩ := hqq
    refine wp_ret0 dX9_putCore_185 rfl (Nat.le_refl _) (Nat.le_refl _) ?_
    exact ⟨rfl, rfl, hF0.tr hF1, hO1⟩
  have J142 : ∀ (l1 : List Nat) (M1 : Mem), oF M M1 → rmO M1 (some l1) → l ++ coreS x = l1 ++ (if nCo x = 2 then [] else told 126 (nDe x) 0) → Wp (xM E mX9_putCore 2 0 0 SH.length (pP M (l ++ coreS x ++ told 94 (nBo x) 1))) 0 0 142 [(1, .int (nI k)), (0, .ref 121)] [] SH M1 := by
    intro l1 M1 hF0 hO0 hl1
    have hG0 := (hn.fr hF0).1
    have hlen := congrArg List.length hl1
    rw [hlc, List.length_append] at hlen
    refine wp_aload_n dX9_putCore_142 rfl ?_
    refine wp_getR dX9_putCore_143 fl_X9_44 rfl rfl (hG0 14) ?_
    refine wp_iload_n dX9_putCore_146 rfl ?_
    refine wp_iaload dX9_putCore_147 rfl hin ?_
    rw [hcl, ec hF0]
    refine wp_iconst (v := 2) dX9_putCore_148 rfl ?_
    refine wp_icmp_eq (tgt := 180) dX9_putCore_149 (by decide) (fun c149 => ?_) (fun c149 => ?_)
    · rw [if_pos c149, List.append_nil] at hl1
      exact wp_lv (J180 _ hF0 (by rw [hl1]; exact hO0)) (by repeat (first | exact trivial | refine ⟨rfl, ?_⟩))
    · refine wp_aload_n dX9_putCore_152 rfl ?_
      refine wp_getR dX9_putCore_153 fl_X9_56 rfl rfl (hG0 18) ?_
      refine wp_iload_n dX9_putCore_156 rfl ?_
      refine wp_iaload dX9_putCore_157 rfl hin ?_
      rw [hcl, ed hF0]
      refine wp_if_eq (tgt := 180) dX9_putCore_158 (by decide) (fun c158 => ?_) (fun c158 => ?_)
      · rw [if_neg c149, show told 126 (nDe x) 0 = [] by unfold told; rw [if_pos c158], List.append_nil] at hl1
        exact wp_lv (J180 _ hF0 (by rw [hl1]; exact hO0)) (by repeat (first | exact trivial | refine ⟨rfl, ?_⟩))
      · obtain ⟨d, hd9, hd⟩ := co_de hx h3
        have et := told1 (sg := 126) hd hd9 c158
        rw [if_neg c149, et] at hl1 hlen
        simp only [List.length_append, List.length_cons, List.length_nil] at hlen
        have hC : (l1 ++ [126]).length = l1.length + 1 := by rw [List.length_append]; rfl
        refine wp_aload_n dX9_putCore_161 rfl ?_
        refine wp_bipush (v := 126) dX9_putCore_162 (by decide) ?_
        refine wp_cV1p dX9_putCore_164 ml_X9_196 vX9_put ⟨8, (RX9, TX9, 39), rfl, rfl, rfl⟩ (cX9_putN E 126 l1 M1 hG0 hO0 (by omega)) (Nat.le_of_ble_eq_true rfl) (Nat.le_of_ble_eq_true rfl) (Nat.le_of_ble_eq_true rfl) (Nat.le_refl _) (Nat.le_refl _) (fun v sh1 M1 hqq => ?_)
        obtain ⟨rfl, rfl, hF1, hO1⟩ := hqq
        refine wp_aload_n dX9_putCore_167 rfl ?_
        refine wp_bipush (v := 48) dX9_putCore_168 (by decide) ?_
        refine wp_aload_n dX9_putCore_170 rfl ?_
        refine wp_getR dX9_putCore_171 fl_X9_56 rfl rfl ((hn.fr (hF0.tr hF1)).1 18) ?_
        refine wp_iload_n dX9_putCore_174 rfl ?_
        refine wp_iaload dX9_putCore_175 rfl hin ?_
        refine wp_iadd dX9_putCore_176 ?_
        rw [hcl, ed (hF0.tr hF1), hd, show (48 : Int32) = nI 48 from rfl, nI_add]
        refine wp_cV1p dX9_putCore_177 ml_X9_196 vX9_put ⟨8, (RX9, TX9, 39), rfl, rfl, rfl⟩ (cX9_putN E (48 + d) (l1 ++ [126]) _ (hn.fr (hF0.tr hF1)).1 hO1 (by omega)) (Nat.le_of_ble_eq_true rfl) (Nat.le_of_ble_eq_true rfl) (Nat.le_of_ble_eq_true rfl) (Nat.le_refl _) (Nat.le_refl _) (fun v sh1 M1 hqq => ?_)
        obtain ⟨rfl, rfl, hF2, hO2⟩ := hqq
        exact wp_lv (J180 _ ((hF0.tr hF1).tr hF2) (by rw [hl1, ← List.append_assoc]; exact hO2)) (by repeat (first | exact trivial | refine ⟨rfl, ?_⟩))
  have hq30 : nCo x = 1 → ∀ (r j : Nat) (M1 : Mem), j + r = (nWo x).length → oF M M1 → rmO M1 (some (l ++ (if j = 0 then [] else [34] ++ qU x j))) → Wp (xM E mX9_putCore 2 0 0 SH.length (pP M (l ++ coreS x ++ told 94 (nBo x) 1))) 0 0 30 [(2, .int (nI j)), (1, .int (nI k)), (0, .ref 121)] [] SH M1 := by
    intro hco
    have h1l : 1 ≤ (nWo x).length := by
      rcases hx.2 with ⟨e, _⟩ | ⟨_, e, _⟩ | ⟨e, _⟩ | ⟨e, _⟩
      · exact absurd (e.symm.trans hco) (by decide)
      · exact e
      · exact absurd (e.symm.trans hco) (by decide)
      · exact absurd (e.symm.trans hco) (by decide)
    have hcs : coreS x = quoS x := by unfold coreS; rw [if_pos hco]
    have hll : l.length + (1 + ((qU x (nWo x).length).length + (1 + (told 126 (nDe x) 0).length))) ≤ 240 := by
      have e : (quoS x).length = 1 + ((qU x (nWo x).length).length + (1 + (told 126 (nDe x) 0).length)) := by unfold quoS; simp only [List.length_append, List.length_cons, List.length_nil]
      rw [← e, ← hcs]; omega
    have hqm : ∀ j, j ≤ (nWo x).length → (qU x j).length ≤ (qU x (nWo x).length).length := fun j hj => by
      rw [qU_len x j hj, qU_len x _ (Nat.le_refl _), List.take_length]
      have : slen ((nWo x).take j) ≤ slen (nWo x) := by
        conv => rhs; rw [← List.take_append_drop j (nWo x), slen_app]
        omega
      omega
    intro r
    induction r with
    | zero =>
      intro j M1 hj hF0 hO0
      have hj : j = (nWo x).length := by omega
      subst hj
      rw [if_neg (by omega)] at hO0
      have hG0 := (hn.fr hF0).1
      have hA : (l ++ ([34] ++ qU x (nWo x).length)).length = l.length + (1 + (qU x (nWo x).length).length) := by rw [List.length_append, List.length_append]; rfl
      refine wp_iload_n dX9_putCore_30 rfl ?_
      refine wp_aload_n dX9_putCore_31 rfl ?_
      refine wp_getR dX9_putCore_32 fl_X9_62 rfl rfl (hG0 20) ?_
      refine wp_iload_n dX9_putCore_35 rfl ?_
      refine wp_iaload dX9_putCore_36 rfl hin ?_
      rw [hcl, en hF0]
      refine wp_icmp_ge (tgt := 67) dX9_putCore_37 (by decide) (fun c37 => ?_) (fun c37 => absurd (Int32.le_refl _) c37)
      refine wp_aload_n dX9_putCore_67 rfl ?_
      refine wp_bipush (v := 34) dX9_putCore_68 (by decide) ?_
      refine wp_cV1p dX9_putCore_70 ml_X9_196 vX9_put ⟨8, (RX9, TX9, 39), rfl, rfl, rfl⟩ (cX9_putN E 34 _ M1 hG0 hO0 (by omega)) (Nat.le_of_ble_eq_true rfl) (Nat.le_of_ble_eq_true rfl) (Nat.le_of_ble_eq_true rfl) (Nat.le_refl _) (Nat.le_refl _) (fun v sh1 M1 hqq => ?_)
      obtain ⟨rfl, rfl, hF1, hO1⟩ := hqq
      refine wp_goto (tgt := 142) dX9_putCore_73 (by decide) ?_
      refine wp_lv (J142 _ _ (hF0.tr hF1) hO1 ?_) (by repeat (first | exact trivial | refine ⟨rfl, ?_⟩))
      rw [if_neg (by rw [hco]; decide), hcs]
      unfold quoS
      simp only [List.append_assoc]
    | succ r ih =>
      intro j M1 hj hF0 hO0
      have hjl : j < (nWo x).length := by omega
      have hG0 := (hn.fr hF0).1
      have hq1 := hqm (j + 1) hjl
      have hqs : qU x (j + 1) = qU x j ++ ((if 0 < j then [32] else []) ++ nWd x j) := rfl
      have hql : (qU x (j + 1)).length = (qU x j).length + ((if 0 < j then 1 else 0) + (nWd x j).length) := by
        rw [hqs, List.length_append, List.length_append]; congr 2; split <;> rfl
      obtain ⟨l1, hl1⟩ : ∃ l1, l1 = l ++ (if j = 0 then [] else [34] ++ qU x j) := ⟨_, rfl⟩
      rw [← hl1] at hO0
      obtain ⟨s, hs⟩ : ∃ s : Nat, s = if j = 0 then 34 else 32 := ⟨_, rfl⟩
      have hen : l ++ ([34] ++ qU x (j + 1)) = l1 ++ [s] ++ nWd x j := by
        rw [hl1, hs, hqs]
        by_cases c : j = 0
        · subst c; simp [qU]
        · rw [if_neg c, if_neg c, if_pos (by omega)]; simp only [List.append_assoc]
      have hel := congrArg List.length hen
      simp only [List.length_append, List.length_cons, List.length_nil] at hel
      have hA : (l1 ++ [s]).length = l1.length + 1 := by rw [List.length_append]; rfl
      have J52 : Wp (xM E mX9_putCore 2 0 0 SH.length (pP M (l ++ coreS x ++ told 94 (nBo x) 1))) 0 0 52 [(2, .int (nI j)), (1, .int (nI k)), (0, .ref 121)] [.int (nI s), .ref 121] SH M1 := by
        refine wp_cV1p dX9_putCore_52 ml_X9_196 vX9_put ⟨8, (RX9, TX9, 39), rfl, rfl, rfl⟩ (cX9_putN E s l1 M1 hG0 hO0 (by omega)) (Nat.le_of_ble_eq_true rfl) (Nat.le_of_ble_eq_true rfl) (Nat.le_of_ble_eq_true rfl) (Nat.le_refl _) (Nat.le_refl _) (fun v sh1 M1 hqq => ?_)
        obtain ⟨rfl, rfl, hF1, hO1⟩ := hqq
        refine wp_aload_n dX9_putCore_55 rfl ?_
        refine wp_iload_n dX9_putCore_56 rfl ?_
        refine wp_iload_n dX9_putCore_57 rfl ?_
        refine wp_cV2p dX9_putCore_58 ml_X9_199 vX9_putWord ⟨8, (RX9, TX9, 39), rfl, rfl, rfl⟩ (cX9_putWord_ E k j x (l1 ++ [s]) _ (hn.fr (hF0.tr hF1)) hO1 hjl (by omega)) (Nat.le_of_ble_eq_true rfl) (Nat.le_of_ble_eq_true rfl) (Nat.le_of_ble_eq_true rfl) (Nat.le_refl _) (Nat.le_refl _) (fun v sh1 M1 hqq => ?_)
        obtain ⟨rfl, rfl, hF2, hO2⟩ := hqq
        refine wp_iinc dX9_putCore_61 rfl (i_inc _) (Nat.le_of_ble_eq_true rfl) ?_
        refine wp_goto (tgt := 30) dX9_putCore_64 (by decide) ?_
        refine wp_lv (ih (j + 1) _ (by omega) ((hF0.tr hF1).tr hF2) ?_) (by repeat (first | exact trivial | refine ⟨rfl, ?_⟩))
        rw [if_neg (by omega), hen]; exact hO2
      refine wp_iload_n dX9_putCore_30 rfl ?_
      refine wp_aload_n dX9_putCore_31 rfl ?_
      refine wp_getR dX9_putCore_32 fl_X9_62 rfl rfl (hG0 20) ?_
      refine wp_iload_n dX9_putCore_35 rfl ?_
      refine wp_iaload dX9_putCore_36 rfl hin ?_
      rw [hcl, en hF0]
      refine wp_icmp_ge (tgt := 67) dX9_putCore_37 (by decide) (fun c37 => absurd c37 (nI_ge hjl (by omega))) (fun c37 => ?_)
      refine wp_aload_n dX9_putCore_40 rfl ?_
      refine wp_iload_n dX9_putCore_41 rfl ?_
      refine wp_if_ne (tgt := 50) dX9_putCore_42 (by decide) (fun c42 => ?_) (fun c42 => ?_)
      · refine wp_bipush (v := 32) dX9_putCore_50 (by decide) ?_
        have hj0 : ¬ j = 0 := fun e => c42 (by rw [e]; rfl)
        rw [if_neg hj0] at hs
        subst hs
        exact J52
      · refine wp_bipush (v := 34) dX9_putCore_45 (by decide) ?_
        refine wp_goto (tgt := 52) dX9_putCore_47 (by decide) ?_
        have hj0 : j = 0 := nI_e (by omega) (by decide) c42
        rw [if_pos hj0] at hs
        subst hs
        exact J52
  have hs76 : nCo x = 2 → Wp (xM E mX9_putCore 2 0 0 SH.length (pP M (l ++ coreS x ++ told 94 (nBo x) 1))) 0 0 76 [(1, .int (nI k)), (0, .ref 121)] [] SH M := by
    intro hco
    have hl2 : (nWo x).length = 2 := by
      rcases hx.2 with ⟨e, _⟩ | ⟨e, _⟩ | ⟨_, e, _⟩ | ⟨e, _⟩
      · exact absurd (e.symm.trans hco) (by decide)
      · exact absurd (e.symm.trans hco) (by decide)
      · exact e
      · exact absurd (e.symm.trans hco) (by decide)
    have hcs : coreS x = spaS x := by unfold coreS; rw [hco]; rfl
    have hll : l.length + (1 + ((nWd x 0).length + (1 + (1 + ((nWd x 1).length + 1))))) ≤ 240 := by
      have e : (spaS x).length = 1 + ((nWd x 0).length + (1 + (1 + ((nWd x 1).length + 1)))) := by unfold spaS; simp only [List.length_append, List.length_cons, List.length_nil]
      rw [← e, ← hcs]; omega
    obtain ⟨o, ho⟩ : ∃ o : Nat, o = if nDe x = 1 then 123 else 91 := ⟨_, rfl⟩
    obtain ⟨c, hc⟩ : ∃ c : Nat, c = if nDe x = 1 then 125 else 93 := ⟨_, rfl⟩
    have es : l ++ coreS x = l ++ [o] ++ nWd x 0 ++ [46] ++ [46] ++ nWd x 1 ++ [c] := by rw [hcs]; unfold spaS; rw [ho, hc]; simp only [List.append_assoc]
    have hA : (l ++ [o]).length = l.length + 1 := by simp only [List.length_append, List.length_cons, List.length_nil]
    have hB : (l ++ [o] ++ nWd x 0).length = l.length + 1 + (nWd x 0).length := by simp only [List.length_append, List.length_cons, List.length_nil]
    have hC : (l ++ [o] ++ nWd x 0 ++ [46]).length = l.length + 1 + (nWd x 0).length + 1 := by simp only [List.length_append, List.length_cons, List.length_nil]
    have hD : (l ++ [o] ++ nWd x 0 ++ [46] ++ [46]).length = l.length + 1 + (nWd x 0).length + 1 + 1 := by simp only [List.length_append, List.length_cons, List.length_nil]
    have hE : (l ++ [o] ++ nWd x 0 ++ [46] ++ [46] ++ nWd x 1).length = l.length + 1 + (nWd x 0).length + 1 + 1 + (nWd x 1).length := by simp only [List.length_append, List.length_cons, List.length_nil]
    have J139 : ∀ (M1 : Mem), oF M M1 → rmO M1 (some (l ++ [o] ++ nWd x 0 ++ [46] ++ [46] ++ nWd x 1)) → Wp (xM E mX9_putCore 2 0 0 SH.length (pP M (l ++ coreS x ++ told 94 (nBo x) 1))) 0 0 139 [(1, .int (nI k)), (0, .ref 121)] [.int (nI c), .ref 121] SH M1 := by
      intro M1 hF0 hO0
      refine wp_cV1p dX9_putCore_139 ml_X9_196 vX9_put ⟨8, (RX9, TX9, 39), rfl, rfl, rfl⟩ (cX9_putN E c _ M1 (hn.fr hF0).1 hO0 (by omega)) (Nat.le_of_ble_eq_true rfl) (Nat.le_of_ble_eq_true rfl) (Nat.le_of_ble_eq_true rfl) (Nat.le_refl _) (Nat.le_refl _) (fun v sh1 M1 hqq => ?_)
      obtain ⟨rfl, rfl, hF1, hO1⟩ := hqq
      exact wp_lv (J142 _ _ (hF0.tr hF1) hO1 (by rw [if_pos hco, List.append_nil]; exact es)) (by repeat (first | exact trivial | refine ⟨rfl, ?_⟩))
    have J94 : Wp (xM E mX9_putCore 2 0 0 SH.length (pP M (l ++ coreS x ++ told 94 (nBo x) 1))) 0 0 94 [(1, .int (nI k)), (0, .ref 121)] [.int (nI o), .ref 121] SH M := by
      refine wp_cV1p dX9_putCore_94 ml_X9_196 vX9_put ⟨8, (RX9, TX9, 39), rfl, rfl, rfl⟩ (cX9_putN E o l M hG hO (by omega)) (Nat.le_of_ble_eq_true rfl) (Nat.le_of_ble_eq_true rfl) (Nat.le_of_ble_eq_true rfl) (Nat.le_refl _) (Nat.le_refl _) (fun v sh1 M1 hqq => ?_)
      obtain ⟨rfl, rfl, hF1, hO1⟩ := hqq
      refine wp_aload_n dX9_putCore_97 rfl ?_
      refine wp_iload_n dX9_putCore_98 rfl ?_
      refine wp_iconst (v := 0) dX9_putCore_99 rfl ?_
      refine wp_cV2p dX9_putCore_100 ml_X9_199 vX9_putWord ⟨8, (RX9, TX9, 39), rfl, rfl, rfl⟩ (cX9_putWord_ E k 0 x (l ++ [o]) _ (hn.fr hF1) hO1 (by omega) (by omega)) (Nat.le_of_ble_eq_true rfl) (Nat.le_of_ble_eq_true rfl) (Nat.le_of_ble_eq_true rfl) (Nat.le_refl _) (Nat.le_refl _) (fun v sh1 M1 hqq => ?_)
      obtain ⟨rfl, rfl, hF2, hO2⟩ := hqq
      refine wp_aload_n dX9_putCore_103 rfl ?_
      refine wp_bipush (v := 46) dX9_putCore_104 (by decide) ?_
      refine wp_cV1p dX9_putCore_106 ml_X9_196 vX9_put ⟨8, (RX9, TX9, 39), rfl, rfl, rfl⟩ (cX9_putN E 46 (l ++ [o] ++ nWd x 0) _ (hn.fr (hF1.tr hF2)).1 hO2 (by omega)) (Nat.le_of_ble_eq_true rfl) (Nat.le_of_ble_eq_true rfl) (Nat.le_of_ble_eq_true rfl) (Nat.le_refl _) (Nat.le_refl _) (fun v sh1 M1 hqq => ?_)
      obtain ⟨rfl, rfl, hF3, hO3⟩ := hqq
      refine wp_aload_n dX9_putCore_109 rfl ?_
      refine wp_bipush (v := 46) dX9_putCore_110 (by decide) ?_
      refine wp_cV1p dX9_putCore_112 ml_X9_196 vX9_put ⟨8, (RX9, TX9, 39), rfl, rfl, rfl⟩ (cX9_putN E 46 (l ++ [o] ++ nWd x 0 ++ [46]) _ (hn.fr ((hF1.tr hF2).tr hF3)).1 hO3 (by omega)) (Nat.le_of_ble_eq_true rfl) (Nat.le_of_ble_eq_true rfl) (Nat.le_of_ble_eq_true rfl) (Nat.le_refl _) (Nat.le_refl _) (fun v sh1 M1 hqq => ?_)
      obtain ⟨rfl, rfl, hF4, hO4⟩ := hqq
      refine wp_aload_n dX9_putCore_115 rfl ?_
      refine wp_iload_n dX9_putCore_116 rfl ?_
      refine wp_iconst (v := 1) dX9_putCore_117 rfl ?_
      refine wp_cV2p dX9_putCore_118 ml_X9_199 vX9_putWord ⟨8, (RX9, TX9, 39), rfl, rfl, rfl⟩ (cX9_putWord_ E k 1 x (l ++ [o] ++ nWd x 0 ++ [46] ++ [46]) _ (hn.fr (((hF1.tr hF2).tr hF3).tr hF4)) hO4 (by omega) (by omega)) (Nat.le_of_ble_eq_true rfl) (Nat.le_of_ble_eq_true rfl) (Nat.le_of_ble_eq_true rfl) (Nat.le_refl _) (Nat.le_refl _) (fun v sh1 M1 hqq => ?_)
      obtain ⟨rfl, rfl, hF5, hO5⟩ := hqq
      refine wp_aload_n dX9_putCore_121 rfl ?_
      refine wp_aload_n dX9_putCore_122 rfl ?_
      refine wp_getR dX9_putCore_123 fl_X9_56 rfl rfl ((hn.fr ((((hF1.tr hF2).tr hF3).tr hF4).tr hF5)).1 18) ?_
      refine wp_iload_n dX9_putCore_126 rfl ?_
      refine wp_iaload dX9_putCore_127 rfl hin ?_
      rw [hcl, ed ((((hF1.tr hF2).tr hF3).tr hF4).tr hF5)]
      refine wp_iconst (v := 1) dX9_putCore_128 rfl ?_
      refine wp_icmp_ne (tgt := 137) dX9_putCore_129 (by decide) (fun c129 => ?_) (fun c129 => ?_)
      · refine wp_bipush (v := 93) dX9_putCore_137 (by decide) ?_
        rw [if_neg c129] at hc
        subst hc
        exact wp_lv (J139 _ ((((hF1.tr hF2).tr hF3).tr hF4).tr hF5) hO5) (by repeat (first | exact trivial | refine ⟨rfl, ?_⟩))
      · refine wp_bipush (v := 125) dX9_putCore_132 (by decide) ?_
        refine wp_goto (tgt := 139) dX9_putCore_134 (by decide) ?_
        rw [if_pos c129] at hc
        subst hc
        exact wp_lv (J139 _ ((((hF1.tr hF2).tr hF3).tr hF4).tr hF5) hO5) (by repeat (first | exact trivial | refine ⟨rfl, ?_⟩))
    refine wp_aload_n dX9_putCore_76 rfl ?_
    refine wp_aload_n dX9_putCore_77 rfl ?_
    refine wp_getR dX9_putCore_78 fl_X9_56 rfl rfl (hG 18) ?_
    refine wp_iload_n dX9_putCore_81 rfl ?_
    refine wp_iaload dX9_putCore_82 rfl hin ?_
    rw [hcl, ed Fr.rf]
    refine wp_iconst (v := 1) dX9_putCore_83 rfl ?_
    refine wp_icmp_ne (tgt := 92) dX9_putCore_84 (by decide) (fun c84 => ?_) (fun c84 => ?_)
    · refine wp_bipush (v := 91) dX9_putCore_92 (by decide) ?_
      rw [if_neg c84] at ho
      subst ho
      exact J94
    · refine wp_bipush (v := 123) dX9_putCore_87 (by decide) ?_
      refine wp_goto (tgt := 94) dX9_putCore_89 (by decide) ?_
      rw [if_pos c84] at ho
      subst ho
      exact J94
  refine wp_aload_n dX9_putCore_0 rfl ?_
  refine wp_getR dX9_putCore_1 fl_X9_44 rfl rfl (hG 14) ?_
  refine wp_iload_n dX9_putCore_4 rfl ?_
  refine wp_iaload dX9_putCore_5 rfl hin ?_
  rw [hcl, ec Fr.rf]
  refine wp_if_ne (tgt := 18) dX9_putCore_6 (by decide) (fun c6 => ?_) (fun c6 => ?_)
  · refine wp_aload_n dX9_putCore_18 rfl ?_
    refine wp_getR dX9_putCore_19 fl_X9_44 rfl rfl (hG 14) ?_
    refine wp_iload_n dX9_putCore_22 rfl ?_
    refine wp_iaload dX9_putCore_23 rfl hin ?_
    rw [hcl, ec Fr.rf]
    refine wp_iconst (v := 1) dX9_putCore_24 rfl ?_
    refine wp_icmp_ne (tgt := 76) dX9_putCore_25 (by decide) (fun c25 => ?_) (fun c25 => ?_)
    · refine wp_lv (hs76 ?_) (by repeat (first | exact trivial | refine ⟨rfl, ?_⟩))
      rcases hx.2 with ⟨e, _⟩ | ⟨e, _⟩ | ⟨e, _⟩ | ⟨e, _⟩
      · exact absurd e c6
      · exact absurd e c25
      · exact e
      · exact absurd e h3
    · refine wp_iconst (v := 0) dX9_putCore_28 rfl ?_
      refine wp_istore_n dX9_putCore_29 (Nat.le_of_ble_eq_true rfl) ?_
      exact wp_lv (hq30 c25 (nWo x).length 0 M (by omega) Fr.rf (by rw [if_pos rfl, List.append_nil]; exact hO)) (by repeat (first | exact trivial | refine ⟨rfl, ?_⟩))
  · have hl1 : (nWo x).length = 1 := by
      rcases hx.2 with ⟨_, e, _⟩ | ⟨e, _⟩ | ⟨e, _⟩ | ⟨e, _⟩
      · exact e
      · exact absurd (e.symm.trans c6) (by decide)
      · exact absurd (e.symm.trans c6) (by decide)
      · exact absurd (e.symm.trans c6) (by decide)
    have hcs : coreS x = worS x := by unfold coreS; rw [c6]; rfl
    have hcl2 : (coreS x).length = (nWd x 0).length + (told 126 (nDe x) 0).length := by rw [hcs]; unfold worS; rw [List.length_append]
    refine wp_aload_n dX9_putCore_9 rfl ?_
    refine wp_iload_n dX9_putCore_10 rfl ?_
    refine wp_iconst (v := 0) dX9_putCore_11 rfl ?_
    refine wp_cV2p dX9_putCore_12 ml_X9_199 vX9_putWord ⟨8, (RX9, TX9, 39), rfl, rfl, rfl⟩ (cX9_putWord_ E k 0 x l M hn hO (by omega) (by omega)) (Nat.le_of_ble_eq_true rfl) (Nat.le_of_ble_eq_true rfl) (Nat.le_of_ble_eq_true rfl) (Nat.le_refl _) (Nat.le_refl _) (fun v sh1 M1 hqq => ?_)
    obtain ⟨rfl, rfl, hF1, hO1⟩ := hqq
    refine wp_goto (tgt := 142) dX9_putCore_15 (by decide) ?_
    refine wp_lv (J142 _ _ hF1 hO1 ?_) (by repeat (first | exact trivial | refine ⟨rfl, ?_⟩))
    rw [if_neg (by rw [c6]; decide), hcs]
    unfold worS
    rw [List.append_assoc]
