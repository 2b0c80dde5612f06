/-! ===== the class prints ===== -/
abbrev sF (M M1 : Mem) : Prop := Fr [(111, 1)] [112] [] M M1
def pS (M : Mem) (l : List Nat) : PT := fun v sh1 M1 => sh1 = SH ∧ v = none ∧ sF M M1 ∧ rcO M1 (some l)
theorem rcO_push {M : Mem} {l : List Nat} {b : Nat} {x : Int32} (h : rcO M (some l)) (hl : l.length < 240) (hx : x &&& 255 = nI b) : rcO (sI (sA M 112 l.length x) 111 1 (nI (l.length + 1))) (some (l ++ [b])) := by
  refine ⟨?_, fun l1 e => ?_⟩
  · show nI (l.length + 1) = nI (l ++ [b]).length
    rw [List.length_append]; rfl
  · injection e with e
    subst e
    refine ⟨by rw [List.length_append]; exact hl, fun i hi => ?_⟩
    rw [List.length_append] at hi
    have hi : i < l.length + 1 := hi
    rw [aI_sI, aI_sA, getD_app]
    by_cases c : i = l.length
    · rw [if_pos ⟨rfl, c⟩, if_pos c]; exact hx
    · rw [if_neg (fun q => c q.2), if_neg c]; exact (h.2 l rfl).2 i (by omega)
theorem b255 {b : Nat} (h : b < 256) : nI b &&& 255 = nI b := by
  rw [pk_andN (by omega) 8 (by decide), Nat.mod_eq_of_lt h]
def CX (M : Mem) (p : Nat) (x : ND) : Prop := isC p ∧ p < 110 ∧ fR M p 7 = some (p + 1) ∧ cNode M p x
theorem CX.fr {M M1 : Mem} {p : Nat} {x : ND} (h : CX M p x) (k : sF M M1) : CX M1 p x :=
  ⟨h.1, h.2.1, (k.2.2.2.1 _ _).trans h.2.2.1, h.2.2.2.fr k (fun f => by have := h.2.1; simp; omega) (by simp)⟩
theorem cX0_wordN (E : GE) (p j : Nat) (x : ND) (M : Mem) (h : CX M p x) (hj : j < 5) : Sp E mX0_wordAt 0 0 0 [.ref p, .int (nI j)] SH M (RV (some (.long (pack (nWd x j)))) SH M) := by
  have := cX0_wordAt_ E p (nI j) M h.1 h.2.2.1
  rw [if_pos ⟨nI_pos (by omega), nI_ge (b := 5) hj (by decide)⟩, nI_clamp (by omega), h.2.2.2.2.2.2.2.2.2.2 j hj] at this
  exact this
theorem dig (n : Nat) (h : n ≤ 99) : (48 : Int32) + nI n / 10 = nI (48 + n / 10) ∧ (48 : Int32) + (nI n - nI n / 10 * 10) = nI (48 + n % 10) := by
  have : ∀ n < 100, (48 : Int32) + nI n / 10 = nI (48 + n / 10) ∧ (48 : Int32) + (nI n - nI n / 10 * 10) = nI (48 + n % 10) := by decide +kernel
  exact this n (by omega)
set_option maxRecDepth 100000 in
set_option maxHeartbeats 4000000 in
theorem cX5_putN (E : GE) (b : Nat) (l : List Nat) (M : Mem) (hr : fR M 111 0 = some 112) (hO : rcO M (some l)) (hl : l.length < 240) (hb : b < 256) : Sp E mX5_put 0 0 0 [.ref 111, .int (nI b)] SH M (pS M (l ++ [b])) := by
  refine sp_of vX5_put.1 rfl (Nat.le_of_ble_eq_true rfl) ?_
  have h1 : fI M 111 1 = nI l.length := hO.1
  have hcl : (fI M 111 1).toNatClampNeg = l.length := by rw [h1]; exact nI_clamp (by omega)
  refine wp_aload_n dX5_put_0 rfl ?_
  refine wp_getI dX5_put_1 fl_X5_15 rfl rfl ?_
  refine wp_if_lt (tgt := 40) dX5_put_4 (by decide) (fun c4 => absurd c4 (by rw [h1]; exact nI_pos (by omega))) (fun c4 => ?_)
  refine wp_aload_n dX5_put_7 rfl ?_
  refine wp_getI dX5_put_8 fl_X5_15 rfl rfl ?_
  refine wp_aload_n dX5_put_11 rfl ?_
  refine wp_getR dX5_put_12 fl_X5_9 rfl rfl hr ?_
  refine wp_alen dX5_put_15 rfl (Nat.le_of_ble_eq_true rfl) ?_
  refine wp_icmp_ge (tgt := 40) dX5_put_16 (by decide) (fun c16 => absurd c16 (by rw [h1]; exact nI_ge (b := 240) hl (by decide))) (fun c16 => ?_)
  refine wp_aload_n dX5_put_19 rfl ?_
  refine wp_getR dX5_put_20 fl_X5_9 rfl rfl hr ?_
  refine wp_aload_n dX5_put_23 rfl ?_
  refine wp_getI dX5_put_24 fl_X5_15 rfl rfl ?_
  refine wp_iload_n dX5_put_27 rfl ?_
  refine wp_i2b dX5_put_28 ?_
  refine wp_bastore dX5_put_29 rfl (by rw [h1]; exact vp_in_nI hl (by decide)) ?_
  refine wp_aload_n dX5_put_30 rfl ?_
  refine wp_dup dX5_put_31 rfl ?_
  refine wp_getI dX5_put_32 fl_X5_15 rfl rfl ?_
  refine wp_iconst (v := 1) dX5_put_35 rfl ?_
  refine wp_iadd dX5_put_36 ?_
  refine wp_putI dX5_put_37 fl_X5_15 rfl rfl (fun _ _ _ h => by cases h; rfl) rfl rfl ?_
  refine wp_ret0 dX5_put_40 rfl (Nat.le_refl _) (Nat.le_refl _) ?_
  have e : ∀ y, fI (sA M 112 (fI M 111 1).toNatClampNeg y) 111 1 + 1 = nI (l.length + 1) := fun y => by show fI M 111 1 + 1 = _; rw [h1, nI_1]
  rw [e, hcl]
  exact ⟨rfl, rfl, (Fr.rf.sA (by simp)).sI (by simp), rcO_push hO hl (by rw [vp_nar_byte, bp_b, bp_b, b255 hb])⟩
set_option maxRecDepth 100000 in
set_option maxHeartbeats 4000000 in
theorem cX5_putTold_ (E : GE) (sg : Nat) (v u : Int32) (l : List Nat) (M : Mem) (hr : fR M 111 0 = some 112) (hO : rcO M (some l)) (hsg : sg < 256) (hv : ¬ v = u → ∃ n, n ≤ 99 ∧ v = nI n) (hl : l.length + (told sg v u).length ≤ 240) : Sp E mX5_putTold 1 0 0 [.ref 111, .int (nI sg), .int v, .int u] SH M (pS M (l ++ told sg v u)) := by
  refine sp_of vX5_putTold.1 rfl (Nat.le_of_ble_eq_true rfl) ?_
  have hr0 := hr
  have hO0 := hO
  by_cases hu : v = u
  · have e : told sg v u = [] := if_pos hu
    rw [e, List.append_nil]
    refine wp_iload_n dX5_putTold_0 rfl ?_
    refine wp_iload_n dX5_putTold_1 rfl ?_
    refine wp_icmp_ne (tgt := 6) dX5_putTold_2 (by decide) (fun c2 => absurd hu c2) (fun c2 => ?_)
    refine wp_ret0 dX5_putTold_5 rfl (Nat.le_refl _) (Nat.le_refl _) ?_
    exact ⟨rfl, rfl, Fr.rf, hO⟩
  · obtain ⟨n, hn, rfl⟩ := hv hu
    have e : told sg (nI n) u = tld sg n := by unfold told; rw [if_neg hu, nI_clamp (by omega)]
    rw [e] at hl ⊢
    obtain ⟨d1, d2⟩ := dig n hn
    by_cases h9 : 9 < n
    · have e2 : tld sg n = [sg] ++ ([48 + n / 10] ++ [48 + n % 10]) := by unfold tld; rw [if_pos h9]
      rw [e2] at hl ⊢
      simp only [List.length_append, List.length_cons, List.length_nil] at hl
      have hA : (l ++ [sg]).length = l.length + 1 := by rw [List.length_append]; rfl
      have hB : (l ++ [sg] ++ [48 + n / 10]).length = l.length + 2 := by rw [List.length_append, hA]; rfl
      refine wp_iload_n dX5_putTold_0 rfl ?_
      refine wp_iload_n dX5_putTold_1 rfl ?_
      refine wp_icmp_ne (tgt := 6) dX5_putTold_2 (by decide) (fun c2 => ?_) (fun c2 => absurd c2 hu)
      refine wp_aload_n dX5_putTold_6 rfl ?_
      refine wp_iload_n dX5_putTold_7 rfl ?_
      refine wp_cV1p dX5_putTold_8 ml_X5_37 vX5_put ⟨4, (RX5, TX5, 2), rfl, rfl, rfl⟩ (cX5_putN E sg l _ hr0 hO0 (by omega) hsg) (Nat.le_of_ble_eq_true rfl) (Nat.le_of_ble_eq_true rfl) (Nat.le_of_ble_eq_true rfl) (Nat.le_refl _) (Nat.le_refl _) (fun v sh1 M1 hqq => ?_)
      obtain ⟨rfl, rfl, hF1, hO1⟩ := hqq
      have hr1 := (hF1.2.2.2.1 111 0).trans hr0
      refine wp_iload_n dX5_putTold_11 rfl ?_
      refine wp_bipush (v := 9) dX5_putTold_12 (by decide) ?_
      refine wp_icmp_le (tgt := 28) dX5_putTold_14 (by decide) (fun c14 => absurd c14 (by rw [Int32.not_le, Int32.lt_iff_toInt_lt, nI_toInt (by omega)]; show (9 : Int) < _; omega)) (fun c14 => ?_)
      refine wp_aload_n dX5_putTold_17 rfl ?_
      refine wp_bipush (v := 48) dX5_putTold_18 (by decide) ?_
      refine wp_iload_n dX5_putTold_20 rfl ?_
      refine wp_bipush (v := 10) dX5_putTold_21 (by decide) ?_
      refine wp_idiv dX5_putTold_23 (by decide) ?_
      refine wp_iadd dX5_putTold_24 ?_
      rw [d1]
      refine wp_cV1p dX5_putTold_25 ml_X5_37 vX5_put ⟨4, (RX5, TX5, 2), rfl, rfl, rfl⟩ (cX5_putN E (48 + n / 10) (l ++ [sg]) _ hr1 hO1 (by omega) (by omega)) (Nat.le_of_ble_eq_true rfl) (Nat.le_of_ble_eq_true rfl) (Nat.le_of_ble_eq_true rfl) (Nat.le_refl _) (Nat.le_refl _) (fun v sh1 M1 hqq => ?_)
      obtain ⟨rfl, rfl, hF2, hO2⟩ := hqq
      have hr2 := (hF2.2.2.2.1 111 0).trans hr1
      refine wp_aload_n dX5_putTold_28 rfl ?_
      refine wp_bipush (v := 48) dX5_putTold_29 (by decide) ?_
      refine wp_iload_n dX5_putTold_31 rfl ?_
      refine wp_bipush (v := 10) dX5_putTold_32 (by decide) ?_
      refine wp_irem dX5_putTold_34 (by decide) ?_
      refine wp_iadd dX5_putTold_35 ?_
      rw [d2]
      refine wp_cV1p dX5_putTold_36 ml_X5_37 vX5_put ⟨4, (RX5, TX5, 2), rfl, rfl, rfl⟩ (cX5_putN E (48 + n % 10) (l ++ [sg] ++ [48 + n / 10]) _ hr2 hO2 (by omega) (by omega)) (Nat.le_of_ble_eq_true rfl) (Nat.le_of_ble_eq_true rfl) (Nat.le_of_ble_eq_true rfl) (Nat.le_refl _) (Nat.le_refl _) (fun v sh1 M1 hqq => ?_)
      obtain ⟨rfl, rfl, hF3, hO3⟩ := hqq
      have hr3 := (hF3.2.2.2.1 111 0).trans hr2
      refine wp_ret0 dX5_putTold_39 rfl (Nat.le_refl _) (Nat.le_refl _) ?_
      rw [List.append_assoc, List.append_assoc] at hO3
      exact ⟨rfl, rfl, (hF1.tr hF2).tr hF3, hO3⟩
    · have e2 : tld sg n = [sg] ++ [48 + n % 10] := by unfold tld; rw [if_neg h9]; rfl
      rw [e2] at hl ⊢
      simp only [List.length_append, List.length_cons, List.length_nil] at hl
      have hA : (l ++ [sg]).length = l.length + 1 := by rw [List.length_append]; rfl
      refine wp_iload_n dX5_putTold_0 rfl ?_
      refine wp_iload_n dX5_putTold_1 rfl ?_
      refine wp_icmp_ne (tgt := 6) dX5_putTold_2 (by decide) (fun c2 => ?_) (fun c2 => absurd c2 hu)
      refine wp_aload_n dX5_putTold_6 rfl ?_
      refine wp_iload_n dX5_putTold_7 rfl ?_
      refine wp_cV1p dX5_putTold_8 ml_X5_37 vX5_put ⟨4, (RX5, TX5, 2), rfl, rfl, rfl⟩ (cX5_putN E sg l _ hr0 hO0 (by omega) hsg) (Nat.le_of_ble_eq_true rfl) (Nat.le_of_ble_eq_true rfl) (Nat.le_of_ble_eq_true rfl) (Nat.le_refl _) (Nat.le_refl _) (fun v sh1 M1 hqq => ?_)
      obtain ⟨rfl, rfl, hF1, hO1⟩ := hqq
      have hr1 := (hF1.2.2.2.1 111 0).trans hr0
      refine wp_iload_n dX5_putTold_11 rfl ?_
      refine wp_bipush (v := 9) dX5_putTold_12 (by decide) ?_
      refine wp_icmp_le (tgt := 28) dX5_putTold_14 (by decide) (fun c14 => ?_) (fun c14 => absurd (nI_le (b := 9) (by omega) (by decide)) c14)
      refine wp_aload_n dX5_putTold_28 rfl ?_
      refine wp_bipush (v := 48) dX5_putTold_29 (by decide) ?_
      refine wp_iload_n dX5_putTold_31 rfl ?_
      refine wp_bipush (v := 10) dX5_putTold_32 (by decide) ?_
      refine wp_irem dX5_putTold_34 (by decide) ?_
      refine wp_iadd dX5_putTold_35 ?_
      rw [d2]
      refine wp_cV1p dX5_putTold_36 ml_X5_37 vX5_put ⟨4, (RX5, TX5, 2), rfl, rfl, rfl⟩ (cX5_putN E (48 + n % 10) (l ++ [sg]) _ hr1 hO1 (by omega) (by omega)) (Nat.le_of_ble_eq_true rfl) (Nat.le_of_ble_eq_true rfl) (Nat.le_of_ble_eq_true rfl) (Nat.le_refl _) (Nat.le_refl _) (fun v sh1 M1 hqq => ?_)
      obtain ⟨rfl, rfl, hF2, hO2⟩ := hqq
      have hr2 := (hF2.2.2.2.1 111 0).trans hr1
      refine wp_ret0 dX5_putTold_39 rfl (Nat.le_refl _) (Nat.le_refl _) ?_
      rw [List.append_assoc] at hO2
      exact ⟨rfl, rfl, hF1.tr hF2, hO2⟩
set_option maxRecDepth 100000 in
set_option maxHeartbeats 4000000 in
theorem cX5_putWord_ (E : GE) (w l : List Nat) (M : Mem) (hr : fR M 111 0 = some 112) (hO : rcO M (some l)) (hw : w.length ≤ 8) (hb : ∀ x ∈ w, x < 256 ∧ 0 < x) (hl : l.length + w.length ≤ 240) : Sp E mX5_putWord 2 0 0 [.ref 111, .long (pack w)] SH M (pS M (l ++ w)) := by
  refine sp_of vX5_putWord.1 rfl (Nat.le_of_ble_eq_true rfl) ?_
  have hb1 : ∀ x ∈ w, x < 256 := fun x hx => (hb x hx).1
  have loop : ∀ (r i : Nat) (M1 : Mem), i + r = w.length → sF M M1 → rcO M1 (some (l ++ w.take i)) → Wp (xM E mX5_putWord 2 0 0 SH.length (pS M (l ++ w))) 0 0 8 [(4, .int (nI i)), (3, .int (nI w.length)), (1, .long (pack w)), (0, .ref 111)] [] SH M1 := by
    intro r
    induction r with
    | zero =>
      intro i M1 hi hF hO1
      have hi : i = w.length := by omega
      subst hi
      rw [List.take_length] at hO1
      refine wp_iload dX5_putWord_8 rfl ?_
      refine wp_iload_n dX5_putWord_10 rfl ?_
      refine wp_icmp_ge (tgt := 30) dX5_putWord_11 (by decide) (fun c11 => ?_) (fun c11 => absurd (Int32.le_refl _) c11)
      refine wp_ret0 dX5_putWord_30 rfl (Nat.le_refl _) (Nat.le_refl _) ?_
      exact ⟨rfl, rfl, hF, hO1⟩
    | succ r ih =>
      intro i M1 hi hF hO1
      have hil : i < w.length := by omega
      have hm : w.getD i 0 ∈ w := by
        rw [List.getD_eq_getElem?_getD, List.getElem?_eq_getElem hil]
        exact List.getElem_mem hil
      have hr0 := (hF.2.2.2.1 111 0).trans hr
      have et : w.take (i + 1) = w.take i ++ [w.getD i 0] := by
        rw [List.take_succ, List.getD_eq_getElem?_getD, List.getElem?_eq_getElem hil]; rfl
      have hl1 : (l ++ w.take i).length < 240 := by rw [List.length_append, List.length_take]; omega
      refine wp_iload dX5_putWord_8 rfl ?_
      refine wp_iload_n dX5_putWord_10 rfl ?_
      refine wp_icmp_ge (tgt := 30) dX5_putWord_11 (by decide) (fun c11 => absurd c11 (nI_ge hil (by omega))) (fun c11 => ?_)
      refine wp_aload_n dX5_putWord_14 rfl ?_
      refine wp_lload_n dX5_putWord_15 rfl ?_
      refine wp_iload dX5_putWord_16 rfl ?_
      refine wp_cS2i dX5_putWord_18 ml_X5_90 sX2_signAt (cX2_signAt_ E _ _ _ _) (Nat.le_of_ble_eq_true rfl) (Nat.le_of_ble_eq_true rfl) (Nat.le_of_ble_eq_true rfl) ?_
      rw [sgn_pack hw hb1 (by omega)]
      refine wp_cV1p dX5_putWord_21 ml_X5_37 vX5_put ⟨4, (RX5, TX5, 2), rfl, rfl, rfl⟩ (cX5_putN E (w.getD i 0) (l ++ w.take i) M1 hr0 hO1 hl1 (hb1 _ hm)) (Nat.le_of_ble_eq_true rfl) (Nat.le_of_ble_eq_true rfl) (Nat.le_of_ble_eq_true rfl) (Nat.le_refl _) (Nat.le_refl _) (fun v sh1 M1 hqq => ?_)
      obtain ⟨rfl, rfl, hF2, hO2⟩ := hqq
      refine wp_iinc dX5_putWord_24 rfl (i_inc _) (Nat.le_of_ble_eq_true rfl) ?_
      refine wp_goto (tgt := 8) dX5_putWord_27 (by decide) ?_
      rw [List.append_assoc, ← et] at hO2
      exact wp_lv (ih (i + 1) _ (by omega) (hF.tr hF2) hO2) (by repeat (first | exact trivial | refine ⟨rfl, ?_⟩))
  refine wp_lload_n dX5_putWord_0 rfl ?_
  refine wp_cS1i dX5_putWord_1 ml_X5_84 sX2_lengthOf (cX2_lengthOf_ E w hw hb _ _) (Nat.le_of_ble_eq_true rfl) (Nat.le_of_ble_eq_true rfl) (Nat.le_of_ble_eq_true rfl) ?_
  refine wp_istore_n dX5_putWord_4 (Nat.le_of_ble_eq_true rfl) ?_
  refine wp_iconst (v := 0) dX5_putWord_5 rfl ?_
  refine wp_istore dX5_putWord_6 (Nat.le_of_ble_eq_true rfl) ?_
  exact wp_lv (loop w.length 0 M (by omega) Fr.rf (by rw [List.take_zero, List.append_nil]; exact hO)) (by repeat (first | exact trivial | refine ⟨rfl, ?_⟩))
set_option maxRecDepth 100000 in
set_option maxHeartbeats 4000000 in
theorem cX5_putHead_ (E : GE) (p : Nat) (x : ND) (l : List Nat) (M : Mem) (hr : fR M 111 0 = some 112) (hO : rcO M (some l)) (hcx : CX M p x) (hx : nOk x) (hl : l.length + (headS x).length ≤ 240) : Sp E mX5_putHead 1 0 0 [.ref 111, .ref p] SH M (pS M (l ++ headS x)) := by
  refine sp_of vX5_putHead.1 rfl (Nat.le_of_ble_eq_true rfl) ?_
  obtain ⟨⟨hma, -, hfi⟩, -⟩ := hx
  have hr0 := hr
  have hO0 := hO
  have hcx0 := hcx
  have J26 : ∀ (l1 : List Nat) (M1 : Mem), sF M M1 → rcO M1 (some l1) → l1 = l ++ (if nMa x = 0 then [] else [if nMa x = 1 then 43 else 45]) → Wp (xM E mX5_putHead 1 0 0 SH.length (pS M (l ++ headS x))) 0 0 26 [(1, .ref p), (0, .ref 111)] [] SH M1 := by
    intro l1 M1 hF0 hO0 hl1
    have hcx1 := hcx.fr hF0
    have hr0 := (hF0.2.2.2.1 111 0).trans hr
    have e3 : fI M1 p 3 = nFi x := hcx1.2.2.2.2.2.2.1
    have hh : l ++ headS x = l1 ++ (if nFi x = -1 then [] else [97 + (nFi x).toNatClampNeg] ++ [58]) := by unfold headS; rw [hl1, List.append_assoc]
    rw [hh]
    have hll : (l ++ headS x).length ≤ 240 := by rw [List.length_append]; exact hl
    rw [hh, List.length_append] at hll
    refine wp_aload_n dX5_putHead_26 rfl ?_
    refine wp_getI dX5_putHead_27 fl_X5_64 hcx1.1.1 rfl ?_
    refine wp_iconst (v := (-1)) dX5_putHead_30 rfl ?_
    rw [e3]
    refine wp_icmp_eq (tgt := 51) dX5_putHead_31 (by decide) (fun c31 => ?_) (fun c31 => ?_)
    · refine wp_ret0 dX5_putHead_51 rfl (Nat.le_refl _) (Nat.le_refl _) ?_
      rw [if_pos c31, List.append_nil]
      exact ⟨rfl, rfl, hF0, hO0⟩
    · obtain ⟨f, hf4, hf⟩ : ∃ f, f < 4 ∧ nFi x = nI f := by
        rcases hfi with q | q
        · exact absurd q c31
        · exact q
      rw [if_neg c31] at hll ⊢
      rw [hf, nI_clamp (by omega)] at hll ⊢
      have hcx2 := hcx1
      have hA : (l1 ++ [97 + f]).length = l1.length + 1 := by rw [List.length_append]; rfl
      simp only [List.length_append, List.length_cons, List.length_nil] at hll
      refine wp_aload_n dX5_putHead_34 rfl ?_
      refine wp_bipush (v := 97) dX5_putHead_35 (by decide) ?_
      refine wp_aload_n dX5_putHead_37 rfl ?_
      refine wp_getI dX5_putHead_38 fl_X5_64 hcx2.1.1 rfl ?_
      refine wp_iadd dX5_putHead_41 ?_
      rw [e3, hf, show (97 : Int32) = nI 97 from rfl, nI_add]
      refine wp_cV1p dX5_putHead_42 ml_X5_37 vX5_put ⟨4, (RX5, TX5, 2), rfl, rfl, rfl⟩ (cX5_putN E (97 + f) l1 _ hr0 hO0 (by omega) (by omega)) (Nat.le_of_ble_eq_true rfl) (Nat.le_of_ble_eq_true rfl) (Nat.le_of_ble_eq_true rfl) (Nat.le_refl _) (Nat.le_refl _) (fun v sh1 M1 hqq => ?_)
      obtain ⟨rfl, rfl, hF1, hO1⟩ := hqq
      have hr1 := (hF1.2.2.2.1 111 0).trans hr0
      refine wp_aload_n dX5_putHead_45 rfl ?_
      refine wp_bipush (v := 58) dX5_putHead_46 (by decide) ?_
      refine wp_cV1p dX5_putHead_48 ml_X5_37 vX5_put ⟨4, (RX5, TX5, 2), rfl, rfl, rfl⟩ (cX5_putN E 58 (l1 ++ [97 + f]) _ hr1 hO1 (by omega) (by decide)) (Nat.le_of_ble_eq_true rfl) (Nat.le_of_ble_eq_true rfl) (Nat.le_of_ble_eq_true rfl) (Nat.le_refl _) (Nat.le_refl _) (fun v sh1 M1 hqq => ?_)
      obtain ⟨rfl, rfl, hF2, hO2⟩ := hqq
      have hr2 := (hF2.2.2.2.1 111 0).trans hr1
      refine wp_ret0 dX5_putHead_51 rfl (Nat.le_refl _) (Nat.le_refl _) ?_
      rw [List.append_assoc] at hO2
      exact ⟨rfl, rfl, (hF0.tr hF1).tr hF2, hO2⟩
  have e1 : fI M p 1 = nMa x := hcx.2.2.2.2.1
  have hlm : nMa x ≠ 0 → l.length + 1 ≤ 240 := fun q => by
    have : (headS x).length ≥ 1 := by unfold headS; rw [if_neg q, List.length_append]; show 1 ≤ 1 + _; omega
    omega
  refine wp_aload_n dX5_putHead_0 rfl ?_
  refine wp_getI dX5_putHead_1 fl_X5_61 hcx.1.1 rfl ?_
  rw [e1]
  refine wp_if_eq (tgt := 26) dX5_putHead_4 (by decide) (fun c4 => ?_) (fun c4 => ?_)
  · exact wp_lv (J26 l M Fr.rf hO (by rw [if_pos c4, List.append_nil])) (by repeat (first | exact trivial | refine ⟨rfl, ?_⟩))
  · refine wp_aload_n dX5_putHead_7 rfl ?_
    refine wp_aload_n dX5_putHead_8 rfl ?_
    refine wp_getI dX5_putHead_9 fl_X5_61 hcx.1.1 rfl ?_
    refine wp_iconst (v := 1) dX5_putHead_12 rfl ?_
    rw [e1]
    refine wp_icmp_ne (tgt := 21) dX5_putHead_13 (by decide) (fun c13 => ?_) (fun c13 => ?_)
    · refine wp_bipush (v := 45) dX5_putHead_21 (by decide) ?_
      refine wp_cV1p dX5_putHead_23 ml_X5_37 vX5_put ⟨4, (RX5, TX5, 2), rfl, rfl, rfl⟩ (cX5_putN E 45 l M hr hO (by have := hlm c4; omega) (by decide)) (Nat.le_of_ble_eq_true rfl) (Nat.le_of_ble_eq_true rfl) (Nat.le_of_ble_eq_true rfl) (Nat.le_refl _) (Nat.le_refl _) (fun v sh1 M1 hqq => ?_)
      obtain ⟨rfl, rfl, hF1, hO1⟩ := hqq
      exact wp_lv (J26 _ _ hF1 hO1 (by rw [if_neg c4, if_neg c13])) (by repeat (first | exact trivial | refine ⟨rfl, ?_⟩))
    · refine wp_bipush (v := 43) dX5_putHead_16 (by decide) ?_
      refine wp_goto (tgt := 23) dX5_putHead_18 (by decide) ?_
      refine wp_cV1p dX5_putHead_23 ml_X5_37 vX5_put ⟨4, (RX5, TX5, 2), rfl, rfl, rfl⟩ (cX5_putN E 43 l M hr hO (by have := hlm c4; omega) (by decide)) (Nat.le_of_ble_eq_true rfl) (Nat.le_of_ble_eq_true rfl) (Nat.le_of_ble_eq_true rfl) (Nat.le_refl _) (Nat.le_refl _) (fun v sh1 M1 hqq => ?_)
      obtain ⟨rfl, rfl, hF1, hO1⟩ := hqq
      exact wp_lv (J26 _ _ hF1 hO1 (by rw [if_neg c4, if_pos c13])) (by repeat (first | exact trivial | refine ⟨rfl, ?_⟩))
