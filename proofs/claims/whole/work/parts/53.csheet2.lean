/-! ===== the class prints: cores, groups, all ===== -/
theorem isO_cx {M : Mem} {p : Nat} {x : ND} (h : CX M p x) : isO SH p RX0 := ⟨0, (RX0, TX0, 8), h.1.1, rfl, rfl⟩
theorem co_de {x : ND} (h : nOk x) (h3 : nCo x ≠ 3) : ∃ n, n ≤ 9 ∧ nDe x = nI n := by
  rcases h.2 with ⟨_, _, _, d, hd, e⟩ | ⟨_, _, _, d, hd, e⟩ | ⟨_, _, _, d, hd, e⟩ | ⟨e, _⟩
  · exact ⟨d, by omega, e⟩
  · exact ⟨d, hd, e⟩
  · exact ⟨d, by omega, e⟩
  · exact absurd e h3
theorem wd_ok {x : ND} (h : okN x) (j : Nat) : (nWd x j).length ≤ 8 ∧ ∀ b ∈ nWd x j, b < 256 ∧ 0 < b := by
  by_cases c : j < (nWo x).length
  · refine h.2 _ ?_
    unfold nWd
    rw [List.getD_eq_getElem?_getD, List.getElem?_eq_getElem c]
    exact List.getElem_mem c
  · have : nWd x j = [] := by unfold nWd; rw [List.getD_eq_getElem?_getD, List.getElem?_eq_none (by omega)]; rfl
    rw [this]; exact ⟨Nat.zero_le _, fun b hb => nomatch hb⟩
set_option maxRecDepth 100000 in
set_option maxHeartbeats 4000000 in
theorem cX5_putQuote_ (E : GE) (p : Nat) (x : ND) (l : List Nat) (M : Mem) (hr : fR M 111 0 = some 112) (hO : rcO M (some l)) (hcx : CX M p x) (hx : nOk x) (hw : okN x) (hco : nCo x = 1) (hl : l.length + (quoS x).length ≤ 240) : Sp E mX5_putQuote 3 0 0 [.ref 111, .ref p] SH M (pS M (l ++ quoS x)) := by
  refine sp_of vX5_putQuote.1 rfl (Nat.le_of_ble_eq_true rfl) ?_
  have hr0 := hr
  have hO0 := hO
  have h5 := hw.1
  obtain ⟨dn, hdn, hde⟩ := co_de hx (by rw [hco]; decide)
  have hsz : nSz x = nI (nWo x).length := by unfold nSz; rw [hco]; rfl
  have hll : l.length + (1 + ((qU x (nWo x).length).length + (1 + (told 126 (nDe x) 0).length))) ≤ 240 := by
    have e : (quoS x).length = 1 + ((qU x (nWo x).length).length + (1 + (told 126 (nDe x) 0).length)) := by unfold quoS; simp only [List.length_append, List.length_cons, List.length_nil]
    rw [← e]; exact hl
  have hqm : ∀ j, j ≤ (nWo x).length → (qU x j).length ≤ (qU x (nWo x).length).length := fun j hj => by
    rw [qU_len x j hj, qU_len x _ (Nat.le_refl _), List.take_length]
    have : slen ((nWo x).take j) ≤ slen (nWo x) := by
      conv => rhs; rw [← List.take_append_drop j (nWo x), slen_app]
      omega
    omega
  have loop : ∀ (r j : Nat) (M1 : Mem), j + r = (nWo x).length → sF M M1 → rcO M1 (some (l ++ [34] ++ qU x j)) → Wp (xM E mX5_putQuote 3 0 0 SH.length (pS M (l ++ quoS x))) 0 0 8 [(2, .int (nI j)), (1, .ref p), (0, .ref 111)] [] SH M1 := by
    intro r
    induction r with
    | zero =>
      intro j M1 hj hF0 hO0
      have hj : j = (nWo x).length := by omega
      subst hj
      have hcx1 := hcx.fr hF0
      have hr0 := (hF0.2.2.2.1 111 0).trans hr
      have e5 : fI M1 p 5 = nI (nWo x).length := hcx1.2.2.2.2.2.2.2.2.1.trans hsz
      have e4 : ∀ {M2 : Mem}, sF M1 M2 → fI M2 p 4 = nDe x := fun k => (hcx1.fr k).2.2.2.2.2.2.2.1
      have hA : (l ++ [34] ++ qU x (nWo x).length).length = l.length + 1 + (qU x (nWo x).length).length := by rw [List.length_append, List.length_append]; rfl
      have hB : (l ++ [34] ++ qU x (nWo x).length ++ [34]).length = l.length + 1 + (qU x (nWo x).length).length + 1 := by rw [List.length_append, hA]; rfl
      refine wp_iload_n dX5_putQuote_8 rfl ?_
      refine wp_aload_n dX5_putQuote_9 rfl ?_
      refine wp_getI dX5_putQuote_10 fl_X5_81 hcx1.1.1 rfl ?_
      rw [e5]
      refine wp_icmp_ge (tgt := 41) dX5_putQuote_13 (by decide) (fun c13 => ?_) (fun c13 => absurd (Int32.le_refl _) c13)
      refine wp_aload_n dX5_putQuote_41 rfl ?_
      refine wp_bipush (v := 34) dX5_putQuote_42 (by decide) ?_
      refine wp_cV1p dX5_putQuote_44 ml_X5_37 vX5_put ⟨4, (RX5, TX5, 2), rfl, rfl, rfl⟩ (cX5_putN E 34 (l ++ [34] ++ qU x (nWo x).length) M1 hr0 hO0 (by omega) (by decide)) (Nat.le_of_ble_eq_true rfl) (Nat.le_of_ble_eq_true rfl) (Nat.le_of_ble_eq_true rfl) (Nat.le_refl _) (Nat.le_refl _) (fun v sh1 M1 hqq => ?_)
      obtain ⟨rfl, rfl, hF1, hO1⟩ := hqq
      have hr1 := (hF1.2.2.2.1 111 0).trans hr0
      refine wp_aload_n dX5_putQuote_47 rfl ?_
      refine wp_bipush (v := 126) dX5_putQuote_48 (by decide) ?_
      refine wp_aload_n dX5_putQuote_50 rfl ?_
      refine wp_getI dX5_putQuote_51 fl_X5_58 hcx1.1.1 rfl ?_
      refine wp_iconst (v := 0) dX5_putQuote_54 rfl ?_
      rw [e4 hF1]
      refine wp_cV3p dX5_putQuote_55 ml_X5_54 vX5_putTold ⟨4, (RX5, TX5, 2), rfl, rfl, rfl⟩ (cX5_putTold_ E 126 (nDe x) 0 (l ++ [34] ++ qU x (nWo x).length ++ [34]) _ hr1 hO1 (by decide) (fun _ => ⟨dn, by omega, hde⟩) (by omega)) (Nat.le_of_ble_eq_true rfl) (Nat.le_of_ble_eq_true rfl) (Nat.le_of_ble_eq_true rfl) (Nat.le_refl _) (Nat.le_refl _) (fun v sh1 M1 hqq => ?_)
      obtain ⟨rfl, rfl, hF2, hO2⟩ := hqq
      have hr2 := (hF2.2.2.2.1 111 0).trans hr1
      refine wp_ret0 dX5_putQuote_58 rfl (Nat.le_refl _) (Nat.le_refl _) ?_
      have e : l ++ quoS x = l ++ [34] ++ qU x (nWo x).length ++ [34] ++ told 126 (nDe x) 0 := by unfold quoS; simp only [List.append_assoc]
      rw [e]
      exact ⟨rfl, rfl, (hF0.tr hF1).tr hF2, hO2⟩
    | succ r ih =>
      intro j M1 hj hF0 hO0
      have hjl : j < (nWo x).length := by omega
      have hcx1 := hcx.fr hF0
      have hr0 := (hF0.2.2.2.1 111 0).trans hr
      have e5 : fI M1 p 5 = nI (nWo x).length := hcx1.2.2.2.2.2.2.2.2.1.trans hsz
      have hq1 := hqm (j + 1) hjl
      have hqs : qU x (j + 1) = qU x j ++ ((if 0 < j then [32] else []) ++ nWd x j) := rfl
      have hql : (qU x (j + 1)).length = (qU x j).length + ((if 0 < j then 1 else 0) + (nWd x j).length) := by
        rw [hqs, List.length_append, List.length_append]; congr 2; split <;> rfl
      have hA : (l ++ [34] ++ qU x j).length = l.length + 1 + (qU x j).length := by rw [List.length_append, List.length_append]; rfl
      have J26 : ∀ (l1 : List Nat) (M2 : Mem), l1 = l ++ [34] ++ qU x j ++ (if 0 < j then [32] else []) → sF M1 M2 → rcO M2 (some l1) → Wp (xM E mX5_putQuote 3 0 0 SH.length (pS M (l ++ quoS x))) 0 0 26 [(2, .int (nI j)), (1, .ref p), (0, .ref 111)] [] SH M2 := by
        intro l1 M2 hl1 hF1 hO1
        have hcx2 := hcx1.fr hF1
        have hr1 := (hF1.2.2.2.1 111 0).trans hr0
        have hl2 : l1.length = l.length + 1 + (qU x j).length + (if 0 < j then 1 else 0) := by
          rw [hl1, List.length_append, hA]; congr 1; split <;> rfl
        refine wp_aload_n dX5_putQuote_26 rfl ?_
        refine wp_aload_n dX5_putQuote_27 rfl ?_
        refine wp_iload_n dX5_putQuote_28 rfl ?_
        refine wp_cV1l dX5_putQuote_29 ml_X5_73 vX0_wordAt (isO_cx hcx2) (cX0_wordN E p j x M2 hcx2 (by omega)) (Nat.le_of_ble_eq_true rfl) (Nat.le_of_ble_eq_true rfl) (Nat.le_of_ble_eq_true rfl) ?_
        refine wp_cV1p dX5_putQuote_32 ml_X5_77 vX5_putWord ⟨4, (RX5, TX5, 2), rfl, rfl, rfl⟩ (cX5_putWord_ E (nWd x j) l1 M2 hr1 hO1 (wd_ok hw j).1 (wd_ok hw j).2 (by omega)) (Nat.le_of_ble_eq_true rfl) (Nat.le_of_ble_eq_true rfl) (Nat.le_of_ble_eq_true rfl) (Nat.le_refl _) (Nat.le_refl _) (fun v sh1 M1 hqq => ?_)
        obtain ⟨rfl, rfl, hF2, hO2⟩ := hqq
        have hr2 := (hF2.2.2.2.1 111 0).trans hr1
        refine wp_iinc dX5_putQuote_35 rfl (i_inc _) (Nat.le_of_ble_eq_true rfl) ?_
        refine wp_goto (tgt := 8) dX5_putQuote_38 (by decide) ?_
        refine wp_lv (ih (j + 1) _ (by omega) ((hF0.tr hF1).tr hF2) ?_) (by repeat (first | exact trivial | refine ⟨rfl, ?_⟩))
        have e : l ++ [34] ++ qU x (j + 1) = l1 ++ nWd x j := by rw [hl1, hqs]; simp only [List.append_assoc]
        rw [e]; exact hO2
      refine wp_iload_n dX5_putQuote_8 rfl ?_
      refine wp_aload_n dX5_putQuote_9 rfl ?_
      refine wp_getI dX5_putQuote_10 fl_X5_81 hcx1.1.1 rfl ?_
      rw [e5]
      refine wp_icmp_ge (tgt := 41) dX5_putQuote_13 (by decide) (fun c13 => absurd c13 (nI_ge hjl (by omega))) (fun c13 => ?_)
      refine wp_iload_n dX5_putQuote_16 rfl ?_
      refine wp_if_le (tgt := 26) dX5_putQuote_17 (by decide) (fun c17 => ?_) (fun c17 => ?_)
      · have hj0 : ¬ 0 < j := fun h => by
          rw [Int32.le_iff_toInt_le, nI_toInt (by omega)] at c17
          have c17 : (j : Int) ≤ 0 := c17
          omega
        exact wp_lv (J26 _ M1 (by rw [if_neg hj0, List.append_nil]) Fr.rf hO0) (by repeat (first | exact trivial | refine ⟨rfl, ?_⟩))
      · refine wp_aload_n dX5_putQuote_20 rfl ?_
        refine wp_bipush (v := 32) dX5_putQuote_21 (by decide) ?_
        refine wp_cV1p dX5_putQuote_23 ml_X5_37 vX5_put ⟨4, (RX5, TX5, 2), rfl, rfl, rfl⟩ (cX5_putN E 32 (l ++ [34] ++ qU x j) M1 hr0 hO0 (by have : 0 < j := Nat.pos_of_ne_zero fun e => c17 (by rw [e]; decide); rw [if_pos this] at hql; omega) (by decide)) (Nat.le_of_ble_eq_true rfl) (Nat.le_of_ble_eq_true rfl) (Nat.le_of_ble_eq_true rfl) (Nat.le_refl _) (Nat.le_refl _) (fun v sh1 M1 hqq => ?_)
        obtain ⟨rfl, rfl, hF1, hO1⟩ := hqq
        have hr1 := (hF1.2.2.2.1 111 0).trans hr0
        have hj0 : 0 < j := Nat.pos_of_ne_zero fun e => c17 (by rw [e]; decide)
        exact wp_lv (J26 _ _ (by rw [if_pos hj0]) hF1 hO1) (by repeat (first | exact trivial | refine ⟨rfl, ?_⟩))
  refine wp_aload_n dX5_putQuote_0 rfl ?_
  refine wp_bipush (v := 34) dX5_putQuote_1 (by decide) ?_
  refine wp_cV1p dX5_putQuote_3 ml_X5_37 vX5_put ⟨4, (RX5, TX5, 2), rfl, rfl, rfl⟩ (cX5_putN E 34 l M hr0 hO0 (by omega) (by decide)) (Nat.le_of_ble_eq_true rfl) (Nat.le_of_ble_eq_true rfl) (Nat.le_of_ble_eq_true rfl) (Nat.le_refl _) (Nat.le_refl _) (fun v sh1 M1 hqq => ?_)
  obtain ⟨rfl, rfl, hF1, hO1⟩ := hqq
  have hr1 := (hF1.2.2.2.1 111 0).trans hr0
  refine wp_iconst (v := 0) dX5_putQuote_6 rfl ?_
  refine wp_istore_n dX5_putQuote_7 (Nat.le_of_ble_eq_true rfl) ?_
  exact wp_lv (loop (nWo x).length 0 _ (by omega) hF1 (by show rcO _ (some (l ++ [34] ++ [])); rw [List.append_nil]; exact hO1)) (by repeat (first | exact trivial | refine ⟨rfl, ?_⟩))
set_option maxRecDepth 100000 in
set_option maxHeartbeats 4000000 in
theorem cX5_putSpan_ (E : GE) (p : Nat) (x : ND) (l : List Nat) (M : Mem) (hr : fR M 111 0 = some 112) (hO : rcO M (some l)) (hcx : CX M p x) (hx : nOk x) (hw : okN x) (hco : nCo x = 2) (hl : l.length + (spaS x).length ≤ 240) : Sp E mX5_putSpan 3 0 0 [.ref 111, .ref p] SH M (pS M (l ++ spaS x)) := by
  refine sp_of vX5_putSpan.1 rfl (Nat.le_of_ble_eq_true rfl) ?_
  have e4 : ∀ {M2 : Mem}, sF M M2 → fI M2 p 4 = nDe x := fun k => (hcx.fr k).2.2.2.2.2.2.2.1
  have hll : l.length + (1 + ((nWd x 0).length + (1 + (1 + ((nWd x 1).length + 1))))) ≤ 240 := by
    have e : (spaS x).length = 1 + ((nWd x 0).length + (1 + (1 + ((nWd x 1).length + 1)))) := by unfold spaS; simp only [List.length_append, List.length_cons, List.length_nil]
    rw [← e]; exact hl
  obtain ⟨o, ho⟩ : ∃ o : Nat, o = if nDe x = 1 then 123 else 91 := ⟨_, rfl⟩
  obtain ⟨c, hc⟩ : ∃ c : Nat, c = if nDe x = 1 then 125 else 93 := ⟨_, rfl⟩
  have ho2 : o < 256 := by rw [ho]; split <;> decide
  have hc2 : c < 256 := by rw [hc]; split <;> decide
  have es : l ++ spaS x = l ++ [o] ++ nWd x 0 ++ [46] ++ [46] ++ nWd x 1 ++ [c] := by unfold spaS; rw [ho, hc]; simp only [List.append_assoc]
  rw [es]
  have J65 : ∀ (M1 : Mem), sF M M1 → rcO M1 (some (l ++ [o] ++ nWd x 0 ++ [46] ++ [46] ++ nWd x 1)) → Wp (xM E mX5_putSpan 3 0 0 SH.length (pS M (l ++ [o] ++ nWd x 0 ++ [46] ++ [46] ++ nWd x 1 ++ [c]))) 0 0 65 [(1, .ref p), (0, .ref 111)] [.int (nI c), .ref 111] SH M1 := by
    intro M1 hF0 hO0
    have hr0 := (hF0.2.2.2.1 111 0).trans hr
    have hA : (l ++ [o] ++ nWd x 0 ++ [46] ++ [46] ++ nWd x 1).length = l.length + 1 + (nWd x 0).length + 1 + 1 + (nWd x 1).length := by simp only [List.length_append, List.length_cons, List.length_nil]
    refine wp_cV1p dX5_putSpan_65 ml_X5_37 vX5_put ⟨4, (RX5, TX5, 2), rfl, rfl, rfl⟩ (cX5_putN E c (l ++ [o] ++ nWd x 0 ++ [46] ++ [46] ++ nWd x 1) M1 hr0 hO0 (by omega) hc2) (Nat.le_of_ble_eq_true rfl) (Nat.le_of_ble_eq_true rfl) (Nat.le_of_ble_eq_true rfl) (Nat.le_refl _) (Nat.le_refl _) (fun v sh1 M1 hqq => ?_)
    obtain ⟨rfl, rfl, hF1, hO1⟩ := hqq
    have hr1 := (hF1.2.2.2.1 111 0).trans hr0
    refine wp_ret0 dX5_putSpan_68 rfl (Nat.le_refl _) (Nat.le_refl _) ?_
    exact ⟨rfl, rfl, hF0.tr hF1, hO1⟩
  have J16 : Wp (xM E mX5_putSpan 3 0 0 SH.length (pS M (l ++ [o] ++ nWd x 0 ++ [46] ++ [46] ++ nWd x 1 ++ [c]))) 0 0 16 [(1, .ref p), (0, .ref 111)] [.int (nI o), .ref 111] SH M := by
    have hr0 := hr
    have hA : (l ++ [o]).length = l.length + 1 := by simp only [List.length_append, List.length_cons, List.length_nil]
    have hB : (l ++ [o] ++ nWd x 0).length = l.length + 1 + (nWd x 0).length := by simp only [List.length_append, List.length_cons, List.length_nil]
    have hC : (l ++ [o] ++ nWd x 0 ++ [46]).length = l.length + 1 + (nWd x 0).length + 1 := by simp only [List.length_append, List.length_cons, List.length_nil]
    have hD : (l ++ [o] ++ nWd x 0 ++ [46] ++ [46]).length = l.length + 1 + (nWd x 0).length + 1 + 1 := by simp only [List.length_append, List.length_cons, List.length_nil]
    refine wp_cV1p dX5_putSpan_16 ml_X5_37 vX5_put ⟨4, (RX5, TX5, 2), rfl, rfl, rfl⟩ (cX5_putN E o l M hr0 hO (by omega) ho2) (Nat.le_of_ble_eq_true rfl) (Nat.le_of_ble_eq_true rfl) (Nat.le_of_ble_eq_true rfl) (Nat.le_refl _) (Nat.le_refl _) (fun v sh1 M1 hqq => ?_)
    obtain ⟨rfl, rfl, hF1, hO1⟩ := hqq
    have hr1 := (hF1.2.2.2.1 111 0).trans hr0
    refine wp_aload_n dX5_putSpan_19 rfl ?_
    refine wp_aload_n dX5_putSpan_20 rfl ?_
    refine wp_iconst (v := 0) dX5_putSpan_21 rfl ?_
    refine wp_cV1l dX5_putSpan_22 ml_X5_73 vX0_wordAt (isO_cx (hcx.fr hF1)) (cX0_wordN E p 0 x _ (hcx.fr hF1) (by decide)) (Nat.le_of_ble_eq_true rfl) (Nat.le_of_ble_eq_true rfl) (Nat.le_of_ble_eq_true rfl) ?_
    refine wp_cV1p dX5_putSpan_25 ml_X5_77 vX5_putWord ⟨4, (RX5, TX5, 2), rfl, rfl, rfl⟩ (cX5_putWord_ E (nWd x 0) (l ++ [o]) _ hr1 hO1 (wd_ok hw 0).1 (wd_ok hw 0).2 (by omega)) (Nat.le_of_ble_eq_true rfl) (Nat.le_of_ble_eq_true rfl) (Nat.le_of_ble_eq_true rfl) (Nat.le_refl _) (Nat.le_refl _) (fun v sh1 M1 hqq => ?_)
    obtain ⟨rfl, rfl, hF2, hO2⟩ := hqq
    have hr2 := (hF2.2.2.2.1 111 0).trans hr1
    refine wp_aload_n dX5_putSpan_28 rfl ?_
    refine wp_bipush (v := 46) dX5_putSpan_29 (by decide) ?_
    refine wp_cV1p dX5_putSpan_31 ml_X5_37 vX5_put ⟨4, (RX5, TX5, 2), rfl, rfl, rfl⟩ (cX5_putN E 46 (l ++ [o] ++ nWd x 0) _ hr2 hO2 (by omega) (by decide)) (Nat.le_of_ble_eq_true rfl) (Nat.le_of_ble_eq_true rfl) (Nat.le_of_ble_eq_true rfl) (Nat.le_refl _) (Nat.le_refl _) (fun v sh1 M1 hqq => ?_)
    obtain ⟨rfl, rfl, hF3, hO3⟩ := hqq
    have hr3 := (hF3.2.2.2.1 111 0).trans hr2
    refine wp_aload_n dX5_putSpan_34 rfl ?_
    refine wp_bipush (v := 46) dX5_putSpan_35 (by decide) ?_
    refine wp_cV1p dX5_putSpan_37 ml_X5_37 vX5_put ⟨4, (RX5, TX5, 2), rfl, rfl, rfl⟩ (cX5_putN E 46 (l ++ [o] ++ nWd x 0 ++ [46]) _ hr3 hO3 (by omega) (by decide)) (Nat.le_of_ble_eq_true rfl) (Nat.le_of_ble_eq_true rfl) (Nat.le_of_ble_eq_true rfl) (Nat.le_refl _) (Nat.le_refl _) (fun v sh1 M1 hqq => ?_)
    obtain ⟨rfl, rfl, hF4, hO4⟩ := hqq
    have hr4 := (hF4.2.2.2.1 111 0).trans hr3
    refine wp_aload_n dX5_putSpan_40 rfl ?_
    refine wp_aload_n dX5_putSpan_41 rfl ?_
    refine wp_iconst (v := 1) dX5_putSpan_42 rfl ?_
    refine wp_cV1l dX5_putSpan_43 ml_X5_73 vX0_wordAt (isO_cx (hcx.fr (((hF1.tr hF2).tr hF3).tr hF4))) (cX0_wordN E p 1 x _ (hcx.fr (((hF1.tr hF2).tr hF3).tr hF4)) (by decide)) (Nat.le_of_ble_eq_true rfl) (Nat.le_of_ble_eq_true rfl) (Nat.le_of_ble_eq_true rfl) ?_
    refine wp_cV1p dX5_putSpan_46 ml_X5_77 vX5_putWord ⟨4, (RX5, TX5, 2), rfl, rfl, rfl⟩ (cX5_putWord_ E (nWd x 1) (l ++ [o] ++ nWd x 0 ++ [46] ++ [46]) _ hr4 hO4 (wd_ok hw 1).1 (wd_ok hw 1).2 (by omega)) (Nat.le_of_ble_eq_true rfl) (Nat.le_of_ble_eq_true rfl) (Nat.le_of_ble_eq_true rfl) (Nat.le_refl _) (Nat.le_refl _) (fun v sh1 M1 hqq => ?_)
    obtain ⟨rfl, rfl, hF5, hO5⟩ := hqq
    have hr5 := (hF5.2.2.2.1 111 0).trans hr4
    refine wp_aload_n dX5_putSpan_49 rfl ?_
    refine wp_aload_n dX5_putSpan_50 rfl ?_
    refine wp_getI dX5_putSpan_51 fl_X5_58 hcx.1.1 rfl ?_
    refine wp_iconst (v := 1) dX5_putSpan_54 rfl ?_
    rw [e4 ((((hF1.tr hF2).tr hF3).tr hF4).tr hF5)]
    refine wp_icmp_ne (tgt := 63) dX5_putSpan_55 (by decide) (fun c55 => ?_) (fun c55 => ?_)
    · refine wp_bipush (v := 93) dX5_putSpan_63 (by decide) ?_
      rw [if_neg c55] at hc
      subst hc
      exact wp_lv (J65 _ ((((hF1.tr hF2).tr hF3).tr hF4).tr hF5) hO5) (by repeat (first | exact trivial | refine ⟨rfl, ?_⟩))
    · refine wp_bipush (v := 125) dX5_putSpan_58 (by decide) ?_
      refine wp_goto (tgt := 65) dX5_putSpan_60 (by decide) ?_
      rw [if_pos c55] at hc
      subst hc
      exact wp_lv (J65 _ ((((hF1.tr hF2).tr hF3).tr hF4).tr hF5) hO5) (by repeat (first | exact trivial | refine ⟨rfl, ?_⟩))
  refine wp_aload_n dX5_putSpan_0 rfl ?_
  refine wp_aload_n dX5_putSpan_1 rfl ?_
  refine wp_getI dX5_putSpan_2 fl_X5_58 hcx.1.1 rfl ?_
  refine wp_iconst (v := 1) dX5_putSpan_5 rfl ?_
  rw [e4 Fr.rf]
  refine wp_icmp_ne (tgt := 14) dX5_putSpan_6 (by decide) (fun c6 => ?_) (fun c6 => ?_)
  · refine wp_bipush (v := 91) dX5_putSpan_14 (by decide) ?_
    rw [if_neg c6] at ho
    subst ho
    exact wp_lv J16 (by repeat (first | exact trivial | refine ⟨rfl, ?_⟩))
  · refine wp_bipush (v := 123) dX5_putSpan_9 (by decide) ?_
    refine wp_goto (tgt := 16) dX5_putSpan_11 (by decide) ?_
    rw [if_pos c6] at ho
    subst ho
    exact wp_lv J16 (by repeat (first | exact trivial | refine ⟨rfl, ?_⟩))
set_option maxRecDepth 100000 in
set_option maxHeartbeats 4000000 in
theorem cX5_putCore_ (E : GE) (p : Nat) (x : ND) (l : List Nat) (M : Mem) (hr : fR M 111 0 = some 112) (hO : rcO M (some l)) (hcx : CX M p x) (hx : nOk x) (hw : okN x) (h3 : nCo x ≠ 3) (hl : l.length + (coreS x).length ≤ 240) : Sp E mX5_putCore 4 0 0 [.ref 111, .ref p] SH M (pS M (l ++ coreS x)) := by
  refine sp_of vX5_putCore.1 rfl (Nat.le_of_ble_eq_true rfl) ?_
  have hr0 := hr
  have e0 : fI M p 0 = nCo x := hcx.2.2.2.1
  have e4 : ∀ {M2 : Mem}, sF M M2 → fI M2 p 4 = nDe x := fun k => (hcx.fr k).2.2.2.2.2.2.2.1
  obtain ⟨dn, hdn, hde⟩ := co_de hx h3
  have e1 : nCo x = 1 → coreS x = quoS x := fun h => by unfold coreS; rw [if_pos h]
  have e2 : nCo x = 2 → coreS x = spaS x := fun h => by unfold coreS; rw [h]; rfl
  have e3 : ¬ nCo x = 1 → ¬ nCo x = 2 → coreS x = worS x := fun h k => by unfold coreS; rw [if_neg h, if_neg k]
  refine wp_aload_n dX5_putCore_0 rfl ?_
  refine wp_getI dX5_putCore_1 fl_X5_45 hcx.1.1 rfl ?_
  refine wp_iconst (v := 1) dX5_putCore_4 rfl ?_
  rw [e0]
  refine wp_icmp_ne (tgt := 16) dX5_putCore_5 (by decide) (fun c5 => ?_) (fun c5 => ?_)
  · refine wp_aload_n dX5_putCore_16 rfl ?_
    refine wp_getI dX5_putCore_17 fl_X5_45 hcx.1.1 rfl ?_
    refine wp_iconst (v := 2) dX5_putCore_20 rfl ?_
    rw [e0]
    refine wp_icmp_ne (tgt := 32) dX5_putCore_21 (by decide) (fun c21 => ?_) (fun c21 => ?_)
    · rw [e3 c5 c21] at hl ⊢
      have hll : l.length + ((nWd x 0).length + (told 126 (nDe x) 0).length) ≤ 240 := by
        have : (worS x).length = (nWd x 0).length + (told 126 (nDe x) 0).length := by unfold worS; rw [List.length_append]
        rw [← this]; exact hl
      have hA : (l ++ nWd x 0).length = l.length + (nWd x 0).length := List.length_append
      refine wp_aload_n dX5_putCore_32 rfl ?_
      refine wp_aload_n dX5_putCore_33 rfl ?_
      refine wp_iconst (v := 0) dX5_putCore_34 rfl ?_
      refine wp_cV1l dX5_putCore_35 ml_X5_73 vX0_wordAt (isO_cx hcx) (cX0_wordN E p 0 x M hcx (by decide)) (Nat.le_of_ble_eq_true rfl) (Nat.le_of_ble_eq_true rfl) (Nat.le_of_ble_eq_true rfl) ?_
      refine wp_cV1p dX5_putCore_38 ml_X5_77 vX5_putWord ⟨4, (RX5, TX5, 2), rfl, rfl, rfl⟩ (cX5_putWord_ E (nWd x 0) l M hr hO (wd_ok hw 0).1 (wd_ok hw 0).2 (by omega)) (Nat.le_of_ble_eq_true rfl) (Nat.le_of_ble_eq_true rfl) (Nat.le_of_ble_eq_true rfl) (Nat.le_refl _) (Nat.le_refl _) (fun v sh1 M1 hqq => ?_)
      obtain ⟨rfl, rfl, hF1, hO1⟩ := hqq
      have hr1 := (hF1.2.2.2.1 111 0).trans hr0
      refine wp_aload_n dX5_putCore_41 rfl ?_
      refine wp_bipush (v := 126) dX5_putCore_42 (by decide) ?_
      refine wp_aload_n dX5_putCore_44 rfl ?_
      refine wp_getI dX5_putCore_45 fl_X5_58 hcx.1.1 rfl ?_
      refine wp_iconst (v := 0) dX5_putCore_48 rfl ?_
      rw [e4 hF1]
      refine wp_cV3p dX5_putCore_49 ml_X5_54 vX5_putTold ⟨4, (RX5, TX5, 2), rfl, rfl, rfl⟩ (cX5_putTold_ E 126 (nDe x) 0 (l ++ nWd x 0) _ hr1 hO1 (by decide) (fun _ => ⟨dn, by omega, hde⟩) (by omega)) (Nat.le_of_ble_eq_true rfl) (Nat.le_of_ble_eq_true rfl) (Nat.le_of_ble_eq_true rfl) (Nat.le_refl _) (Nat.le_refl _) (fun v sh1 M1 hqq => ?_)
      obtain ⟨rfl, rfl, hF2, hO2⟩ := hqq
      have hr2 := (hF2.2.2.2.1 111 0).trans hr1
      refine wp_ret0 dX5_putCore_52 rfl (Nat.le_refl _) (Nat.le_refl _) ?_
      unfold worS
      rw [← List.append_assoc]
      exact ⟨rfl, rfl, hF1.tr hF2, hO2⟩
    · rw [e2 c21] at hl ⊢
      refine wp_aload_n dX5_putCore_24 rfl ?_
      refine wp_aload_n dX5_putCore_25 rfl ?_
      refine wp_cV1p dX5_putCore_26 ml_X5_70 vX5_putSpan ⟨4, (RX5, TX5, 2), rfl, rfl, rfl⟩ (cX5_putSpan_ E p x l M hr hO hcx hx hw c21 hl) (Nat.le_of_ble_eq_true rfl) (Nat.le_of_ble_eq_true rfl) (Nat.le_of_ble_eq_true rfl) (Nat.le_refl _) (Nat.le_refl _) (fun v sh1 M1 hqq => ?_)
      obtain ⟨rfl, rfl, hF1, hO1⟩ := hqq
      have hr1 := (hF1.2.2.2.1 111 0).trans hr0
      refine wp_goto (tgt := 52) dX5_putCore_29 (by decide) ?_
      refine wp_ret0 dX5_putCore_52 rfl (Nat.le_refl _) (Nat.le_refl _) ?_
      exact ⟨rfl, rfl, hF1, hO1⟩
  · rw [e1 c5] at hl ⊢
    refine wp_aload_n dX5_putCore_8 rfl ?_
    refine wp_aload_n dX5_putCore_9 rfl ?_
    refine wp_cV1p dX5_putCore_10 ml_X5_67 vX5_putQuote ⟨4, (RX5, TX5, 2), rfl, rfl, rfl⟩ (cX5_putQuote_ E p x l M hr hO hcx hx hw c5 hl) (Nat.le_of_ble_eq_true rfl) (Nat.le_of_ble_eq_true rfl) (Nat.le_of_ble_eq_true rfl) (Nat.le_refl _) (Nat.le_refl _) (fun v sh1 M1 hqq => ?_)
    obtain ⟨rfl, rfl, hF1, hO1⟩ := hqq
    have hr1 := (hF1.2.2.2.1 111 0).trans hr0
    refine wp_goto (tgt := 52) dX5_putCore_13 (by decide) ?_
    refine wp_ret0 dX5_putCore_52 rfl (Nat.le_refl _) (Nat.le_refl _) ?_
    exact ⟨rfl, rfl, hF1, hO1⟩
/-- a tree of the class, with its printed text in reach -/
def CT (M : Mem) (T n : Nat) (nd : Nat → ND) : Prop := (T = 4 ∨ T = 57) ∧ rcTr M T ∧ cTree M T n nd ∧ n ≤ 25 ∧ TreeOk nd n ∧ rt (nd 0) ∧ (∀ k, 1 ≤ k → k < n → nOk (nd k)) ∧ ∀ k, k < n → okN (nd k)
theorem CT.fr {M M1 : Mem} {T n : Nat} {nd : Nat → ND} (h : CT M T n nd) (k : sF M M1) : CT M1 T n nd := by
  obtain ⟨a, b, c, d⟩ := h
  exact ⟨a, b.fr k, c.fr k (fun j hj f => by simp; omega) (fun j hj => by simp), d⟩
theorem CT.cx {M : Mem} {T n k : Nat} {nd : Nat → ND} (h : CT M T n nd) (hk : k < n) : CX M (T + 2 + 2 * k) (nd k) := by
  obtain ⟨a, b, c, d, -⟩ := h
  exact ⟨isC_tree a (by omega), by omega, b.2.2 k (by omega), c.2.2 k hk⟩
theorem gr_de {x : ND} (h : nOk x) (h3 : nCo x = 3) : ¬ nDe x = -1 → ∃ n, n ≤ 99 ∧ nDe x = nI n := by
  intro hn
  rcases h.2 with ⟨e, _⟩ | ⟨e, _⟩ | ⟨e, _⟩ | ⟨_, _, e⟩
  · exact absurd (e.symm.trans h3) (by decide)
  · exact absurd (e.symm.trans h3) (by decide)
  · exact absurd (e.symm.trans h3) (by decide)
  · rcases e with e | ⟨d, _, h9, e⟩
    · exact absurd e hn
    · exact ⟨d, by omega, e⟩
set_option maxRecDepth 100000 in
set_option maxHeartbeats 4000000 in
theorem cX5_closeGroups_ (E : GE) (T n : Nat) (nd : Nat → ND) (g t m : Nat) (l : List Nat) (M : Mem) (hr : fR M 111 0 = some 112) (hO : rcO M (some l)) (hct : CT M T n nd) (hg : g < n) (hch : ∃ d, chn nd d g) (hanc : anc nd m g t) (hm : m ≤ 5) (hl : (l ++ cL nd m g).length ≤ 240) : Sp E mX5_closeGroups 2 0 0 [.ref 111, .ref T, .int (nI g), .int (nI t)] SH M (fun v sh1 M1 => sh1 = SH ∧ v = some (.int (nI t)) ∧ sF M M1 ∧ rcO M1 (some (l ++ cL nd m g))) := by
  refine sp_of vX5_closeGroups.1 rfl (Nat.le_of_ble_eq_true rfl) ?_
  have hT := hct.1
  have hn25 := hct.2.2.2.1
  have loop : ∀ (r j lv : Nat) (l1 : List Nat) (M1 : Mem), lv + r ≤ 5 → j < n → (∃ d, chn nd d j) → anc nd r j t → sF M M1 → rcO M1 (some l1) → l ++ cL nd m g = l1 ++ cL nd r j → Wp (xM E mX5_closeGroups 2 0 0 SH.length (fun v sh1 M1 => sh1 = SH ∧ v = some (.int (nI t)) ∧ sF M M1 ∧ rcO M1 (some (l ++ cL nd m g)))) 0 0 6 [(5, .int (nI lv)), (4, .int (nI j)), (3, .int (nI t)), (1, .ref T), (0, .ref 111)] [] SH M1 := by
    intro r
    induction r with
    | zero =>
      intro j lv l1 M1 hlv hj hch ha hF0 hO0 hl1
      have ha : j = t := ha
      subst ha
      have hl1 : l ++ cL nd m g = l1 := by rw [hl1]; exact List.append_nil _
      refine wp_iload dX5_closeGroups_6 rfl ?_
      refine wp_iconst (v := 5) dX5_closeGroups_8 rfl ?_
      refine wp_icmp_ge (tgt := 69) dX5_closeGroups_9 (by decide) (fun c9 => ?_) (fun c9 => ?_)
      · refine wp_iload dX5_closeGroups_69 rfl ?_
        refine wp_ireturn dX5_closeGroups_71 rfl rfl (Nat.zero_le _) (Nat.zero_le _) ?_
        rw [hl1]
        exact ⟨rfl, rfl, hF0, hO0⟩
      · refine wp_iload dX5_closeGroups_12 rfl ?_
        refine wp_iload_n dX5_closeGroups_14 rfl ?_
        refine wp_icmp_eq (tgt := 69) dX5_closeGroups_15 (by decide) (fun c15 => ?_) (fun c15 => absurd rfl c15)
        refine wp_iload dX5_closeGroups_69 rfl ?_
        refine wp_ireturn dX5_closeGroups_71 rfl rfl (Nat.zero_le _) (Nat.zero_le _) ?_
        rw [hl1]
        exact ⟨rfl, rfl, hF0, hO0⟩
    | succ r ih =>
      intro j lv l1 M1 hlv hj hch ha hF0 hO0 hl1
      obtain ⟨d, hch⟩ := hch
      obtain ⟨a, h1, h2, h3⟩ := ha
      have hat := anc_le r a t h3
      have hct1 := hct.fr hF0
      have hr0 := (hF0.2.2.2.1 111 0).trans hr
      have hcx := hct1.cx hj
      have hx := hct.2.2.2.2.2.2.1 j (by omega) hj
      have hc3 : nCo (nd j) = 3 ∧ ∃ d, chn nd d a := by
        cases d with
        | zero => have hch : j = 0 := hch; omega
        | succ d =>
          obtain ⟨-, k2, b, k3, k4, k5⟩ := hch
          have : b = a := nI_e (by omega) (by omega) (k4.symm.trans h2)
          exact ⟨k2, d, by rw [← this]; exact k5⟩
      have ea : par nd j = a := par_n h2 (by omega)
      have hcl : cL nd (r + 1) j = [41] ++ (told 64 (nDe (nd j)) (-1) ++ told 94 (nBo (nd j)) 1) ++ cL nd r a := by
        show closeS (nd j) ++ cL nd r (par nd j) = _
        rw [ea]; rfl
      rw [hcl] at hl1
      have hll : l1.length + (1 + ((told 64 (nDe (nd j)) (-1)).length + (told 94 (nBo (nd j)) 1).length)) ≤ 240 := by
        have := congrArg List.length hl1
        simp only [List.length_append, List.length_cons, List.length_nil] at this
        rw [List.length_append] at hl
        omega
      obtain ⟨bn, hbn, hbo⟩ := hx.1.2.1
      have hA : (l1 ++ [41]).length = l1.length + 1 := by rw [List.length_append]; rfl
      have hB : (l1 ++ [41] ++ told 64 (nDe (nd j)) (-1)).length = l1.length + 1 + (told 64 (nDe (nd j)) (-1)).length := by rw [List.length_append, hA]
      have f4 : ∀ {M2 : Mem}, sF M1 M2 → fI M2 (T + 2 + 2 * j) 4 = nDe (nd j) := fun k => (hcx.fr k).2.2.2.2.2.2.2.1
      have f2 : ∀ {M2 : Mem}, sF M1 M2 → fI M2 (T + 2 + 2 * j) 2 = nBo (nd j) := fun k => (hcx.fr k).2.2.2.2.2.1
      have f6 : ∀ {M2 : Mem}, sF M1 M2 → fI M2 (T + 2 + 2 * j) 6 = nI a := fun k => (hcx.fr k).2.2.2.2.2.2.2.2.2.1.trans h2
      refine wp_iload dX5_closeGroups_6 rfl ?_
      refine wp_iconst (v := 5) dX5_closeGroups_8 rfl ?_
      refine wp_icmp_ge (tgt := 69) dX5_closeGroups_9 (by decide) (fun c9 => absurd c9 (nI_ge (b := 5) (by omega) (by decide))) (fun c9 => ?_)
      refine wp_iload dX5_closeGroups_12 rfl ?_
      refine wp_iload_n dX5_closeGroups_14 rfl ?_
      refine wp_icmp_eq (tgt := 69) dX5_closeGroups_15 (by decide) (fun c15 => absurd (nI_e (by omega) (by omega) c15) (by omega)) (fun c15 => ?_)
      refine wp_aload_n dX5_closeGroups_18 rfl ?_
      refine wp_iload dX5_closeGroups_19 rfl ?_
      refine wp_cV1a dX5_closeGroups_21 ml_X5_24 vX7_at (isO_T hT) (cX7_at_ E T (nI j) M1 hT hct1.2.1) (Nat.le_of_ble_eq_true rfl) (Nat.le_of_ble_eq_true rfl) (Nat.le_of_ble_eq_true rfl) ?_
      rw [atK_nI (show j < 25 by omega)]
      refine wp_astore dX5_closeGroups_24 (Nat.le_of_ble_eq_true rfl) ?_
      refine wp_aload_n dX5_closeGroups_26 rfl ?_
      refine wp_bipush (v := 41) dX5_closeGroups_27 (by decide) ?_
      refine wp_cV1p dX5_closeGroups_29 ml_X5_37 vX5_put ⟨4, (RX5, TX5, 2), rfl, rfl, rfl⟩ (cX5_putN E 41 l1 _ hr0 hO0 (by omega) (by decide)) (Nat.le_of_ble_eq_true rfl) (Nat.le_of_ble_eq_true rfl) (Nat.le_of_ble_eq_true rfl) (Nat.le_refl _) (Nat.le_refl _) (fun v sh1 M1 hqq => ?_)
      obtain ⟨rfl, rfl, hF1, hO1⟩ := hqq
      have hr1 := (hF1.2.2.2.1 111 0).trans hr0
      refine wp_aload_n dX5_closeGroups_32 rfl ?_
      refine wp_bipush (v := 64) dX5_closeGroups_33 (by decide) ?_
      refine wp_aload dX5_closeGroups_35 rfl ?_
      refine wp_getI dX5_closeGroups_37 fl_X5_58 hcx.1.1 rfl ?_
      rw [f4 hF1]
      refine wp_iconst (v := (-1)) dX5_closeGroups_40 rfl ?_
      refine wp_cV3p dX5_closeGroups_41 ml_X5_54 vX5_putTold ⟨4, (RX5, TX5, 2), rfl, rfl, rfl⟩ (cX5_putTold_ E 64 (nDe (nd j)) (-1) (l1 ++ [41]) _ hr1 hO1 (by decide) (gr_de hx hc3.1) (by omega)) (Nat.le_of_ble_eq_true rfl) (Nat.le_of_ble_eq_true rfl) (Nat.le_of_ble_eq_true rfl) (Nat.le_refl _) (Nat.le_refl _) (fun v sh1 M1 hqq => ?_)
      obtain ⟨rfl, rfl, hF2, hO2⟩ := hqq
      have hr2 := (hF2.2.2.2.1 111 0).trans hr1
      refine wp_aload_n dX5_closeGroups_44 rfl ?_
      refine wp_bipush (v := 94) dX5_closeGroups_45 (by decide) ?_
      refine wp_aload dX5_closeGroups_47 rfl ?_
      refine wp_getI dX5_closeGroups_49 fl_X5_51 hcx.1.1 rfl ?_
      rw [f2 (hF1.tr hF2)]
      refine wp_iconst (v := 1) dX5_closeGroups_52 rfl ?_
      refine wp_cV3p dX5_closeGroups_53 ml_X5_54 vX5_putTold ⟨4, (RX5, TX5, 2), rfl, rfl, rfl⟩ (cX5_putTold_ E 94 (nBo (nd j)) 1 (l1 ++ [41] ++ told 64 (nDe (nd j)) (-1)) _ hr2 hO2 (by decide) (fun _ => ⟨bn, hbn, hbo⟩) (by omega)) (Nat.le_of_ble_eq_true rfl) (Nat.le_of_ble_eq_true rfl) (Nat.le_of_ble_eq_true rfl) (Nat.le_refl _) (Nat.le_refl _) (fun v sh1 M1 hqq => ?_)
      obtain ⟨rfl, rfl, hF3, hO3⟩ := hqq
      have hr3 := (hF3.2.2.2.1 111 0).trans hr2
      refine wp_aload dX5_closeGroups_56 rfl ?_
      refine wp_getI dX5_closeGroups_58 fl_X5_28 hcx.1.1 rfl ?_
      rw [f6 ((hF1.tr hF2).tr hF3)]
      refine wp_istore dX5_closeGroups_61 (Nat.le_of_ble_eq_true rfl) ?_
      refine wp_iinc dX5_closeGroups_63 rfl (i_inc _) (Nat.le_of_ble_eq_true rfl) ?_
      refine wp_goto (tgt := 6) dX5_closeGroups_66 (by decide) ?_
      exact wp_lv (ih a (lv + 1) _ _ (by omega) (by omega) hc3.2 h3 (((hF0.tr hF1).tr hF2).tr hF3) hO3 (by rw [hl1]; simp only [List.append_assoc])) (by repeat (first | exact trivial | refine ⟨rfl, ?_⟩))
  refine wp_iload_n dX5_closeGroups_0 rfl ?_
  refine wp_istore dX5_closeGroups_1 (Nat.le_of_ble_eq_true rfl) ?_
  refine wp_iconst (v := 0) dX5_closeGroups_3 rfl ?_
  refine wp_istore dX5_closeGroups_4 (Nat.le_of_ble_eq_true rfl) ?_
  exact wp_lv (loop m g 0 l M (by omega) hg hch hanc Fr.rf hO rfl) (by repeat (first | exact trivial | refine ⟨rfl, ?_⟩))
