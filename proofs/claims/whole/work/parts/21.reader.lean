/-! ===== the class's reader, method by method ===== -/
def pO (T : Nat) (M : Mem) (o : Option RS) : PT := fun v sh1 M1 => sh1 = SH ∧ v = some (.int (b2i (o.isSome = true))) ∧ FrT T M M1 ∧ (o = none → M1 = M) ∧ ∀ s1, o = some s1 → RRx M1 T s1
theorem pO_no {T : Nat} {M : Mem} {o : Option RS} (h : o = none) : pO T M o (some (.int 0)) SH M := by
  subst h; exact ⟨rfl, rfl, FrT.rf, fun _ => rfl, fun _ h => nomatch h⟩
theorem pO_yes {T : Nat} {M M1 : Mem} {o : Option RS} {s1 : RS} (h : o = some s1) (hF : FrT T M M1) (hR : RRx M1 T s1) : pO T M o (some (.int 1)) SH M1 := by
  subst h; exact ⟨rfl, rfl, hF, (fun h => nomatch h), (fun s2 e => by cases e; exact hR)⟩
theorem pO_eq {T : Nat} {M : Mem} {o o1 : Option RS} {v : Option Value} {sh1 : List Sh} {M1 : Mem} (h : pO T M o1 v sh1 M1) (e : o = o1) : pO T M o v sh1 M1 := e ▸ h
theorem pO_gl {T : Nat} {M M0 M1 : Mem} {o : Option RS} {v : Option Value} {sh1 : List Sh} (h : pO T M0 o v sh1 M1) (hF : FrT T M M0) (hs : o ≠ none) : pO T M o v sh1 M1 := ⟨h.1, h.2.1, hF.tr h.2.2.1, fun e => absurd e hs, h.2.2.2.2⟩
theorem nar_pO {T : Nat} {M : Mem} {o : Option RS} {x : Int32} {sh1 : List Sh} {M1 : Mem} (h : pO T M o (some (.int x)) sh1 M1) : narrow .boolean (.int x) = .int x := by
  obtain ⟨-, h, -⟩ := h
  cases h
  exact nar_b2i _
theorem RRx_go {M : Mem} {T n : Nat} {s : RS} (h : RR M T s) (hc : n ≠ 0 → RRc M T s) (hw : wdSt n → RRw M s) : RRx (sI M 56 1 (nI n)) T (rGo s n) := ⟨RR_go n h, hc, hw⟩
theorem RRx_word {M : Mem} {T n nx : Nat} {s : RS} (h : RR M T s) (hc : RRc M T s) : RRx (sI (sI (sI (sI M 56 5 (nI n)) 56 6 0) 56 7 1) 56 1 (nI nx)) T (rWord s n nx) := ⟨(RR_word n nx h).1, fun _ => hc, fun _ => (RR_word n nx h).2⟩
theorem nI_e {a b : Nat} (ha : a < 2 ^ 31) (hb : b < 2 ^ 31) (h : nI a = nI b) : a = b := (nI_eq ha hb).mp h
theorem b_ne {b c : Nat} (hb : b < 256) (hc : c < 256) (h : ¬ nI b = nI c) : b ≠ c := fun e => h (by rw [e])
set_option maxRecDepth 100000 in
set_option maxHeartbeats 4000000 in
theorem cX4_goTo_ (E : GE) (n : Int32) (M : Mem) : Sp E mX4_goTo 0 0 0 [.ref 56, .int n] SH M (RV (some (.int 1)) SH (sI M 56 1 n)) := by
  refine sp_of vX4_goTo.1 rfl (Nat.le_of_ble_eq_true rfl) ?_
  refine wp_aload_n dX4_goTo_0 rfl ?_
  refine wp_iload_n dX4_goTo_1 rfl ?_
  refine wp_putI dX4_goTo_2 fl_X4_18 rfl rfl (fun _ _ _ h => by cases h; rfl) rfl rfl ?_
  refine wp_iconst (v := 1) dX4_goTo_5 rfl ?_
  refine wp_ireturn dX4_goTo_6 rfl rfl (Nat.zero_le _) (Nat.zero_le _) ?_
  exact ⟨rfl, rfl, rfl⟩
set_option maxRecDepth 100000 in
set_option maxHeartbeats 4000000 in
theorem cX4_isFigure_ (E : GE) (b : Int32) (sh : List Sh) (M : Mem) : Sp E mX4_isFigure 0 0 0 [.int b] sh M (RV (some (.int (b2i (48 ≤ b ∧ b ≤ 57)))) sh M) := by
  refine sp_of sX4_isFigure.1 rfl (Nat.le_of_ble_eq_true rfl) ?_
  refine wp_iload_n dX4_isFigure_0 rfl ?_
  refine wp_bipush (v := 48) dX4_isFigure_1 (by decide) ?_
  refine wp_icmp_lt (tgt := 16) dX4_isFigure_3 (by decide) (fun c3 => ?_) (fun c3 => ?_)
  · refine wp_iconst (v := 0) dX4_isFigure_16 rfl ?_
    refine wp_ireturn dX4_isFigure_17 rfl rfl (Nat.zero_le _) (Nat.zero_le _) ?_
    refine ⟨?_, rfl, rfl⟩
    simp only [Int32.le_iff_toInt_le, Int32.lt_iff_toInt_lt, Int32.reduceToInt] at *
    simp only [b2i]
    split <;> first | rfl | (exfalso; omega)
  · refine wp_iload_n dX4_isFigure_6 rfl ?_
    refine wp_bipush (v := 57) dX4_isFigure_7 (by decide) ?_
    refine wp_icmp_gt (tgt := 16) dX4_isFigure_9 (by decide) (fun c9 => ?_) (fun c9 => ?_)
    · refine wp_iconst (v := 0) dX4_isFigure_16 rfl ?_
      refine wp_ireturn dX4_isFigure_17 rfl rfl (Nat.zero_le _) (Nat.zero_le _) ?_
      refine ⟨?_, rfl, rfl⟩
      simp only [Int32.le_iff_toInt_le, Int32.lt_iff_toInt_lt, Int32.reduceToInt] at *
      simp only [b2i]
      split <;> first | rfl | (exfalso; omega)
    · refine wp_iconst (v := 1) dX4_isFigure_12 rfl ?_
      refine wp_goto (tgt := 17) dX4_isFigure_13 (by decide) ?_
      refine wp_ireturn dX4_isFigure_17 rfl rfl (Nat.zero_le _) (Nat.zero_le _) ?_
      refine ⟨?_, rfl, rfl⟩
      simp only [Int32.le_iff_toInt_le, Int32.lt_iff_toInt_lt, Int32.reduceToInt] at *
      simp only [b2i]
      split <;> first | rfl | (exfalso; omega)
set_option maxRecDepth 100000 in
set_option maxHeartbeats 4000000 in
theorem cX4_beginWord_ (E : GE) (n nx : Int32) (M : Mem) : Sp E mX4_beginWord 1 0 0 [.ref 56, .int n, .int nx] SH M (RV (some (.int 1)) SH (sI (sI (sI (sI M 56 5 n) 56 6 0) 56 7 1) 56 1 nx)) := by
  refine sp_of vX4_beginWord.1 rfl (Nat.le_of_ble_eq_true rfl) ?_
  refine wp_aload_n dX4_beginWord_0 rfl ?_
  refine wp_iload_n dX4_beginWord_1 rfl ?_
  refine wp_putI dX4_beginWord_2 fl_X4_35 rfl rfl (fun _ _ _ h => by cases h; rfl) rfl rfl ?_
  refine wp_aload_n dX4_beginWord_5 rfl ?_
  refine wp_iconst (v := 0) dX4_beginWord_6 rfl ?_
  refine wp_putI dX4_beginWord_7 fl_X4_38 rfl rfl (fun _ _ _ h => by cases h; rfl) rfl rfl ?_
  refine wp_aload_n dX4_beginWord_10 rfl ?_
  refine wp_iconst (v := 1) dX4_beginWord_11 rfl ?_
  refine wp_putI dX4_beginWord_12 fl_X4_41 rfl rfl (fun _ _ _ h => by cases h; rfl) rfl rfl ?_
  refine wp_aload_n dX4_beginWord_15 rfl ?_
  refine wp_iload_n dX4_beginWord_16 rfl ?_
  refine wp_cV1i dX4_beginWord_17 ml_X4_82 vX4_goTo ⟨3, (RX4, TX4, 8), rfl, rfl, rfl⟩ (cX4_goTo_ E _ _) (Nat.le_of_ble_eq_true rfl) (Nat.le_of_ble_eq_true rfl) (Nat.le_of_ble_eq_true rfl) ?_
  refine wp_ireturn dX4_beginWord_20 rfl rfl (Nat.zero_le _) (Nat.zero_le _) ?_
  exact ⟨rfl, rfl, rfl⟩
def sgMem (M : Mem) (p : Nat) (b : Int32) : Mem := sI (clAdd (sI M 56 7 (b2i (¬ fI M 56 7 = 0 ∧ (97 ≤ b ∧ b ≤ 122)))) p (fI M 56 5) (fI M 56 6) b) 56 6 (fI (clAdd (sI M 56 7 (b2i (¬ fI M 56 7 = 0 ∧ (97 ≤ b ∧ b ≤ 122)))) p (fI M 56 5) (fI M 56 6) b) 56 6 + 1)
set_option maxRecDepth 100000 in
set_option maxHeartbeats 4000000 in
theorem cX4_takeSign_ (E : GE) (p : Nat) (b : Int32) (M : Mem) (hp : isC p) (hr : fR M p 7 = some (p + 1)) (hc : fR M 56 4 = some p) : Sp E mX4_takeSign 1 0 0 [.ref 56, .int b] SH M (RV (some (.int 1)) SH (sgMem M p b)) := by
  refine sp_of vX4_takeSign.1 rfl (Nat.le_of_ble_eq_true rfl) ?_
  have J : ∀ x : Int32, (x = 0 ∨ x = 1) → x = b2i (¬ fI M 56 7 = 0 ∧ (97 ≤ b ∧ b ≤ 122)) → Wp (xM E mX4_takeSign 1 0 0 SH.length (RV (some (.int 1)) SH (sgMem M p b))) 0 0 20 [(0, .ref 56), (1, .int b)] [.int x, .ref 56] SH M := by
    intro x hx01 hx
    refine wp_putI dX4_takeSign_20 fl_X4_41 rfl rfl (fun _ _ _ h => by cases h; rfl) (by rcases hx01 with rfl | rfl <;> rfl) (by rcases hx01 with rfl | rfl <;> rfl) ?_
    refine wp_aload_n dX4_takeSign_23 rfl ?_
    refine wp_getR dX4_takeSign_24 fl_X4_31 rfl rfl hc ?_
    refine wp_aload_n dX4_takeSign_27 rfl ?_
    refine wp_getI dX4_takeSign_28 fl_X4_35 rfl rfl ?_
    refine wp_aload_n dX4_takeSign_31 rfl ?_
    refine wp_getI dX4_takeSign_32 fl_X4_38 rfl rfl ?_
    refine wp_iload_n dX4_takeSign_35 rfl ?_
    refine wp_cV3v dX4_takeSign_36 ml_X4_143 vX0_addSign (isO_C hp) (cX0_addSign_ E p _ _ _ _ hp hr) (Nat.le_of_ble_eq_true rfl) (Nat.le_of_ble_eq_true rfl) (Nat.le_of_ble_eq_true rfl) ?_
    refine wp_aload_n dX4_takeSign_39 rfl ?_
    refine wp_dup dX4_takeSign_40 rfl ?_
    refine wp_getI dX4_takeSign_41 fl_X4_38 rfl rfl ?_
    refine wp_iconst (v := 1) dX4_takeSign_44 rfl ?_
    refine wp_iadd dX4_takeSign_45 ?_
    refine wp_putI dX4_takeSign_46 fl_X4_38 rfl rfl (fun _ _ _ h => by cases h; rfl) rfl rfl ?_
    refine wp_iconst (v := 1) dX4_takeSign_49 rfl ?_
    refine wp_ireturn dX4_takeSign_50 rfl rfl (Nat.zero_le _) (Nat.zero_le _) ?_
    subst hx; exact ⟨rfl, rfl, rfl⟩
  refine wp_aload_n dX4_takeSign_0 rfl ?_
  refine wp_aload_n dX4_takeSign_1 rfl ?_
  refine wp_getI dX4_takeSign_2 fl_X4_41 rfl rfl ?_
  refine wp_if_eq (tgt := 19) dX4_takeSign_5 (by decide) (fun c5 => ?_) (fun c5 => ?_)
  · refine wp_iconst (v := 0) dX4_takeSign_19 rfl ?_
    refine J _ (by decide) ?_
    first
      | exact (b2i_t ⟨c5, b2i_ne.mp c12⟩).symm
      | exact (b2i_f (fun h => b2i_e0.mp c12 h.2)).symm
      | exact (b2i_f (fun h => h.1 c5)).symm
  · refine wp_iload_n dX4_takeSign_8 rfl ?_
    refine wp_cS1i dX4_takeSign_9 ml_X4_140 sX2_isLetter (cX2_isLetter_ E _ _ _) (Nat.le_of_ble_eq_true rfl) (Nat.le_of_ble_eq_true rfl) (Nat.le_of_ble_eq_true rfl) ?_
    refine wp_if_eq (tgt := 19) dX4_takeSign_12 (by decide) (fun c12 => ?_) (fun c12 => ?_)
    · refine wp_iconst (v := 0) dX4_takeSign_19 rfl ?_
      refine J _ (by decide) ?_
      first
        | exact (b2i_t ⟨c5, b2i_ne.mp c12⟩).symm
        | exact (b2i_f (fun h => b2i_e0.mp c12 h.2)).symm
        | exact (b2i_f (fun h => h.1 c5)).symm
    · refine wp_iconst (v := 1) dX4_takeSign_15 rfl ?_
      refine wp_goto (tgt := 20) dX4_takeSign_16 (by decide) ?_
      refine J _ (by decide) ?_
      first
        | exact (b2i_t ⟨c5, b2i_ne.mp c12⟩).symm
        | exact (b2i_f (fun h => b2i_e0.mp c12 h.2)).symm
        | exact (b2i_f (fun h => h.1 c5)).symm
theorem isLt_i {b : Nat} (hb : b < 256) : (97 ≤ nI b ∧ nI b ≤ 122) ↔ isLt b := by
  rw [show (97 : Int32) = nI 97 from rfl, show (122 : Int32) = nI 122 from rfl, nI_leI (by decide) (by omega), nI_leI (by omega) (by decide)]
theorem isSg_i {b : Nat} (hb : b < 256) : ((97 ≤ nI b ∧ nI b ≤ 122) ∨ nI b = 63 ∨ nI b = 42) ↔ isSg b := by
  rw [isLt_i hb, show (63 : Int32) = nI 63 from rfl, show (42 : Int32) = nI 42 from rfl, nI_eq (by omega) (by decide), nI_eq (by omega) (by decide)]
theorem isFg_i {b : Nat} (hb : b < 256) : (48 ≤ nI b ∧ nI b ≤ 57) ↔ isFg b := by
  rw [show (48 : Int32) = nI 48 from rfl, show (57 : Int32) = nI 57 from rfl, nI_leI (by decide) (by omega), nI_leI (by omega) (by decide)]
theorem getD_addB {ws : List (List Nat)} {j b i : Nat} (hj : j ≤ ws.length) : (addB ws j b).getD i [] = if i = j then ws.getD j [] ++ [b] else ws.getD i [] := by
  unfold addB
  simp only [List.getD_eq_getElem?_getD]
  split
  · next h =>
    rw [List.getElem?_set]
    by_cases e : j = i
    · subst e; simp [h]
    · simp [e, Ne.symm e]
  · next h =>
    have e : j = ws.length := by omega
    subst e
    by_cases e2 : i = ws.length
    · subst e2; simp
    · rw [if_neg e2]
      by_cases e3 : i < ws.length
      · rw [List.getElem?_append_left e3]
      · rw [List.getElem?_append_right (by omega), List.getElem?_eq_none (by simp; omega), List.getElem?_eq_none (by omega)]
theorem nWd_nsWo (x : ND) (v : List (List Nat)) (i : Nat) : nWd (nsWo x v) i = v.getD i [] := rfl
theorem addB_len {ws : List (List Nat)} {j b : Nat} (hj : j ≤ ws.length) : (addB ws j b).length = if j < ws.length then ws.length else ws.length + 1 := by
  unfold addB
  split <;> simp
/-- the words invariant at the sign at hand -/
def wOk (s : RS) : Prop := qSg s ≤ 8 ∧ qWn s ≤ 4 ∧ qSg s = (nWd (rCur s) (qWn s)).length ∧ (qSg s = 0 → qWn s = (nWo (rCur s)).length) ∧ (0 < qSg s → qWn s + 1 = (nWo (rCur s)).length)
theorem okN_w {x : ND} (h : okN x) (j : Nat) : (nWd x j).length ≤ 8 ∧ ∀ b ∈ nWd x j, b < 256 := by
  unfold nWd
  rw [List.getD_eq_getElem?_getD]
  cases e : (nWo x)[j]? with
  | none => simp
  | some w =>
    have hm : w ∈ nWo x := List.mem_of_getElem? e
    exact ⟨(h.2 w hm).1, fun b hb => ((h.2 w hm).2 b hb).1⟩
theorem RR_sign {M : Mem} {T b : Nat} {s : RS} (h : RR M T s) (hcu : qCu s < qCn s) (hw : RRw M s) (ho : okN (rCur s)) (hk : wOk s) (h8 : qSg s < 8) (hb : b < 256) (hco : nCo (rCur s) = 0 → qWn s = 0) (hco3 : nCo (rCur s) ≠ 3) :
    RR (sgMem M (T + 2 + 2 * qCu s) (nI b)) T (rSign s b) ∧ RRw (sgMem M (T + 2 + 2 * qCu s) (nI b)) (rSign s b) ∧ FrT T M (sgMem M (T + 2 + 2 * qCu s) (nI b)) ∧ ∀ f, fR (sgMem M (T + 2 + 2 * qCu s) (nI b)) 56 f = fR M 56 f := by
  obtain ⟨w1, w2, w3⟩ := hw
  obtain ⟨k1, k2, k3, k4, k5⟩ := hk
  have hcn := cN_of h hcu
  obtain ⟨a, hT, c, d, e, g, i⟩ := h
  have h25 := i.2.1
  have hne := Tne (k := qCu s) hT (by omega)
  have hwl : qWn s ≤ (nWo (rCur s)).length := by
    rcases Nat.eq_zero_or_pos (qSg s) with q | q
    · exact Nat.le_of_eq (k4 q)
    · have := k5 q; omega
  obtain ⟨pl, hpl⟩ : ∃ x, x = b2i (¬ fI M 56 7 = 0 ∧ (97 ≤ nI b ∧ nI b ≤ 122)) := ⟨_, rfl⟩
  have hca : clAdd (sI M 56 7 pl) (T + 2 + 2 * qCu s) (fI M 56 5) (fI M 56 6) (nI b) = sI (sL (sI M 56 7 pl) (T + 2 + 2 * qCu s + 1) (qWn s) (pack (nWd (rCur s) (qWn s) ++ [b]))) (T + 2 + 2 * qCu s) 5 (nSz (nsWo (rCur s) (addB (nWo (rCur s)) (qWn s) b))) := by
    unfold clAdd
    rw [w1, w2, if_pos ⟨⟨nI_pos (by omega), nI_ge (b := 5) (by omega) (by decide)⟩, nI_pos (by omega), nI_ge (b := 8) h8 (by decide)⟩, nI_clamp (by omega)]
    have e1 : aL (sI M 56 7 pl) (T + 2 + 2 * qCu s + 1) (qWn s) = pack (nWd (rCur s) (qWn s)) := hcn.2.2.2.2.2.2.2 _ (by omega)
    have e2 : fI (sI M 56 7 pl) (T + 2 + 2 * qCu s) 0 = nCo (rCur s) := by rw [fI_sI, if_neg (fun q => hne.2.1 q.1)]; exact hcn.1
    rw [e1, e2, k3, pack_app (by omega) (okN_w ho _).2 hb]
    congr 1
    unfold nSz
    show _ = if nCo (rCur s) = 0 then _ else if nCo (rCur s) = 3 then _ else _
    by_cases hz : nCo (rCur s) = 0
    · rw [if_pos hz, if_pos hz, nWd_nsWo, getD_addB hwl, hco hz]
      rw [if_pos rfl]
      show _ = nI (nWd (rCur s) 0 ++ [b]).length
      rw [List.length_append, nI_1]
      rfl
    · rw [if_neg hz, if_neg hz, if_neg hco3, nI_1]
      congr 1
      show _ = (addB (nWo (rCur s)) (qWn s) b).length
      rw [addB_len hwl]
      rcases Nat.eq_zero_or_pos (qSg s) with q | q
      · have := k4 q; rw [if_neg (by omega)]; omega
      · have := k5 q; rw [if_pos (by omega)]; omega
  unfold sgMem
  rw [← hpl, hca]
  have hF : FrT T M (sI (sI (sL (sI M 56 7 pl) (T + 2 + 2 * qCu s + 1) (qWn s) (pack (nWd (rCur s) (qWn s) ++ [b]))) (T + 2 + 2 * qCu s) 5 (nSz (nsWo (rCur s) (addB (nWo (rCur s)) (qWn s) b)))) 56 6 (fI (sI (sL (sI M 56 7 pl) (T + 2 + 2 * qCu s + 1) (qWn s) (pack (nWd (rCur s) (qWn s) ++ [b]))) (T + 2 + 2 * qCu s) 5 (nSz (nsWo (rCur s) (addB (nWo (rCur s)) (qWn s) b)))) 56 6 + 1)) :=
    (((FrT.rf.sI (Or.inl rfl)).sL (Or.inr ⟨by omega, by omega⟩)).sI (Or.inr ⟨by omega, by omega⟩)).sI (Or.inl rfl)
  have hq : ∀ f, f ≠ 6 → f ≠ 7 → ∀ y z, fI (sI (sI (sL (sI M 56 7 pl) (T + 2 + 2 * qCu s + 1) (qWn s) (pack (nWd (rCur s) (qWn s) ++ [b]))) (T + 2 + 2 * qCu s) 5 y) 56 6 z) 56 f = fI M 56 f := by
    intro f h6 h7 y z
    simp only [fI_sI, fI_sL]
    rw [if_neg (fun q => h6 q.2), if_neg (fun q => hne.2.1 q.1.symm), if_neg (fun q => h7 q.2)]
  refine ⟨⟨a, hT, c, (hq 1 (by decide) (by decide) _ _).trans d, (hq 2 (by decide) (by decide) _ _).trans e, (hq 3 (by decide) (by decide) _ _).trans g, ?_⟩, ⟨(hq 5 (by decide) (by decide) _ _).trans w1, ?_, ?_⟩, hF, fun f => rfl⟩
  · refine cTree_upd i hcu ?_ ?_ ?_
    · simp only [fI_sI, fI_sL]
      rw [if_neg (by omega), if_neg (by omega), if_neg (by omega)]
    · intro k hk hkc
      refine ⟨fun f => ?_, fun j => ?_⟩
      · simp only [fI_sI, fI_sL]
        rw [if_neg (by omega), if_neg (by omega), if_neg (by omega)]
      · simp only [aL_sI, aL_sL]
        rw [if_neg (by omega)]
    · obtain ⟨a0, a1, a2, a3, a4, a5, a6, a7⟩ := hcn
      have hg : ∀ f, f ≠ 5 → ∀ y z, fI (sI (sI (sL (sI M 56 7 pl) (T + 2 + 2 * qCu s + 1) (qWn s) (pack (nWd (rCur s) (qWn s) ++ [b]))) (T + 2 + 2 * qCu s) 5 y) 56 6 z) (T + 2 + 2 * qCu s) f = fI M (T + 2 + 2 * qCu s) f := by
        intro f h5 y z
        simp only [fI_sI, fI_sL]
        rw [if_neg (fun q => hne.2.1 q.1), if_neg (fun q => h5 q.2), if_neg (fun q => hne.2.1 q.1)]
      refine ⟨(hg 0 (by decide) _ _).trans a0, (hg 1 (by decide) _ _).trans a1, (hg 2 (by decide) _ _).trans a2, (hg 3 (by decide) _ _).trans a3, (hg 4 (by decide) _ _).trans a4, ?_, (hg 6 (by decide) _ _).trans a6, fun j hj => ?_⟩
      · simp only [fI_sI]
        rw [if_neg (fun q => hne.2.1 q.1), if_pos ⟨trivial, trivial⟩]
      · simp only [aL_sI, aL_sL]
        rw [nWd_nsWo, getD_addB hwl]
        by_cases ej : j = qWn s
        · rw [if_pos ⟨trivial, ej⟩, if_pos ej]; rfl
        · rw [if_neg (fun q => ej q.2), if_neg ej]; exact a7 j hj
  · simp only [fI_sI, fI_sL]
    simp only [true_and, if_true]
    rw [if_neg (fun q => hne.2.1 q.1.symm), if_neg (by decide), w2, nI_1]
    rfl
  · simp only [fI_sI, fI_sL]
    rw [if_neg (by decide), if_neg (fun q => hne.2.1 q.1.symm), if_pos ⟨trivial, trivial⟩, hpl, w3]
    refine b2i_c ?_
    show _ ↔ (qPl s && decide (isLt b)) = true
    rw [b2i_ne, isLt_i hb, Bool.and_eq_true, decide_eq_true_iff]
