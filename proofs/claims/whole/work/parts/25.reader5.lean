/-! ===== the reader: a core begins; a gap; one byte ===== -/
set_option maxRecDepth 100000 in
set_option maxHeartbeats 4000000 in
theorem cX4_beginCore_ (E : GE) (T : Nat) (s : RS) (M : Mem) (hR : RR M T s) (hC : RRc M T s) (hcu : qCu s < qCn s) (hf0 : nCo (rCur s) = 0) (hfk : nKi (rCur s) = 0) (hfw : nWo (rCur s) = []) (ho : okN (rCur s)) (b : Nat) (hb : b < 256) (hd5 : b = 40 → qDep s < 5) : Sp E mX4_beginCore 3 0 0 [.ref 56, .int (nI b)] SH M (pO T M (some (rCore s b))) := by
  refine sp_of vX4_beginCore.1 rfl (Nat.le_of_ble_eq_true rfl) ?_
  have hT := hR.2.1
  have h25 := hR.2.2.2.2.2.2.2.1
  have hc := isC_tree (k := qCu s) hT (by omega)
  have h7 := hR.2.2.1.2.2 (qCu s) (by omega)
  have hc4 : fR M 56 4 = some (T + 2 + 2 * qCu s) := hC
  have hne := Tne (k := qCu s) hT (by omega)
  by_cases e40 : b = 40
  · subst e40
    refine wp_iload_n dX4_beginCore_0 rfl ?_
    refine wp_lookup (off := 43) (tgt := 44) dX4_beginCore_1 (by decide) rfl (by decide) ?_
    refine wp_aload_n dX4_beginCore_44 rfl ?_
    refine wp_cV0p dX4_beginCore_45 ml_X4_122 vX4_openGroup ⟨3, (RX4, TX4, 8), rfl, rfl, rfl⟩ (cX4_openGroup_ E T s M hR hC hcu hf0 hfk hfw (hd5 rfl)) (Nat.le_of_ble_eq_true rfl) (Nat.le_of_ble_eq_true rfl) (Nat.le_of_ble_eq_true rfl) (Nat.le_refl _) (Nat.le_refl _) (fun v sh1 M1 hq => ?_)
    have hq0 := hq
    obtain ⟨rfl, rfl, hF1, hN1, hS1⟩ := hq
    refine wp_ireturn dX4_beginCore_48 rfl (nar_b2i _) (Nat.zero_le _) (Nat.zero_le _) ?_
    exact pO_eq hq0 rfl
  by_cases e34 : b = 34
  · subst e34
    refine wp_iload_n dX4_beginCore_0 rfl ?_
    refine wp_lookup (off := 48) (tgt := 49) dX4_beginCore_1 (by decide) rfl (by decide) ?_
    refine wp_aload_n dX4_beginCore_49 rfl ?_
    refine wp_getR dX4_beginCore_50 fl_X4_31 rfl rfl hc4 ?_
    refine wp_iconst (v := 1) dX4_beginCore_53 rfl ?_
    refine wp_putI dX4_beginCore_54 fl_X4_125 hc.1 rfl (fun _ _ _ h => by cases h; rfl) rfl rfl ?_
    refine wp_aload_n dX4_beginCore_57 rfl ?_
    refine wp_iconst (v := 0) dX4_beginCore_58 rfl ?_
    refine wp_iconst (v := 5) dX4_beginCore_59 rfl ?_
    refine wp_cV2i dX4_beginCore_60 ml_X4_91 vX4_beginWord ⟨3, (RX4, TX4, 8), rfl, rfl, rfl⟩ (cX4_beginWord_ E _ _ _) (Nat.le_of_ble_eq_true rfl) (Nat.le_of_ble_eq_true rfl) (Nat.le_of_ble_eq_true rfl) ?_
    refine wp_ireturn dX4_beginCore_63 rfl rfl (Nat.zero_le _) (Nat.zero_le _) ?_
    exact pO_yes (s1 := rWord (rNd s (nsCo (rCur s) 1)) 0 5) rfl (((((FrT.rf.sI (Or.inr ⟨by omega, by omega⟩)).sI (Or.inl rfl)).sI (Or.inl rfl)).sI (Or.inl rfl)).sI (Or.inl rfl)) (RRx_word (n := 0) (nx := 5) (RR_f (f := 0) hR hcu (cN_co1 (cN_of hR hcu) hf0 hfk hfw (by decide))) hC)
  have hsp : ∀ (v : Int32), v = (if b = 123 then 1 else 0) → Wp (xM E mX4_beginCore 3 0 0 SH.length (pO T M (some (rWord (rNd s (nsDe (nsCo (rCur s) 2) (if b = 123 then 1 else 0))) 0 10)))) 0 0 87 [(0, .ref 56), (1, .int (nI b))] [.int v, .ref (T + 2 + 2 * qCu s)] SH (sI M (T + 2 + 2 * qCu s) 0 2) := by
    intro v hv
    refine wp_putI dX4_beginCore_87 fl_X4_128 hc.1 rfl (fun _ _ _ h => by cases h; rfl) rfl rfl ?_
    refine wp_aload_n dX4_beginCore_90 rfl ?_
    refine wp_iconst (v := 0) dX4_beginCore_91 rfl ?_
    refine wp_bipush (v := 10) dX4_beginCore_92 (by decide) ?_
    refine wp_cV2i dX4_beginCore_94 ml_X4_91 vX4_beginWord ⟨3, (RX4, TX4, 8), rfl, rfl, rfl⟩ (cX4_beginWord_ E _ _ _) (Nat.le_of_ble_eq_true rfl) (Nat.le_of_ble_eq_true rfl) (Nat.le_of_ble_eq_true rfl) ?_
    refine wp_ireturn dX4_beginCore_97 rfl rfl (Nat.zero_le _) (Nat.zero_le _) ?_
    subst hv
    exact pO_yes (s1 := rWord (rNd s (nsDe (nsCo (rCur s) 2) (if b = 123 then 1 else 0))) 0 10) rfl ((((((FrT.rf.sI (Or.inr ⟨by omega, by omega⟩)).sI (Or.inr ⟨by omega, by omega⟩)).sI (Or.inl rfl)).sI (Or.inl rfl)).sI (Or.inl rfl)).sI (Or.inl rfl)) (RRx_word (n := 0) (nx := 10) (RR_f2 (f := 0) (g := 4) hR hcu (cN_co (cN_of hR hcu) hf0 hfk hfw (by decide))) hC)
  by_cases esp : b = 91 ∨ b = 123
  · have hcore : rCore s b = rWord (rNd s (nsDe (nsCo (rCur s) 2) (if b = 123 then 1 else 0))) 0 10 := by
      unfold rCore
      rw [if_neg e40, if_neg e34, if_pos esp]
    rw [hcore]
    refine wp_iload_n dX4_beginCore_0 rfl ?_
    refine wp_lookup (off := 63) (tgt := 64) dX4_beginCore_1 (by decide) (by rcases esp with rfl | rfl <;> rfl) (by decide) ?_
    refine wp_aload_n dX4_beginCore_64 rfl ?_
    refine wp_getR dX4_beginCore_65 fl_X4_31 rfl rfl hc4 ?_
    refine wp_iconst (v := 2) dX4_beginCore_68 rfl ?_
    refine wp_putI dX4_beginCore_69 fl_X4_125 hc.1 rfl (fun _ _ _ h => by cases h; rfl) rfl rfl ?_
    refine wp_aload_n dX4_beginCore_72 rfl ?_
    refine wp_getR dX4_beginCore_73 fl_X4_31 rfl rfl hc4 ?_
    refine wp_iload_n dX4_beginCore_76 rfl ?_
    refine wp_bipush (v := 123) dX4_beginCore_77 (by decide) ?_
    refine wp_icmp_ne (tgt := 86) dX4_beginCore_79 (by decide) (fun c79 => ?_) (fun c79 => ?_)
    · refine wp_iconst (v := 0) dX4_beginCore_86 rfl ?_
      refine hsp _ ?_
      first
        | (rw [if_pos ((nIb hb (by decide)).mp c79)]; done)
        | (rw [if_neg (fun e => c79 (by rw [e]; rfl))]; done)
    · refine wp_iconst (v := 1) dX4_beginCore_82 rfl ?_
      refine wp_goto (tgt := 87) dX4_beginCore_83 (by decide) ?_
      refine hsp _ ?_
      first
        | (rw [if_pos ((nIb hb (by decide)).mp c79)]; done)
        | (rw [if_neg (fun e => c79 (by rw [e]; rfl))]; done)
  · have hcore : rCore s b = rSign (rWord s 0 3) b := by
      unfold rCore
      rw [if_neg e40, if_neg e34, if_neg esp]
    rw [hcore]
    have hoff : Op.lookupswitch.offset [((34 : Int), (48 : Int)), (40, 43), (91, 63), (123, 63)] 97 (nI b).toInt = 97 := by
      rw [nI_toInt (by omega)]
      simp only [Op.lookupswitch.offset]
      rw [if_neg (by omega), if_neg (by omega), if_neg (by omega), if_neg (by omega)]
    refine wp_iload_n dX4_beginCore_0 rfl ?_
    refine wp_lookup (off := 97) (tgt := 98) dX4_beginCore_1 (by decide) hoff (by decide) ?_
    refine wp_aload_n dX4_beginCore_98 rfl ?_
    refine wp_iconst (v := 0) dX4_beginCore_99 rfl ?_
    refine wp_iconst (v := 3) dX4_beginCore_100 rfl ?_
    refine wp_cV2i dX4_beginCore_101 ml_X4_91 vX4_beginWord ⟨3, (RX4, TX4, 8), rfl, rfl, rfl⟩ (cX4_beginWord_ E _ _ _) (Nat.le_of_ble_eq_true rfl) (Nat.le_of_ble_eq_true rfl) (Nat.le_of_ble_eq_true rfl) ?_
    refine wp_if_eq (tgt := 119) dX4_beginCore_104 (by decide) (fun c104 => absurd c104 (by decide)) (fun c104 => ?_)
    refine wp_aload_n dX4_beginCore_107 rfl ?_
    refine wp_iload_n dX4_beginCore_108 rfl ?_
    refine wp_cV1i dX4_beginCore_109 ml_X4_131 vX4_takeSign ⟨3, (RX4, TX4, 8), rfl, rfl, rfl⟩ (cX4_takeSign_ E _ (nI b) _ hc h7 hc4) (Nat.le_of_ble_eq_true rfl) (Nat.le_of_ble_eq_true rfl) (Nat.le_of_ble_eq_true rfl) ?_
    refine wp_if_eq (tgt := 119) dX4_beginCore_112 (by decide) (fun c112 => absurd c112 (by decide)) (fun c112 => ?_)
    refine wp_iconst (v := 1) dX4_beginCore_115 rfl ?_
    refine wp_goto (tgt := 120) dX4_beginCore_116 (by decide) ?_
    refine wp_ireturn dX4_beginCore_120 rfl rfl (Nat.zero_le _) (Nat.zero_le _) ?_
    have hRw := RR_word 0 3 hR
    have hz : 0 = (nWo (rCur s)).length := by rw [hfw]; rfl
    obtain ⟨g1, g2, g3, g4⟩ := RR_sign (b := b) hRw.1 hcu hRw.2 ho (wOk_word 0 3 (by decide) hz) (show 0 < 8 by decide) hb (fun _ => rfl) (show nCo (rCur s) ≠ 3 by rw [hf0]; decide)
    exact pO_yes (s1 := rSign (rWord s 0 3) b) rfl (((((FrT.rf.sI (Or.inl rfl)).sI (Or.inl rfl)).sI (Or.inl rfl)).sI (Or.inl rfl)).tr g3) ⟨g1, fun _ => (g4 4).trans hC, fun _ => g2⟩
theorem RR_add {M : Mem} {T : Nat} {s : RS} {ma : Int32} (h : RR M T s) (hcn : qCn s < 25) (hop : qOp s < qCn s) (hg : nCo (qNd s (qOp s)) = 3) :
    RR (trAdd M T ma (nI (qOp s))) T (rAdd s ma) ∧ FrT T M (trAdd M T ma (nI (qOp s))) ∧ (∀ q f, fR (trAdd M T ma (nI (qOp s))) q f = fR M q f) ∧ atK (fI M T 1) = qCn s := by
  obtain ⟨a, b, c, d, e, g, i⟩ := h
  have h1 : atK (fI M T 1) = qCn s := by rw [i.1]; exact atK_nI hcn
  have h2 : atK (nI (qOp s)) = qOp s := atK_nI (by omega)
  have n1 := Tne (k := qCn s) b (by omega)
  have n2 := Tne (k := qOp s) b (by omega)
  have hfr : ∀ q f, fR (trAdd M T ma (nI (qOp s))) q f = fR M q f := fun q f => by
    unfold trAdd
    rw [fR_sI, fR_sI, fR_start]
  have hfi : ∀ q f, fI (trAdd M T ma (nI (qOp s))) q f = if q = T ∧ f = 1 then nI (qCn s + 1) else if q = T + 2 + 2 * qOp s ∧ f = 5 then fI M (T + 2 + 2 * qOp s) 5 + 1 else if q = T + 2 + 2 * qCn s ∧ f < 7 then (if f = 1 then ma else if f = 2 then 1 else if f = 3 then -1 else if f = 6 then nI (qOp s) else 0) else fI M q f := by
    intro q f
    unfold trAdd
    rw [h1, h2]
    simp only [fI_sI, fI_start]
    rw [if_neg (show ¬ (T = T + 2 + 2 * qOp s ∧ 1 = 5) by omega), if_neg (show ¬ (T = T + 2 + 2 * qCn s ∧ 1 < 7) by omega), if_neg (show ¬ (T + 2 + 2 * qOp s = T + 2 + 2 * qCn s ∧ 5 < 7) by omega), i.1, nI_1]
  have hal : ∀ q j, aL (trAdd M T ma (nI (qOp s))) q j = if q = T + 2 + 2 * qCn s + 1 ∧ j < 5 then 0 else aL M q j := by
    intro q j
    unfold trAdd
    rw [h1]
    simp only [aL_sI, aL_start]
  refine ⟨⟨(hfr _ _).trans a, b, ⟨(hfr _ _).trans c.1, fun k hk => ?_, fun k hk => (hfr _ _).trans (c.2.2 k hk)⟩, ?_, ?_, ?_, ?_, ?_, fun k hk => ?_⟩, ?_, hfr, h1⟩
  · refine Eq.trans ?_ (c.2.1 k hk)
    unfold trAdd
    rw [aR_sI, aR_sI, aR_start]
  · rw [hfi, if_neg (by omega), if_neg (by omega), if_neg (by omega)]; exact d
  · rw [hfi, if_neg (by omega), if_neg (by omega), if_neg (by omega)]; exact e
  · rw [hfi, if_neg (by omega), if_neg (by omega), if_neg (by omega)]; exact g
  · rw [hfi, if_pos ⟨rfl, rfl⟩]; rfl
  · exact hcn
  · have hk : k < qCn s + 1 := hk
    show cNode _ _ (va_up (va_up (qNd s) (qCn s) (mkN 0 ma 1 (-1) 0 (nI (qOp s)) 0 [])) (qOp s) (nsKi (qNd s (qOp s)) (nKi (qNd s (qOp s)) + 1)) k)
    by_cases e1 : k = qOp s
    · subst e1
      rw [va_up_self]
      obtain ⟨a0, a1, a2, a3, a4, a5, a6, a7⟩ := i.2.2 _ hop
      have hs : nSz (nsKi (qNd s (qOp s)) (nKi (qNd s (qOp s)) + 1)) = nSz (qNd s (qOp s)) + 1 := by
        unfold nSz
        have e3 : nCo (nsKi (qNd s (qOp s)) (nKi (qNd s (qOp s)) + 1)) = 3 := hg
        rw [e3, hg, if_neg (by decide), if_pos rfl, if_neg (by decide), if_pos rfl, nI_1]
        rfl
      refine ⟨?_, ?_, ?_, ?_, ?_, ?_, ?_, fun j hj => ?_⟩
      · rw [hfi, if_neg (by omega), if_neg (by omega), if_neg (by omega)]; exact a0
      · rw [hfi, if_neg (by omega), if_neg (by omega), if_neg (by omega)]; exact a1
      · rw [hfi, if_neg (by omega), if_neg (by omega), if_neg (by omega)]; exact a2
      · rw [hfi, if_neg (by omega), if_neg (by omega), if_neg (by omega)]; exact a3
      · rw [hfi, if_neg (by omega), if_neg (by omega), if_neg (by omega)]; exact a4
      · rw [hfi, if_neg (by omega), if_pos ⟨rfl, rfl⟩, a5, hs]
      · rw [hfi, if_neg (by omega), if_neg (by omega), if_neg (by omega)]; exact a6
      · rw [hal, if_neg (by omega)]; exact a7 j hj
    · rw [va_up_ne _ _ e1]
      by_cases e2 : k = qCn s
      · subst e2
        rw [va_up_self]
        refine ⟨?_, ?_, ?_, ?_, ?_, ?_, ?_, fun j hj => ?_⟩
        · rw [hfi, if_neg (by omega), if_neg (by omega), if_pos ⟨rfl, by decide⟩]; rfl
        · rw [hfi, if_neg (by omega), if_neg (by omega), if_pos ⟨rfl, by decide⟩]; rfl
        · rw [hfi, if_neg (by omega), if_neg (by omega), if_pos ⟨rfl, by decide⟩]; rfl
        · rw [hfi, if_neg (by omega), if_neg (by omega), if_pos ⟨rfl, by decide⟩]; rfl
        · rw [hfi, if_neg (by omega), if_neg (by omega), if_pos ⟨rfl, by decide⟩]; rfl
        · rw [hfi, if_neg (by omega), if_neg (by omega), if_pos ⟨rfl, by decide⟩]; rfl
        · rw [hfi, if_neg (by omega), if_neg (by omega), if_pos ⟨rfl, by decide⟩]; rfl
        · rw [hal, if_pos ⟨rfl, hj⟩]; rfl
      · rw [va_up_ne _ _ e2]
        obtain ⟨a0, a1, a2, a3, a4, a5, a6, a7⟩ := i.2.2 k (by omega)
        refine ⟨?_, ?_, ?_, ?_, ?_, ?_, ?_, fun j hj => ?_⟩
        · rw [hfi, if_neg (by omega), if_neg (by omega), if_neg (by omega)]; exact a0
        · rw [hfi, if_neg (by omega), if_neg (by omega), if_neg (by omega)]; exact a1
        · rw [hfi, if_neg (by omega), if_neg (by omega), if_neg (by omega)]; exact a2
        · rw [hfi, if_neg (by omega), if_neg (by omega), if_neg (by omega)]; exact a3
        · rw [hfi, if_neg (by omega), if_neg (by omega), if_neg (by omega)]; exact a4
        · rw [hfi, if_neg (by omega), if_neg (by omega), if_neg (by omega)]; exact a5
        · rw [hfi, if_neg (by omega), if_neg (by omega), if_neg (by omega)]; exact a6
        · rw [hal, if_neg (by omega)]; exact a7 j hj
  · unfold trAdd
    rw [h1, h2]
    exact ((FrT.rf.start hcn).sI (Or.inr ⟨by omega, by omega⟩)).sI (Or.inr ⟨by omega, by omega⟩)
theorem RR_sR {M : Mem} {T : Nat} {s : RS} {x : Option Nat} (h : RR M T s) : RR (sR M 56 4 x) T s := by
  obtain ⟨a, b, c, d, e, g, i⟩ := h
  exact ⟨a, b, rcTr_sR b c, d, e, g, i⟩
theorem okN_new (ma : Int32) (o : Int32) : okN (mkN 0 ma 1 (-1) 0 o 0 []) := ⟨Nat.zero_le 5, fun w hw => nomatch hw⟩
theorem rCur_add {s : RS} {ma : Int32} (hop : qOp s < qCn s) : rCur (rAdd s ma) = mkN 0 ma 1 (-1) 0 (nI (qOp s)) 0 [] := by
  show va_up (va_up (qNd s) (qCn s) _) (qOp s) _ (qCn s) = _
  rw [va_up_ne _ _ (by omega), va_up_self]
