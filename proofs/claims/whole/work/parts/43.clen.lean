/-! ===== the class: lenient ===== -/
theorem rcD_snoc {M : Mem} {gn : List Nat} {x : Nat} (h : rcD M gn) (hl : gn.length < 240) : rcD (sI (sA M 3 gn.length (nI x)) 0 4 (nI (gn.length + 1))) (gn ++ [x]) := by
  refine ⟨by rw [List.length_append]; rfl, by rw [List.length_append]; exact hl, fun i hi => ?_⟩
  rw [aI_sI, aI_sA, getD_app]
  split
  · next e => rw [if_pos e.2]
  · next e =>
    rw [List.length_append] at hi
    have : i ≠ gn.length := fun q => e ⟨rfl, q⟩
    rw [if_neg this]
    refine h.2.2 i ?_
    have : [x].length = 1 := rfl
    omega
set_option maxRecDepth 100000 in
set_option maxHeartbeats 4000000 in
theorem cX8_drop_ (E : GE) (gn : List Nat) (x : Nat) (M : Mem) (h0 : fR M 0 3 = some 3) (hD : rcD M gn) (hl : gn.length < 240) : Sp E mX8_drop 0 0 0 [.ref 0, .int (nI x)] SH M (RV none SH (sI (sA M 3 gn.length (nI x)) 0 4 (nI (gn.length + 1)))) := by
  refine sp_of vX8_drop.1 rfl (Nat.le_of_ble_eq_true rfl) ?_
  have h4 := hD.1
  have hcl : (fI M 0 4).toNatClampNeg = gn.length := by rw [h4]; exact nI_clamp (by omega)
  refine wp_aload_n dX8_drop_0 rfl ?_
  refine wp_getI dX8_drop_1 fl_X8_24 rfl rfl ?_
  refine wp_if_lt (tgt := 37) dX8_drop_4 (by decide) (fun c4 => absurd c4 (by rw [h4]; exact nI_pos (by omega))) (fun c4 => ?_)
  refine wp_aload_n dX8_drop_7 rfl ?_
  refine wp_getI dX8_drop_8 fl_X8_24 rfl rfl ?_
  refine wp_sipush (v := 240) dX8_drop_11 (by decide) ?_
  refine wp_icmp_ge (tgt := 37) dX8_drop_14 (by decide) (fun c14 => absurd c14 (by rw [h4]; exact nI_ge (b := 240) hl (by decide))) (fun c14 => ?_)
  refine wp_aload_n dX8_drop_17 rfl ?_
  refine wp_getR dX8_drop_18 fl_X8_21 rfl rfl h0 ?_
  refine wp_aload_n dX8_drop_21 rfl ?_
  refine wp_getI dX8_drop_22 fl_X8_24 rfl rfl ?_
  refine wp_iload_n dX8_drop_25 rfl ?_
  refine wp_iastore dX8_drop_26 rfl (by rw [h4]; exact vp_in_nI hl (by decide)) ?_
  refine wp_aload_n dX8_drop_27 rfl ?_
  refine wp_dup dX8_drop_28 rfl ?_
  refine wp_getI dX8_drop_29 fl_X8_24 rfl rfl ?_
  refine wp_iconst (v := 1) dX8_drop_32 rfl ?_
  refine wp_iadd dX8_drop_33 ?_
  refine wp_putI dX8_drop_34 fl_X8_24 rfl rfl (fun _ _ _ h => by cases h; rfl) rfl rfl ?_
  refine wp_ret0 dX8_drop_37 rfl (Nat.le_refl _) (Nat.le_refl _) ?_
  have e : fI (sA M 3 (fI M 0 4).toNatClampNeg (nI x)) 0 4 + 1 = nI (gn.length + 1) := by show fI M 0 4 + 1 = _; rw [h4, nI_1]
  rw [e, hcl]
  exact ⟨rfl, rfl, rfl⟩
def FrL (T : Nat) (M M1 : Mem) : Prop := (∀ p, p ≠ 56 → ¬ (T ≤ p ∧ p < T + 52) → 3 < p → EqP M M1 p) ∧ ∀ f, fR M1 0 f = fR M 0 f
theorem FrL.rd {T : Nat} {M M1 M2 : Mem} (hT : T = 4 ∨ T = 57) (h : FrL T M M1) (k : FrT T M1 M2) : FrL T M M2 :=
  ⟨fun p h1 h2 h3 => (h.1 p h1 h2 h3).tr (k p h1 h2), fun f => ((k 0 (by decide) (by omega)).2.1 f).trans (h.2 f)⟩
theorem EqP.sA {M M1 : Mem} {p q i : Nat} {x : Int32} (h : EqP M M1 p) (hq : p ≠ q) : EqP M (sA M1 q i x) p := ⟨h.1, h.2.1, fun g => by rw [aI_sA, if_neg (fun e => hq e.1)]; exact h.2.2.1 g, h.2.2.2.1, h.2.2.2.2⟩
theorem FrL.sA {T q i : Nat} {x : Int32} {M M1 : Mem} (h : FrL T M M1) (hq : q ≤ 3) : FrL T M (sA M1 q i x) := ⟨fun p h1 h2 h3 => (h.1 p h1 h2 h3).sA (by omega), h.2⟩
theorem FrL.sI {T q f : Nat} {x : Int32} {M M1 : Mem} (h : FrL T M M1) (hq : q ≤ 3) : FrL T M (sI M1 q f x) := ⟨fun p h1 h2 h3 => (h.1 p h1 h2 h3).sI (by omega), h.2⟩
theorem RR_eq {M M1 : Mem} {T : Nat} {s : RS} (h : RR M T s) (k : ∀ p, 4 ≤ p → EqP M M1 p) : RR M1 T s := by
  obtain ⟨a, b, c, d, e, g, i⟩ := h
  have k56 := k 56 (by decide)
  refine ⟨(k56.2.1 0).trans a, b, rcTr_eq c (fun p h1 _ => k p (by omega)), (k56.1 1).trans d, (k56.1 2).trans e, (k56.1 3).trans g, cTree_eq i (fun p h1 _ => k p (by omega))⟩
theorem RRx_eq {M M1 : Mem} {T : Nat} {s : RS} (h : RRx M T s) (k : ∀ p, 4 ≤ p → EqP M M1 p) : RRx M1 T s := by
  have k56 := k 56 (by decide)
  refine ⟨RR_eq h.1 k, fun q => (k56.2.1 4).trans (h.2.1 q), fun q => ?_⟩
  obtain ⟨a, b, c⟩ := h.2.2 q
  exact ⟨(k56.1 5).trans a, (k56.1 6).trans b, (k56.1 7).trans c⟩
theorem RC_ln {M M1 : Mem} {tp gn g1 : List Nat} {q : QQ} {o : Option (List Nat)} {dc : Nat → List (List Nat)} {tq : Nat} {s : RS} (h : RC M tp gn q o dc) (hq : rcQ M tq q) (hF : FrL (61 - tq) M M1) (hR : RR M1 (61 - tq) s) (h01 : fI M1 0 1 = 0) (hD : rcD M1 g1) : RC M1 [] g1 q o dc ∧ rcQ M1 tq q := by
  obtain ⟨⟨hg1, hg2, hg3⟩, ht, hd, -, ho, hw⟩ := h
  obtain ⟨q1, q2, q3, q4⟩ := hq
  have hq' : rcQ M1 tq q := ⟨(hF.2 5).trans q1, hR.1, q3, cTree_eq q4 (fun p h1 h2 => hF.1 p (by omega) (by omega) (by omega))⟩
  refine ⟨⟨⟨gCL_eq hg1 (fun f _ => hF.2 f) (fun p h1 h2 => hF.1 p (by omega) (by omega) (by omega)), ?_, ?_⟩, ⟨h01, Nat.zero_le _, fun i hi => absurd hi (Nat.not_lt_zero i)⟩, hD, ⟨tq, hq'⟩, rcO_eq ho (fun p h1 h2 => hF.1 p (by omega) (by omega) (by omega)), rcW_eq hw (fun p h1 h2 => hF.1 p (by omega) (by omega) (by omega))⟩, hq'⟩
  · rcases q3 with rfl | rfl
    · exact rcTr_eq hg2 (fun p h1 h2 => hF.1 p (by omega) (by omega) (by omega))
    · exact hR.2.2.1
  · rcases q3 with rfl | rfl
    · exact hR.2.2.1
    · exact rcTr_eq hg3 (fun p h1 h2 => hF.1 p (by omega) (by omega) (by omega))
def OutC (M M1 : Mem) : Prop := ∀ p, 121 ≤ p → EqP M M1 p
theorem FrL.out {T : Nat} {M M1 : Mem} (hT : T = 4 ∨ T = 57) (h : FrL T M M1) : OutC M M1 := fun p hp => h.1 p (by omega) (by omega) (by omega)
def pLn (M : Mem) (tp : List Nat) (q : QQ) (o : Option (List Nat)) (dc : Nat → List (List Nat)) : PT := fun v sh1 M1 => sh1 = SH ∧ v = some (.int (lnV tp)) ∧ RC M1 [] (lnG tp) (lnQ tp q) o dc ∧ OutC M M1
/-- what the class's first loop keeps -/
def LI (M M1 : Mem) (tp : List Nat) (T i : Nat) (K : List (Nat × Nat)) (g : List Nat) (s : RS) : Prop := K.length + g.length = i ∧ i ≤ tp.length ∧ lnP tp = lnK s (prs (tp.drop i) i) K g ∧ run r0 (byts K) = some s ∧ RRx M1 T s ∧ FrL T M M1 ∧ fI M1 0 1 = 0 ∧ rcD M1 g ∧ (∀ j, j < K.length → aI M1 1 j &&& 255 = nI ((byts K).getD j 0) ∧ (byts K).getD j 0 < 256 ∧ aI M1 2 j = nI ((plcs K).getD j 0)) ∧ ∀ j, i ≤ j → aI M1 1 j = aI M 1 j
set_option maxRecDepth 100000 in
set_option maxHeartbeats 4000000 in
theorem cX8_lenient_ (E : GE) (tp gn : List Nat) (q : QQ) (o : Option (List Nat)) (dc : Nat → List (List Nat)) (M : Mem) (hC : RC M tp gn q o dc) : Sp E mX8_lenient 6 0 0 [.ref 0] SH M (pLn M tp q o dc) := by
  refine sp_of vX8_lenient.1 rfl (Nat.le_of_ble_eq_true rfl) ?_
  obtain ⟨tq, hq⟩ := hC.2.2.2.1
  have hq3 := hq.2.2.1
  have hT : 61 - tq = 4 ∨ 61 - tq = 57 := by omega
  have htp := hC.2.1
  have hl := htp.2.1
  have g6 : ∀ {M1 : Mem}, FrL (61 - tq) M M1 → fR M1 0 6 = some 56 ∧ fR M1 0 0 = some 1 ∧ fR M1 0 2 = some 2 ∧ fR M1 0 3 = some 3 := fun hF =>
    ⟨(hF.2 6).trans (hC.1.1 (0, 6, 56) (by decide)), (hF.2 0).trans (hC.1.1 (0, 0, 1) (by decide)), (hF.2 2).trans (hC.1.1 (0, 2, 2) (by decide)), (hF.2 3).trans (hC.1.1 (0, 3, 3) (by decide))⟩
  have loop3 : ∀ (r i : Nat) (s sw : RS) (M1 : Mem), i + r = lnW tp → lnR tp = some sw → run r0 ((byts (lnP tp).1).take (lnW tp)) = some sw → run r0 ((byts (lnP tp).1).take i) = some s → RRx M1 (61 - tq) s → FrL (61 - tq) M M1 → fI M1 0 1 = 0 → rcD M1 (lnG tp) → (lnP tp).1.length ≤ 240 → (∀ j, j < (lnP tp).1.length → aI M1 1 j &&& 255 = nI ((byts (lnP tp).1).getD j 0) ∧ (byts (lnP tp).1).getD j 0 < 256) → Wp (xM E mX8_lenient 6 0 0 SH.length (pLn M tp q o dc)) 0 0 174 [(4, .int (nI i)), (3, .int (nI (lnW tp))), (0, .ref 0)] [] SH M1 := by
    have hwl : lnW tp ≤ (lnP tp).1.length := wlN_le _ _
    intro r
    induction r with
    | zero =>
      intro i s sw M1 hi hsw hrw hs hX hF h01 hD hK hby
      obtain ⟨r6, r0', r2, r3⟩ := g6 hF
      have hi : i = lnW tp := by omega
      subst hi
      have he : s = sw := by rw [hrw] at hs; injection hs with h; exact h.symm
      subst he
      obtain ⟨hC1, hq1⟩ := RC_ln hC hq hF hX.1 h01 hD
      refine wp_iload dX8_lenient_174 rfl ?_
      refine wp_iload_n dX8_lenient_176 rfl ?_
      refine wp_icmp_ge (tgt := 213) dX8_lenient_177 (by decide) (fun c177 => ?_) (fun c177 => absurd (Int32.le_refl _) c177)
      refine wp_aload_n dX8_lenient_213 rfl ?_
      refine wp_cV0i dX8_lenient_214 ml_X8_70 vX8_adoptReading ⟨7, (RX8, TX8, 10), rfl, rfl, rfl⟩ (cX8_adopt_ E (61 - tq) tq M1 hT r6 hq1.1 hX.1.1) (Nat.le_of_ble_eq_true rfl) (Nat.le_of_ble_eq_true rfl) (Nat.le_of_ble_eq_true rfl) ?_
      refine wp_ireturn dX8_lenient_217 rfl rfl (Nat.zero_le _) (Nat.zero_le _) ?_
      refine ⟨rfl, ?_, ?_, fun p hp => (FrL.out hT hF p hp).tr ((EqP.rf.sR (by omega)).sR (by omega))⟩
      · unfold lnV; rw [hsw]; exact congrArg (fun z => some (Value.int z)) hX.1.2.2.2.2.2.2.1
      · unfold lnQ; rw [hsw]; exact RC_ad hC1 hq1 hX.1
    | succ r ih =>
      intro i s sw M1 hi hsw hrw hs hX hF h01 hD hK hby
      obtain ⟨r6, r0', r2, r3⟩ := g6 hF
      have hA := run_ok _ _ _ aOk_r0 hs
      have hil : i < (byts (lnP tp).1).length := by rw [byts_len]; omega
      obtain ⟨s1, hs1⟩ := run_take hrw (i + 1)
      rw [List.take_take, Nat.min_eq_left (by omega)] at hs1
      have hd := run_next hil hs hs1
      have hbb := hby i (by omega)
      have hby1 : aI M1 1 (nI i).toNatClampNeg &&& 255 = nI ((byts (lnP tp).1).getD i 0) := by rw [nI_clamp (by omega)]; exact hbb.1
      refine wp_iload dX8_lenient_174 rfl ?_
      refine wp_iload_n dX8_lenient_176 rfl ?_
      refine wp_icmp_ge (tgt := 213) dX8_lenient_177 (by decide) (fun c177 => absurd c177 (nI_ge (by omega) (by omega))) (fun c177 => ?_)
      refine wp_iload dX8_lenient_180 rfl ?_
      refine wp_sipush (v := 240) dX8_lenient_182 (by decide) ?_
      refine wp_icmp_ge (tgt := 213) dX8_lenient_185 (by decide) (fun c185 => absurd c185 (nI_ge (b := 240) (by omega) (by decide))) (fun c185 => ?_)
      refine wp_aload_n dX8_lenient_188 rfl ?_
      refine wp_getR dX8_lenient_189 fl_X8_37 rfl rfl r6 ?_
      refine wp_aload_n dX8_lenient_192 rfl ?_
      refine wp_getR dX8_lenient_193 fl_X8_9 rfl rfl r0' ?_
      refine wp_iload dX8_lenient_196 rfl ?_
      refine wp_baload dX8_lenient_198 rfl (vp_in_nI (by omega) (by decide)) ?_
      refine wp_sipush (v := 255) dX8_lenient_199 (by decide) ?_
      refine wp_iand dX8_lenient_202 ?_
      rw [hby1]
      refine wp_cV1p dX8_lenient_203 ml_X8_62 vX4_takes ⟨3, (RX4, TX4, 8), rfl, rfl, rfl⟩ (cX4_takes_ E _ s M1 hX hA _ hbb.2) (Nat.le_of_ble_eq_true rfl) (Nat.le_of_ble_eq_true rfl) (Nat.le_of_ble_eq_true rfl) (Nat.le_refl _) (Nat.le_refl _) (fun v sh1 M1 hqq => ?_)
      obtain ⟨rfl, rfl, hF1, hN1, hS1⟩ := hqq
      refine wp_pop dX8_lenient_206 rfl ?_
      refine wp_iinc dX8_lenient_207 rfl (i_inc _) (Nat.le_of_ble_eq_true rfl) ?_
      refine wp_goto (tgt := 174) dX8_lenient_210 (by decide) ?_
      have e1 := hF1 1 (by decide) (by omega)
      have e3 := hF1 3 (by decide) (by omega)
      have e0 := hF1 0 (by decide) (by omega)
      exact wp_lv (ih (i + 1) s1 sw _ (by omega) hsw hrw hs1 (hS1 s1 hd) (hF.rd hT hF1) ((e0.1 1).trans h01) (rcD_eq hD (e0.1 4) e3) hK (fun j hj => by rw [e1.2.2.1 j]; exact hby j hj)) (by repeat (first | exact trivial | refine ⟨rfl, ?_⟩))
  have loop2 : ∀ (r i : Nat) (s : RS) (M1 : Mem), i + r = (lnP tp).1.length → lnW tp ≤ (lnP tp).1.length - r → r ≤ (lnP tp).1.length → RRx M1 (61 - tq) s → FrL (61 - tq) M M1 → fI M1 0 1 = 0 → rcD M1 ((lnP tp).2 ++ (plcs ((lnP tp).1.drop i)).reverse) → (lnP tp).1.length + (lnP tp).2.length ≤ 240 → (∀ j, j < (lnP tp).1.length → aI M1 1 j &&& 255 = nI ((byts (lnP tp).1).getD j 0) ∧ (byts (lnP tp).1).getD j 0 < 256 ∧ aI M1 2 j = nI ((plcs (lnP tp).1).getD j 0)) → Wp (xM E mX8_lenient 6 0 0 SH.length (pLn M tp q o dc)) 0 0 130 [(4, .int (nI i - 1)), (3, .int (nI (lnW tp))), (0, .ref 0)] [] SH M1 := by
    have hwl : lnW tp ≤ (lnP tp).1.length := wlN_le _ _
    have hfin : ∀ (s : RS) (M1 : Mem), RRx M1 (61 - tq) s → FrL (61 - tq) M M1 → fI M1 0 1 = 0 → rcD M1 (lnG tp) → (lnP tp).1.length ≤ 240 → (∀ j, j < (lnP tp).1.length → aI M1 1 j &&& 255 = nI ((byts (lnP tp).1).getD j 0) ∧ (byts (lnP tp).1).getD j 0 < 256) → Wp (xM E mX8_lenient 6 0 0 SH.length (pLn M tp q o dc)) 0 0 158 [(3, .int (nI (lnW tp))), (0, .ref 0)] [] SH M1 := by
      intro s M1 hX hF h01 hD hK hby
      obtain ⟨r6, r0', r2, r3⟩ := g6 hF
      refine wp_iload_n dX8_lenient_158 rfl ?_
      refine wp_if_ne (tgt := 164) dX8_lenient_159 (by decide) (fun c159 => ?_) (fun c159 => ?_)
      · refine wp_aload_n dX8_lenient_164 rfl ?_
        refine wp_getR dX8_lenient_165 fl_X8_37 rfl rfl r6 ?_
        refine wp_cV0p dX8_lenient_168 ml_X8_59 vX4_begin ⟨3, (RX4, TX4, 8), rfl, rfl, rfl⟩ (cX4_begin_ E (61 - tq) _ hT hX.1.2.2.1 hX.1.1) (Nat.le_of_ble_eq_true rfl) (Nat.le_of_ble_eq_true rfl) (Nat.le_of_ble_eq_true rfl) (Nat.le_refl _) (Nat.le_refl _) (fun v sh1 M1 hqq => ?_)
        obtain ⟨rfl, rfl, hF1, hX1⟩ := hqq
        refine wp_iconst (v := 0) dX8_lenient_171 rfl ?_
        refine wp_istore dX8_lenient_172 (Nat.le_of_ble_eq_true rfl) ?_
        obtain ⟨sw, hsw, hrw, -⟩ := lnR_some (tp := tp) (fun e => c159 (by rw [e]; rfl))
        have e1 := hF1 1 (by decide) (by omega)
        have e3 := hF1 3 (by decide) (by omega)
        have e0 := hF1 0 (by decide) (by omega)
        exact wp_lv (loop3 (lnW tp) 0 r0 sw _ (by omega) hsw hrw rfl hX1 (hF.rd hT hF1) ((e0.1 1).trans h01) (rcD_eq hD (e0.1 4) e3) hK (fun j hj => by rw [e1.2.2.1 j]; exact hby j hj)) (by repeat (first | exact trivial | refine ⟨rfl, ?_⟩))
      · refine wp_iconst (v := (-1)) dX8_lenient_162 rfl ?_
        refine wp_ireturn dX8_lenient_163 rfl rfl (Nat.zero_le _) (Nat.zero_le _) ?_
        have hw0 : lnW tp = 0 := nI_e (by omega) (by decide) c159
        have hr : lnR tp = none := by unfold lnR; rw [if_pos hw0]
        refine ⟨rfl, ?_, ?_, FrL.out hT hF⟩
        · unfold lnV; rw [hr]
        · unfold lnQ; rw [hr]; exact (RC_ln hC hq hF hX.1 h01 hD).1
    intro r i
    induction i generalizing r with
    | zero =>
      intro s M1 hi hw hr hX hF h01 hD hK hby
      have hw0 : lnW tp = 0 := by omega
      have hG : lnG tp = (lnP tp).2 ++ (plcs ((lnP tp).1.drop 0)).reverse := by unfold lnG; rw [hw0]
      refine wp_iload dX8_lenient_130 rfl ?_
      refine wp_iload_n dX8_lenient_132 rfl ?_
      refine wp_icmp_lt (tgt := 158) dX8_lenient_133 (by decide) (fun c133 => ?_) (fun c133 => absurd (show nI 0 - 1 < nI (lnW tp) by rw [hw0]; decide) c133)
      exact wp_lv (hfin s M1 hX hF h01 (by rw [hG]; exact hD) (by omega) (fun j hj => ⟨(hby j hj).1, (hby j hj).2.1⟩)) (by repeat (first | exact trivial | refine ⟨rfl, ?_⟩))
    | succ i ih =>
      intro s M1 hi hw hr hX hF h01 hD hK hby
      obtain ⟨r6, r0', r2, r3⟩ := g6 hF
      have hil : i < (lnP tp).1.length := by omega
      have hpl := (hby i hil).2.2
      have e1 : nI (i + 1) - 1 = nI i := by rw [← nI_1, Int32.add_sub_cancel]
      rw [e1]
      have hdr : (lnP tp).1.drop i = (lnP tp).1.getD i (0, 0) :: (lnP tp).1.drop (i + 1) := by
        rw [List.drop_eq_getElem_cons hil, List.getD_eq_getElem?_getD, List.getElem?_eq_getElem hil]; rfl
      have hrv : (lnP tp).2 ++ (plcs ((lnP tp).1.drop i)).reverse = ((lnP tp).2 ++ (plcs ((lnP tp).1.drop (i + 1))).reverse) ++ [(plcs (lnP tp).1).getD i 0] := by
        rw [hdr, plcs_at]
        have : plcs ((lnP tp).1.getD i (0, 0) :: (lnP tp).1.drop (i + 1)) = ((lnP tp).1.getD i (0, 0)).1 :: plcs ((lnP tp).1.drop (i + 1)) := rfl
        rw [this, List.reverse_cons, List.append_assoc]
      have hlen : ((lnP tp).2 ++ (plcs ((lnP tp).1.drop (i + 1))).reverse).length < 240 := by
        rw [List.length_append, List.length_reverse, plcs_len, List.length_drop]; omega
      have hpl2 : aI M1 2 (nI i).toNatClampNeg = nI ((plcs (lnP tp).1).getD i 0) := by rw [nI_clamp (by omega)]; exact hpl
      refine wp_iload dX8_lenient_130 rfl ?_
      refine wp_iload_n dX8_lenient_132 rfl ?_
      refine wp_icmp_lt (tgt := 158) dX8_lenient_133 (by decide) (fun c133 => ?_) (fun c133 => ?_)
      · have hw1 : lnW tp = i + 1 := by
          have : i < lnW tp := Nat.lt_of_not_le fun h => absurd c133 (Int32.not_lt.mpr (nI_le h (by omega)))
          omega
        have hG : lnG tp = (lnP tp).2 ++ (plcs ((lnP tp).1.drop (i + 1))).reverse := by unfold lnG; rw [hw1]
        exact wp_lv (hfin s M1 hX hF h01 (by rw [hG]; exact hD) (by omega) (fun j hj => ⟨(hby j hj).1, (hby j hj).2.1⟩)) (by repeat (first | exact trivial | refine ⟨rfl, ?_⟩))
      · refine wp_iload dX8_lenient_136 rfl ?_
        refine wp_if_lt (tgt := 158) dX8_lenient_138 (by decide) (fun c138 => absurd c138 (nI_pos (by omega))) (fun c138 => ?_)
        refine wp_aload_n dX8_lenient_141 rfl ?_
        refine wp_aload_n dX8_lenient_142 rfl ?_
        refine wp_getR dX8_lenient_143 fl_X8_17 rfl rfl r2 ?_
        refine wp_iload dX8_lenient_146 rfl ?_
        refine wp_iaload dX8_lenient_148 rfl (vp_in_nI (by omega) (by decide)) ?_
        rw [hpl2]
        refine wp_cV1v dX8_lenient_149 ml_X8_74 vX8_drop ⟨7, (RX8, TX8, 10), rfl, rfl, rfl⟩ (cX8_drop_ E ((lnP tp).2 ++ (plcs ((lnP tp).1.drop (i + 1))).reverse) ((plcs (lnP tp).1).getD i 0) M1 r3 hD hlen) (Nat.le_of_ble_eq_true rfl) (Nat.le_of_ble_eq_true rfl) (Nat.le_of_ble_eq_true rfl) ?_
        refine wp_iinc dX8_lenient_152 rfl (i_neg1 _) (Nat.le_of_ble_eq_true rfl) ?_
        refine wp_goto (tgt := 130) dX8_lenient_155 (by decide) ?_
        have hw1 : lnW tp ≤ i := Nat.le_of_not_lt fun h => c133 (by rw [Int32.lt_iff_toInt_lt, nI_toInt (by omega), nI_toInt (by omega)]; omega)
        have hD1 := rcD_snoc (x := (plcs (lnP tp).1).getD i 0) hD hlen
        rw [← hrv] at hD1
        have hE : ∀ p, 4 ≤ p → EqP M1 (sI (sA M1 3 ((lnP tp).2 ++ (plcs ((lnP tp).1.drop (i + 1))).reverse).length (nI ((plcs (lnP tp).1).getD i 0))) 0 4 (nI (((lnP tp).2 ++ (plcs ((lnP tp).1.drop (i + 1))).reverse).length + 1))) p := fun p hp => (EqP.rf.sA (by omega)).sI (by omega)
        refine wp_lv (ih (r + 1) s _ (by omega) (by omega) (by omega) (RRx_eq hX hE) ((hF.sA (by decide)).sI (by decide)) h01 hD1 hK (fun j hj => ?_)) (by repeat (first | exact trivial | refine ⟨rfl, ?_⟩))
        simp only [aI_sI, aI_sA]
        simp
        exact hby j hj
  have loop1 : ∀ (r i : Nat) (K : List (Nat × Nat)) (g : List Nat) (s : RS) (M1 : Mem), i + r = tp.length → LI M M1 tp (61 - tq) i K g s → Wp (xM E mX8_lenient 6 0 0 SH.length (pLn M tp q o dc)) 0 0 29 [(4, .int (nI i)), (3, .int (nI (wlN (byts K) K.length))), (2, .int (nI K.length)), (1, .int (nI tp.length)), (0, .ref 0)] [] SH M1 := by
    intro r
    induction r with
    | zero =>
      intro i K g s M1 hi hI
      obtain ⟨h1, h2, h3, h4, hX, hF, h01, hD, hby, hta⟩ := hI
      have hi : i = tp.length := by omega
      rw [hi, List.drop_length] at h3
      have h3 : lnP tp = (K, g) := h3
      have e1 : (lnP tp).1 = K := by rw [h3]
      have e2 : (lnP tp).2 = g := by rw [h3]
      have ew : lnW tp = wlN (byts K) K.length := by unfold lnW; rw [e1]
      rw [hi, ← ew]
      refine wp_iload dX8_lenient_29 rfl ?_
      refine wp_iload_n dX8_lenient_31 rfl ?_
      refine wp_icmp_ge (tgt := 125) dX8_lenient_32 (by decide) (fun c32 => ?_) (fun c32 => absurd (Int32.le_refl _) c32)
      refine wp_iload_n dX8_lenient_125 rfl ?_
      refine wp_iconst (v := 1) dX8_lenient_126 rfl ?_
      refine wp_isub dX8_lenient_127 ?_
      refine wp_istore dX8_lenient_128 (Nat.le_of_ble_eq_true rfl) ?_
      refine wp_lv (loop2 0 K.length s M1 (by rw [e1]; rfl) (by rw [e1, ew]; exact wlN_le _ _) (Nat.zero_le _) hX hF h01 (by rw [e1, e2, List.drop_length]; show rcD M1 (g ++ []); rw [List.append_nil]; exact hD) (by rw [e1, e2]; omega) (fun j hj => by rw [e1] at hj ⊢; exact hby j hj)) (by repeat (first | exact trivial | refine ⟨rfl, ?_⟩))
    | succ r ih =>
      intro i K g s M1 hi hI
      obtain ⟨h1, h2, h3, h4, hX, hF, h01, hD, hby, hta⟩ := hI
      obtain ⟨r6, r0', r2, r3⟩ := g6 hF
      have hil : i < tp.length := by omega
      have hA := run_ok _ _ _ aOk_r0 h4
      have hb := (htp.2.2 i hil).2
      have hby1 : aI M1 1 (nI i).toNatClampNeg &&& 255 = nI (tp.getD i 0) := by rw [nI_clamp (by omega), hta i (Nat.le_refl _)]; exact (htp.2.2 i hil).1
      rw [prs_drop hil] at h3
      have h3 : lnP tp = (match dl s (tp.getD i 0) with | none => lnK s (prs (tp.drop (i + 1)) (i + 1)) K (g ++ [i]) | some s1 => lnK s1 (prs (tp.drop (i + 1)) (i + 1)) (K ++ [(i, tp.getD i 0)]) g) := h3
      have hwb : wlN (byts K) K.length ≤ K.length := wlN_le _ _
      refine wp_iload dX8_lenient_29 rfl ?_
      refine wp_iload_n dX8_lenient_31 rfl ?_
      refine wp_icmp_ge (tgt := 125) dX8_lenient_32 (by decide) (fun c32 => absurd c32 (nI_ge hil (by omega))) (fun c32 => ?_)
      refine wp_iload dX8_lenient_35 rfl ?_
      refine wp_sipush (v := 240) dX8_lenient_37 (by decide) ?_
      refine wp_icmp_ge (tgt := 125) dX8_lenient_40 (by decide) (fun c40 => absurd c40 (nI_ge (b := 240) (by omega) (by decide))) (fun c40 => ?_)
      refine wp_iload_n dX8_lenient_43 rfl ?_
      refine wp_iload dX8_lenient_44 rfl ?_
      refine wp_icmp_gt (tgt := 125) dX8_lenient_46 (by decide) (fun c46 => absurd c46 (by rw [Int32.lt_iff_toInt_lt, nI_toInt (by omega), nI_toInt (by omega)]; omega)) (fun c46 => ?_)
      refine wp_aload_n dX8_lenient_49 rfl ?_
      refine wp_getR dX8_lenient_50 fl_X8_37 rfl rfl r6 ?_
      refine wp_aload_n dX8_lenient_53 rfl ?_
      refine wp_getR dX8_lenient_54 fl_X8_9 rfl rfl r0' ?_
      refine wp_iload dX8_lenient_57 rfl ?_
      refine wp_baload dX8_lenient_59 rfl (vp_in_nI (by omega) (by decide)) ?_
      refine wp_sipush (v := 255) dX8_lenient_60 (by decide) ?_
      refine wp_iand dX8_lenient_63 ?_
      rw [hby1]
      refine wp_cV1p dX8_lenient_64 ml_X8_62 vX4_takes ⟨3, (RX4, TX4, 8), rfl, rfl, rfl⟩ (cX4_takes_ E _ s M1 hX hA _ hb) (Nat.le_of_ble_eq_true rfl) (Nat.le_of_ble_eq_true rfl) (Nat.le_of_ble_eq_true rfl) (Nat.le_refl _) (Nat.le_refl _) (fun v sh1 M1 hqq => ?_)
      obtain ⟨rfl, rfl, hF1, hN1, hS1⟩ := hqq
      refine wp_if_eq (tgt := 113) dX8_lenient_67 (by decide) (fun c67 => ?_) (fun c67 => ?_)
      · have hno : dl s (tp.getD i 0) = none := by
          have h0 := b2i_e0.mp c67
          cases h : dl s (tp.getD i 0) with
          | none => rfl
          | some x => exact absurd (by rw [h]; rfl) h0
        rw [hno] at h3
        have h3 : lnP tp = lnK s (prs (tp.drop (i + 1)) (i + 1)) K (g ++ [i]) := h3
        obtain rfl := hN1 hno
        refine wp_aload_n dX8_lenient_113 rfl ?_
        refine wp_iload dX8_lenient_114 rfl ?_
        refine wp_cV1v dX8_lenient_116 ml_X8_74 vX8_drop ⟨7, (RX8, TX8, 10), rfl, rfl, rfl⟩ (cX8_drop_ E g i _ r3 hD (by omega)) (Nat.le_of_ble_eq_true rfl) (Nat.le_of_ble_eq_true rfl) (Nat.le_of_ble_eq_true rfl) ?_
        refine wp_iinc dX8_lenient_119 rfl (i_inc _) (Nat.le_of_ble_eq_true rfl) ?_
        refine wp_goto (tgt := 29) dX8_lenient_122 (by decide) ?_
        have hE : ∀ p, 4 ≤ p → EqP M1 (sI (sA M1 3 g.length (nI i)) 0 4 (nI (g.length + 1))) p := fun p hp => (EqP.rf.sA (by omega)).sI (by omega)
        refine wp_lv (ih (i + 1) K (g ++ [i]) s _ (by omega) ⟨by rw [List.length_append]; show _ + (_ + 1) = _; omega, by omega, h3, h4, RRx_eq hX hE, (hF.sA (by decide)).sI (by decide), h01, rcD_snoc hD (by omega), fun j hj => ?_, fun j hj => ?_⟩) (by repeat (first | exact trivial | refine ⟨rfl, ?_⟩))
        · simp only [aI_sI, aI_sA]; simp; exact hby j hj
        · simp only [aI_sI, aI_sA]; simp; exact hta j (by omega)
      · have hsm := b2i_ne.mp c67
        obtain ⟨s1, hs1⟩ := Option.isSome_iff_exists.mp hsm
        have hX1 := hS1 s1 hs1
        have hFa := hF.rd hT hF1
        obtain ⟨r6', r0'', r2', r3'⟩ := g6 hFa
        have hA1 := aOk_dl hA hs1
        rw [hs1] at h3
        have h3 : lnP tp = lnK s1 (prs (tp.drop (i + 1)) (i + 1)) (K ++ [(i, tp.getD i 0)]) g := h3
        have h41 : run r0 (byts (K ++ [(i, tp.getD i 0)])) = some s1 := by rw [byts_app]; exact run_snoc h4 hs1
        have e1 := hF1 1 (by decide) (by omega)
        have e2 := hF1 2 (by decide) (by omega)
        have e3 := hF1 3 (by decide) (by omega)
        have e0 := hF1 0 (by decide) (by omega)
        refine wp_aload_n dX8_lenient_70 rfl ?_
        refine wp_getR dX8_lenient_71 fl_X8_9 rfl rfl r0'' ?_
        refine wp_iload_n dX8_lenient_74 rfl ?_
        refine wp_aload_n dX8_lenient_75 rfl ?_
        refine wp_getR dX8_lenient_76 fl_X8_9 rfl rfl r0'' ?_
        refine wp_iload dX8_lenient_79 rfl ?_
        refine wp_baload dX8_lenient_81 rfl (vp_in_nI (by omega) (by decide)) ?_
        refine wp_bastore dX8_lenient_82 rfl (vp_in_nI (by omega) (by decide)) ?_
        refine wp_aload_n dX8_lenient_83 rfl ?_
        refine wp_getR dX8_lenient_84 fl_X8_17 rfl rfl r2' ?_
        refine wp_iload_n dX8_lenient_87 rfl ?_
        refine wp_iload dX8_lenient_88 rfl ?_
        refine wp_iastore dX8_lenient_90 rfl (vp_in_nI (by omega) (by decide)) ?_
        rw [nI_clamp (show i < 2 ^ 31 by omega), nI_clamp (show K.length < 2 ^ 31 by omega)]
        obtain ⟨M2, hM2⟩ : ∃ M2, M2 = sA (sA M1 1 K.length (vp_nar .byte (aI M1 1 i))) 2 K.length (nI i) := ⟨_, rfl⟩
        rw [← hM2]
        have hE : ∀ p, 4 ≤ p → EqP M1 M2 p := fun p hp => by rw [hM2]; exact (EqP.rf.sA (by omega)).sA (by omega)
        have hX2 := RRx_eq hX1 hE
        have hF2 : FrL (61 - tq) M M2 := by rw [hM2]; exact (hFa.sA (by decide)).sA (by decide)
        have hI2 : LI M M2 tp (61 - tq) (i + 1) (K ++ [(i, tp.getD i 0)]) g s1 := by
          refine ⟨by rw [List.length_append]; show K.length + 1 + _ = _; omega, by omega, h3, h41, hX2, hF2, ?_, ?_, fun j hj => ?_, fun j hj => ?_⟩
          · rw [hM2]; exact (e0.1 1).trans h01
          · rw [hM2]; exact rcD_eq (rcD_eq hD (e0.1 4) e3) rfl ((EqP.rf.sA (by decide)).sA (by decide))
          · rw [List.length_append] at hj
            have hj : j < K.length + 1 := hj
            rw [byts_app, plcs_app, show byts [(i, tp.getD i 0)] = [tp.getD i 0] from rfl, show plcs [(i, tp.getD i 0)] = [i] from rfl, getD_app, getD_app, byts_len, plcs_len, hM2]
            by_cases q : j = K.length
            · subst q
              rw [if_pos rfl, if_pos rfl]
              refine ⟨?_, hb, ?_⟩
              · rw [aI_sA, if_neg (by omega), aI_sA, if_pos ⟨rfl, rfl⟩, vp_nar_byte, bp_b, e1.2.2.1 i, hta i (Nat.le_refl _)]
                exact (htp.2.2 i hil).1
              · rw [aI_sA, if_pos ⟨rfl, rfl⟩]
            · rw [if_neg q, if_neg q, aI_sA, if_neg (by omega), aI_sA, if_neg (by omega), aI_sA, if_neg (by omega), aI_sA, if_neg (by omega), e1.2.2.1 j, e2.2.2.1 j]
              exact hby j (by omega)
          · rw [hM2, aI_sA, if_neg (by omega), aI_sA, if_neg (by omega), e1.2.2.1 j]; exact hta j (by omega)
        have hJ : ∀ w : Int32, w = nI (wlN (byts (K ++ [(i, tp.getD i 0)])) (K ++ [(i, tp.getD i 0)]).length) → Wp (xM E mX8_lenient 6 0 0 SH.length (pLn M tp q o dc)) 0 0 119 [(3, .int w), (4, .int (nI i)), (2, .int (nI (K.length + 1))), (1, .int (nI tp.length)), (0, .ref 0)] [] SH M2 := by
          intro w hw
          refine wp_iinc dX8_lenient_119 rfl (i_inc _) (Nat.le_of_ble_eq_true rfl) ?_
          refine wp_goto (tgt := 29) dX8_lenient_122 (by decide) ?_
          rw [hw]
          have h := ih (i + 1) _ g s1 M2 (by omega) hI2
          rw [show (K ++ [(i, tp.getD i 0)]).length = K.length + 1 by rw [List.length_append]; rfl] at h ⊢
          exact wp_lv h (by repeat (first | exact trivial | refine ⟨rfl, ?_⟩))
        have hwn := wlN_snoc (l := byts K) (x := tp.getD i 0) (s := s1) (by have := h41; rw [byts_app] at this; exact this)
        rw [byts_len] at hwn
        have hln : (K ++ [(i, tp.getD i 0)]).length = K.length + 1 := by rw [List.length_append]; rfl
        refine wp_iinc dX8_lenient_91 rfl (i_inc _) (Nat.le_of_ble_eq_true rfl) ?_
        refine wp_aload_n dX8_lenient_94 rfl ?_
        obtain ⟨r6', r0'', r2', r3'⟩ := g6 hF2
        refine wp_getR dX8_lenient_95 fl_X8_37 rfl rfl r6' ?_
        refine wp_cV0i dX8_lenient_98 ml_X8_66 vX4_isWhole ⟨3, (RX4, TX4, 8), rfl, rfl, rfl⟩ (cX4_isWhole_ E _ s1 M2 hX2 hA1) (Nat.le_of_ble_eq_true rfl) (Nat.le_of_ble_eq_true rfl) (Nat.le_of_ble_eq_true rfl) ?_
        refine wp_if_eq (tgt := 108) dX8_lenient_101 (by decide) (fun c101 => ?_) (fun c101 => ?_)
        · refine wp_iload_n dX8_lenient_108 rfl ?_
          refine wp_istore_n dX8_lenient_109 (Nat.le_of_ble_eq_true rfl) ?_
          have hw := b2i_e0.mp c101
          rw [if_neg hw] at hwn
          refine wp_goto (tgt := 119) dX8_lenient_110 (by decide) ?_
          exact wp_lv (hJ (nI (wlN (byts K) K.length)) (by rw [byts_app, hln]; exact congrArg nI hwn.symm)) (by repeat (first | exact trivial | refine ⟨rfl, ?_⟩))
        · refine wp_iload_n dX8_lenient_104 rfl ?_
          refine wp_goto (tgt := 109) dX8_lenient_105 (by decide) ?_
          refine wp_istore_n dX8_lenient_109 (Nat.le_of_ble_eq_true rfl) ?_
          have hw := b2i_ne.mp c101
          rw [if_pos hw] at hwn
          refine wp_goto (tgt := 119) dX8_lenient_110 (by decide) ?_
          exact wp_lv (hJ (nI (K.length + 1)) (by rw [byts_app, hln]; exact congrArg nI hwn.symm)) (by repeat (first | exact trivial | refine ⟨rfl, ?_⟩))
  refine wp_aload_n dX8_lenient_0 rfl ?_
  refine wp_getI dX8_lenient_1 fl_X8_13 rfl rfl ?_
  refine wp_istore_n dX8_lenient_4 (Nat.le_of_ble_eq_true rfl) ?_
  refine wp_aload_n dX8_lenient_5 rfl ?_
  refine wp_iconst (v := 0) dX8_lenient_6 rfl ?_
  refine wp_putI dX8_lenient_7 fl_X8_13 rfl rfl (fun _ _ _ h => by cases h; rfl) rfl rfl ?_
  refine wp_aload_n dX8_lenient_10 rfl ?_
  refine wp_iconst (v := 0) dX8_lenient_11 rfl ?_
  refine wp_putI dX8_lenient_12 fl_X8_24 rfl rfl (fun _ _ _ h => by cases h; rfl) rfl rfl ?_
  refine wp_iconst (v := 0) dX8_lenient_15 rfl ?_
  refine wp_istore_n dX8_lenient_16 (Nat.le_of_ble_eq_true rfl) ?_
  refine wp_iconst (v := 0) dX8_lenient_17 rfl ?_
  refine wp_istore_n dX8_lenient_18 (Nat.le_of_ble_eq_true rfl) ?_
  refine wp_aload_n dX8_lenient_19 rfl ?_
  refine wp_getR dX8_lenient_20 fl_X8_37 rfl rfl (hC.1.1 (0, 6, 56) (by decide)) ?_
  refine wp_cV0p dX8_lenient_23 ml_X8_59 vX4_begin ⟨3, (RX4, TX4, 8), rfl, rfl, rfl⟩ (cX4_begin_ E (61 - tq) _ hT (by rcases hq3 with rfl | rfl; exact rcTr_eq hC.1.2.2 (fun p h1 h2 => (EqP.rf.sI (by omega)).sI (by omega)); exact rcTr_eq hC.1.2.1 (fun p h1 h2 => (EqP.rf.sI (by omega)).sI (by omega))) hq.2.1) (Nat.le_of_ble_eq_true rfl) (Nat.le_of_ble_eq_true rfl) (Nat.le_of_ble_eq_true rfl) (Nat.le_refl _) (Nat.le_refl _) (fun v sh1 M1 hqq => ?_)
  obtain ⟨rfl, rfl, hF1, hX1⟩ := hqq
  refine wp_iconst (v := 0) dX8_lenient_26 rfl ?_
  refine wp_istore dX8_lenient_27 (Nat.le_of_ble_eq_true rfl) ?_
  rw [htp.1]
  have hF0 : FrL (61 - tq) M (sI (sI M 0 1 0) 0 4 0) := FrL.sI (FrL.sI ⟨fun _ _ _ _ => EqP.rf, fun _ => rfl⟩ (by decide)) (by decide)
  have e1 := hF1 1 (by decide) (by omega)
  have e3 := hF1 3 (by decide) (by omega)
  have e0 := hF1 0 (by decide) (by omega)
  exact wp_lv (loop1 tp.length 0 [] [] r0 _ (by omega) ⟨rfl, Nat.zero_le _, rfl, rfl, hX1, hF0.rd hT hF1, e0.1 1, ⟨e0.1 4, Nat.zero_le _, fun i hi => absurd hi (Nat.not_lt_zero i)⟩, fun j hj => absurd hj (Nat.not_lt_zero j), fun j _ => e1.2.2.1 j⟩) (by repeat (first | exact trivial | refine ⟨rfl, ?_⟩))
