/-! ===== the class: read ===== -/
def rdGo (s : RS) : List Nat → Nat → Nat × Option RS
  | [], i => if rWhole s then (i, some s) else (i, none)
  | b :: r, i => match dl s b with
    | none => (i, none)
    | some s1 => rdGo s1 r (i + 1)
def rdS (tp : List Nat) : Nat × Option RS := rdGo r0 tp 0
abbrev QQ : Type := Nat × (Nat → ND)
def rdV (tp : List Nat) : Int32 := match rdS tp with
  | (i, none) => -200 - nI i
  | (_, some s) => nI (qCn s)
def rdQ (tp : List Nat) (q : QQ) : QQ := match rdS tp with
  | (_, none) => q
  | (_, some s) => (qCn s, qNd s)
def rcQ (M : Mem) (tq : Nat) (q : QQ) : Prop := fR M 0 5 = some tq ∧ fR M 56 0 = some (61 - tq) ∧ (tq = 4 ∨ tq = 57) ∧ cTree M tq q.1 q.2
def RC (M : Mem) (tp gn : List Nat) (q : QQ) (o : Option (List Nat)) (dc : Nat → List (List Nat)) : Prop := rcG M ∧ rcT M tp ∧ rcD M gn ∧ (∃ tq, rcQ M tq q) ∧ rcO M o ∧ rcW M dc
theorem cTree_eq {M M1 : Mem} {T n : Nat} {nd : Nat → ND} (h : cTree M T n nd) (k : ∀ p, T ≤ p → p < T + 52 → EqP M M1 p) : cTree M1 T n nd :=
  cTree_keep h ((k T (by omega) (by omega)).1 1) (fun j hj => ⟨fun f => (k _ (by omega) (by omega)).1 f, fun i => (k _ (by omega) (by omega)).2.2.2.1 i⟩)
theorem rcTr_eq {M M1 : Mem} {T : Nat} (h : rcTr M T) (k : ∀ p, T ≤ p → p < T + 52 → EqP M M1 p) : rcTr M1 T :=
  ⟨((k T (by omega) (by omega)).2.1 0).trans h.1, fun j hj => ((k _ (by omega) (by omega)).2.2.2.2 j).trans (h.2.1 j hj), fun j hj => ((k _ (by omega) (by omega)).2.1 7).trans (h.2.2 j hj)⟩
theorem rcT_eq {M M1 : Mem} {tp : List Nat} (h : rcT M tp) (h0 : fI M1 0 1 = fI M 0 1) (k : EqP M M1 1) : rcT M1 tp := ⟨h0.trans h.1, h.2.1, fun i hi => by rw [k.2.2.1 i]; exact h.2.2 i hi⟩
theorem rcD_eq {M M1 : Mem} {gn : List Nat} (h : rcD M gn) (h0 : fI M1 0 4 = fI M 0 4) (k : EqP M M1 3) : rcD M1 gn := ⟨h0.trans h.1, h.2.1, fun i hi => by rw [k.2.2.1 i]; exact h.2.2 i hi⟩
theorem rcO_eq {M M1 : Mem} {o : Option (List Nat)} (h : rcO M o) (k : ∀ p, 111 ≤ p → p < 121 → EqP M M1 p) : rcO M1 o :=
  ⟨((k 111 (by decide) (by decide)).1 1).trans h.1, fun l hl => ⟨(h.2 l hl).1, fun i hi => by rw [(k 112 (by decide) (by decide)).2.2.1 i]; exact (h.2 l hl).2 i hi⟩⟩
theorem rcW_eq {M M1 : Mem} {dc : Nat → List (List Nat)} (h : rcW M dc) (k : ∀ p, 111 ≤ p → p < 121 → EqP M M1 p) : rcW M1 dc := fun r hr =>
  ⟨((k 116 (by decide) (by decide)).2.2.1 r).trans (h r hr).1, (h r hr).2.1, fun p hp => ((k 115 (by decide) (by decide)).2.2.2.1 _).trans ((h r hr).2.2 p hp)⟩
theorem gCL_eq {M M1 : Mem} (h : ∀ q ∈ gCL, fR M q.1 q.2.1 = some q.2.2) (h0 : ∀ f, f ≠ 5 → fR M1 0 f = fR M 0 f) (k : ∀ p, 111 ≤ p → p < 121 → EqP M M1 p) : ∀ q ∈ gCL, fR M1 q.1 q.2.1 = some q.2.2 := by
  intro q hq
  have hh := h q hq
  rw [← hh]
  simp only [gCL, List.mem_cons, List.not_mem_nil, or_false] at hq
  rcases hq with rfl | rfl | rfl | rfl | rfl | rfl | rfl | rfl | rfl | rfl | rfl | rfl | rfl | rfl
  · exact h0 0 (by decide)
  · exact h0 2 (by decide)
  · exact h0 3 (by decide)
  · exact h0 6 (by decide)
  · exact h0 7 (by decide)
  · exact h0 8 (by decide)
  · exact h0 9 (by decide)
  all_goals exact (k _ (by decide) (by decide)).2.1 _
/-- reading in the other tree leaves all else as it is -/
theorem RC_rd {M M1 : Mem} {tp gn : List Nat} {q : QQ} {o : Option (List Nat)} {dc : Nat → List (List Nat)} {tq : Nat} {s : RS} (h : RC M tp gn q o dc) (hq : rcQ M tq q) (hF : FrT (61 - tq) M M1) (hR : RR M1 (61 - tq) s) : RC M1 tp gn q o dc ∧ rcQ M1 tq q := by
  obtain ⟨⟨hg1, hg2, hg3⟩, ht, hd, -, ho, hw⟩ := h
  obtain ⟨q1, q2, q3, q4⟩ := hq
  have e0 : EqP M M1 0 := hF 0 (by decide) (by omega)
  have hq' : rcQ M1 tq q := ⟨(e0.2.1 5).trans q1, hR.1, q3, cTree_eq q4 (fun p h1 h2 => hF p (by omega) (by omega))⟩
  refine ⟨⟨⟨gCL_eq hg1 (fun f _ => e0.2.1 f) (fun p h1 h2 => hF p (by omega) (by omega)), ?_, ?_⟩, rcT_eq ht (e0.1 1) (hF 1 (by decide) (by omega)), rcD_eq hd (e0.1 4) (hF 3 (by decide) (by omega)), ⟨tq, hq'⟩, rcO_eq ho (fun p h1 h2 => hF p (by omega) (by omega)), rcW_eq hw (fun p h1 h2 => hF p (by omega) (by omega))⟩, hq'⟩
  · rcases q3 with rfl | rfl
    · exact rcTr_eq hg2 (fun p h1 h2 => hF p (by omega) (by omega))
    · exact hR.2.2.1
  · rcases q3 with rfl | rfl
    · exact hR.2.2.1
    · exact rcTr_eq hg3 (fun p h1 h2 => hF p (by omega) (by omega))
/-- the trees change places -/
theorem RC_ad {M : Mem} {tp gn : List Nat} {q : QQ} {o : Option (List Nat)} {dc : Nat → List (List Nat)} {tq : Nat} {s : RS} (h : RC M tp gn q o dc) (hq : rcQ M tq q) (hR : RR M (61 - tq) s) : RC (sR (sR M 56 0 (some tq)) 0 5 (some (61 - tq))) tp gn (qCn s, qNd s) o dc := by
  obtain ⟨⟨hg1, hg2, hg3⟩, ht, hd, -, ho, hw⟩ := h
  obtain ⟨q1, q2, q3, q4⟩ := hq
  have hE : ∀ p, p ≠ 0 → p ≠ 56 → EqP M (sR (sR M 56 0 (some tq)) 0 5 (some (61 - tq))) p := fun p h1 h2 => (EqP.rf.sR h2).sR h1
  refine ⟨⟨gCL_eq hg1 (fun f hf => ?_) (fun p h1 h2 => hE p (by omega) (by omega)), rcTr_eq hg2 (fun p h1 h2 => hE p (by omega) (by omega)), rcTr_eq hg3 (fun p h1 h2 => hE p (by omega) (by omega))⟩, rcT_eq ht rfl (hE 1 (by decide) (by decide)), rcD_eq hd rfl (hE 3 (by decide) (by decide)), ⟨61 - tq, rfl, ?_, by omega, cTree_eq hR.2.2.2.2.2.2 (fun p h1 h2 => hE p (by omega) (by omega))⟩, rcO_eq ho (fun p h1 h2 => hE p (by omega) (by omega)), rcW_eq hw (fun p h1 h2 => hE p (by omega) (by omega))⟩
  · simp only [fR_sR]; rw [if_neg (fun e => hf e.2), if_neg (by omega)]
  · show some tq = some (61 - (61 - tq))
    congr 1; omega
def pRd (M : Mem) (tp gn : List Nat) (q : QQ) (o : Option (List Nat)) (dc : Nat → List (List Nat)) : PT := fun v sh1 M1 => sh1 = SH ∧ v = some (.int (rdV tp)) ∧ RC M1 [] gn (rdQ tp q) o dc ∧ ∀ p, 121 ≤ p → EqP M M1 p
theorem rc_len0 {M : Mem} {tp gn : List Nat} {q : QQ} {o : Option (List Nat)} {dc : Nat → List (List Nat)} (h : RC M tp gn q o dc) : RC (sI M 0 1 0) [] gn q o dc := by
  obtain ⟨⟨hg1, hg2, hg3⟩, ht, hd, ⟨tq, q1, q2, q3, q4⟩, ho, hw⟩ := h
  have hE : ∀ p, p ≠ 0 → EqP M (sI M 0 1 0) p := fun p h1 => EqP.rf.sI h1
  exact ⟨⟨hg1, hg2, hg3⟩, ⟨rfl, Nat.zero_le _, fun i hi => absurd hi (Nat.not_lt_zero _)⟩, hd, ⟨tq, q1, q2, q3, cTree_eq q4 (fun p h1 h2 => hE p (by omega))⟩, rcO_eq ho (fun p h1 h2 => hE p (by omega)), hw⟩
theorem drop_cons {tp : List Nat} {i : Nat} (h : i < tp.length) : tp.drop i = tp.getD i 0 :: tp.drop (i + 1) := by
  rw [List.drop_eq_getElem_cons h, List.getD_eq_getElem?_getD, List.getElem?_eq_getElem h]; rfl
set_option maxRecDepth 100000 in
set_option maxHeartbeats 4000000 in
theorem cX8_adopt_ (E : GE) (T Q : Nat) (M : Mem) (hT : T = 4 ∨ T = 57) (h1 : fR M 0 6 = some 56) (h2 : fR M 0 5 = some Q) (h3 : fR M 56 0 = some T) : Sp E mX8_adoptReading 1 0 0 [.ref 0] SH M (RV (some (.int (fI M T 1))) SH (sR (sR M 56 0 (some Q)) 0 5 (some T))) := by
  refine sp_of vX8_adoptReading.1 rfl (Nat.le_of_ble_eq_true rfl) ?_
  refine wp_aload_n dX8_adoptReading_0 rfl ?_
  refine wp_aload_n dX8_adoptReading_1 rfl ?_
  refine wp_getR dX8_adoptReading_2 fl_X8_37 rfl rfl h1 ?_
  refine wp_aload_n dX8_adoptReading_5 rfl ?_
  refine wp_getR dX8_adoptReading_6 fl_X8_30 rfl rfl h2 ?_
  refine wp_cV1a dX8_adoptReading_9 ml_X8_78 vX4_exchange ⟨3, (RX4, TX4, 8), rfl, rfl, rfl⟩ (cX4_exchange_ E T Q M h3) (Nat.le_of_ble_eq_true rfl) (Nat.le_of_ble_eq_true rfl) (Nat.le_of_ble_eq_true rfl) ?_
  refine wp_putR dX8_adoptReading_12 fl_X8_30 rfl rfl (fun _ _ _ h => by cases h; rfl) (fun _ => rfl) (fun _ => rfl) ?_
  refine wp_aload_n dX8_adoptReading_15 rfl ?_
  refine wp_getR dX8_adoptReading_16 fl_X8_30 rfl rfl rfl ?_
  refine wp_getI dX8_adoptReading_19 fl_X8_82 (sh_T hT).1 rfl ?_
  refine wp_ireturn dX8_adoptReading_22 rfl rfl (Nat.zero_le _) (Nat.zero_le _) ?_
  exact ⟨rfl, rfl, rfl⟩
set_option maxRecDepth 100000 in
set_option maxHeartbeats 4000000 in
theorem cX8_read_ (E : GE) (tp gn : List Nat) (q : QQ) (o : Option (List Nat)) (dc : Nat → List (List Nat)) (M : Mem) (hC : RC M tp gn q o dc) : Sp E mX8_read 6 0 0 [.ref 0] SH M (pRd M tp gn q o dc) := by
  refine sp_of vX8_read.1 rfl (Nat.le_of_ble_eq_true rfl) ?_
  obtain ⟨tq, hq⟩ := hC.2.2.2.1
  have hq3 := hq.2.2.1
  have hT : 61 - tq = 4 ∨ 61 - tq = 57 := by omega
  have htp := hC.2.1
  have hl := htp.2.1
  have hC0 := rc_len0 hC
  have hq0 : rcQ (sI M 0 1 0) tq q := ⟨hq.1, hq.2.1, hq3, cTree_eq hq.2.2.2 (fun p h1 h2 => EqP.rf.sI (by omega))⟩
  have hrd : ∀ {M1 : Mem}, FrT (61 - tq) (sI M 0 1 0) M1 → fR M1 0 6 = some 56 ∧ fR M1 0 0 = some 1 ∧ (∀ i, aI M1 1 i = aI M 1 i) ∧ ∀ p, 121 ≤ p → EqP M M1 p := fun hF =>
    ⟨((hF 0 (by decide) (by omega)).2.1 6).trans (hC.1.1 (0, 6, 56) (by decide)), ((hF 0 (by decide) (by omega)).2.1 0).trans (hC.1.1 (0, 0, 1) (by decide)), fun i => (hF 1 (by decide) (by omega)).2.2.1 i, fun p hp => (EqP.rf.sI (by omega)).tr (hF p (by omega) (by omega))⟩
  have loop : ∀ (r i : Nat) (s : RS) (M1 : Mem), i + r = tp.length → FrT (61 - tq) (sI M 0 1 0) M1 → RRx M1 (61 - tq) s → aOk s → rdS tp = rdGo s (tp.drop i) i → Wp (xM E mX8_read 6 0 0 SH.length (pRd M tp gn q o dc)) 0 0 19 [(2, .int (nI i)), (1, .int (nI tp.length)), (0, .ref 0)] [] SH M1 := by
    intro r
    induction r with
    | zero =>
      intro i s M1 hi hF hX hA hrs
      obtain ⟨r6, r0', ra, rE⟩ := hrd hF
      have hi : i = tp.length := by omega
      subst hi
      have hrs : rdS tp = rdGo s [] tp.length := by rw [hrs, List.drop_length]
      obtain ⟨hC1, hq1⟩ := RC_rd hC0 hq0 hF hX.1
      refine wp_iload_n dX8_read_19 rfl ?_
      refine wp_iload_n dX8_read_20 rfl ?_
      refine wp_icmp_ge (tgt := 63) dX8_read_21 (by decide) (fun c21 => ?_) (fun c21 => absurd (Int32.le_refl _) c21)
      refine wp_aload_n dX8_read_63 rfl ?_
      refine wp_getR dX8_read_64 fl_X8_37 rfl rfl r6 ?_
      refine wp_cV0i dX8_read_67 ml_X8_66 vX4_isWhole ⟨3, (RX4, TX4, 8), rfl, rfl, rfl⟩ (cX4_isWhole_ E _ s M1 hX hA) (Nat.le_of_ble_eq_true rfl) (Nat.le_of_ble_eq_true rfl) (Nat.le_of_ble_eq_true rfl) ?_
      refine wp_if_eq (tgt := 80) dX8_read_70 (by decide) (fun c70 => ?_) (fun c70 => ?_)
      · refine wp_sipush (v := (-200)) dX8_read_80 (by decide) ?_
        refine wp_iload_n dX8_read_83 rfl ?_
        refine wp_isub dX8_read_84 ?_
        refine wp_ireturn dX8_read_85 rfl rfl (Nat.zero_le _) (Nat.zero_le _) ?_
        first
          | (have hw := b2i_ne.mp c70
             have e : rdS tp = (tp.length, some s) := by rw [hrs]; exact if_pos hw
             refine ⟨rfl, ?_, ?_, fun p hp => (rE p hp).tr ((EqP.rf.sR (by omega)).sR (by omega))⟩
             · unfold rdV; rw [e]; exact congrArg (fun z => some (Value.int z)) hX.1.2.2.2.2.2.2.1
             · unfold rdQ; rw [e]; exact RC_ad hC1 hq1 hX.1)
          | (have hw := b2i_e0.mp c70
             have e : rdS tp = (tp.length, none) := by rw [hrs]; exact if_neg hw
             refine ⟨rfl, ?_, ?_, rE⟩
             · unfold rdV; rw [e]
             · unfold rdQ; rw [e]; exact hC1)
      · refine wp_aload_n dX8_read_73 rfl ?_
        refine wp_cV0i dX8_read_74 ml_X8_70 vX8_adoptReading ⟨7, (RX8, TX8, 10), rfl, rfl, rfl⟩ (cX8_adopt_ E (61 - tq) tq M1 hT r6 hq1.1 hX.1.1) (Nat.le_of_ble_eq_true rfl) (Nat.le_of_ble_eq_true rfl) (Nat.le_of_ble_eq_true rfl) ?_
        refine wp_goto (tgt := 85) dX8_read_77 (by decide) ?_
        refine wp_ireturn dX8_read_85 rfl rfl (Nat.zero_le _) (Nat.zero_le _) ?_
        first
          | (have hw := b2i_ne.mp c70
             have e : rdS tp = (tp.length, some s) := by rw [hrs]; exact if_pos hw
             refine ⟨rfl, ?_, ?_, fun p hp => (rE p hp).tr ((EqP.rf.sR (by omega)).sR (by omega))⟩
             · unfold rdV; rw [e]; exact congrArg (fun z => some (Value.int z)) hX.1.2.2.2.2.2.2.1
             · unfold rdQ; rw [e]; exact RC_ad hC1 hq1 hX.1)
          | (have hw := b2i_e0.mp c70
             have e : rdS tp = (tp.length, none) := by rw [hrs]; exact if_neg hw
             refine ⟨rfl, ?_, ?_, rE⟩
             · unfold rdV; rw [e]
             · unfold rdQ; rw [e]; exact hC1)
    | succ r ih =>
      intro i s M1 hi hF hX hA hrs
      obtain ⟨r6, r0', ra, rE⟩ := hrd hF
      have hil : i < tp.length := by omega
      have hb := (htp.2.2 i hil).2
      have hby : aI M1 1 (nI i).toNatClampNeg &&& 255 = nI (tp.getD i 0) := by rw [nI_clamp (by omega), ra]; exact (htp.2.2 i hil).1
      rw [drop_cons hil] at hrs
      refine wp_iload_n dX8_read_19 rfl ?_
      refine wp_iload_n dX8_read_20 rfl ?_
      refine wp_icmp_ge (tgt := 63) dX8_read_21 (by decide) (fun c21 => absurd c21 (nI_ge hil (by omega))) (fun c21 => ?_)
      refine wp_iload_n dX8_read_24 rfl ?_
      refine wp_sipush (v := 240) dX8_read_25 (by decide) ?_
      refine wp_icmp_ge (tgt := 63) dX8_read_28 (by decide) (fun c28 => absurd c28 (nI_ge (b := 240) (by omega) (by decide))) (fun c28 => ?_)
      refine wp_aload_n dX8_read_31 rfl ?_
      refine wp_getR dX8_read_32 fl_X8_37 rfl rfl r6 ?_
      refine wp_aload_n dX8_read_35 rfl ?_
      refine wp_getR dX8_read_36 fl_X8_9 rfl rfl r0' ?_
      refine wp_iload_n dX8_read_39 rfl ?_
      refine wp_baload dX8_read_40 rfl (vp_in_nI (by omega) (by decide)) ?_
      refine wp_sipush (v := 255) dX8_read_41 (by decide) ?_
      refine wp_iand dX8_read_44 ?_
      rw [hby]
      refine wp_cV1p dX8_read_45 ml_X8_62 vX4_takes ⟨3, (RX4, TX4, 8), rfl, rfl, rfl⟩ (cX4_takes_ E _ s M1 hX hA _ hb) (Nat.le_of_ble_eq_true rfl) (Nat.le_of_ble_eq_true rfl) (Nat.le_of_ble_eq_true rfl) (Nat.le_refl _) (Nat.le_refl _) (fun v sh1 M1 hqq => ?_)
      obtain ⟨rfl, rfl, hF1, hN1, hS1⟩ := hqq
      refine wp_if_ne (tgt := 57) dX8_read_48 (by decide) (fun c48 => ?_) (fun c48 => ?_)
      · refine wp_iinc dX8_read_57 rfl (i_inc _) (Nat.le_of_ble_eq_true rfl) ?_
        refine wp_goto (tgt := 19) dX8_read_60 (by decide) ?_
        have hsm := b2i_ne.mp c48
        obtain ⟨s1, hs1⟩ := Option.isSome_iff_exists.mp hsm
        exact wp_lv (ih (i + 1) s1 _ (by omega) (hF.tr hF1) (hS1 s1 hs1) (aOk_dl hA hs1) (by rw [hrs]; show (match dl s (tp.getD i 0) with | none => (i, none) | some s1 => rdGo s1 (tp.drop (i + 1)) (i + 1)) = _; rw [hs1])) (by repeat (first | exact trivial | refine ⟨rfl, ?_⟩))
      · refine wp_sipush (v := (-200)) dX8_read_51 (by decide) ?_
        refine wp_iload_n dX8_read_54 rfl ?_
        refine wp_isub dX8_read_55 ?_
        refine wp_ireturn dX8_read_56 rfl rfl (Nat.zero_le _) (Nat.zero_le _) ?_
        have hno : dl s (tp.getD i 0) = none := by
          have h0 := b2i_e0.mp c48
          cases h : dl s (tp.getD i 0) with
          | none => rfl
          | some x => exact absurd (by rw [h]; rfl) h0
        have e : rdS tp = (i, none) := by
          rw [hrs]
          show (match dl s (tp.getD i 0) with | none => (i, none) | some s1 => rdGo s1 (tp.drop (i + 1)) (i + 1)) = _
          rw [hno]
        rw [hN1 hno]
        refine ⟨rfl, ?_, ?_, rE⟩
        · unfold rdV; rw [e]
        · unfold rdQ; rw [e]; exact (RC_rd hC0 hq0 hF hX.1).1
  refine wp_aload_n dX8_read_0 rfl ?_
  refine wp_getI dX8_read_1 fl_X8_13 rfl rfl ?_
  refine wp_istore_n dX8_read_4 (Nat.le_of_ble_eq_true rfl) ?_
  refine wp_aload_n dX8_read_5 rfl ?_
  refine wp_iconst (v := 0) dX8_read_6 rfl ?_
  refine wp_putI dX8_read_7 fl_X8_13 rfl rfl (fun _ _ _ h => by cases h; rfl) rfl rfl ?_
  refine wp_aload_n dX8_read_10 rfl ?_
  refine wp_getR dX8_read_11 fl_X8_37 rfl rfl (hC.1.1 (0, 6, 56) (by decide)) ?_
  refine wp_cV0p dX8_read_14 ml_X8_59 vX4_begin ⟨3, (RX4, TX4, 8), rfl, rfl, rfl⟩ (cX4_begin_ E (61 - tq) _ hT (by rcases hq3 with rfl | rfl; exact hC.1.2.2; exact hC.1.2.1) hq.2.1) (Nat.le_of_ble_eq_true rfl) (Nat.le_of_ble_eq_true rfl) (Nat.le_of_ble_eq_true rfl) (Nat.le_refl _) (Nat.le_refl _) (fun v sh1 M1 hqq => ?_)
  obtain ⟨rfl, rfl, hF1, hX1⟩ := hqq
  refine wp_iconst (v := 0) dX8_read_17 rfl ?_
  refine wp_istore_n dX8_read_18 (Nat.le_of_ble_eq_true rfl) ?_
  rw [htp.1]
  exact wp_lv (loop tp.length 0 r0 _ (by omega) hF1 hX1 aOk_r0 rfl) (by repeat (first | exact trivial | refine ⟨rfl, ?_⟩))
