/-! ===== the class prints: all ===== -/
theorem opk_chn {nd : Nat → ND} {n k : Nat} (h0 : rt (nd 0)) (hT : TreeOk nd n) (hk : k < n) (hn : n ≤ 25) : (∃ d, chn nd d (opk nd k)) ∧ opk nd k ≤ k := by
  by_cases e : k = 0
  · subst e
    have : opk nd 0 = 0 := by unfold opk; rw [if_pos h0.1]
    rw [this]; exact ⟨⟨0, rfl⟩, Nat.le_refl _⟩
  · obtain ⟨a, d, m, p1, p2, p3, p4, -⟩ := hT k (by omega) hk
    by_cases c : nCo (nd k) = 3
    · have : opk nd k = k := by unfold opk; rw [if_pos c]
      rw [this]; exact ⟨⟨d + 1, by omega, c, a, p1, p2, p4⟩, Nat.le_refl _⟩
    · have : opk nd k = a := by unfold opk; rw [if_neg c]; exact par_n p2 (by omega)
      rw [this]; exact ⟨⟨d, p4⟩, by omega⟩
theorem pT_s {nd : Nat → ND} {k : Nat} (h : 1 ≤ k) : pT nd (k + 1) = pT nd k ++ nodS nd k := if_neg (by omega)
set_option maxRecDepth 100000 in
set_option maxHeartbeats 4000000 in
theorem cX5_write_ (E : GE) (T n : Nat) (nd : Nat → ND) (M : Mem) (hr : fR M 111 0 = some 112) (hct : CT M T n nd) (hn1 : 1 ≤ n) (hopl : opk nd (n - 1) < n) (hlast : ∃ m, m ≤ 5 ∧ anc nd m (opk nd (n - 1)) 0) (hlen : (prS nd n).length ≤ 240) : Sp E mX5_write 5 0 0 [.ref 111, .ref T] SH M (fun v sh1 M1 => sh1 = SH ∧ v = some (.int (nI (prS nd n).length)) ∧ sF M M1 ∧ rcO M1 (some (prS nd n))) := by
  refine sp_of vX5_write.1 rfl (Nat.le_of_ble_eq_true rfl) ?_
  have hT := hct.1
  have hn25 := hct.2.2.2.1
  have hTO := hct.2.2.2.2.1
  have hrt := hct.2.2.2.2.2.1
  have hnk := hct.2.2.2.2.2.2.1
  have hpre : ∀ k, k ≤ n → (pT nd k).length ≤ 240 := fun k hk => by
    have h1 := pT_pre nd n k hk
    have h2 : (pT nd n).length ≤ (prS nd n).length := by unfold prS; rw [List.length_append]; omega
    omega
  have loop : ∀ (r k : Nat) (M1 : Mem), k + r = n → 1 ≤ k → sF M M1 → rcO M1 (some (pT nd k)) → Wp (xM E mX5_write 5 0 0 SH.length (fun v sh1 M1 => sh1 = SH ∧ v = some (.int (nI (prS nd n).length)) ∧ sF M M1 ∧ rcO M1 (some (prS nd n)))) 0 0 9 [(3, .int (nI k)), (2, .int (nI (opk nd (k - 1)))), (1, .ref T), (0, .ref 111)] [] SH M1 := by
    intro r
    induction r with
    | zero =>
      intro k M1 hk h1 hF0 hO0
      have hk : k = n := by omega
      subst hk
      have hct1 := hct.fr hF0
      have hr0 := (hF0.2.2.2.1 111 0).trans hr
      have ec : fI M1 T 1 = nI k := hct1.2.2.1.1
      obtain ⟨m, hm5, hanc⟩ := hlast
      have hst : stp nd 5 (opk nd (k - 1)) 0 = m := stp_anc m 5 _ 0 hanc hm5 (by omega)
      have epr : prS nd k = pT nd k ++ cL nd m (opk nd (k - 1)) := by unfold prS; rw [hst]
      refine wp_iload_n dX5_write_9 rfl ?_
      refine wp_aload_n dX5_write_10 rfl ?_
      refine wp_getI dX5_write_11 fl_X5_19 (sh_T hT).1 rfl ?_
      rw [ec]
      refine wp_icmp_ge (tgt := 103) dX5_write_14 (by decide) (fun c14 => ?_) (fun c14 => absurd (Int32.le_refl _) c14)
      refine wp_aload_n dX5_write_103 rfl ?_
      refine wp_aload_n dX5_write_104 rfl ?_
      refine wp_iload_n dX5_write_105 rfl ?_
      refine wp_iconst (v := 0) dX5_write_106 rfl ?_
      refine wp_cV3p dX5_write_107 ml_X5_33 vX5_closeGroups ⟨4, (RX5, TX5, 2), rfl, rfl, rfl⟩ (cX5_closeGroups_ E T k nd (opk nd (k - 1)) 0 m (pT nd k) M1 hr0 hO0 hct1 hopl (opk_chn hrt hTO (by omega) hn25).1 hanc hm5 (by rw [← epr]; exact hlen)) (Nat.le_of_ble_eq_true rfl) (Nat.le_of_ble_eq_true rfl) (Nat.le_of_ble_eq_true rfl) (Nat.le_refl _) (Nat.le_refl _) (fun v sh1 M1 hqq => ?_)
      obtain ⟨rfl, rfl, hF1, hO1⟩ := hqq
      refine wp_pop dX5_write_110 rfl ?_
      refine wp_aload_n dX5_write_111 rfl ?_
      refine wp_getI dX5_write_112 fl_X5_15 rfl rfl ?_
      refine wp_ireturn dX5_write_115 rfl rfl (Nat.zero_le _) (Nat.zero_le _) ?_
      rw [← epr] at hO1
      rw [show fI M1 111 1 = nI (prS nd k).length from hO1.1]
      exact ⟨rfl, rfl, hF0.tr hF1, hO1⟩
    | succ r ih =>
      intro k M1 hk h1 hF0 hO0
      have hkn : k < n := by omega
      have hct1 := hct.fr hF0
      have hr0 := (hF0.2.2.2.1 111 0).trans hr
      have ec : fI M1 T 1 = nI n := hct1.2.2.1.1
      obtain ⟨a, d, m, p1, p2, p3, p4, p5, p6, p7, p8⟩ := hTO k h1 hkn
      have hcx := hct1.cx hkn
      have hx := hnk k h1 hkn
      have hw := hct.2.2.2.2.2.2.2 k hkn
      have ea : par nd k = a := par_n p2 (by omega)
      have hst : stp nd 5 (opk nd (k - 1)) (par nd k) = m := by rw [ea]; exact stp_anc m 5 _ a p7 p5 (by omega)
      have hopn := opk_chn hrt hTO (show k - 1 < n by omega) hn25
      have f6 : ∀ {M2 : Mem}, sF M1 M2 → fI M2 (T + 2 + 2 * k) 6 = nI a := fun q => (hcx.fr q).2.2.2.2.2.2.2.2.2.1.trans p2
      have f0 : ∀ {M2 : Mem}, sF M1 M2 → fI M2 (T + 2 + 2 * k) 0 = nCo (nd k) := fun q => (hcx.fr q).2.2.2.1
      have f2 : ∀ {M2 : Mem}, sF M1 M2 → fI M2 (T + 2 + 2 * k) 2 = nBo (nd k) := fun q => (hcx.fr q).2.2.2.2.2.1
      have hpk := hpre (k + 1) hkn
      have enod : pT nd (k + 1) = pT nd k ++ cL nd m (opk nd (k - 1)) ++ (if a = k - 1 then [] else [32]) ++ headS (nd k) ++ bodS (nd k) := by
        rw [pT_s h1]; unfold nodS; rw [hst, ea]; simp only [List.append_assoc]
      rw [enod] at hpk
      obtain ⟨l1, hl1⟩ : ∃ l1, l1 = pT nd k ++ cL nd m (opk nd (k - 1)) := ⟨_, rfl⟩
      obtain ⟨l2, hl2⟩ : ∃ l2, l2 = l1 ++ (if a = k - 1 then [] else [32]) := ⟨_, rfl⟩
      obtain ⟨l3, hl3⟩ : ∃ l3, l3 = l2 ++ headS (nd k) := ⟨_, rfl⟩
      rw [← hl1, ← hl2, ← hl3] at hpk enod
      have hl3b : l3.length + (bodS (nd k)).length ≤ 240 := by rw [List.length_append] at hpk; exact hpk
      have hl2b : l2.length + (headS (nd k)).length ≤ 240 := by rw [hl3, List.length_append] at hl3b; omega
      have hl1b : l1.length ≤ 240 := by rw [hl2, List.length_append] at hl2b; omega
      obtain ⟨bn, hbn, hbo⟩ := hx.1.2.1
      have eo : opk nd k = if nCo (nd k) = 3 then k else a := by
        unfold opk
        split
        · rfl
        · exact ea
      have J53 : ∀ (M2 : Mem), sF M1 M2 → rcO M2 (some l2) → Wp (xM E mX5_write 5 0 0 SH.length (fun v sh1 M1 => sh1 = SH ∧ v = some (.int (nI (prS nd n).length)) ∧ sF M M1 ∧ rcO M1 (some (prS nd n)))) 0 0 53 [(4, .ref (T + 2 + 2 * k)), (2, .int (nI a)), (3, .int (nI k)), (1, .ref T), (0, .ref 111)] [] SH M2 := by
        intro M2 hFz hO0
        have hr0 := (hFz.2.2.2.1 111 0).trans hr0
        refine wp_aload_n dX5_write_53 rfl ?_
        refine wp_aload dX5_write_54 rfl ?_
        refine wp_cV1p dX5_write_56 ml_X5_41 vX5_putHead ⟨4, (RX5, TX5, 2), rfl, rfl, rfl⟩ (cX5_putHead_ E (T + 2 + 2 * k) (nd k) l2 M2 hr0 hO0 (hcx.fr hFz) hx hl2b) (Nat.le_of_ble_eq_true rfl) (Nat.le_of_ble_eq_true rfl) (Nat.le_of_ble_eq_true rfl) (Nat.le_refl _) (Nat.le_refl _) (fun v sh1 M1 hqq => ?_)
        obtain ⟨rfl, rfl, hF1, hO1⟩ := hqq
        have hr1 := (hF1.2.2.2.1 111 0).trans hr0
        rw [← hl3] at hO1
        refine wp_aload dX5_write_59 rfl ?_
        refine wp_getI dX5_write_61 fl_X5_45 hcx.1.1 rfl ?_
        refine wp_iconst (v := 3) dX5_write_64 rfl ?_
        rw [f0 (hFz.tr hF1)]
        refine wp_icmp_ne (tgt := 79) dX5_write_65 (by decide) (fun c65 => ?_) (fun c65 => ?_)
        · have eb : bodS (nd k) = coreS (nd k) ++ told 94 (nBo (nd k)) 1 := by unfold bodS; rw [if_neg c65]
          rw [eb] at hl3b enod
          rw [List.length_append] at hl3b
          have hA : (l3 ++ coreS (nd k)).length = l3.length + (coreS (nd k)).length := List.length_append
          refine wp_aload_n dX5_write_79 rfl ?_
          refine wp_aload dX5_write_80 rfl ?_
          refine wp_cV1p dX5_write_82 ml_X5_48 vX5_putCore ⟨4, (RX5, TX5, 2), rfl, rfl, rfl⟩ (cX5_putCore_ E (T + 2 + 2 * k) (nd k) l3 _ hr1 hO1 (hcx.fr (hFz.tr hF1)) hx hw c65 (by omega)) (Nat.le_of_ble_eq_true rfl) (Nat.le_of_ble_eq_true rfl) (Nat.le_of_ble_eq_true rfl) (Nat.le_refl _) (Nat.le_refl _) (fun v sh1 M1 hqq => ?_)
          obtain ⟨rfl, rfl, hF2, hO2⟩ := hqq
          have hr2 := (hF2.2.2.2.1 111 0).trans hr1
          refine wp_aload_n dX5_write_85 rfl ?_
          refine wp_bipush (v := 94) dX5_write_86 (by decide) ?_
          refine wp_aload dX5_write_88 rfl ?_
          refine wp_getI dX5_write_90 fl_X5_51 hcx.1.1 rfl ?_
          refine wp_iconst (v := 1) dX5_write_93 rfl ?_
          rw [f2 ((hFz.tr hF1).tr hF2)]
          refine wp_cV3p dX5_write_94 ml_X5_54 vX5_putTold ⟨4, (RX5, TX5, 2), rfl, rfl, rfl⟩ (cX5_putTold_ E 94 (nBo (nd k)) 1 (l3 ++ coreS (nd k)) _ hr2 hO2 (by decide) (fun _ => ⟨bn, hbn, hbo⟩) (by omega)) (Nat.le_of_ble_eq_true rfl) (Nat.le_of_ble_eq_true rfl) (Nat.le_of_ble_eq_true rfl) (Nat.le_refl _) (Nat.le_refl _) (fun v sh1 M1 hqq => ?_)
          obtain ⟨rfl, rfl, hF3, hO3⟩ := hqq
          have hr3 := (hF3.2.2.2.1 111 0).trans hr2
          refine wp_iinc dX5_write_97 rfl (i_inc _) (Nat.le_of_ble_eq_true rfl) ?_
          refine wp_goto (tgt := 9) dX5_write_100 (by decide) ?_
          rw [List.append_assoc, ← enod] at hO3
          have h := ih (k + 1) _ (by omega) (by omega) (((hF0.tr hFz).tr hF1).tr (hF2.tr hF3)) hO3
          rw [Nat.add_sub_cancel, eo, if_neg c65] at h
          exact wp_lv h (by repeat (first | exact trivial | refine ⟨rfl, ?_⟩))
        · have eb : bodS (nd k) = [40] := by unfold bodS; rw [if_pos c65]
          rw [eb] at hl3b enod
          have hl3c : l3.length + 1 ≤ 240 := hl3b
          refine wp_aload_n dX5_write_68 rfl ?_
          refine wp_bipush (v := 40) dX5_write_69 (by decide) ?_
          refine wp_cV1p dX5_write_71 ml_X5_37 vX5_put ⟨4, (RX5, TX5, 2), rfl, rfl, rfl⟩ (cX5_putN E 40 l3 _ hr1 hO1 (by omega) (by decide)) (Nat.le_of_ble_eq_true rfl) (Nat.le_of_ble_eq_true rfl) (Nat.le_of_ble_eq_true rfl) (Nat.le_refl _) (Nat.le_refl _) (fun v sh1 M1 hqq => ?_)
          obtain ⟨rfl, rfl, hF2, hO2⟩ := hqq
          have hr2 := (hF2.2.2.2.1 111 0).trans hr1
          refine wp_iload_n dX5_write_74 rfl ?_
          refine wp_istore_n dX5_write_75 (Nat.le_of_ble_eq_true rfl) ?_
          refine wp_goto (tgt := 97) dX5_write_76 (by decide) ?_
          refine wp_iinc dX5_write_97 rfl (i_inc _) (Nat.le_of_ble_eq_true rfl) ?_
          refine wp_goto (tgt := 9) dX5_write_100 (by decide) ?_
          rw [← enod] at hO2
          have h := ih (k + 1) _ (by omega) (by omega) ((hF0.tr hFz).tr (hF1.tr hF2)) hO2
          rw [Nat.add_sub_cancel, eo, if_pos c65] at h
          exact wp_lv h (by repeat (first | exact trivial | refine ⟨rfl, ?_⟩))
      refine wp_iload_n dX5_write_9 rfl ?_
      refine wp_aload_n dX5_write_10 rfl ?_
      refine wp_getI dX5_write_11 fl_X5_19 (sh_T hT).1 rfl ?_
      rw [ec]
      refine wp_icmp_ge (tgt := 103) dX5_write_14 (by decide) (fun c14 => absurd c14 (nI_ge hkn (by omega))) (fun c14 => ?_)
      refine wp_aload_n dX5_write_17 rfl ?_
      refine wp_iload_n dX5_write_18 rfl ?_
      refine wp_cV1a dX5_write_19 ml_X5_24 vX7_at (isO_T hT) (cX7_at_ E T (nI k) M1 hT hct1.2.1) (Nat.le_of_ble_eq_true rfl) (Nat.le_of_ble_eq_true rfl) (Nat.le_of_ble_eq_true rfl) ?_
      rw [atK_nI (show k < 25 by omega)]
      refine wp_astore dX5_write_22 (Nat.le_of_ble_eq_true rfl) ?_
      refine wp_aload_n dX5_write_24 rfl ?_
      refine wp_aload_n dX5_write_25 rfl ?_
      refine wp_iload_n dX5_write_26 rfl ?_
      refine wp_aload dX5_write_27 rfl ?_
      refine wp_getI dX5_write_29 fl_X5_28 hcx.1.1 rfl ?_
      rw [f6 Fr.rf]
      refine wp_cV3p dX5_write_32 ml_X5_33 vX5_closeGroups ⟨4, (RX5, TX5, 2), rfl, rfl, rfl⟩ (cX5_closeGroups_ E T n nd (opk nd (k - 1)) a m (pT nd k) M1 hr0 hO0 hct1 (by omega) hopn.1 p7 p5 (by rw [← hl1]; exact hl1b)) (Nat.le_of_ble_eq_true rfl) (Nat.le_of_ble_eq_true rfl) (Nat.le_of_ble_eq_true rfl) (Nat.le_refl _) (Nat.le_refl _) (fun v sh1 M1 hqq => ?_)
      obtain ⟨rfl, rfl, hF1, hO1⟩ := hqq
      have hO1' : rcO M1 (some l1) := by rw [hl1]; exact hO1
      have e1k : nI k - 1 = nI (k - 1) := by
        obtain ⟨z, rfl⟩ : ∃ z, k = z + 1 := ⟨k - 1, by omega⟩
        rw [← nI_1, Int32.add_sub_cancel]; rfl
      have hr1 := (hF1.2.2.2.1 111 0).trans hr0
      refine wp_istore_n dX5_write_35 (Nat.le_of_ble_eq_true rfl) ?_
      refine wp_aload dX5_write_36 rfl ?_
      refine wp_getI dX5_write_38 fl_X5_28 hcx.1.1 rfl ?_
      refine wp_iload_n dX5_write_41 rfl ?_
      refine wp_iconst (v := 1) dX5_write_42 rfl ?_
      refine wp_isub dX5_write_43 ?_
      rw [f6 hF1, e1k]
      refine wp_icmp_eq (tgt := 53) dX5_write_44 (by decide) (fun c44 => ?_) (fun c44 => ?_)
      · have hc : a = k - 1 := nI_e (by omega) (by omega) c44
        exact wp_lv (J53 _ hF1 (by rw [hl2, if_pos hc, List.append_nil]; exact hO1')) (by repeat (first | exact trivial | refine ⟨rfl, ?_⟩))
      · refine wp_aload_n dX5_write_47 rfl ?_
        refine wp_bipush (v := 32) dX5_write_48 (by decide) ?_
        refine wp_cV1p dX5_write_50 ml_X5_37 vX5_put ⟨4, (RX5, TX5, 2), rfl, rfl, rfl⟩ (cX5_putN E 32 l1 _ hr1 hO1' (by have hc : ¬ a = k - 1 := fun e => c44 (by rw [e]); rw [hl2, if_neg hc, List.length_append] at hl2b; have : ([32] : List Nat).length = 1 := rfl; omega) (by decide)) (Nat.le_of_ble_eq_true rfl) (Nat.le_of_ble_eq_true rfl) (Nat.le_of_ble_eq_true rfl) (Nat.le_refl _) (Nat.le_refl _) (fun v sh1 M1 hqq => ?_)
        obtain ⟨rfl, rfl, hF2, hO2⟩ := hqq
        have hr2 := (hF2.2.2.2.1 111 0).trans hr1
        have hc : ¬ a = k - 1 := fun e => c44 (by rw [e])
        exact wp_lv (J53 _ (hF1.tr hF2) (by rw [hl2, if_neg hc]; exact hO2)) (by repeat (first | exact trivial | refine ⟨rfl, ?_⟩))
  refine wp_aload_n dX5_write_0 rfl ?_
  refine wp_iconst (v := 0) dX5_write_1 rfl ?_
  refine wp_putI dX5_write_2 fl_X5_15 rfl rfl (fun _ _ _ h => by cases h; rfl) rfl rfl ?_
  refine wp_iconst (v := 0) dX5_write_5 rfl ?_
  refine wp_istore_n dX5_write_6 (Nat.le_of_ble_eq_true rfl) ?_
  refine wp_iconst (v := 1) dX5_write_7 rfl ?_
  refine wp_istore_n dX5_write_8 (Nat.le_of_ble_eq_true rfl) ?_
  have hO0 : rcO (sI M 111 1 0) (some (pT nd 1)) := ⟨rfl, fun l e => by injection e with e; subst e; exact ⟨Nat.zero_le _, fun i hi => absurd hi (Nat.not_lt_zero i)⟩⟩
  have h := loop (n - 1) 1 (sI M 111 1 0) (by omega) (Nat.le_refl _) (Fr.rf.sI (by simp)) hO0
  rw [show opk nd (1 - 1) = 0 by show opk nd 0 = 0; unfold opk; rw [if_pos hrt.1]] at h
  exact wp_lv h (by repeat (first | exact trivial | refine ⟨rfl, ?_⟩))
def prV (q : QQ) : Int32 := if q.1 = 0 then -104 else nI (prS q.2 q.1).length
def prO (q : QQ) (o : Option (List Nat)) : Option (List Nat) := if q.1 = 0 then o else some (prS q.2 q.1)
theorem RC_O {M M1 : Mem} {tp gn : List Nat} {q : QQ} {o o1 : Option (List Nat)} {dc : Nat → List (List Nat)} (h : RC M tp gn q o dc) (k : sF M M1) (ho : rcO M1 o1) : RC M1 tp gn q o1 dc := by
  obtain ⟨hg, ht, hd, ⟨tq, q1, q2, q3, q4⟩, -, hw⟩ := h
  refine ⟨hg.fr k, ht.fr k (by simp) (by simp), hd.fr k (by simp) (by simp), ⟨tq, (k.2.2.2.1 _ _).trans q1, (k.2.2.2.1 _ _).trans q2, q3, q4.fr k (fun j hj f => by simp; omega) (fun j hj => by simp)⟩, ho, hw.fr k (by simp) (by simp)⟩
theorem RC_CT {M : Mem} {tp gn : List Nat} {q : QQ} {o : Option (List Nat)} {dc : Nat → List (List Nat)} {tq : Nat} (h : RC M tp gn q o dc) (hq : rcQ M tq q) (hk : QOk q) (h0 : q.1 ≠ 0) : CT M tq q.1 q.2 := by
  rcases hk with hk | ⟨a1, a2, a3, a4, a5, a6, -⟩
  · exact absurd hk h0
  · refine ⟨hq.2.2.1, ?_, hq.2.2.2, a2, a3, a4, a5, fun k hk => (a6 k hk).1⟩
    rcases hq.2.2.1 with e | e
    · rw [e]; exact h.1.2.1
    · rw [e]; exact h.1.2.2
set_option maxRecDepth 100000 in
set_option maxHeartbeats 4000000 in
theorem cX8_print_ (E : GE) (tp gn : List Nat) (q : QQ) (o : Option (List Nat)) (dc : Nat → List (List Nat)) (M : Mem) (h : RC M tp gn q o dc) (hk : QOk q) : Sp E mX8_print 6 0 0 [.ref 0] SH M (pDoc M (prV q) tp gn q (prO q o) dc) := by
  refine sp_of vX8_print.1 rfl (Nat.le_of_ble_eq_true rfl) ?_
  obtain ⟨tq, hq⟩ := h.2.2.2.1
  have hT := hq.2.2.1
  have ec : fI M tq 1 = nI q.1 := hq.2.2.2.1
  have hn25 := hq.2.2.2.2.1
  obtain ⟨-, -, -, -, -, -, -, -, j7, j8⟩ := RC_jd h
  have j5 : fR M 0 5 = some tq := hq.1
  refine wp_aload_n dX8_print_0 rfl ?_
  refine wp_getR dX8_print_1 fl_X8_30 rfl rfl j5 ?_
  refine wp_cV0i dX8_print_4 ml_X8_139 vX7_isEmpty (isO_T hT) (cX7_isEmpty_ E tq M hT) (Nat.le_of_ble_eq_true rfl) (Nat.le_of_ble_eq_true rfl) (Nat.le_of_ble_eq_true rfl) ?_
  refine wp_if_eq (tgt := 13) dX8_print_7 (by decide) (fun c7 => ?_) (fun c7 => ?_)
  · have h0 : q.1 ≠ 0 := fun e => b2i_e0.mp c7 (by rw [ec, e]; rfl)
    have hkk := hk
    obtain ⟨a1, a2, a3, a4, a5, a6, a7, hopl, hlast⟩ := hkk.resolve_left h0
    refine wp_aload_n dX8_print_13 rfl ?_
    refine wp_getR dX8_print_14 fl_X8_44 rfl rfl j7 ?_
    refine wp_aload_n dX8_print_17 rfl ?_
    refine wp_getR dX8_print_18 fl_X8_30 rfl rfl j5 ?_
    refine wp_cV1p dX8_print_21 ml_X8_142 vX5_write ⟨4, (RX5, TX5, 2), rfl, rfl, rfl⟩ (cX5_write_ E tq q.1 q.2 M j8 (RC_CT h hq hk h0) (by omega) hopl hlast (pr_len hk h0)) (Nat.le_of_ble_eq_true rfl) (Nat.le_of_ble_eq_true rfl) (Nat.le_of_ble_eq_true rfl) (Nat.le_refl _) (Nat.le_refl _) (fun v sh1 M1 hqq => ?_)
    obtain ⟨rfl, rfl, hF1, hO1⟩ := hqq
    refine wp_ireturn dX8_print_24 rfl rfl (Nat.zero_le _) (Nat.zero_le _) ?_
    unfold prV prO
    rw [if_neg h0, if_neg h0]
    exact ⟨rfl, rfl, RC_O h hF1 hO1, hF1.outC (by simp) (by simp) (by simp)⟩
  · refine wp_bipush (v := (-104)) dX8_print_10 (by decide) ?_
    refine wp_ireturn dX8_print_12 rfl rfl (Nat.zero_le _) (Nat.zero_le _) ?_
    have h0 : q.1 = 0 := nI_e (by omega) (by decide) (by rw [← ec]; exact b2i_ne.mp c7)
    unfold prV prO
    rw [if_pos h0, if_pos h0]
    exact ⟨rfl, rfl, h, OutC.rf⟩
