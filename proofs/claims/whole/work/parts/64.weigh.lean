/-! ===== the class: weighing ===== -/
theorem CT.fj {M M1 : Mem} {T n : Nat} {nd : Nat → ND} (h : CT M T n nd) (k : jF M M1) : CT M1 T n nd := by
  obtain ⟨a, b, c, d⟩ := h
  exact ⟨a, b.fr k, c.fr k (fun j hj f => by simp) (fun j hj => by simp; omega), d⟩
theorem lNi {n : Nat} (hn : n < 2 ^ 31) : (nI n).toInt64 = lN n := by
  apply Int64.toInt_inj.mp
  rw [Int32.toInt_toInt64, nI_toInt hn]
  show _ = (Int64.ofNat n).toInt
  rw [Int64.toInt_ofNat', Int.bmod_def]
  simp only [show Int64.size = 18446744073709551616 from rfl]
  split <;> omega
theorem lNadd (a b : Nat) : lN a + lN b = lN (a + b) := (Int64.ofNat_add a b).symm
theorem lNmul (a b : Nat) : lN a * lN b = lN (a * b) := (Int64.ofNat_mul a b).symm
theorem lN_m1 {w : Nat} (h : w < 2 ^ 62) : ¬ lN w = -1 := fun e => by
  have h1 : lN 0 ≤ lN w := (lNle (by omega) (by omega)).mpr (Nat.zero_le _)
  rw [e] at h1
  exact absurd h1 (by decide)
theorem cV_m1 {v : Option Nat} (h : ∀ w, v = some w → w < 2 ^ 62) : cV v = -1 ↔ v = none := by
  cases v with
  | none => exact ⟨fun _ => rfl, fun _ => rfl⟩
  | some w => exact ⟨fun e => absurd e (lN_m1 (h w rfl)), fun e => by cases e⟩
theorem cV_max {v : Option Nat} (h : ∀ w, v = some w → w < 2 ^ 62) : (if (0 : Int64) < cV v then cV v else 0) = mL v := by
  cases v with
  | none => rfl
  | some w =>
    show (if (0 : Int64) < lN w then lN w else 0) = lN w
    split
    · rfl
    · next c =>
      have : ¬ 0 < w := fun q => c ((lNlt (a := 0) (by omega) (by have := h w rfl; omega)).mpr q)
      rw [show w = 0 by omega]; rfl
theorem pred_lt {k : Nat} (hk : k < 2 ^ 31) : nI k - 1 < nI k := by
  cases k with
  | zero => decide
  | succ k => rw [nI_m (by omega)]; exact (nI_lti (by omega) hk).mpr (by omega)
theorem flt_iff (x : ND) (v : Option Nat) : flt x v = true ↔ (nMa x = 1 ∧ v = none) ∨ (nMa x = 2 ∧ v ≠ none) := by
  unfold flt
  cases v <;> simp
theorem gS_f {nd : Nat → ND} {T : Nat → Option Nat} {k m : Nat} (h : (gS nd T k m).1 = false) : ∀ e, (gS nd T k (m + e)).1 = false
  | 0 => h
  | e + 1 => by
    show (if _ then _ else gS nd T k (m + e) : GS).1 = false
    split
    · show ((gS nd T k (m + e)).1 && _) = false
      rw [gS_f h e]; rfl
    · exact gS_f h e
set_option maxRecDepth 100000 in
set_option maxHeartbeats 4000000 in
theorem cX7_fieldOf_ (E : GE) (T n k : Nat) (nd : Nat → ND) (M : Mem) (hct : CT M T n nd) (hd : DT nd n) (hk : k < n) : Sp E mX7_fieldOf 1 0 0 [.ref T, .int (nI k)] SH M (RV (some (.int (fo nd k))) SH M) := by
  refine sp_of vX7_fieldOf.1 rfl (Nat.le_of_ble_eq_true rfl) ?_
  have hT := hct.1
  have hr := hct.2.1
  have hn25 := hct.2.2.2.1
  have hcn := hct.2.2.1.1
  have J47 : ∀ j, j < n → nFi (nd j) = fo nd k → ∀ z : Int32, Wp (xM E mX7_fieldOf 1 0 0 SH.length (RV (some (.int (fo nd k))) SH M)) 0 0 47 [(2, .ref (T + 2 + 2 * j)), (3, .int z), (0, .ref T)] [] SH M := by
    intro j hj hf z
    have hcx := hct.cx hj
    have e3 : fI M (T + 2 + 2 * j) 3 = nFi (nd j) := hcx.2.2.2.2.2.2.1
    refine wp_aload_n dX7_fieldOf_47 rfl ?_
    refine wp_getI dX7_fieldOf_48 fl_X7_39 hcx.1.1 rfl ?_
    rw [e3, hf]
    refine wp_ireturn dX7_fieldOf_51 rfl rfl (Nat.zero_le _) (Nat.zero_le _) ?_
    exact ⟨rfl, rfl, rfl⟩
  have loop : ∀ (m lv j : Nat), m + lv ≤ 6 → j < n → anc nd m j 0 → fo nd j = fo nd k → Wp (xM E mX7_fieldOf 1 0 0 SH.length (RV (some (.int (fo nd k))) SH M)) 0 0 8 [(2, .ref (T + 2 + 2 * j)), (3, .int (nI lv)), (0, .ref T)] [] SH M := by
    intro m
    induction m with
    | zero =>
      intro lv j hlv hj ha hf
      have ha : j = 0 := ha
      subst ha
      have hcx := hct.cx hj
      have hf0 : nFi (nd 0) = fo nd k := by rw [← fo_0, hf]
      have e6 : fI M (T + 2 + 2 * 0) 6 = nAr (nd 0) := hcx.2.2.2.2.2.2.2.2.2.1
      have har : nAr (nd 0) = -1 := hct.2.2.2.2.2.1.2.2.2.2.2.1
      have hb0 : b2i (¬ nAr (nd 0) < 0 ∧ ¬ fI M T 1 ≤ nAr (nd 0)) = 0 := b2i_f (fun q => q.1 (by rw [har]; decide))
      refine wp_iload_n dX7_fieldOf_8 rfl ?_
      refine wp_iconst (v := 5) dX7_fieldOf_9 rfl ?_
      refine wp_icmp_gt (tgt := 47) dX7_fieldOf_10 (by decide) (fun c10 => ?_) (fun c10 => ?_)
      · exact wp_lv (J47 0 hj hf0 _) (by repeat (first | exact trivial | refine ⟨rfl, ?_⟩))
      · refine wp_aload_n dX7_fieldOf_13 rfl ?_
        refine wp_getI dX7_fieldOf_14 fl_X7_39 hcx.1.1 rfl ?_
        refine wp_iconst (v := (-1)) dX7_fieldOf_17 rfl ?_
        refine wp_icmp_ne (tgt := 47) dX7_fieldOf_18 (by decide) (fun c18 => ?_) (fun c18 => ?_)
        · exact wp_lv (J47 0 hj hf0 _) (by repeat (first | exact trivial | refine ⟨rfl, ?_⟩))
        · refine wp_aload_n dX7_fieldOf_21 rfl ?_
          refine wp_aload_n dX7_fieldOf_22 rfl ?_
          refine wp_getI dX7_fieldOf_23 fl_X7_42 hcx.1.1 rfl ?_
          rw [e6]
          refine wp_cV1i dX7_fieldOf_26 ml_X7_45 vX7_has (isO_T hT) (cX7_has_ E T _ M hT) (Nat.le_of_ble_eq_true rfl) (Nat.le_of_ble_eq_true rfl) (Nat.le_of_ble_eq_true rfl) ?_
          rw [hb0]
          refine wp_if_eq (tgt := 47) dX7_fieldOf_29 (by decide) (fun c29 => ?_) (fun c29 => absurd rfl c29)
          exact wp_lv (J47 0 hj hf0 _) (by repeat (first | exact trivial | refine ⟨rfl, ?_⟩))
    | succ m ih =>
      intro lv j hlv hj ha hf
      obtain ⟨a, h1, h2, h3⟩ := ha
      have hcx := hct.cx hj
      have e3 : fI M (T + 2 + 2 * j) 3 = nFi (nd j) := hcx.2.2.2.2.2.2.1
      have e6 : fI M (T + 2 + 2 * j) 6 = nI a := hcx.2.2.2.2.2.2.2.2.2.1.trans h2
      have hfs := fo_s h3 (by omega) h2 (by omega) (show j ≠ 0 by omega)
      have hb1 : b2i (¬ nI a < 0 ∧ ¬ fI M T 1 ≤ nI a) = 1 := b2i_t ⟨nI_pos (by omega), by rw [hcn]; exact nI_ge (by omega) (by omega)⟩
      refine wp_iload_n dX7_fieldOf_8 rfl ?_
      refine wp_iconst (v := 5) dX7_fieldOf_9 rfl ?_
      refine wp_icmp_gt (tgt := 47) dX7_fieldOf_10 (by decide) (fun c10 => absurd c10 (fun q => by have := (nI_lti (a := 5) (by decide) (by omega)).mp q; omega)) (fun c10 => ?_)
      refine wp_aload_n dX7_fieldOf_13 rfl ?_
      refine wp_getI dX7_fieldOf_14 fl_X7_39 hcx.1.1 rfl ?_
      rw [e3]
      refine wp_iconst (v := (-1)) dX7_fieldOf_17 rfl ?_
      refine wp_icmp_ne (tgt := 47) dX7_fieldOf_18 (by decide) (fun c18 => ?_) (fun c18 => ?_)
      · exact wp_lv (J47 j hj (by rw [← hf, hfs, if_neg c18]) _) (by repeat (first | exact trivial | refine ⟨rfl, ?_⟩))
      · refine wp_aload_n dX7_fieldOf_21 rfl ?_
        refine wp_aload_n dX7_fieldOf_22 rfl ?_
        refine wp_getI dX7_fieldOf_23 fl_X7_42 hcx.1.1 rfl ?_
        rw [e6]
        refine wp_cV1i dX7_fieldOf_26 ml_X7_45 vX7_has (isO_T hT) (cX7_has_ E T _ M hT) (Nat.le_of_ble_eq_true rfl) (Nat.le_of_ble_eq_true rfl) (Nat.le_of_ble_eq_true rfl) ?_
        rw [hb1]
        refine wp_if_eq (tgt := 47) dX7_fieldOf_29 (by decide) (fun c29 => absurd c29 (by decide)) (fun c29 => ?_)
        refine wp_aload_n dX7_fieldOf_32 rfl ?_
        refine wp_aload_n dX7_fieldOf_33 rfl ?_
        refine wp_getI dX7_fieldOf_34 fl_X7_42 hcx.1.1 rfl ?_
        rw [e6]
        refine wp_cV1a dX7_fieldOf_37 ml_X7_32 vX7_at (isO_T hT) (cX7_at_ E T (nI a) M hT hr) (Nat.le_of_ble_eq_true rfl) (Nat.le_of_ble_eq_true rfl) (Nat.le_of_ble_eq_true rfl) ?_
        rw [atK_nI (show a < 25 by omega)]
        refine wp_astore_n dX7_fieldOf_40 (Nat.le_of_ble_eq_true rfl) ?_
        refine wp_iinc dX7_fieldOf_41 rfl (i_inc _) (Nat.le_of_ble_eq_true rfl) ?_
        refine wp_goto (tgt := 8) dX7_fieldOf_44 (by decide) ?_
        exact wp_lv (ih (lv + 1) a (by omega) (by omega) h3 (by rw [← hf, hfs, if_pos c18])) (by repeat (first | exact trivial | refine ⟨rfl, ?_⟩))
  refine wp_aload_n dX7_fieldOf_0 rfl ?_
  refine wp_iload_n dX7_fieldOf_1 rfl ?_
  refine wp_cV1a dX7_fieldOf_2 ml_X7_32 vX7_at (isO_T hT) (cX7_at_ E T (nI k) M hT hr) (Nat.le_of_ble_eq_true rfl) (Nat.le_of_ble_eq_true rfl) (Nat.le_of_ble_eq_true rfl) ?_
  rw [atK_nI (show k < 25 by omega)]
  refine wp_astore_n dX7_fieldOf_5 (Nat.le_of_ble_eq_true rfl) ?_
  refine wp_iconst (v := 0) dX7_fieldOf_6 rfl ?_
  refine wp_istore_n dX7_fieldOf_7 (Nat.le_of_ble_eq_true rfl) ?_
  obtain ⟨m, hm, ha⟩ : ∃ m, m ≤ 6 ∧ anc nd m k 0 := by
    by_cases c : k = 0
    · exact ⟨0, by decide, c⟩
    · obtain ⟨a, m, g1, g2, g3, g4, g5⟩ := hd.2.2.2 k (by omega) hk
      exact ⟨m + 1, by omega, a, g1, g2, g5⟩
  exact wp_lv (loop m 0 k (by omega) hk ha rfl) (by repeat (first | exact trivial | refine ⟨rfl, ?_⟩))
set_option maxRecDepth 100000 in
set_option maxHeartbeats 4000000 in
theorem cX1_setValue_ (E : GE) (k : Nat) (v : Int64) (M : Mem) (hr : fR M 113 2 = some 119) (hk : k < 25) : Sp E mX1_setValue 0 0 0 [.ref 113, .int (nI k), .long v] SH M (RV none SH (sL M 119 k v)) := by
  refine sp_of vX1_setValue.1 rfl (Nat.le_of_ble_eq_true rfl) ?_
  refine wp_iload_n dX1_setValue_0 rfl ?_
  refine wp_if_lt (tgt := 20) dX1_setValue_1 (by decide) (fun c1 => absurd c1 (nI_pos (by omega))) (fun c1 => ?_)
  refine wp_iload_n dX1_setValue_4 rfl ?_
  refine wp_aload_n dX1_setValue_5 rfl ?_
  refine wp_getR dX1_setValue_6 fl_X1_25 rfl rfl hr ?_
  refine wp_alen dX1_setValue_9 rfl (Nat.le_of_ble_eq_true rfl) ?_
  refine wp_icmp_ge (tgt := 20) dX1_setValue_10 (by decide) (fun c10 => absurd c10 (nI_ge (b := 25) (by omega) (by decide))) (fun c10 => ?_)
  refine wp_aload_n dX1_setValue_13 rfl ?_
  refine wp_getR dX1_setValue_14 fl_X1_25 rfl rfl hr ?_
  refine wp_iload_n dX1_setValue_17 rfl ?_
  refine wp_lload_n dX1_setValue_18 rfl ?_
  refine wp_lastore dX1_setValue_19 rfl (vp_in_nI (by omega) (by decide)) ?_
  refine wp_ret0 dX1_setValue_20 rfl (Nat.le_refl _) (Nat.le_refl _) ?_
  rw [nI_clamp (show k < 2 ^ 31 by omega)]
  exact ⟨rfl, rfl, rfl⟩
set_option maxRecDepth 100000 in
set_option maxHeartbeats 4000000 in
theorem cX1_valueAt_ (E : GE) (k : Nat) (M : Mem) (hr : fR M 113 2 = some 119) (hk : k < 25) : Sp E mX1_valueAt 0 0 0 [.ref 113, .int (nI k)] SH M (RV (some (.long (aL M 119 k))) SH M) := by
  refine sp_of vX1_valueAt.1 rfl (Nat.le_of_ble_eq_true rfl) ?_
  refine wp_iload_n dX1_valueAt_0 rfl ?_
  refine wp_if_lt (tgt := 22) dX1_valueAt_1 (by decide) (fun c1 => absurd c1 (nI_pos (by omega))) (fun c1 => ?_)
  refine wp_iload_n dX1_valueAt_4 rfl ?_
  refine wp_aload_n dX1_valueAt_5 rfl ?_
  refine wp_getR dX1_valueAt_6 fl_X1_25 rfl rfl hr ?_
  refine wp_alen dX1_valueAt_9 rfl (Nat.le_of_ble_eq_true rfl) ?_
  refine wp_icmp_ge (tgt := 22) dX1_valueAt_10 (by decide) (fun c10 => absurd c10 (nI_ge (b := 25) (by omega) (by decide))) (fun c10 => ?_)
  refine wp_aload_n dX1_valueAt_13 rfl ?_
  refine wp_getR dX1_valueAt_14 fl_X1_25 rfl rfl hr ?_
  refine wp_iload_n dX1_valueAt_17 rfl ?_
  refine wp_laload dX1_valueAt_18 rfl (vp_in_nI (by omega) (by decide)) ?_
  refine wp_goto (tgt := 25) dX1_valueAt_19 (by decide) ?_
  refine wp_lreturn dX1_valueAt_25 rfl (Nat.zero_le _) (Nat.zero_le _) ?_
  rw [nI_clamp (show k < 2 ^ 31 by omega)]
  exact ⟨rfl, rfl, rfl⟩
set_option maxRecDepth 100000 in
set_option maxHeartbeats 4000000 in
theorem cX1_isFault_ (E : GE) (mk : Int32) (v : Int64) (sh : List Sh) (M : Mem) : Sp E mX1_isFault 0 0 0 [.int mk, .long v] sh M (RV (some (.int (b2i ((mk = 1 ∧ v = -1) ∨ (mk = 2 ∧ v ≠ -1))))) sh M) := by
  refine sp_of sX1_isFault.1 rfl (Nat.le_of_ble_eq_true rfl) ?_
  refine wp_iload_n dX1_isFault_0 rfl ?_
  refine wp_iconst (v := 1) dX1_isFault_1 rfl ?_
  refine wp_icmp_ne (tgt := 13) dX1_isFault_2 (by decide) (fun c2 => ?_) (fun c2 => ?_)
  · refine wp_iload_n dX1_isFault_13 rfl ?_
    refine wp_iconst (v := 2) dX1_isFault_14 rfl ?_
    refine wp_icmp_ne (tgt := 30) dX1_isFault_15 (by decide) (fun c15 => ?_) (fun c15 => ?_)
    · refine wp_iconst (v := 0) dX1_isFault_30 rfl ?_
      refine wp_ireturn dX1_isFault_31 rfl rfl (Nat.zero_le _) (Nat.zero_le _) ?_
      rw [b2i_f (fun q => q.elim (fun q => c2 q.1) (fun q => c15 q.1))]; exact ⟨rfl, rfl, rfl⟩
    · refine wp_lload_n dX1_isFault_18 rfl ?_
      refine wp_ldc2 dX1_isFault_19 kl_X1_60 ?_
      refine wp_lcmp dX1_isFault_22 ?_
      refine wp_if_eq (tgt := 30) dX1_isFault_23 (by decide) (fun c23 => ?_) (fun c23 => ?_)
      · refine wp_iconst (v := 0) dX1_isFault_30 rfl ?_
        refine wp_ireturn dX1_isFault_31 rfl rfl (Nat.zero_le _) (Nat.zero_le _) ?_
        rw [b2i_f (fun q => q.elim (fun q => c2 q.1) (fun q => q.2 ((lg_eq _ _).mp c23)))]; exact ⟨rfl, rfl, rfl⟩
      · refine wp_iconst (v := 1) dX1_isFault_26 rfl ?_
        refine wp_goto (tgt := 31) dX1_isFault_27 (by decide) ?_
        refine wp_ireturn dX1_isFault_31 rfl rfl (Nat.zero_le _) (Nat.zero_le _) ?_
        rw [b2i_t (Or.inr ⟨c15, fun q => c23 ((lg_eq _ _).mpr q)⟩)]; exact ⟨rfl, rfl, rfl⟩
  · refine wp_lload_n dX1_isFault_5 rfl ?_
    refine wp_ldc2 dX1_isFault_6 kl_X1_60 ?_
    refine wp_lcmp dX1_isFault_9 ?_
    refine wp_if_eq (tgt := 26) dX1_isFault_10 (by decide) (fun c10 => ?_) (fun c10 => ?_)
    · refine wp_iconst (v := 1) dX1_isFault_26 rfl ?_
      refine wp_goto (tgt := 31) dX1_isFault_27 (by decide) ?_
      refine wp_ireturn dX1_isFault_31 rfl rfl (Nat.zero_le _) (Nat.zero_le _) ?_
      rw [b2i_t (Or.inl ⟨c2, (lg_eq _ _).mp c10⟩)]; exact ⟨rfl, rfl, rfl⟩
    · refine wp_iload_n dX1_isFault_13 rfl ?_
      refine wp_iconst (v := 2) dX1_isFault_14 rfl ?_
      refine wp_icmp_ne (tgt := 30) dX1_isFault_15 (by decide) (fun c15 => ?_) (fun c15 => ?_)
      · refine wp_iconst (v := 0) dX1_isFault_30 rfl ?_
        refine wp_ireturn dX1_isFault_31 rfl rfl (Nat.zero_le _) (Nat.zero_le _) ?_
        rw [b2i_f (fun q => q.elim (fun q => c10 ((lg_eq _ _).mpr q.2)) (fun q => c15 q.1))]; exact ⟨rfl, rfl, rfl⟩
      · refine wp_lload_n dX1_isFault_18 rfl ?_
        refine wp_ldc2 dX1_isFault_19 kl_X1_60 ?_
        refine wp_lcmp dX1_isFault_22 ?_
        refine wp_if_eq (tgt := 30) dX1_isFault_23 (by decide) (fun c23 => ?_) (fun c23 => ?_)
        · refine wp_iconst (v := 0) dX1_isFault_30 rfl ?_
          refine wp_ireturn dX1_isFault_31 rfl rfl (Nat.zero_le _) (Nat.zero_le _) ?_
          exact absurd (c2.symm.trans c15) (by decide)
        · refine wp_iconst (v := 1) dX1_isFault_26 rfl ?_
          refine wp_goto (tgt := 31) dX1_isFault_27 (by decide) ?_
          refine wp_ireturn dX1_isFault_31 rfl rfl (Nat.zero_le _) (Nat.zero_le _) ?_
          exact absurd (c2.symm.trans c15) (by decide)
set_option maxRecDepth 100000 in
set_option maxHeartbeats 4000000 in
theorem cX1_groupValue_ (E : GE) (T n k : Nat) (nd : Nat → ND) (Tb : Nat → Option Nat) (M : Mem) (hct : CT M T n nd) (hd : DT nd n) (hk : k < n) (hj2 : fR M 113 2 = some 119) (hrow : ∀ c, k < c → c < n → aL M 119 c = cV (Tb c)) (hbd : ∀ c, k < c → c < n → ∀ w, Tb c = some w → w < 2 ^ 62) : Sp E mX1_groupValue 1 0 0 [.ref 113, .ref T, .int (nI k)] SH M (RV (some (.long (cV (gV (nd k) (gS nd Tb k (n - 1 - k)))))) SH M) := by
  refine sp_of vX1_groupValue.1 rfl (Nat.le_of_ble_eq_true rfl) ?_
  have hT := hct.1
  have hr := hct.2.1
  have hn25 := hct.2.2.2.1
  have hcn := hct.2.2.1.1
  have hcxk := hct.cx hk
  obtain ⟨hb99, hbo, hdk⟩ := hd.2.1 k hk
  have b2 : fI M (T + 2 + 2 * k) 2 = nI (bo (nd k)) := hcxk.2.2.2.2.2.1.trans hbo
  have b4 : fI M (T + 2 + 2 * k) 4 = nDe (nd k) := hcxk.2.2.2.2.2.2.2.1
  have hfin : ∀ s : GS, s = gS nd Tb k (n - 1 - k) → s.1 = true → Wp (xM E mX1_groupValue 1 0 0 SH.length (RV (some (.long (cV (gV (nd k) (gS nd Tb k (n - 1 - k)))))) SH M)) 0 0 150 [(3, .long (lN s.2.2.2.2)), (5, .int (b2i (0 < s.2.1))), (6, .int (b2i (0 < s.2.2.1))), (7, .int (nI s.2.2.2.1)), (1, .ref T), (2, .int (nI k)), (0, .ref 113)] [] SH M := by
    intro s hs h1
    have J193 : ∀ z : Int32, z = lst (nd k) s → ∀ y : Int32, Wp (xM E mX1_groupValue 1 0 0 SH.length (RV (some (.long (cV (gV (nd k) (gS nd Tb k (n - 1 - k)))))) SH M)) 0 0 193 [(8, .ref (T + 2 + 2 * k)), (9, .int y), (3, .long (lN s.2.2.2.2)), (5, .int (b2i (0 < s.2.1))), (6, .int (b2i (0 < s.2.2.1))), (7, .int (nI s.2.2.2.1)), (1, .ref T), (2, .int (nI k)), (0, .ref 113)] [.int z] SH M := by
      intro z hz y
      subst hz
      refine wp_istore dX1_groupValue_193 (Nat.le_of_ble_eq_true rfl) ?_
      refine wp_iload dX1_groupValue_195 rfl ?_
      refine wp_iload dX1_groupValue_197 rfl ?_
      refine wp_icmp_ge (tgt := 208) dX1_groupValue_199 (by decide) (fun c199 => ?_) (fun c199 => ?_)
      · refine wp_aload dX1_groupValue_208 rfl ?_
        refine wp_getI dX1_groupValue_210 fl_X1_62 hcxk.1.1 rfl ?_
        rw [b2]
        refine wp_i2l dX1_groupValue_213 ?_
        rw [lNi (show bo (nd k) < 2 ^ 31 by omega)]
        refine wp_lload_n dX1_groupValue_214 rfl ?_
        refine wp_lmul dX1_groupValue_215 ?_
        try rw [lNmul]
        refine wp_lreturn dX1_groupValue_216 rfl (Nat.zero_le _) (Nat.zero_le _) ?_
        rw [← hs]
        unfold gV
        rw [if_pos ⟨h1, Int32.not_lt.mpr c199⟩]
        exact ⟨rfl, rfl, rfl⟩
      · refine wp_ldc2 dX1_groupValue_202 kl_X1_60 ?_
        refine wp_goto (tgt := 216) dX1_groupValue_205 (by decide) ?_
        try rw [lNmul]
        refine wp_lreturn dX1_groupValue_216 rfl (Nat.zero_le _) (Nat.zero_le _) ?_
        rw [← hs]
        unfold gV
        rw [if_neg (fun q => q.2 (Int32.not_le.mp c199))]
        exact ⟨rfl, rfl, rfl⟩
    have J172 : ∀ z : Int32, z = (if 0 < s.2.1 ∨ s.2.2.1 = 0 then 0 else 1) → Wp (xM E mX1_groupValue 1 0 0 SH.length (RV (some (.long (cV (gV (nd k) (gS nd Tb k (n - 1 - k)))))) SH M)) 0 0 172 [(8, .ref (T + 2 + 2 * k)), (3, .long (lN s.2.2.2.2)), (5, .int (b2i (0 < s.2.1))), (6, .int (b2i (0 < s.2.2.1))), (7, .int (nI s.2.2.2.1)), (1, .ref T), (2, .int (nI k)), (0, .ref 113)] [.int z] SH M := by
      intro z hz
      refine wp_istore dX1_groupValue_172 (Nat.le_of_ble_eq_true rfl) ?_
      refine wp_aload dX1_groupValue_174 rfl ?_
      refine wp_getI dX1_groupValue_176 fl_X1_85 hcxk.1.1 rfl ?_
      rw [b4]
      refine wp_iconst (v := (-1)) dX1_groupValue_179 rfl ?_
      refine wp_icmp_ne (tgt := 188) dX1_groupValue_180 (by decide) (fun c180 => ?_) (fun c180 => ?_)
      · refine wp_aload dX1_groupValue_188 rfl ?_
        refine wp_getI dX1_groupValue_190 fl_X1_85 hcxk.1.1 rfl ?_
        rw [b4]
        exact wp_lv (J193 _ (by unfold lst; rw [if_neg c180]) _) (by repeat (first | exact trivial | refine ⟨rfl, ?_⟩))
      · refine wp_iload dX1_groupValue_183 rfl ?_
        refine wp_goto (tgt := 193) dX1_groupValue_185 (by decide) ?_
        exact wp_lv (J193 _ (by unfold lst; rw [if_pos c180, hz]) _) (by repeat (first | exact trivial | refine ⟨rfl, ?_⟩))
    refine wp_aload_n dX1_groupValue_150 rfl ?_
    refine wp_iload_n dX1_groupValue_151 rfl ?_
    refine wp_cV1a dX1_groupValue_152 ml_X1_35 vX7_at (isO_T hT) (cX7_at_ E T (nI k) M hT hr) (Nat.le_of_ble_eq_true rfl) (Nat.le_of_ble_eq_true rfl) (Nat.le_of_ble_eq_true rfl) ?_
    rw [atK_nI (show k < 25 by omega)]
    refine wp_astore dX1_groupValue_155 (Nat.le_of_ble_eq_true rfl) ?_
    refine wp_iload dX1_groupValue_157 rfl ?_
    refine wp_if_ne (tgt := 167) dX1_groupValue_159 (by decide) (fun c159 => ?_) (fun c159 => ?_)
    · refine wp_iconst (v := 0) dX1_groupValue_167 rfl ?_
      refine wp_goto (tgt := 172) dX1_groupValue_168 (by decide) ?_
      exact wp_lv (J172 0 (by rw [if_pos (Or.inl (b2i_ne.mp c159))])) (by repeat (first | exact trivial | refine ⟨rfl, ?_⟩))
    · refine wp_iload dX1_groupValue_162 rfl ?_
      refine wp_if_ne (tgt := 171) dX1_groupValue_164 (by decide) (fun c164 => ?_) (fun c164 => ?_)
      · refine wp_iconst (v := 1) dX1_groupValue_171 rfl ?_
        exact wp_lv (J172 1 (by rw [if_neg (fun q => q.elim (b2i_e0.mp c159) (fun e => by have := b2i_ne.mp c164; omega))])) (by repeat (first | exact trivial | refine ⟨rfl, ?_⟩))
      · refine wp_iconst (v := 0) dX1_groupValue_167 rfl ?_
        refine wp_goto (tgt := 172) dX1_groupValue_168 (by decide) ?_
        exact wp_lv (J172 0 (by rw [if_pos (Or.inr (by have := b2i_e0.mp c164; omega))])) (by repeat (first | exact trivial | refine ⟨rfl, ?_⟩))
  have loop : ∀ (r m : Nat), k + 1 + m + r = n → (gS nd Tb k m).1 = true → Wp (xM E mX1_groupValue 1 0 0 SH.length (RV (some (.long (cV (gV (nd k) (gS nd Tb k (n - 1 - k)))))) SH M)) 0 0 16 [(8, .int (nI (k + 1 + m))), (3, .long (lN (gS nd Tb k m).2.2.2.2)), (5, .int (b2i (0 < (gS nd Tb k m).2.1))), (6, .int (b2i (0 < (gS nd Tb k m).2.2.1))), (7, .int (nI (gS nd Tb k m).2.2.2.1)), (1, .ref T), (2, .int (nI k)), (0, .ref 113)] [] SH M := by
    intro r
    induction r with
    | zero =>
      intro m hm h1
      have em : n - 1 - k = m := by omega
      have en : k + 1 + m = n := by omega
      refine wp_iload dX1_groupValue_16 rfl ?_
      refine wp_aload_n dX1_groupValue_18 rfl ?_
      refine wp_getI dX1_groupValue_19 fl_X1_29 (sh_T hT).1 rfl ?_
      rw [hcn]
      refine wp_icmp_ge (tgt := 150) dX1_groupValue_22 (by decide) (fun c22 => ?_) (fun c22 => absurd (by rw [en]; exact Int32.le_refl _) c22)
      exact wp_lv (hfin _ (by rw [em]) h1) (by repeat (first | exact trivial | refine ⟨rfl, ?_⟩))
    | succ r ih =>
      intro m hm h1
      obtain ⟨c, hc⟩ : ∃ c, c = k + 1 + m := ⟨_, rfl⟩
      have hcl : c < n := by omega
      obtain ⟨s, hs⟩ : ∃ s, s = gS nd Tb k m := ⟨_, rfl⟩
      have hih := ih (m + 1) (by omega)
      have hgs : gS nd Tb k (m + 1) = if nAr (nd c) = nI k then gSt (nd c) (Tb c) s else s := by rw [hc, hs]; rfl
      rw [show k + 1 + (m + 1) = c + 1 by omega] at hih
      rw [← hc, ← hs]
      rw [← hs] at h1
      have hcx := hct.cx hcl
      have e1 : fI M (T + 2 + 2 * c) 1 = nMa (nd c) := hcx.2.2.2.2.1
      have e6 : fI M (T + 2 + 2 * c) 6 = nAr (nd c) := hcx.2.2.2.2.2.2.2.2.2.1
      have hv := hrow c (by omega) hcl
      have hvb := hbd c (by omega) hcl
      have J132 : nAr (nd c) = nI k → ¬ flt (nd c) (Tb c) = true → ∀ a1 a2 : Int32, a1 = b2i (0 < (gSt (nd c) (Tb c) s).2.1) → a2 = b2i (0 < (gSt (nd c) (Tb c) s).2.2.1) → ∀ z : Nat, z = (if nMa (nd c) = 0 ∧ (Tb c).isSome = true then 1 else 0) → Wp (xM E mX1_groupValue 1 0 0 SH.length (RV (some (.long (cV (gV (nd k) (gS nd Tb k (n - 1 - k)))))) SH M)) 0 0 132 [(10, .long (cV (Tb c))), (9, .ref (T + 2 + 2 * c)), (8, .int (nI c)), (3, .long (lN s.2.2.2.2)), (5, .int a1), (6, .int a2), (7, .int (nI s.2.2.2.1)), (1, .ref T), (2, .int (nI k)), (0, .ref 113)] [.int (nI z), .int (nI s.2.2.2.1)] SH M := by
        intro har hfl a1 a2 ha1 ha2 z hz
        have hmx : mL (Tb c) = lN (if nMa (nd c) = 2 then 0 else (Tb c).getD 0) := by
          cases htb : Tb c with
          | none => show (0 : Int64) = lN (if nMa (nd c) = 2 then 0 else 0); split <;> rfl
          | some w =>
            rw [if_neg (fun q => hfl ((flt_iff _ _).mpr (Or.inr ⟨q, by rw [htb]; exact fun z => by cases z⟩)))]; rfl
        rw [if_pos har] at hgs
        refine wp_iadd dX1_groupValue_132 ?_
        rw [nI_add]
        refine wp_istore dX1_groupValue_133 (Nat.le_of_ble_eq_true rfl) ?_
        refine wp_lload_n dX1_groupValue_135 rfl ?_
        refine wp_lconst (v := 0) dX1_groupValue_136 rfl ?_
        refine wp_lload dX1_groupValue_137 rfl ?_
        refine wp_cS2l dX1_groupValue_139 ml_X1_79 sJ9_max_f86c9 (cJ9_max_ E _ _ _ _) (Nat.le_of_ble_eq_true rfl) (Nat.le_of_ble_eq_true rfl) (Nat.le_of_ble_eq_true rfl) ?_
        rw [cV_max hvb, hmx]
        refine wp_ladd dX1_groupValue_142 ?_
        rw [lNadd]
        refine wp_lstore_n dX1_groupValue_143 (Nat.le_of_ble_eq_true rfl) ?_
        refine wp_iinc dX1_groupValue_144 rfl (i_inc _) (Nat.le_of_ble_eq_true rfl) ?_
        refine wp_goto (tgt := 16) dX1_groupValue_147 (by decide) ?_
        rw [hgs] at hih
        have h := hih (by show (s.1 && !flt (nd c) (Tb c)) = true; rw [h1]; cases hq : flt (nd c) (Tb c) with | true => exact absurd hq hfl | false => rfl)
        rw [ha1, ha2, hz]
        exact wp_lv h (by repeat (first | exact trivial | refine ⟨rfl, ?_⟩))
      have J106 : nAr (nd c) = nI k → ¬ flt (nd c) (Tb c) = true → ∀ a1 a2 : Int32, a1 = b2i (0 < (gSt (nd c) (Tb c) s).2.1) → a2 = b2i (0 < (gSt (nd c) (Tb c) s).2.2.1) → ∀ z : Int32, Wp (xM E mX1_groupValue 1 0 0 SH.length (RV (some (.long (cV (gV (nd k) (gS nd Tb k (n - 1 - k)))))) SH M)) 0 0 106 [(10, .long (cV (Tb c))), (9, .ref (T + 2 + 2 * c)), (8, .int (nI c)), (3, .long (lN s.2.2.2.2)), (5, .int a1), (6, .int z), (7, .int (nI s.2.2.2.1)), (1, .ref T), (2, .int (nI k)), (0, .ref 113)] [.int a2] SH M := by
        intro har hfl a1 a2 ha1 ha2 z
        refine wp_istore dX1_groupValue_106 (Nat.le_of_ble_eq_true rfl) ?_
        refine wp_iload dX1_groupValue_108 rfl ?_
        refine wp_aload dX1_groupValue_110 rfl ?_
        refine wp_getI dX1_groupValue_112 fl_X1_72 hcx.1.1 rfl ?_
        rw [e1]
        refine wp_if_ne (tgt := 131) dX1_groupValue_115 (by decide) (fun c115 => ?_) (fun c115 => ?_)
        · refine wp_iconst (v := 0) dX1_groupValue_131 rfl ?_
          exact wp_lv (J132 har hfl a1 a2 ha1 ha2 0 (by rw [if_neg (fun q => c115 q.1)])) (by repeat (first | exact trivial | refine ⟨rfl, ?_⟩))
        · refine wp_lload dX1_groupValue_118 rfl ?_
          refine wp_ldc2 dX1_groupValue_120 kl_X1_60 ?_
          refine wp_lcmp dX1_groupValue_123 ?_
          refine wp_if_eq (tgt := 131) dX1_groupValue_124 (by decide) (fun c124 => ?_) (fun c124 => ?_)
          · refine wp_iconst (v := 0) dX1_groupValue_131 rfl ?_
            exact wp_lv (J132 har hfl a1 a2 ha1 ha2 0 (by rw [if_neg (fun q => by have := (cV_m1 hvb).mp ((lg_eq _ _).mp c124); rw [this] at q; exact absurd q.2 (by decide))])) (by repeat (first | exact trivial | refine ⟨rfl, ?_⟩))
          · refine wp_iconst (v := 1) dX1_groupValue_127 rfl ?_
            refine wp_goto (tgt := 132) dX1_groupValue_128 (by decide) ?_
            have hsm : (Tb c).isSome = true := by
              cases htb : Tb c with
              | none => exact absurd ((lg_eq _ _).mpr (by rw [htb]; rfl)) c124
              | some w => rfl
            exact wp_lv (J132 har hfl a1 a2 ha1 ha2 1 (by rw [if_pos ⟨c115, hsm⟩])) (by repeat (first | exact trivial | refine ⟨rfl, ?_⟩))
      have J86 : nAr (nd c) = nI k → ¬ flt (nd c) (Tb c) = true → ∀ a1 : Int32, a1 = b2i (0 < (gSt (nd c) (Tb c) s).2.1) → ∀ z : Int32, Wp (xM E mX1_groupValue 1 0 0 SH.length (RV (some (.long (cV (gV (nd k) (gS nd Tb k (n - 1 - k)))))) SH M)) 0 0 86 [(10, .long (cV (Tb c))), (9, .ref (T + 2 + 2 * c)), (8, .int (nI c)), (3, .long (lN s.2.2.2.2)), (5, .int z), (6, .int (b2i (0 < s.2.2.1))), (7, .int (nI s.2.2.2.1)), (1, .ref T), (2, .int (nI k)), (0, .ref 113)] [.int a1] SH M := by
        intro har hfl a1 ha1 z
        have em : (gSt (nd c) (Tb c) s).2.2.1 = s.2.2.1 + (if nMa (nd c) = 0 then 1 else 0) := rfl
        refine wp_istore dX1_groupValue_86 (Nat.le_of_ble_eq_true rfl) ?_
        refine wp_iload dX1_groupValue_88 rfl ?_
        refine wp_if_ne (tgt := 101) dX1_groupValue_90 (by decide) (fun c90 => ?_) (fun c90 => ?_)
        · refine wp_iconst (v := 1) dX1_groupValue_101 rfl ?_
          refine wp_goto (tgt := 106) dX1_groupValue_102 (by decide) ?_
          exact wp_lv (J106 har hfl a1 1 ha1 (b2i_t (by rw [em]; have := b2i_ne.mp c90; omega)).symm _) (by repeat (first | exact trivial | refine ⟨rfl, ?_⟩))
        · refine wp_aload dX1_groupValue_93 rfl ?_
          refine wp_getI dX1_groupValue_95 fl_X1_72 hcx.1.1 rfl ?_
          rw [e1]
          refine wp_if_ne (tgt := 105) dX1_groupValue_98 (by decide) (fun c98 => ?_) (fun c98 => ?_)
          · refine wp_iconst (v := 0) dX1_groupValue_105 rfl ?_
            exact wp_lv (J106 har hfl a1 0 ha1 (b2i_f (by rw [em, if_neg c98]; have := b2i_e0.mp c90; omega)).symm _) (by repeat (first | exact trivial | refine ⟨rfl, ?_⟩))
          · refine wp_iconst (v := 1) dX1_groupValue_101 rfl ?_
            refine wp_goto (tgt := 106) dX1_groupValue_102 (by decide) ?_
            exact wp_lv (J106 har hfl a1 1 ha1 (b2i_t (by rw [em, if_pos c98]; omega)).symm _) (by repeat (first | exact trivial | refine ⟨rfl, ?_⟩))
      have em : (gSt (nd c) (Tb c) s).2.1 = s.2.1 + (if nMa (nd c) = 1 then 1 else 0) := rfl
      have hfi : b2i ((nMa (nd c) = 1 ∧ cV (Tb c) = -1) ∨ (nMa (nd c) = 2 ∧ cV (Tb c) ≠ -1)) = b2i (flt (nd c) (Tb c) = true) := b2i_c (by rw [flt_iff, ne_eq, ne_eq, cV_m1 hvb])
      refine wp_iload dX1_groupValue_16 rfl ?_
      refine wp_aload_n dX1_groupValue_18 rfl ?_
      refine wp_getI dX1_groupValue_19 fl_X1_29 (sh_T hT).1 rfl ?_
      rw [hcn]
      refine wp_icmp_ge (tgt := 150) dX1_groupValue_22 (by decide) (fun c22 => absurd c22 (nI_ge hcl (by omega))) (fun c22 => ?_)
      refine wp_aload_n dX1_groupValue_25 rfl ?_
      refine wp_iload dX1_groupValue_26 rfl ?_
      refine wp_cV1a dX1_groupValue_28 ml_X1_35 vX7_at (isO_T hT) (cX7_at_ E T (nI c) M hT hr) (Nat.le_of_ble_eq_true rfl) (Nat.le_of_ble_eq_true rfl) (Nat.le_of_ble_eq_true rfl) ?_
      rw [atK_nI (show c < 25 by omega)]
      refine wp_astore dX1_groupValue_31 (Nat.le_of_ble_eq_true rfl) ?_
      refine wp_aload dX1_groupValue_33 rfl ?_
      refine wp_getI dX1_groupValue_35 fl_X1_69 hcx.1.1 rfl ?_
      rw [e6]
      refine wp_iload_n dX1_groupValue_38 rfl ?_
      refine wp_icmp_ne (tgt := 144) dX1_groupValue_39 (by decide) (fun c39 => ?_) (fun c39 => ?_)
      · refine wp_iinc dX1_groupValue_144 rfl (i_inc _) (Nat.le_of_ble_eq_true rfl) ?_
        refine wp_goto (tgt := 16) dX1_groupValue_147 (by decide) ?_
        rw [hgs, if_neg c39] at hih
        exact wp_lv (hih h1) (by repeat (first | exact trivial | refine ⟨rfl, ?_⟩))
      · refine wp_aload_n dX1_groupValue_42 rfl ?_
        refine wp_iload dX1_groupValue_43 rfl ?_
        refine wp_cV1l dX1_groupValue_45 ml_X1_65 vX1_valueAt ⟨1, (RX1, TX1, 3), rfl, rfl, rfl⟩ (cX1_valueAt_ E c M hj2 (by omega)) (Nat.le_of_ble_eq_true rfl) (Nat.le_of_ble_eq_true rfl) (Nat.le_of_ble_eq_true rfl) ?_
        rw [hv]
        refine wp_lstore dX1_groupValue_48 (Nat.le_of_ble_eq_true rfl) ?_
        refine wp_aload dX1_groupValue_50 rfl ?_
        refine wp_getI dX1_groupValue_52 fl_X1_72 hcx.1.1 rfl ?_
        rw [e1]
        refine wp_lload dX1_groupValue_55 rfl ?_
        refine wp_cS2i dX1_groupValue_57 ml_X1_75 sX1_isFault (cX1_isFault_ E _ _ _ _) (Nat.le_of_ble_eq_true rfl) (Nat.le_of_ble_eq_true rfl) (Nat.le_of_ble_eq_true rfl) ?_
        rw [hfi]
        refine wp_if_eq (tgt := 67) dX1_groupValue_60 (by decide) (fun c60 => ?_) (fun c60 => ?_)
        · refine wp_iload dX1_groupValue_67 rfl ?_
          refine wp_if_ne (tgt := 81) dX1_groupValue_69 (by decide) (fun c69 => ?_) (fun c69 => ?_)
          · refine wp_iconst (v := 1) dX1_groupValue_81 rfl ?_
            refine wp_goto (tgt := 86) dX1_groupValue_82 (by decide) ?_
            exact wp_lv (J86 c39 (b2i_e0.mp c60) 1 (b2i_t (by rw [em]; have := b2i_ne.mp c69; omega)).symm _) (by repeat (first | exact trivial | refine ⟨rfl, ?_⟩))
          · refine wp_aload dX1_groupValue_72 rfl ?_
            refine wp_getI dX1_groupValue_74 fl_X1_72 hcx.1.1 rfl ?_
            rw [e1]
            refine wp_iconst (v := 1) dX1_groupValue_77 rfl ?_
            refine wp_icmp_ne (tgt := 85) dX1_groupValue_78 (by decide) (fun c78 => ?_) (fun c78 => ?_)
            · refine wp_iconst (v := 0) dX1_groupValue_85 rfl ?_
              exact wp_lv (J86 c39 (b2i_e0.mp c60) 0 (b2i_f (by rw [em, if_neg c78]; have := b2i_e0.mp c69; omega)).symm _) (by repeat (first | exact trivial | refine ⟨rfl, ?_⟩))
            · refine wp_iconst (v := 1) dX1_groupValue_81 rfl ?_
              refine wp_goto (tgt := 86) dX1_groupValue_82 (by decide) ?_
              exact wp_lv (J86 c39 (b2i_e0.mp c60) 1 (b2i_t (by rw [em, if_pos c78]; omega)).symm _) (by repeat (first | exact trivial | refine ⟨rfl, ?_⟩))
        · refine wp_ldc2 dX1_groupValue_63 kl_X1_60 ?_
          refine wp_lreturn dX1_groupValue_66 rfl (Nat.zero_le _) (Nat.zero_le _) ?_
          have hf0 : (gS nd Tb k (m + 1)).1 = false := by
            rw [hgs, if_pos c39]
            show (s.1 && !flt (nd c) (Tb c)) = false
            rw [b2i_ne.mp c60, h1]; rfl
          have hf1 := gS_f hf0 (n - 1 - k - (m + 1))
          rw [show m + 1 + (n - 1 - k - (m + 1)) = n - 1 - k by omega] at hf1
          unfold gV
          rw [if_neg (fun q => by rw [hf1] at q; exact absurd q.1 (by decide))]
          exact ⟨rfl, rfl, rfl⟩
  refine wp_lconst (v := 0) dX1_groupValue_0 rfl ?_
  refine wp_lstore_n dX1_groupValue_1 (Nat.le_of_ble_eq_true rfl) ?_
  refine wp_iconst (v := 0) dX1_groupValue_2 rfl ?_
  refine wp_istore dX1_groupValue_3 (Nat.le_of_ble_eq_true rfl) ?_
  refine wp_iconst (v := 0) dX1_groupValue_5 rfl ?_
  refine wp_istore dX1_groupValue_6 (Nat.le_of_ble_eq_true rfl) ?_
  refine wp_iconst (v := 0) dX1_groupValue_8 rfl ?_
  refine wp_istore dX1_groupValue_9 (Nat.le_of_ble_eq_true rfl) ?_
  refine wp_iload_n dX1_groupValue_11 rfl ?_
  refine wp_iconst (v := 1) dX1_groupValue_12 rfl ?_
  refine wp_iadd dX1_groupValue_13 ?_
  rw [nI_1]
  refine wp_istore dX1_groupValue_14 (Nat.le_of_ble_eq_true rfl) ?_
  exact wp_lv (loop (n - 1 - k) 0 (by omega) rfl) (by repeat (first | exact trivial | refine ⟨rfl, ?_⟩))
set_option maxRecDepth 100000 in
set_option maxHeartbeats 4000000 in
theorem cX1_weigh_ (E : GE) (T n k D : Nat) (nd : Nat → ND) (dc : Nat → List (List Nat)) (M : Mem) (hct : CT M T n nd) (hd : DT nd n) (hk : k < n) (hD : D < 8) (hj : JC M dc) (hdc : dcOk dc) : Sp E mX1_weigh 6 0 0 [.ref 113, .ref T, .int (nI k), .int (nI D)] SH M (fun o sh1 M1 => sh1 = SH ∧ o = some (.long (cV (vT nd n dc D n k))) ∧ jF M M1 ∧ ∀ j, k ≤ j → j < n → aL M1 119 j = cV (vT nd n dc D n j)) := by
  refine sp_of vX1_weigh.1 rfl (Nat.le_of_ble_eq_true rfl) ?_
  have hT := hct.1
  have hn25 := hct.2.2.2.1
  have hdl : ∀ r, r < 32 → (dc r).length ≤ 12 := fun r hr => (hj.2 r hr).2.1
  have loop : ∀ (s r : Nat) (M1 : Mem), k + s + r = n → jF M M1 → (∀ j, n - r ≤ j → j < n → aL M1 119 j = cV (vT nd n dc D r j)) → Wp (xM E mX1_weigh 6 0 0 SH.length (fun o sh1 M1 => sh1 = SH ∧ o = some (.long (cV (vT nd n dc D n k))) ∧ jF M M1 ∧ ∀ j, k ≤ j → j < n → aL M1 119 j = cV (vT nd n dc D n j))) 0 0 8 [(4, .int (nI (n - r) - 1)), (1, .ref T), (2, .int (nI k)), (3, .int (nI D)), (0, .ref 113)] [] SH M1 := by
    intro s
    induction s with
    | zero =>
      intro r M1 hr hF ha
      have e : n - r = k := by omega
      have hj1 := hj.fr hF
      rw [e] at ha ⊢
      have hv : ∀ j, k ≤ j → j < n → aL M1 119 j = cV (vT nd n dc D n j) := fun j h1 h2 => by
        have := vT_st nd n dc D (r := r) (c := j) (by omega) (n - r) (by omega)
        rw [show r + (n - r) = n by omega] at this
        rw [this]; exact ha j h1 h2
      refine wp_iload dX1_weigh_8 rfl ?_
      refine wp_iload_n dX1_weigh_10 rfl ?_
      refine wp_icmp_lt (tgt := 101) dX1_weigh_11 (by decide) (fun c11 => ?_) (fun c11 => absurd (pred_lt (by omega)) c11)
      refine wp_aload_n dX1_weigh_101 rfl ?_
      refine wp_iload_n dX1_weigh_102 rfl ?_
      refine wp_cV1l dX1_weigh_103 ml_X1_65 vX1_valueAt ⟨1, (RX1, TX1, 3), rfl, rfl, rfl⟩ (cX1_valueAt_ E k M1 hj1.1.2.2.1 (by omega)) (Nat.le_of_ble_eq_true rfl) (Nat.le_of_ble_eq_true rfl) (Nat.le_of_ble_eq_true rfl) ?_
      refine wp_lreturn dX1_weigh_106 rfl (Nat.zero_le _) (Nat.zero_le _) ?_
      rw [hv k (Nat.le_refl _) hk]
      exact ⟨rfl, rfl, hF, hv⟩
    | succ s ih =>
      intro r M1 hr hF ha
      obtain ⟨c, hc⟩ : ∃ c, c = n - r - 1 := ⟨_, rfl⟩
      have hcn : c < n := by omega
      have ec : nI (n - r) - 1 = nI c := by rw [nI_m (by omega), hc]
      rw [ec]
      have hj1 := hj.fr hF
      have hct1 := hct.fj hF
      have hr1 := hct1.2.1
      have hcx := hct1.cx hcn
      have e0 : fI M1 (T + 2 + 2 * c) 0 = nCo (nd c) := hcx.2.2.2.1
      obtain ⟨hb99, hbo, hdc'⟩ := hd.2.1 c hcn
      have hvs : ∀ j, vT nd n dc D (r + 1) j = if j = c then nV nd n dc D (vT nd n dc D r) j else vT nd n dc D r j := fun j => by rw [hc, show n - r - 1 = n - 1 - r by omega]; rfl
      have J95 : ∀ (M2 : Mem), jF M M2 → (∀ j, aL M2 119 j = if j = c then cV (nV nd n dc D (vT nd n dc D r) c) else aL M1 119 j) → Wp (xM E mX1_weigh 6 0 0 SH.length (fun o sh1 M1 => sh1 = SH ∧ o = some (.long (cV (vT nd n dc D n k))) ∧ jF M M1 ∧ ∀ j, k ≤ j → j < n → aL M1 119 j = cV (vT nd n dc D n j))) 0 0 95 [(4, .int (nI c)), (1, .ref T), (2, .int (nI k)), (3, .int (nI D)), (0, .ref 113)] [] SH M2 := by
        intro M2 hF2 h2
        refine wp_iinc dX1_weigh_95 rfl (i_neg1 _) (Nat.le_of_ble_eq_true rfl) ?_
        refine wp_goto (tgt := 8) dX1_weigh_98 (by decide) ?_
        have h := ih (r + 1) M2 (by omega) hF2 (fun j h3 h4 => by
          rw [h2, hvs]
          by_cases z : j = c
          · rw [if_pos z, if_pos z, z]
          · rw [if_neg z, if_neg z]; exact ha j (by omega) h4)
        rw [show n - (r + 1) = c by omega] at h
        exact wp_lv h (by repeat (first | exact trivial | refine ⟨rfl, ?_⟩))
      refine wp_iload dX1_weigh_8 rfl ?_
      refine wp_iload_n dX1_weigh_10 rfl ?_
      refine wp_icmp_lt (tgt := 101) dX1_weigh_11 (by decide) (fun c11 => absurd c11 (fun q => by have := (nI_lti (by omega) (by omega)).mp q; omega)) (fun c11 => ?_)
      refine wp_iload dX1_weigh_14 rfl ?_
      refine wp_if_lt (tgt := 101) dX1_weigh_16 (by decide) (fun c16 => absurd c16 (nI_pos (by omega))) (fun c16 => ?_)
      refine wp_aload_n dX1_weigh_19 rfl ?_
      refine wp_iload dX1_weigh_20 rfl ?_
      refine wp_cV1a dX1_weigh_22 ml_X1_35 vX7_at (isO_T hT) (cX7_at_ E T (nI c) M1 hT hr1) (Nat.le_of_ble_eq_true rfl) (Nat.le_of_ble_eq_true rfl) (Nat.le_of_ble_eq_true rfl) ?_
      rw [atK_nI (show c < 25 by omega)]
      refine wp_astore dX1_weigh_25 (Nat.le_of_ble_eq_true rfl) ?_
      refine wp_aload dX1_weigh_27 rfl ?_
      refine wp_getI dX1_weigh_29 fl_X1_39 hcx.1.1 rfl ?_
      rw [e0]
      refine wp_iconst (v := 3) dX1_weigh_32 rfl ?_
      refine wp_icmp_ne (tgt := 52) dX1_weigh_33 (by decide) (fun c33 => ?_) (fun c33 => ?_)
      · have hnv : nV nd n dc D (vT nd n dc D r) c = lV (nd c) (cntD (nd c) (fo nd c) dc D 4) := by unfold nV; rw [if_neg c33]
        have hc1 : 1 ≤ c := Nat.pos_of_ne_zero fun q => c33 (by rw [q]; exact hct.2.2.2.2.2.1.1)
        have hcnt := cntD_le (x := nd c) (told := fo nd c) hdl hD 4 (Nat.le_refl _)
        refine wp_aload_n dX1_weigh_52 rfl ?_
        refine wp_aload dX1_weigh_53 rfl ?_
        refine wp_aload_n dX1_weigh_55 rfl ?_
        refine wp_iload dX1_weigh_56 rfl ?_
        refine wp_cV1i dX1_weigh_58 ml_X1_52 vX7_fieldOf (isO_T hT) (cX7_fieldOf_ E T n c nd M1 hct1 hd hcn) (Nat.le_of_ble_eq_true rfl) (Nat.le_of_ble_eq_true rfl) (Nat.le_of_ble_eq_true rfl) ?_
        refine wp_iload_n dX1_weigh_61 rfl ?_
        refine wp_cV3p dX1_weigh_62 ml_X1_56 vX1_countFits ⟨1, (RX1, TX1, 3), rfl, rfl, rfl⟩ (cX1_countFits_ E (T + 2 + 2 * c) (nd c) dc D hD M1 hj1 hdc hcx (hct.2.2.2.2.2.2.1 c hc1 hcn) (hct.2.2.2.2.2.2.2 c hcn) (fo nd c)) (Nat.le_of_ble_eq_true rfl) (Nat.le_of_ble_eq_true rfl) (Nat.le_of_ble_eq_true rfl) (Nat.le_refl _) (Nat.le_refl _) (fun v sh1 M2 hqq => ?_)
        obtain ⟨rfl, rfl, hF1⟩ := hqq
        have hj3 := hj1.fr (kF_j hF1)
        have hcx2 := hcx.fj (kF_j hF1)
        have e2 : fI M2 (T + 2 + 2 * c) 2 = nI (bo (nd c)) := hcx2.2.2.2.2.2.1.trans hbo
        have hsame : ∀ j, aL M2 119 j = aL M1 119 j := fun j => hF1.2.2.1 119 (by simp) j
        have hJ92 : ∀ v : Int64, v = cV (nV nd n dc D (vT nd n dc D r) c) → ∀ y : Int64, Wp (xM E mX1_weigh 6 0 0 SH.length (fun o sh1 M1 => sh1 = SH ∧ o = some (.long (cV (vT nd n dc D n k))) ∧ jF M M1 ∧ ∀ j, k ≤ j → j < n → aL M1 119 j = cV (vT nd n dc D n j))) 0 0 92 [(5, .ref (T + 2 + 2 * c)), (6, .long y), (4, .int (nI c)), (1, .ref T), (2, .int (nI k)), (3, .int (nI D)), (0, .ref 113)] [.long v, .int (nI c), .ref 113] SH M2 := by
          intro v hv y
          refine wp_cV2v dX1_weigh_92 ml_X1_48 vX1_setValue ⟨1, (RX1, TX1, 3), rfl, rfl, rfl⟩ (cX1_setValue_ E c v M2 hj3.1.2.2.1 (by omega)) (Nat.le_of_ble_eq_true rfl) (Nat.le_of_ble_eq_true rfl) (Nat.le_of_ble_eq_true rfl) ?_
          refine wp_lv (J95 _ ((hF.tr (kF_j hF1)).sL (by simp)) (fun j => ?_)) (by repeat (first | exact trivial | refine ⟨rfl, ?_⟩))
          rw [aL_sL, hv]
          by_cases z : j = c
          · rw [if_pos ⟨rfl, z⟩, if_pos z]
          · rw [if_neg (fun q => z q.2), if_neg z]; exact hsame j
        refine wp_lstore dX1_weigh_65 (Nat.le_of_ble_eq_true rfl) ?_
        refine wp_aload_n dX1_weigh_67 rfl ?_
        refine wp_iload dX1_weigh_68 rfl ?_
        refine wp_lload dX1_weigh_70 rfl ?_
        refine wp_lconst (v := 0) dX1_weigh_72 rfl ?_
        refine wp_lcmp dX1_weigh_73 ?_
        refine wp_if_ne (tgt := 83) dX1_weigh_74 (by decide) (fun c74 => ?_) (fun c74 => ?_)
        · refine wp_aload dX1_weigh_83 rfl ?_
          refine wp_getI dX1_weigh_85 fl_X1_62 hcx2.1.1 rfl ?_
          rw [e2]
          refine wp_i2l dX1_weigh_88 ?_
          rw [lNi (show bo (nd c) < 2 ^ 31 by omega)]
          refine wp_lload dX1_weigh_89 rfl ?_
          refine wp_lmul dX1_weigh_91 ?_
          exact wp_lv (hJ92 _ (by rw [hnv]; unfold lV; rw [if_neg (fun q => c74 ((lg_eq _ _).mpr (by rw [q]; rfl)))]; rw [lNmul]; rfl) _) (by repeat (first | exact trivial | refine ⟨rfl, ?_⟩))
        · refine wp_ldc2 dX1_weigh_77 kl_X1_60 ?_
          refine wp_goto (tgt := 92) dX1_weigh_80 (by decide) ?_
          have h0 : cntD (nd c) (fo nd c) dc D 4 = 0 := (lNeq (b := 0) (by omega) (by decide)).mp ((lg_eq _ _).mp c74)
          exact wp_lv (hJ92 _ (by rw [hnv]; unfold lV; rw [if_pos h0]; rfl) _) (by repeat (first | exact trivial | refine ⟨rfl, ?_⟩))
      · have hnv : nV nd n dc D (vT nd n dc D r) c = gV (nd c) (gS nd (vT nd n dc D r) c (n - 1 - c)) := by unfold nV; rw [if_pos c33]
        refine wp_aload_n dX1_weigh_36 rfl ?_
        refine wp_iload dX1_weigh_37 rfl ?_
        refine wp_aload_n dX1_weigh_39 rfl ?_
        refine wp_aload_n dX1_weigh_40 rfl ?_
        refine wp_iload dX1_weigh_41 rfl ?_
        refine wp_cV2l dX1_weigh_43 ml_X1_44 vX1_groupValue ⟨1, (RX1, TX1, 3), rfl, rfl, rfl⟩ (cX1_groupValue_ E T n c nd (vT nd n dc D r) M1 hct1 hd hcn hj1.1.2.2.1 (fun j h1 h2 => ha j (by omega) h2) (fun j h1 h2 w hw => vT_lt hd hdl hD (by omega) (by omega) h2 hw)) (Nat.le_of_ble_eq_true rfl) (Nat.le_of_ble_eq_true rfl) (Nat.le_of_ble_eq_true rfl) ?_
        refine wp_cV2v dX1_weigh_46 ml_X1_48 vX1_setValue ⟨1, (RX1, TX1, 3), rfl, rfl, rfl⟩ (cX1_setValue_ E c _ M1 hj1.1.2.2.1 (by omega)) (Nat.le_of_ble_eq_true rfl) (Nat.le_of_ble_eq_true rfl) (Nat.le_of_ble_eq_true rfl) ?_
        refine wp_goto (tgt := 95) dX1_weigh_49 (by decide) ?_
        refine wp_lv (J95 _ (hF.sL (by simp)) (fun j => ?_)) (by repeat (first | exact trivial | refine ⟨rfl, ?_⟩))
        rw [aL_sL, hnv]
        by_cases z : j = c
        · rw [if_pos ⟨rfl, z⟩, if_pos z]
        · rw [if_neg (fun q => z q.2), if_neg z]
  have hcn0 := hct.2.2.1.1
  refine wp_aload_n dX1_weigh_0 rfl ?_
  refine wp_getI dX1_weigh_1 fl_X1_29 (sh_T hT).1 rfl ?_
  rw [hcn0]
  refine wp_iconst (v := 1) dX1_weigh_4 rfl ?_
  refine wp_isub dX1_weigh_5 ?_
  refine wp_istore dX1_weigh_6 (Nat.le_of_ble_eq_true rfl) ?_
  exact wp_lv (loop (n - k) 0 M (by omega) Fr.rf (fun j h1 h2 => absurd h2 (by omega))) (by repeat (first | exact trivial | refine ⟨rfl, ?_⟩))
/-- the first of the query's own clauses with a mark that is at fault -/
def ff (nd : Nat → ND) (V : Nat → Option Nat) (mk : Int32) : Nat → Nat → Nat
  | 0, _ => 0
  | r + 1, k => if nAr (nd k) = 0 ∧ nMa (nd k) = mk ∧ flt (nd k) (V k) = true then k else ff nd V mk r (k + 1)
set_option maxRecDepth 100000 in
set_option maxHeartbeats 4000000 in
theorem cX1_firstFault_ (E : GE) (T n : Nat) (mk : Int32) (nd : Nat → ND) (V : Nat → Option Nat) (M : Mem) (hct : CT M T n nd) (hn0 : 1 ≤ n) (hj2 : fR M 113 2 = some 119) (hrow : ∀ c, 1 ≤ c → c < n → aL M 119 c = cV (V c)) (hbd : ∀ c, 1 ≤ c → c < n → ∀ w, V c = some w → w < 2 ^ 62) : Sp E mX1_firstFault 1 0 0 [.ref 113, .ref T, .int mk] SH M (RV (some (.int (nI (ff nd V mk (n - 1) 1)))) SH M) := by
  refine sp_of vX1_firstFault.1 rfl (Nat.le_of_ble_eq_true rfl) ?_
  have hT := hct.1
  have hr := hct.2.1
  have hn25 := hct.2.2.2.1
  have hcn := hct.2.2.1.1
  have loop : ∀ (r k : Nat), k + r = n → 1 ≤ k → ff nd V mk r k = ff nd V mk (n - 1) 1 → Wp (xM E mX1_firstFault 1 0 0 SH.length (RV (some (.int (nI (ff nd V mk (n - 1) 1)))) SH M)) 0 0 2 [(3, .int (nI k)), (1, .ref T), (2, .int mk), (0, .ref 113)] [] SH M := by
    intro r
    induction r with
    | zero =>
      intro k hk h1 hf
      have hk : k = n := by omega
      subst hk
      refine wp_iload_n dX1_firstFault_2 rfl ?_
      refine wp_aload_n dX1_firstFault_3 rfl ?_
      refine wp_getI dX1_firstFault_4 fl_X1_29 (sh_T hT).1 rfl ?_
      rw [hcn]
      refine wp_icmp_ge (tgt := 54) dX1_firstFault_7 (by decide) (fun c7 => ?_) (fun c7 => absurd (Int32.le_refl _) c7)
      refine wp_iconst (v := 0) dX1_firstFault_54 rfl ?_
      refine wp_ireturn dX1_firstFault_55 rfl rfl (Nat.zero_le _) (Nat.zero_le _) ?_
      rw [← hf]
      exact ⟨rfl, rfl, rfl⟩
    | succ r ih =>
      intro k hk h1 hf
      have hkn : k < n := by omega
      have hcx := hct.cx hkn
      have e1 : fI M (T + 2 + 2 * k) 1 = nMa (nd k) := hcx.2.2.2.2.1
      have e6 : fI M (T + 2 + 2 * k) 6 = nAr (nd k) := hcx.2.2.2.2.2.2.2.2.2.1
      have hv := hrow k h1 hkn
      have hvb := hbd k h1 hkn
      have hf' : (if nAr (nd k) = 0 ∧ nMa (nd k) = mk ∧ flt (nd k) (V k) = true then k else ff nd V mk r (k + 1)) = ff nd V mk (n - 1) 1 := hf
      have hfi : nMa (nd k) = mk → b2i ((mk = 1 ∧ cV (V k) = -1) ∨ (mk = 2 ∧ cV (V k) ≠ -1)) = b2i (flt (nd k) (V k) = true) := fun e => b2i_c (by rw [flt_iff, ne_eq, ne_eq, cV_m1 hvb, e])
      refine wp_iload_n dX1_firstFault_2 rfl ?_
      refine wp_aload_n dX1_firstFault_3 rfl ?_
      refine wp_getI dX1_firstFault_4 fl_X1_29 (sh_T hT).1 rfl ?_
      rw [hcn]
      refine wp_icmp_ge (tgt := 54) dX1_firstFault_7 (by decide) (fun c7 => absurd c7 (nI_ge hkn (by omega))) (fun c7 => ?_)
      refine wp_aload_n dX1_firstFault_10 rfl ?_
      refine wp_iload_n dX1_firstFault_11 rfl ?_
      refine wp_cV1a dX1_firstFault_12 ml_X1_35 vX7_at (isO_T hT) (cX7_at_ E T (nI k) M hT hr) (Nat.le_of_ble_eq_true rfl) (Nat.le_of_ble_eq_true rfl) (Nat.le_of_ble_eq_true rfl) ?_
      rw [atK_nI (show k < 25 by omega)]
      refine wp_astore dX1_firstFault_15 (Nat.le_of_ble_eq_true rfl) ?_
      refine wp_aload dX1_firstFault_17 rfl ?_
      refine wp_getI dX1_firstFault_19 fl_X1_69 hcx.1.1 rfl ?_
      rw [e6]
      refine wp_if_ne (tgt := 48) dX1_firstFault_22 (by decide) (fun c22 => ?_) (fun c22 => ?_)
      · refine wp_iinc dX1_firstFault_48 rfl (i_inc _) (Nat.le_of_ble_eq_true rfl) ?_
        refine wp_goto (tgt := 2) dX1_firstFault_51 (by decide) ?_
        rw [if_neg (fun q => c22 q.1)] at hf'
        exact wp_lv (ih (k + 1) (by omega) (by omega) hf') (by repeat (first | exact trivial | refine ⟨rfl, ?_⟩))
      · refine wp_aload dX1_firstFault_25 rfl ?_
        refine wp_getI dX1_firstFault_27 fl_X1_72 hcx.1.1 rfl ?_
        rw [e1]
        refine wp_iload_n dX1_firstFault_30 rfl ?_
        refine wp_icmp_ne (tgt := 48) dX1_firstFault_31 (by decide) (fun c31 => ?_) (fun c31 => ?_)
        · refine wp_iinc dX1_firstFault_48 rfl (i_inc _) (Nat.le_of_ble_eq_true rfl) ?_
          refine wp_goto (tgt := 2) dX1_firstFault_51 (by decide) ?_
          rw [if_neg (fun q => c31 q.2.1)] at hf'
          exact wp_lv (ih (k + 1) (by omega) (by omega) hf') (by repeat (first | exact trivial | refine ⟨rfl, ?_⟩))
        · refine wp_iload_n dX1_firstFault_34 rfl ?_
          refine wp_aload_n dX1_firstFault_35 rfl ?_
          refine wp_iload_n dX1_firstFault_36 rfl ?_
          refine wp_cV1l dX1_firstFault_37 ml_X1_65 vX1_valueAt ⟨1, (RX1, TX1, 3), rfl, rfl, rfl⟩ (cX1_valueAt_ E k M hj2 (by omega)) (Nat.le_of_ble_eq_true rfl) (Nat.le_of_ble_eq_true rfl) (Nat.le_of_ble_eq_true rfl) ?_
          rw [hv]
          refine wp_cS2i dX1_firstFault_40 ml_X1_75 sX1_isFault (cX1_isFault_ E _ _ _ _) (Nat.le_of_ble_eq_true rfl) (Nat.le_of_ble_eq_true rfl) (Nat.le_of_ble_eq_true rfl) ?_
          rw [hfi c31]
          refine wp_if_eq (tgt := 48) dX1_firstFault_43 (by decide) (fun c43 => ?_) (fun c43 => ?_)
          · refine wp_iinc dX1_firstFault_48 rfl (i_inc _) (Nat.le_of_ble_eq_true rfl) ?_
            refine wp_goto (tgt := 2) dX1_firstFault_51 (by decide) ?_
            rw [if_neg (fun q => b2i_e0.mp c43 q.2.2)] at hf'
            exact wp_lv (ih (k + 1) (by omega) (by omega) hf') (by repeat (first | exact trivial | refine ⟨rfl, ?_⟩))
          · refine wp_iload_n dX1_firstFault_46 rfl ?_
            refine wp_ireturn dX1_firstFault_47 rfl rfl (Nat.zero_le _) (Nat.zero_le _) ?_
            rw [if_pos ⟨c22, c31, b2i_ne.mp c43⟩] at hf'
            rw [← hf']
            exact ⟨rfl, rfl, rfl⟩
  refine wp_iconst (v := 1) dX1_firstFault_0 rfl ?_
  refine wp_istore_n dX1_firstFault_1 (Nat.le_of_ble_eq_true rfl) ?_
  exact wp_lv (loop (n - 1) 1 (by omega) (Nat.le_refl _) rfl) (by repeat (first | exact trivial | refine ⟨rfl, ?_⟩))
