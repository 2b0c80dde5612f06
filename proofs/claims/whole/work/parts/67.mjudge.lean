/-! ===== the model: fits, worth, why, rank ===== -/
set_option maxRecDepth 100000 in
set_option maxHeartbeats 4000000 in
theorem cX9_fits_ (E : GE) (tp gn : List Nat) (q : QQ) (o : Option (List Nat)) (dc : Nat → List (List Nat)) (M : Mem) (h : RM M tp gn q o dc) (hk : QOk q) (hdc : dcOk dc) (k d : Int32) : Sp E mX9_fits 5 0 0 [.ref 121, .int k, .int d] SH M (pDocM M (ftV q dc k d) tp gn q o dc) := by
  refine sp_of vX9_fits.1 rfl (Nat.le_of_ble_eq_true rfl) ?_
  have h0m : RM (sI M 121 0 0) tp gn q o dc := RM_sI h (by decide)
  have en : fI (sI M 121 0 0) 121 13 = nI q.1 := h0m.2.2.2.1.1
  have hn25 := h.2.2.2.1.2.1
  have hw0 : wF M (sI M 121 0 0) := wF_0 0
  have hdl : ∀ r, r < 32 → (dc r).length ≤ 12 := fun r hr => (h.2.2.2.2.2 r hr).2.1
  have hb : b2i (0 ≤ k ∧ k ≤ fI (sI M 121 0 0) 121 13 - 1) = b2i (hasI q k) := by rw [en]; exact b2i_c (hasI_m hn25 k)
  have hdb : b2i (0 ≤ d ∧ d ≤ 7) = b2i (docI d) := rfl
  refine wp_aload_n dX9_fits_0 rfl ?_
  refine wp_iconst (v := 0) dX9_fits_1 rfl ?_
  refine wp_putI dX9_fits_2 fl_X9_1 rfl rfl (fun _ _ _ h => by cases h; rfl) rfl rfl ?_
  refine wp_aload_n dX9_fits_5 rfl ?_
  refine wp_iload_n dX9_fits_6 rfl ?_
  refine wp_cV1i dX9_fits_7 ml_X9_193 vX9_isNode ⟨8, (RX9, TX9, 39), rfl, rfl, rfl⟩ (cX9_isNode_ E k _) (Nat.le_of_ble_eq_true rfl) (Nat.le_of_ble_eq_true rfl) (Nat.le_of_ble_eq_true rfl) ?_
  rw [hb]
  refine wp_if_eq (tgt := 20) dX9_fits_10 (by decide) (fun c10 => ?_) (fun c10 => ?_)
  · refine wp_bipush (v := (-101)) dX9_fits_20 (by decide) ?_
    refine wp_ireturn dX9_fits_22 rfl rfl (Nat.zero_le _) (Nat.zero_le _) ?_
    unfold ftV
    rw [if_neg (fun z => b2i_e0.mp c10 z.1)]
    exact ⟨rfl, rfl, rfl, h0m, wF_out hw0⟩
  · refine wp_iload_n dX9_fits_13 rfl ?_
    refine wp_cS1i dX9_fits_14 ml_X9_214 sX9_isDocument (cX9_isDocument_ E d _ _) (Nat.le_of_ble_eq_true rfl) (Nat.le_of_ble_eq_true rfl) (Nat.le_of_ble_eq_true rfl) ?_
    rw [hdb]
    refine wp_if_ne (tgt := 23) dX9_fits_17 (by decide) (fun c17 => ?_) (fun c17 => ?_)
    · have hh := b2i_ne.mp c10
      have hd8 := b2i_ne.mp c17
      have h0 : q.1 ≠ 0 := fun e => hasI_0 e k hh
      obtain ⟨K, hK, rfl⟩ := hasI_n hn25 hh
      obtain ⟨D, hD, rfl⟩ := doc_n hd8
      have hmt := RM_MT h0m hk h0
      have hdt : DT q.2 q.1 := QOk.dt hk h0
      have eK : (nI K).toNatClampNeg = K := nI_clamp (by omega)
      have eD : (nI D).toNatClampNeg = D := nI_clamp (by omega)
      have hval : hasI q (nI K) ∧ docI (nI D) := ⟨hh, hd8⟩
      refine wp_aload_n dX9_fits_23 rfl ?_
      refine wp_iload_n dX9_fits_24 rfl ?_
      refine wp_cV1p dX9_fits_25 ml_X9_245 vX9_reckon ⟨8, (RX9, TX9, 39), rfl, rfl, rfl⟩ (cX9_reckon_ E q.1 D q.2 dc (sI M 121 0 0) hmt hdt h0m.2.2.2.2.2 hdc hD) (Nat.le_of_ble_eq_true rfl) (Nat.le_of_ble_eq_true rfl) (Nat.le_of_ble_eq_true rfl) (Nat.le_refl _) (Nat.le_refl _) (fun v sh1 M2 hqq => ?_)
      obtain ⟨rfl, rfl, hF, hrow⟩ := hqq
      have hF2 := hw0.tr (vF_w hF)
      have hG2 := hmt.1.fr hF
      have hT0 : fI M2 121 0 = 0 := (hF.1 121 0 (by simp)).trans rfl
      refine wp_aload_n dX9_fits_28 rfl ?_
      refine wp_getR dX9_fits_29 fl_X9_95 rfl rfl (hG2 34) ?_
      refine wp_iload_n dX9_fits_32 rfl ?_
      refine wp_zaload dX9_fits_33 rfl (vp_in_nI (by omega) (by decide)) ?_
      rw [eK, (hrow K hK).1]
      refine wp_if_eq (tgt := 41) dX9_fits_34 (by decide) (fun c34 => ?_) (fun c34 => ?_)
      · refine wp_iconst (v := 0) dX9_fits_41 rfl ?_
        refine wp_ireturn dX9_fits_42 rfl rfl (Nat.zero_le _) (Nat.zero_le _) ?_
        unfold ftV
        rw [if_pos hval, eK, eD, show mI (Vq q dc D K) = 0 from c34]
        exact ⟨rfl, rfl, hT0, RM_wF h hF2, wF_out hF2⟩
      · refine wp_iconst (v := 1) dX9_fits_37 rfl ?_
        refine wp_goto (tgt := 42) dX9_fits_38 (by decide) ?_
        refine wp_ireturn dX9_fits_42 rfl rfl (Nat.zero_le _) (Nat.zero_le _) ?_
        unfold ftV
        rw [if_pos hval, eK, eD, show mI (Vq q dc D K) = 1 by
          have hz : ¬ mI (Vq q dc D K) = 0 := c34
          cases hv : Vq q dc D K with
          | none => rw [hv] at hz; exact absurd rfl hz
          | some w => rfl]
        exact ⟨rfl, rfl, hT0, RM_wF h hF2, wF_out hF2⟩
    · refine wp_bipush (v := (-101)) dX9_fits_20 (by decide) ?_
      refine wp_ireturn dX9_fits_22 rfl rfl (Nat.zero_le _) (Nat.zero_le _) ?_
      unfold ftV
      rw [if_neg (fun z => b2i_e0.mp c17 z.2)]
      exact ⟨rfl, rfl, rfl, h0m, wF_out hw0⟩
set_option maxRecDepth 100000 in
set_option maxHeartbeats 4000000 in
theorem cX9_worth_ (E : GE) (tp gn : List Nat) (q : QQ) (o : Option (List Nat)) (dc : Nat → List (List Nat)) (M : Mem) (h : RM M tp gn q o dc) (hk : QOk q) (hdc : dcOk dc) (k d : Int32) : Sp E mX9_worth 5 0 0 [.ref 121, .int k, .int d] SH M (pDocLM M (woV q dc k d) tp gn q o dc) := by
  refine sp_of vX9_worth.1 rfl (Nat.le_of_ble_eq_true rfl) ?_
  have h0m : RM (sI M 121 0 0) tp gn q o dc := RM_sI h (by decide)
  have en : fI (sI M 121 0 0) 121 13 = nI q.1 := h0m.2.2.2.1.1
  have hn25 := h.2.2.2.1.2.1
  have hw0 : wF M (sI M 121 0 0) := wF_0 0
  have hdl : ∀ r, r < 32 → (dc r).length ≤ 12 := fun r hr => (h.2.2.2.2.2 r hr).2.1
  have hb : b2i (0 ≤ k ∧ k ≤ fI (sI M 121 0 0) 121 13 - 1) = b2i (hasI q k) := by rw [en]; exact b2i_c (hasI_m hn25 k)
  have hdb : b2i (0 ≤ d ∧ d ≤ 7) = b2i (docI d) := rfl
  refine wp_aload_n dX9_worth_0 rfl ?_
  refine wp_iconst (v := 0) dX9_worth_1 rfl ?_
  refine wp_putI dX9_worth_2 fl_X9_1 rfl rfl (fun _ _ _ h => by cases h; rfl) rfl rfl ?_
  refine wp_aload_n dX9_worth_5 rfl ?_
  refine wp_iload_n dX9_worth_6 rfl ?_
  refine wp_cV1i dX9_worth_7 ml_X9_193 vX9_isNode ⟨8, (RX9, TX9, 39), rfl, rfl, rfl⟩ (cX9_isNode_ E k _) (Nat.le_of_ble_eq_true rfl) (Nat.le_of_ble_eq_true rfl) (Nat.le_of_ble_eq_true rfl) ?_
  rw [hb]
  refine wp_if_eq (tgt := 20) dX9_worth_10 (by decide) (fun c10 => ?_) (fun c10 => ?_)
  · refine wp_ldc2 dX9_worth_20 kl_X9_248 ?_
    refine wp_lreturn dX9_worth_23 rfl (Nat.zero_le _) (Nat.zero_le _) ?_
    unfold woV
    rw [if_neg (fun z => b2i_e0.mp c10 z.1)]
    exact ⟨rfl, rfl, rfl, h0m, wF_out hw0⟩
  · refine wp_iload_n dX9_worth_13 rfl ?_
    refine wp_cS1i dX9_worth_14 ml_X9_214 sX9_isDocument (cX9_isDocument_ E d _ _) (Nat.le_of_ble_eq_true rfl) (Nat.le_of_ble_eq_true rfl) (Nat.le_of_ble_eq_true rfl) ?_
    rw [hdb]
    refine wp_if_ne (tgt := 24) dX9_worth_17 (by decide) (fun c17 => ?_) (fun c17 => ?_)
    · have hh := b2i_ne.mp c10
      have hd8 := b2i_ne.mp c17
      have h0 : q.1 ≠ 0 := fun e => hasI_0 e k hh
      obtain ⟨K, hK, rfl⟩ := hasI_n hn25 hh
      obtain ⟨D, hD, rfl⟩ := doc_n hd8
      have hmt := RM_MT h0m hk h0
      have hdt : DT q.2 q.1 := QOk.dt hk h0
      have eK : (nI K).toNatClampNeg = K := nI_clamp (by omega)
      have eD : (nI D).toNatClampNeg = D := nI_clamp (by omega)
      have hval : hasI q (nI K) ∧ docI (nI D) := ⟨hh, hd8⟩
      refine wp_aload_n dX9_worth_24 rfl ?_
      refine wp_iload_n dX9_worth_25 rfl ?_
      refine wp_cV1p dX9_worth_26 ml_X9_245 vX9_reckon ⟨8, (RX9, TX9, 39), rfl, rfl, rfl⟩ (cX9_reckon_ E q.1 D q.2 dc (sI M 121 0 0) hmt hdt h0m.2.2.2.2.2 hdc hD) (Nat.le_of_ble_eq_true rfl) (Nat.le_of_ble_eq_true rfl) (Nat.le_of_ble_eq_true rfl) (Nat.le_refl _) (Nat.le_refl _) (fun v sh1 M2 hqq => ?_)
      obtain ⟨rfl, rfl, hF, hrow⟩ := hqq
      have hF2 := hw0.tr (vF_w hF)
      have hG2 := hmt.1.fr hF
      have hT0 : fI M2 121 0 = 0 := (hF.1 121 0 (by simp)).trans rfl
      refine wp_aload_n dX9_worth_29 rfl ?_
      refine wp_getR dX9_worth_30 fl_X9_99 rfl rfl (hG2 35) ?_
      refine wp_iload_n dX9_worth_33 rfl ?_
      refine wp_laload dX9_worth_34 rfl (vp_in_nI (by omega) (by decide)) ?_
      rw [eK, (hrow K hK).2]
      refine wp_lreturn dX9_worth_35 rfl (Nat.zero_le _) (Nat.zero_le _) ?_
      unfold woV
      rw [if_pos hval, eK, eD]
      exact ⟨rfl, rfl, hT0, RM_wF h hF2, wF_out hF2⟩
    · refine wp_ldc2 dX9_worth_20 kl_X9_248 ?_
      refine wp_lreturn dX9_worth_23 rfl (Nat.zero_le _) (Nat.zero_le _) ?_
      unfold woV
      rw [if_neg (fun z => b2i_e0.mp c17 z.2)]
      exact ⟨rfl, rfl, rfl, h0m, wF_out hw0⟩
set_option maxRecDepth 100000 in
set_option maxHeartbeats 4000000 in
theorem cX9_why_ (E : GE) (tp gn : List Nat) (q : QQ) (o : Option (List Nat)) (dc : Nat → List (List Nat)) (M : Mem) (h : RM M tp gn q o dc) (hk : QOk q) (hdc : dcOk dc) (d : Int32) : Sp E mX9_why 5 0 0 [.ref 121, .int d] SH M (pDocM M (whV q dc d) tp gn q o dc) := by
  refine sp_of vX9_why.1 rfl (Nat.le_of_ble_eq_true rfl) ?_
  have h0m : RM (sI M 121 0 0) tp gn q o dc := RM_sI h (by decide)
  have en : fI (sI M 121 0 0) 121 13 = nI q.1 := h0m.2.2.2.1.1
  have hn25 := h.2.2.2.1.2.1
  have hw0 : wF M (sI M 121 0 0) := wF_0 0
  have hdl : ∀ r, r < 32 → (dc r).length ≤ 12 := fun r hr => (h.2.2.2.2.2 r hr).2.1
  have hdb : b2i (0 ≤ d ∧ d ≤ 7) = b2i (docI d) := rfl
  have after : ∀ (D : Nat) (M2 : Mem), q.1 ≠ 0 → D < 8 → d = nI D → docI d → wF M M2 → fI M2 121 0 = 0 → (∀ c, c < q.1 → aI M2 148 c = mI (Vq q dc D c)) → Wp (xM E mX9_why 5 0 0 SH.length (pDocM M (whV q dc d) tp gn q o dc)) 0 0 30 [(1, .int d), (0, .ref 121)] [] SH M2 := by
    intro D M2 h0 hD hdD hd8 hF2 hT0 hrow
    have hR := RM_wF h hF2
    have hG2 := hR.1
    have eD : d.toNatClampNeg = D := by rw [hdD]; exact nI_clamp (by omega)
    have hcn : fI M2 121 13 = nI q.1 := hR.2.2.2.1.1
    have hwv : whV q dc d = whN q dc D := by unfold whV; rw [if_pos hd8, if_neg h0, eD]
    have loop : Vq q dc D 0 = none → ∀ (r k : Nat) (bar : Int32), k + r = q.1 → 1 ≤ k → ff q.2 (Vq q dc D) 1 (q.1 - 1) 1 = ff q.2 (Vq q dc D) 1 r k → ((bar = -1 ∧ ff q.2 (Vq q dc D) 2 (q.1 - 1) 1 = ff q.2 (Vq q dc D) 2 r k) ∨ (bar = nI (ff q.2 (Vq q dc D) 2 (q.1 - 1) 1) ∧ bar ≠ -1)) → Wp (xM E mX9_why 5 0 0 SH.length (pDocM M (whV q dc d) tp gn q o dc)) 0 0 45 [(3, .int (nI k)), (2, .int bar), (1, .int d), (0, .ref 121)] [] SH M2 := by
      intro hv0 r
      induction r with
      | zero =>
        intro k bar hkr h1 hm hb
        have hkr : k = q.1 := by omega
        have hm : ff q.2 (Vq q dc D) 1 (q.1 - 1) 1 = 0 := hm
        have hans : whV q dc d = nI (ff q.2 (Vq q dc D) 2 (q.1 - 1) 1) := by rw [hwv]; unfold whN; rw [hv0, if_neg (by decide), if_pos hm]
        refine wp_iload_n dX9_why_45 rfl ?_
        refine wp_aload_n dX9_why_46 rfl ?_
        refine wp_getI dX9_why_47 fl_X9_112 rfl rfl ?_
        rw [hcn, hkr]
        refine wp_icmp_ge (tgt := 128) dX9_why_50 (by decide) (fun c50 => ?_) (fun c50 => absurd (Int32.le_refl _) c50)
        refine wp_iload_n dX9_why_128 rfl ?_
        refine wp_iconst (v := (-1)) dX9_why_129 rfl ?_
        refine wp_icmp_ne (tgt := 137) dX9_why_130 (by decide) (fun c130 => ?_) (fun c130 => ?_)
        · refine wp_iload_n dX9_why_137 rfl ?_
          refine wp_ireturn dX9_why_138 rfl rfl (Nat.zero_le _) (Nat.zero_le _) ?_
          rcases hb with ⟨e, _⟩ | ⟨e, _⟩
          · exact absurd e c130
          · rw [hans, ← e]
            exact ⟨rfl, rfl, hT0, hR, wF_out hF2⟩
        · refine wp_iconst (v := 0) dX9_why_133 rfl ?_
          refine wp_goto (tgt := 138) dX9_why_134 (by decide) ?_
          refine wp_ireturn dX9_why_138 rfl rfl (Nat.zero_le _) (Nat.zero_le _) ?_
          rcases hb with ⟨_, e⟩ | ⟨_, e⟩
          · rw [hans, e]
            exact ⟨rfl, rfl, hT0, hR, wF_out hF2⟩
          · exact absurd c130 e
      | succ r ih =>
        intro k bar hkr h1 hm hb
        have hkn : k < q.1 := by omega
        obtain ⟨_, m1, _, _, _, m5, _⟩ := hR.2.2.2.1.2.2 k hkn
        have m1 : aI M2 133 k = nMa (q.2 k) := m1
        have m5 : aI M2 137 k = nAr (q.2 k) := m5
        have hcl : (nI k).toNatClampNeg = k := nI_clamp (by omega)
        have hin : vp_in (nI k) 25 := vp_in_nI (by omega) (by decide)
        have hv := hrow k hkn
        have u1 : ff q.2 (Vq q dc D) 1 (r + 1) k = if nAr (q.2 k) = 0 ∧ nMa (q.2 k) = 1 ∧ flt (q.2 k) (Vq q dc D k) = true then k else ff q.2 (Vq q dc D) 1 r (k + 1) := rfl
        have u2 : ff q.2 (Vq q dc D) 2 (r + 1) k = if nAr (q.2 k) = 0 ∧ nMa (q.2 k) = 2 ∧ flt (q.2 k) (Vq q dc D k) = true then k else ff q.2 (Vq q dc D) 2 r (k + 1) := rfl
        have J121 : ¬ (nAr (q.2 k) = 0 ∧ nMa (q.2 k) = 1 ∧ flt (q.2 k) (Vq q dc D k) = true) → ∀ z : Int32, ((z = -1 ∧ ff q.2 (Vq q dc D) 2 (q.1 - 1) 1 = ff q.2 (Vq q dc D) 2 r (k + 1)) ∨ (z = nI (ff q.2 (Vq q dc D) 2 (q.1 - 1) 1) ∧ z ≠ -1)) → Wp (xM E mX9_why 5 0 0 SH.length (pDocM M (whV q dc d) tp gn q o dc)) 0 0 121 [(3, .int (nI k)), (2, .int bar), (1, .int d), (0, .ref 121)] [.int z] SH M2 := by
          intro hn z hz
          rw [u1, if_neg hn] at hm
          refine wp_istore_n dX9_why_121 (Nat.le_of_ble_eq_true rfl) ?_
          refine wp_iinc dX9_why_122 rfl (i_inc _) (Nat.le_of_ble_eq_true rfl) ?_
          refine wp_goto (tgt := 45) dX9_why_125 (by decide) ?_
          exact wp_lv (ih (k + 1) z (by omega) (by omega) hm hz) (by repeat (first | exact trivial | refine ⟨rfl, ?_⟩))
        have J83 : ¬ (nAr (q.2 k) = 0 ∧ nMa (q.2 k) = 1 ∧ flt (q.2 k) (Vq q dc D k) = true) → Wp (xM E mX9_why 5 0 0 SH.length (pDocM M (whV q dc d) tp gn q o dc)) 0 0 83 [(3, .int (nI k)), (2, .int bar), (1, .int d), (0, .ref 121)] [] SH M2 := by
          intro hn
          refine wp_iload_n dX9_why_83 rfl ?_
          refine wp_iconst (v := (-1)) dX9_why_84 rfl ?_
          refine wp_icmp_ne (tgt := 120) dX9_why_85 (by decide) (fun c85 => ?_) (fun c85 => ?_)
          · refine wp_iload_n dX9_why_120 rfl ?_
            exact wp_lv (J121 hn bar (by
              rcases hb with ⟨e1, e2⟩ | e
              · exact Or.inl ⟨e1, by rw [e2, u2, if_neg (fun w => c85 e1)]⟩
              · exact Or.inr e)) (by repeat (first | exact trivial | refine ⟨rfl, ?_⟩))
          · refine wp_aload_n dX9_why_88 rfl ?_
            refine wp_getR dX9_why_89 fl_X9_59 rfl rfl (hG2 19) ?_
            refine wp_iload_n dX9_why_92 rfl ?_
            refine wp_iaload dX9_why_93 rfl hin ?_
            rw [hcl, m5]
            refine wp_if_ne (tgt := 120) dX9_why_94 (by decide) (fun c94 => ?_) (fun c94 => ?_)
            · refine wp_iload_n dX9_why_120 rfl ?_
              exact wp_lv (J121 hn bar (by
                rcases hb with ⟨e1, e2⟩ | e
                · exact Or.inl ⟨e1, by rw [e2, u2, if_neg (fun w => c94 w.1)]⟩
                · exact Or.inr e)) (by repeat (first | exact trivial | refine ⟨rfl, ?_⟩))
            · refine wp_aload_n dX9_why_97 rfl ?_
              refine wp_getR dX9_why_98 fl_X9_47 rfl rfl (hG2 15) ?_
              refine wp_iload_n dX9_why_101 rfl ?_
              refine wp_iaload dX9_why_102 rfl hin ?_
              rw [hcl, m1]
              refine wp_iconst (v := 2) dX9_why_103 rfl ?_
              refine wp_icmp_ne (tgt := 120) dX9_why_104 (by decide) (fun c104 => ?_) (fun c104 => ?_)
              · refine wp_iload_n dX9_why_120 rfl ?_
                exact wp_lv (J121 hn bar (by
                  rcases hb with ⟨e1, e2⟩ | e
                  · exact Or.inl ⟨e1, by rw [e2, u2, if_neg (fun w => c104 w.2.1)]⟩
                  · exact Or.inr e)) (by repeat (first | exact trivial | refine ⟨rfl, ?_⟩))
              · refine wp_aload_n dX9_why_107 rfl ?_
                refine wp_getR dX9_why_108 fl_X9_95 rfl rfl (hG2 34) ?_
                refine wp_iload_n dX9_why_111 rfl ?_
                refine wp_zaload dX9_why_112 rfl hin ?_
                rw [hcl, hv]
                refine wp_if_eq (tgt := 120) dX9_why_113 (by decide) (fun c113 => ?_) (fun c113 => ?_)
                · refine wp_iload_n dX9_why_120 rfl ?_
                  exact wp_lv (J121 hn bar (by
                    rcases hb with ⟨e1, e2⟩ | e
                    · exact Or.inl ⟨e1, by rw [e2, u2, if_neg (fun w => by have := (flt_iff _ _).mp w.2.2; rw [c104, mI_0.mp c113] at this; exact absurd this (by decide))]⟩
                    · exact Or.inr e)) (by repeat (first | exact trivial | refine ⟨rfl, ?_⟩))
                · refine wp_iload_n dX9_why_116 rfl ?_
                  refine wp_goto (tgt := 121) dX9_why_117 (by decide) ?_
                  have hf : flt (q.2 k) (Vq q dc D k) = true := (flt_iff _ _).mpr (Or.inr ⟨c104, fun w => c113 (mI_0.mpr w)⟩)
                  exact wp_lv (J121 hn (nI k) (by
                    rcases hb with ⟨e1, e2⟩ | ⟨_, e⟩
                    · refine Or.inr ⟨by rw [e2, u2, if_pos ⟨c94, c104, hf⟩], fun w => ?_⟩
                      have := congrArg Int32.toInt w
                      rw [nI_toInt (by omega)] at this
                      have this : (k : Int) = -1 := this
                      omega
                    · exact absurd c85 e)) (by repeat (first | exact trivial | refine ⟨rfl, ?_⟩))
        refine wp_iload_n dX9_why_45 rfl ?_
        refine wp_aload_n dX9_why_46 rfl ?_
        refine wp_getI dX9_why_47 fl_X9_112 rfl rfl ?_
        rw [hcn]
        refine wp_icmp_ge (tgt := 128) dX9_why_50 (by decide) (fun c50 => absurd c50 (nI_ge hkn (by omega))) (fun c50 => ?_)
        refine wp_aload_n dX9_why_53 rfl ?_
        refine wp_getR dX9_why_54 fl_X9_59 rfl rfl (hG2 19) ?_
        refine wp_iload_n dX9_why_57 rfl ?_
        refine wp_iaload dX9_why_58 rfl hin ?_
        rw [hcl, m5]
        refine wp_if_ne (tgt := 83) dX9_why_59 (by decide) (fun c59 => ?_) (fun c59 => ?_)
        · exact wp_lv (J83 (fun w => c59 w.1)) (by repeat (first | exact trivial | refine ⟨rfl, ?_⟩))
        · refine wp_aload_n dX9_why_62 rfl ?_
          refine wp_getR dX9_why_63 fl_X9_47 rfl rfl (hG2 15) ?_
          refine wp_iload_n dX9_why_66 rfl ?_
          refine wp_iaload dX9_why_67 rfl hin ?_
          rw [hcl, m1]
          refine wp_iconst (v := 1) dX9_why_68 rfl ?_
          refine wp_icmp_ne (tgt := 83) dX9_why_69 (by decide) (fun c69 => ?_) (fun c69 => ?_)
          · exact wp_lv (J83 (fun w => c69 w.2.1)) (by repeat (first | exact trivial | refine ⟨rfl, ?_⟩))
          · refine wp_aload_n dX9_why_72 rfl ?_
            refine wp_getR dX9_why_73 fl_X9_95 rfl rfl (hG2 34) ?_
            refine wp_iload_n dX9_why_76 rfl ?_
            refine wp_zaload dX9_why_77 rfl hin ?_
            rw [hcl, hv]
            refine wp_if_ne (tgt := 83) dX9_why_78 (by decide) (fun c78 => ?_) (fun c78 => ?_)
            · exact wp_lv (J83 (fun w => by
                have := (flt_iff _ _).mp w.2.2
                rcases this with z | z
                · exact c78 (mI_0.mpr z.2)
                · exact absurd (c69.symm.trans z.1) (by decide))) (by repeat (first | exact trivial | refine ⟨rfl, ?_⟩))
            · refine wp_iload_n dX9_why_81 rfl ?_
              refine wp_ireturn dX9_why_82 rfl rfl (Nat.zero_le _) (Nat.zero_le _) ?_
              have hf : flt (q.2 k) (Vq q dc D k) = true := (flt_iff _ _).mpr (Or.inl ⟨c69, mI_0.mp c78⟩)
              rw [u1, if_pos ⟨c59, c69, hf⟩] at hm
              have hans : whV q dc d = nI k := by rw [hwv]; unfold whN; rw [hv0, if_neg (by decide), if_neg (by omega), hm]
              rw [hans]
              exact ⟨rfl, rfl, hT0, hR, wF_out hF2⟩
    refine wp_aload_n dX9_why_30 rfl ?_
    refine wp_getR dX9_why_31 fl_X9_95 rfl rfl (hG2 34) ?_
    refine wp_iconst (v := 0) dX9_why_34 rfl ?_
    refine wp_zaload dX9_why_35 rfl (vp_in_nI (n := 0) (N := 25) (by decide) (by decide)) ?_
    rw [show (0 : Int32).toNatClampNeg = 0 from rfl, hrow 0 (by omega)]
    refine wp_if_eq (tgt := 41) dX9_why_36 (by decide) (fun c36 => ?_) (fun c36 => ?_)
    · refine wp_iconst (v := (-1)) dX9_why_41 rfl ?_
      refine wp_istore_n dX9_why_42 (Nat.le_of_ble_eq_true rfl) ?_
      refine wp_iconst (v := 1) dX9_why_43 rfl ?_
      refine wp_istore_n dX9_why_44 (Nat.le_of_ble_eq_true rfl) ?_
      exact wp_lv (loop (mI_0.mp c36) (q.1 - 1) 1 (-1) (by omega) (Nat.le_refl _) rfl (Or.inl ⟨rfl, rfl⟩)) (by repeat (first | exact trivial | refine ⟨rfl, ?_⟩))
    · refine wp_iconst (v := (-1)) dX9_why_39 rfl ?_
      refine wp_ireturn dX9_why_40 rfl rfl (Nat.zero_le _) (Nat.zero_le _) ?_
      have hans : whV q dc d = -1 := by rw [hwv]; unfold whN; rw [if_pos (mI_n.mp c36)]
      rw [hans]
      exact ⟨rfl, rfl, hT0, hR, wF_out hF2⟩
  refine wp_aload_n dX9_why_0 rfl ?_
  refine wp_iconst (v := 0) dX9_why_1 rfl ?_
  refine wp_putI dX9_why_2 fl_X9_1 rfl rfl (fun _ _ _ h => by cases h; rfl) rfl rfl ?_
  refine wp_iload_n dX9_why_5 rfl ?_
  refine wp_cS1i dX9_why_6 ml_X9_214 sX9_isDocument (cX9_isDocument_ E d _ _) (Nat.le_of_ble_eq_true rfl) (Nat.le_of_ble_eq_true rfl) (Nat.le_of_ble_eq_true rfl) ?_
  rw [hdb]
  refine wp_if_ne (tgt := 15) dX9_why_9 (by decide) (fun c9 => ?_) (fun c9 => ?_)
  · have hd8 := b2i_ne.mp c9
    refine wp_aload_n dX9_why_15 rfl ?_
    refine wp_getI dX9_why_16 fl_X9_112 rfl rfl ?_
    rw [en]
    refine wp_if_ne (tgt := 25) dX9_why_19 (by decide) (fun c19 => ?_) (fun c19 => ?_)
    · have h0 : q.1 ≠ 0 := fun e => c19 (by rw [e]; rfl)
      obtain ⟨D, hD, rfl⟩ := doc_n hd8
      have hmt := RM_MT h0m hk h0
      have hdt : DT q.2 q.1 := QOk.dt hk h0
      refine wp_aload_n dX9_why_25 rfl ?_
      refine wp_iload_n dX9_why_26 rfl ?_
      refine wp_cV1p dX9_why_27 ml_X9_245 vX9_reckon ⟨8, (RX9, TX9, 39), rfl, rfl, rfl⟩ (cX9_reckon_ E q.1 D q.2 dc (sI M 121 0 0) hmt hdt h0m.2.2.2.2.2 hdc hD) (Nat.le_of_ble_eq_true rfl) (Nat.le_of_ble_eq_true rfl) (Nat.le_of_ble_eq_true rfl) (Nat.le_refl _) (Nat.le_refl _) (fun v sh1 M2 hqq => ?_)
      obtain ⟨rfl, rfl, hF, hrow⟩ := hqq
      exact wp_lv (after D M2 h0 hD rfl hd8 (hw0.tr (vF_w hF)) ((hF.1 121 0 (by simp)).trans rfl) (fun c hc => (hrow c hc).1)) (by repeat (first | exact trivial | refine ⟨rfl, ?_⟩))
    · refine wp_bipush (v := (-104)) dX9_why_22 (by decide) ?_
      refine wp_ireturn dX9_why_24 rfl rfl (Nat.zero_le _) (Nat.zero_le _) ?_
      unfold whV
      rw [if_pos hd8, if_pos (nI_e (b := 0) (by omega) (by decide) c19)]
      exact ⟨rfl, rfl, rfl, h0m, wF_out hw0⟩
  · refine wp_bipush (v := (-101)) dX9_why_12 (by decide) ?_
    refine wp_ireturn dX9_why_14 rfl rfl (Nat.zero_le _) (Nat.zero_le _) ?_
    unfold whV
    rw [if_neg (b2i_e0.mp c9)]
    exact ⟨rfl, rfl, rfl, h0m, wF_out hw0⟩
set_option maxRecDepth 100000 in
set_option maxHeartbeats 4000000 in
theorem cX9_rank_ (E : GE) (tp gn : List Nat) (q : QQ) (o : Option (List Nat)) (dc : Nat → List (List Nat)) (M : Mem) (h : RM M tp gn q o dc) (hk : QOk q) (hdc : dcOk dc) (k : Int32) : Sp E mX9_rank 5 0 0 [.ref 121, .int k] SH M (pDocM M (rkV q dc k) tp gn q o dc) := by
  refine sp_of vX9_rank.1 rfl (Nat.le_of_ble_eq_true rfl) ?_
  have h0m : RM (sI M 121 0 0) tp gn q o dc := RM_sI h (by decide)
  have en : fI (sI M 121 0 0) 121 13 = nI q.1 := h0m.2.2.2.1.1
  have hn25 := h.2.2.2.1.2.1
  have hw0 : wF M (sI M 121 0 0) := wF_0 0
  have hdl : ∀ r, r < 32 → (dc r).length ≤ 12 := fun r hr => (h.2.2.2.2.2 r hr).2.1
  have main : q.1 ≠ 0 → Wp (xM E mX9_rank 5 0 0 SH.length (pDocM M (rkV q dc k) tp gn q o dc)) 0 0 15 [(1, .int k), (0, .ref 121)] [] SH (sI M 121 0 0) := by
    intro h0
    have hmt := RM_MT h0m hk h0
    have hdt : DT q.2 q.1 := QOk.dt hk h0
    obtain ⟨W, hW⟩ : ∃ W, W = fun D => Vq q dc D 0 := ⟨_, rfl⟩
    have hrk : rkV q dc k = rkN W k 8 0 := by unfold rkV; rw [if_neg h0, hW]
    have hbd : ∀ j, j < 8 → ∀ w, W j = some w → w < 2 ^ 62 := fun j h8 w hw => by rw [hW] at hw; exact wh_b hk h0 hdl h8 0 (by omega) w hw
    have inner : ∀ (D : Nat) (M1 : Mem), D < 8 → wF M M1 → (∀ j, j < 8 → aI M1 151 j = mI (W j) ∧ aL M1 152 j = mL (W j)) → (kk : (z : Nat) → ((W D).isSome = true → z = ahd W D 8) → Wp (xM E mX9_rank 5 0 0 SH.length (pDocM M (rkV q dc k) tp gn q o dc)) 0 0 154 [(3, .int (nI z)), (2, .int (nI D)), (1, .int k), (0, .ref 121)] [] SH M1) → ∀ (r j z : Nat), j + r = 8 → ((W D).isSome = true → z = ahd W D j) → Wp (xM E mX9_rank 5 0 0 SH.length (pDocM M (rkV q dc k) tp gn q o dc)) 0 0 71 [(4, .int (nI j)), (3, .int (nI z)), (2, .int (nI D)), (1, .int k), (0, .ref 121)] [] SH M1 := by
      intro D M1 hD hF ha kk r
      have hG1 : rmG M1 := h.1.fr hF
      have hclD : (nI D).toNatClampNeg = D := nI_clamp (by omega)
      have hinD : vp_in (nI D) 8 := vp_in_nI hD (by decide)
      obtain ⟨fD, wD⟩ := ha D hD
      induction r with
      | zero =>
        intro j z hj hz
        have hj : j = 8 := by omega
        subst hj
        refine wp_iload dX9_rank_71 rfl ?_
        refine wp_bipush (v := 8) dX9_rank_73 (by decide) ?_
        refine wp_icmp_ge (tgt := 154) dX9_rank_75 (by decide) (fun c75 => ?_) (fun c75 => absurd (show (8 : Int32) ≤ nI 8 by decide) c75)
        exact wp_lv (kk z hz) (by repeat (first | exact trivial | refine ⟨rfl, ?_⟩))
      | succ r ih =>
        intro j z hj hz
        have hj8 : j < 8 := by omega
        have hclj : (nI j).toNatClampNeg = j := nI_clamp (by omega)
        have hinj : vp_in (nI j) 8 := vp_in_nI hj8 (by decide)
        obtain ⟨fj, wj⟩ := ha j hj8
        have hgt : (W D).isSome = true → (W j).isSome = true → (mL (W D) < mL (W j) ↔ (W D).getD 0 < (W j).getD 0) := fun s1 s2 => by
          cases e1 : W D with
          | none => rw [e1] at s1; exact absurd s1 (by decide)
          | some a => cases e2 : W j with
            | none => rw [e2] at s2; exact absurd s2 (by decide)
            | some b =>
              have := hbd D hD a e1
              have := hbd j hj8 b e2
              exact lNlt (by omega) (by omega)
        have heq : (W D).isSome = true → (W j).isSome = true → (mL (W j) = mL (W D) ↔ (W j).getD 0 = (W D).getD 0) := fun s1 s2 => by
          cases e1 : W D with
          | none => rw [e1] at s1; exact absurd s1 (by decide)
          | some a => cases e2 : W j with
            | none => rw [e2] at s2; exact absurd s2 (by decide)
            | some b =>
              have := hbd D hD a e1
              have := hbd j hj8 b e2
              exact lNeq (by omega) (by omega)
        have hB : ahB W D j = true ↔ ((W j).isSome = true ∧ ((W D).getD 0 < (W j).getD 0 ∨ ((W j).getD 0 = (W D).getD 0 ∧ j < D))) := by
          unfold ahB
          cases e2 : W j with
          | none => simp
          | some b => simp
        have J133 : ∀ e : Int32, ((W D).isSome = true → (¬ e = 0 ↔ ahB W D j = true)) → Wp (xM E mX9_rank 5 0 0 SH.length (pDocM M (rkV q dc k) tp gn q o dc)) 0 0 133 [(4, .int (nI j)), (3, .int (nI z)), (2, .int (nI D)), (1, .int k), (0, .ref 121)] [.int e] SH M1 := by
          intro e he
          refine wp_istore dX9_rank_133 (Nat.le_of_ble_eq_true rfl) ?_
          refine wp_iload_n dX9_rank_135 rfl ?_
          refine wp_iload dX9_rank_136 rfl ?_
          refine wp_if_eq (tgt := 145) dX9_rank_138 (by decide) (fun c138 => ?_) (fun c138 => ?_)
          · refine wp_iconst (v := 0) dX9_rank_145 rfl ?_
            refine wp_iadd dX9_rank_146 ?_
            refine wp_istore_n dX9_rank_147 (Nat.le_of_ble_eq_true rfl) ?_
            refine wp_iinc dX9_rank_148 rfl (i_inc _) (Nat.le_of_ble_eq_true rfl) ?_
            refine wp_goto (tgt := 71) dX9_rank_151 (by decide) ?_
            rw [show nI z + 0 = nI z from Int32.add_zero _]
            exact wp_lv (ih (j + 1) z (by omega) (fun s => by
              show z = ahd W D j + (if ahB W D j = true then 1 else 0)
              rw [if_neg (fun w => (he s).mpr w c138), hz s]; rfl)) (by repeat (first | exact trivial | refine ⟨rfl, ?_⟩))
          · refine wp_iconst (v := 1) dX9_rank_141 rfl ?_
            refine wp_goto (tgt := 146) dX9_rank_142 (by decide) ?_
            refine wp_iadd dX9_rank_146 ?_
            refine wp_istore_n dX9_rank_147 (Nat.le_of_ble_eq_true rfl) ?_
            refine wp_iinc dX9_rank_148 rfl (i_inc _) (Nat.le_of_ble_eq_true rfl) ?_
            refine wp_goto (tgt := 71) dX9_rank_151 (by decide) ?_
            rw [nI_1]
            exact wp_lv (ih (j + 1) (z + 1) (by omega) (fun s => by
              show z + 1 = ahd W D j + (if ahB W D j = true then 1 else 0)
              rw [if_pos ((he s).mp c138), hz s])) (by repeat (first | exact trivial | refine ⟨rfl, ?_⟩))
        refine wp_iload dX9_rank_71 rfl ?_
        refine wp_bipush (v := 8) dX9_rank_73 (by decide) ?_
        refine wp_icmp_ge (tgt := 154) dX9_rank_75 (by decide) (fun c75 => absurd c75 (nI_ge (b := 8) hj8 (by decide))) (fun c75 => ?_)
        refine wp_aload_n dX9_rank_78 rfl ?_
        refine wp_getR dX9_rank_79 fl_X9_106 rfl rfl (hG1 37) ?_
        refine wp_iload dX9_rank_82 rfl ?_
        refine wp_zaload dX9_rank_84 rfl hinj ?_
        rw [hclj, fj]
        refine wp_if_eq (tgt := 132) dX9_rank_85 (by decide) (fun c85 => ?_) (fun c85 => ?_)
        · refine wp_iconst (v := 0) dX9_rank_132 rfl ?_
          exact wp_lv (J133 0 (fun _ => iff_of_false (fun w => w rfl) (fun w => by have := (hB.mp w).1; rw [mI_0.mp c85] at this; exact absurd this (by decide)))) (by repeat (first | exact trivial | refine ⟨rfl, ?_⟩))
        · have hsj := mI_n.mp c85
          refine wp_aload_n dX9_rank_88 rfl ?_
          refine wp_getR dX9_rank_89 fl_X9_109 rfl rfl (hG1 38) ?_
          refine wp_iload dX9_rank_92 rfl ?_
          refine wp_laload dX9_rank_94 rfl hinj ?_
          rw [hclj, wj]
          refine wp_aload_n dX9_rank_95 rfl ?_
          refine wp_getR dX9_rank_96 fl_X9_109 rfl rfl (hG1 38) ?_
          refine wp_iload_n dX9_rank_99 rfl ?_
          refine wp_laload dX9_rank_100 rfl hinD ?_
          rw [hclD, wD]
          refine wp_lcmp dX9_rank_101 ?_
          refine wp_if_gt (tgt := 128) dX9_rank_102 (by decide) (fun c102 => ?_) (fun c102 => ?_)
          · refine wp_iconst (v := 1) dX9_rank_128 rfl ?_
            refine wp_goto (tgt := 133) dX9_rank_129 (by decide) ?_
            exact wp_lv (J133 1 (fun s => iff_of_true (by decide) (hB.mpr ⟨hsj, Or.inl ((hgt s hsj).mp ((lg_gt _ _).mp c102))⟩))) (by repeat (first | exact trivial | refine ⟨rfl, ?_⟩))
          · refine wp_aload_n dX9_rank_105 rfl ?_
            refine wp_getR dX9_rank_106 fl_X9_109 rfl rfl (hG1 38) ?_
            refine wp_iload dX9_rank_109 rfl ?_
            refine wp_laload dX9_rank_111 rfl hinj ?_
            rw [hclj, wj]
            refine wp_aload_n dX9_rank_112 rfl ?_
            refine wp_getR dX9_rank_113 fl_X9_109 rfl rfl (hG1 38) ?_
            refine wp_iload_n dX9_rank_116 rfl ?_
            refine wp_laload dX9_rank_117 rfl hinD ?_
            rw [hclD, wD]
            refine wp_lcmp dX9_rank_118 ?_
            refine wp_if_ne (tgt := 132) dX9_rank_119 (by decide) (fun c119 => ?_) (fun c119 => ?_)
            · refine wp_iconst (v := 0) dX9_rank_132 rfl ?_
              exact wp_lv (J133 0 (fun s => iff_of_false (fun w => w rfl) (fun w => (hB.mp w).2.elim (fun u => c102 ((lg_gt _ _).mpr ((hgt s hsj).mpr u))) (fun u => c119 ((lg_eq _ _).mpr ((heq s hsj).mpr u.1)))))) (by repeat (first | exact trivial | refine ⟨rfl, ?_⟩))
            · refine wp_iload dX9_rank_122 rfl ?_
              refine wp_iload_n dX9_rank_124 rfl ?_
              refine wp_icmp_ge (tgt := 132) dX9_rank_125 (by decide) (fun c125 => ?_) (fun c125 => ?_)
              · refine wp_iconst (v := 0) dX9_rank_132 rfl ?_
                exact wp_lv (J133 0 (fun s => iff_of_false (fun w => w rfl) (fun w => (hB.mp w).2.elim (fun u => c102 ((lg_gt _ _).mpr ((hgt s hsj).mpr u))) (fun u => nI_ge u.2 (by omega) c125)))) (by repeat (first | exact trivial | refine ⟨rfl, ?_⟩))
              · refine wp_iconst (v := 1) dX9_rank_128 rfl ?_
                refine wp_goto (tgt := 133) dX9_rank_129 (by decide) ?_
                exact wp_lv (J133 1 (fun s => iff_of_true (by decide) (hB.mpr ⟨hsj, Or.inr ⟨(heq s hsj).mp ((lg_eq _ _).mp c119), Nat.lt_of_not_le fun w => c125 (nI_le w (by omega))⟩⟩))) (by repeat (first | exact trivial | refine ⟨rfl, ?_⟩))
    have second : ∀ (r D : Nat) (M1 : Mem), D + r = 8 → wF M M1 → fI M1 121 0 = 0 → (∀ j, j < 8 → aI M1 151 j = mI (W j) ∧ aL M1 152 j = mL (W j)) → rkN W k r D = rkV q dc k → Wp (xM E mX9_rank 5 0 0 SH.length (pDocM M (rkV q dc k) tp gn q o dc)) 0 0 60 [(2, .int (nI D)), (1, .int k), (0, .ref 121)] [] SH M1 := by
      intro r
      induction r with
      | zero =>
        intro D M1 hD hF hT0 ha hrr
        have hD : D = 8 := by omega
        subst hD
        refine wp_iload_n dX9_rank_60 rfl ?_
        refine wp_bipush (v := 8) dX9_rank_61 (by decide) ?_
        refine wp_icmp_ge (tgt := 176) dX9_rank_63 (by decide) (fun c63 => ?_) (fun c63 => absurd (show (8 : Int32) ≤ nI 8 by decide) c63)
        refine wp_iconst (v := (-1)) dX9_rank_176 rfl ?_
        refine wp_ireturn dX9_rank_177 rfl rfl (Nat.zero_le _) (Nat.zero_le _) ?_
        rw [← hrr]
        exact ⟨rfl, rfl, hT0, RM_wF h hF, wF_out hF⟩
      | succ r ih =>
        intro D M1 hD hF hT0 ha hrr
        have hD8 : D < 8 := by omega
        have hG1 : rmG M1 := h.1.fr hF
        have hclD : (nI D).toNatClampNeg = D := nI_clamp (by omega)
        have hinD : vp_in (nI D) 8 := vp_in_nI hD8 (by decide)
        have hrr' : (if (W D).isSome = true ∧ nI (ahd W D 8) = k then nI D else rkN W k r (D + 1)) = rkV q dc k := hrr
        refine wp_iload_n dX9_rank_60 rfl ?_
        refine wp_bipush (v := 8) dX9_rank_61 (by decide) ?_
        refine wp_icmp_ge (tgt := 176) dX9_rank_63 (by decide) (fun c63 => absurd c63 (nI_ge (b := 8) hD8 (by decide))) (fun c63 => ?_)
        refine wp_iconst (v := 0) dX9_rank_66 rfl ?_
        refine wp_istore_n dX9_rank_67 (Nat.le_of_ble_eq_true rfl) ?_
        refine wp_iconst (v := 0) dX9_rank_68 rfl ?_
        refine wp_istore dX9_rank_69 (Nat.le_of_ble_eq_true rfl) ?_
        refine wp_lv (inner D M1 hD8 hF ha (fun z hz => ?_) 8 0 0 (by omega) (fun _ => rfl)) (by repeat (first | exact trivial | refine ⟨rfl, ?_⟩))
        refine wp_aload_n dX9_rank_154 rfl ?_
        refine wp_getR dX9_rank_155 fl_X9_106 rfl rfl (hG1 37) ?_
        refine wp_iload_n dX9_rank_158 rfl ?_
        refine wp_zaload dX9_rank_159 rfl hinD ?_
        rw [hclD, (ha D hD8).1]
        refine wp_if_eq (tgt := 170) dX9_rank_160 (by decide) (fun c160 => ?_) (fun c160 => ?_)
        · refine wp_iinc dX9_rank_170 rfl (i_inc _) (Nat.le_of_ble_eq_true rfl) ?_
          refine wp_goto (tgt := 60) dX9_rank_173 (by decide) ?_
          rw [if_neg (fun w => by rw [mI_0.mp c160] at w; exact absurd w.1 (by decide))] at hrr'
          exact wp_lv (ih (D + 1) M1 (by omega) hF hT0 ha hrr') (by repeat (first | exact trivial | refine ⟨rfl, ?_⟩))
        · refine wp_iload_n dX9_rank_163 rfl ?_
          refine wp_iload_n dX9_rank_164 rfl ?_
          refine wp_icmp_ne (tgt := 170) dX9_rank_165 (by decide) (fun c165 => ?_) (fun c165 => ?_)
          · refine wp_iinc dX9_rank_170 rfl (i_inc _) (Nat.le_of_ble_eq_true rfl) ?_
            refine wp_goto (tgt := 60) dX9_rank_173 (by decide) ?_
            rw [if_neg (fun w => c165 (by rw [hz w.1]; exact w.2))] at hrr'
            exact wp_lv (ih (D + 1) M1 (by omega) hF hT0 ha hrr') (by repeat (first | exact trivial | refine ⟨rfl, ?_⟩))
          · refine wp_iload_n dX9_rank_168 rfl ?_
            refine wp_ireturn dX9_rank_169 rfl rfl (Nat.zero_le _) (Nat.zero_le _) ?_
            rw [if_pos ⟨mI_n.mp c160, by rw [← hz (mI_n.mp c160)]; exact c165⟩] at hrr'
            rw [← hrr']
            exact ⟨rfl, rfl, hT0, RM_wF h hF, wF_out hF⟩
    have firstL : ∀ (r D : Nat) (M1 : Mem), D + r = 8 → wF M M1 → fI M1 121 0 = 0 → (∀ j, j < D → aI M1 151 j = mI (W j) ∧ aL M1 152 j = mL (W j)) → Wp (xM E mX9_rank 5 0 0 SH.length (pDocM M (rkV q dc k) tp gn q o dc)) 0 0 17 [(2, .int (nI D)), (1, .int k), (0, .ref 121)] [] SH M1 := by
      intro r
      induction r with
      | zero =>
        intro D M1 hD hF hT0 ha
        have hD : D = 8 := by omega
        subst hD
        refine wp_iload_n dX9_rank_17 rfl ?_
        refine wp_bipush (v := 8) dX9_rank_18 (by decide) ?_
        refine wp_icmp_ge (tgt := 58) dX9_rank_20 (by decide) (fun c20 => ?_) (fun c20 => absurd (show (8 : Int32) ≤ nI 8 by decide) c20)
        refine wp_iconst (v := 0) dX9_rank_58 rfl ?_
        refine wp_istore_n dX9_rank_59 (Nat.le_of_ble_eq_true rfl) ?_
        exact wp_lv (second 8 0 M1 (by omega) hF hT0 ha hrk.symm) (by repeat (first | exact trivial | refine ⟨rfl, ?_⟩))
      | succ r ih =>
        intro D M1 hD hF hT0 ha
        have hD8 : D < 8 := by omega
        have hR1 := RM_wF h hF
        have hclD : (nI D).toNatClampNeg = D := nI_clamp (by omega)
        have hinD : vp_in (nI D) 8 := vp_in_nI hD8 (by decide)
        have hin0 : vp_in (0 : Int32) 25 := vp_in_nI (n := 0) (N := 25) (by decide) (by decide)
        refine wp_iload_n dX9_rank_17 rfl ?_
        refine wp_bipush (v := 8) dX9_rank_18 (by decide) ?_
        refine wp_icmp_ge (tgt := 58) dX9_rank_20 (by decide) (fun c20 => absurd c20 (nI_ge (b := 8) hD8 (by decide))) (fun c20 => ?_)
        refine wp_aload_n dX9_rank_23 rfl ?_
        refine wp_iload_n dX9_rank_24 rfl ?_
        refine wp_cV1p dX9_rank_25 ml_X9_245 vX9_reckon ⟨8, (RX9, TX9, 39), rfl, rfl, rfl⟩ (cX9_reckon_ E q.1 D q.2 dc M1 (RM_MT hR1 hk h0) hdt hR1.2.2.2.2.2 hdc hD8) (Nat.le_of_ble_eq_true rfl) (Nat.le_of_ble_eq_true rfl) (Nat.le_of_ble_eq_true rfl) (Nat.le_refl _) (Nat.le_refl _) (fun v sh1 M2 hqq => ?_)
        obtain ⟨rfl, rfl, hF1, hrow⟩ := hqq
        have hG2 : rmG M2 := hR1.1.fr hF1
        have f0 : aI M2 148 0 = mI (W D) := by rw [hW]; exact (hrow 0 (by omega)).1
        have hT1 : fI M2 121 0 = 0 := (hF1.1 121 0 (by simp)).trans hT0
        have hK1 : (∀ j, aI M2 151 j = aI M1 151 j) ∧ (∀ j, aL M2 152 j = aL M1 152 j) := ⟨fun j => hF1.2.1 151 (by simp) j, fun j => hF1.2.2.1 152 (by simp) j⟩
        have w0 : aL M2 149 0 = mL (W D) := by rw [hW]; exact (hrow 0 (by omega)).2
        refine wp_aload_n dX9_rank_28 rfl ?_
        refine wp_getR dX9_rank_29 fl_X9_106 rfl rfl (hG2 37) ?_
        refine wp_iload_n dX9_rank_32 rfl ?_
        refine wp_aload_n dX9_rank_33 rfl ?_
        refine wp_getR dX9_rank_34 fl_X9_95 rfl rfl (hG2 34) ?_
        refine wp_iconst (v := 0) dX9_rank_37 rfl ?_
        refine wp_zaload dX9_rank_38 rfl hin0 ?_
        rw [show (0 : Int32).toNatClampNeg = 0 from rfl, f0]
        refine wp_zastore dX9_rank_39 rfl hinD ?_
        rw [hclD, vn_m]
        refine wp_aload_n dX9_rank_40 rfl ?_
        refine wp_getR dX9_rank_41 fl_X9_109 rfl rfl ((hG2.fr (show Fr [] [151] [] M2 (sA M2 151 D (mI (W D))) from Fr.rf.sA (by simp))) 38) ?_
        refine wp_iload_n dX9_rank_44 rfl ?_
        refine wp_aload_n dX9_rank_45 rfl ?_
        refine wp_getR dX9_rank_46 fl_X9_99 rfl rfl ((hG2.fr (show Fr [] [151] [] M2 (sA M2 151 D (mI (W D))) from Fr.rf.sA (by simp))) 35) ?_
        refine wp_iconst (v := 0) dX9_rank_49 rfl ?_
        refine wp_laload dX9_rank_50 rfl hin0 ?_
        rw [show (0 : Int32).toNatClampNeg = 0 from rfl, aL_sA, w0]
        refine wp_lastore dX9_rank_51 rfl hinD ?_
        refine wp_iinc dX9_rank_52 rfl (i_inc _) (Nat.le_of_ble_eq_true rfl) ?_
        refine wp_goto (tgt := 17) dX9_rank_55 (by decide) ?_
        rw [hclD]
        refine wp_lv (ih (D + 1) _ (by omega) (((hF.tr (vF_w hF1)).sA (by simp)).sL (by simp)) hT1 (fun j hj => ?_)) (by repeat (first | exact trivial | refine ⟨rfl, ?_⟩))
        rw [aI_sL, aI_sA, aL_sL]
        by_cases w : j = D
        · rw [if_pos ⟨rfl, w⟩, if_pos ⟨rfl, w⟩, w]; exact ⟨rfl, rfl⟩
        · rw [if_neg (fun u => w u.2), if_neg (fun u => w u.2), aL_sA, hK1.1 j, hK1.2 j]; exact ha j (by omega)
    refine wp_iconst (v := 0) dX9_rank_15 rfl ?_
    refine wp_istore_n dX9_rank_16 (Nat.le_of_ble_eq_true rfl) ?_
    exact wp_lv (firstL 8 0 (sI M 121 0 0) (by omega) hw0 rfl (fun j hj => absurd hj (Nat.not_lt_zero j))) (by repeat (first | exact trivial | refine ⟨rfl, ?_⟩))
  refine wp_aload_n dX9_rank_0 rfl ?_
  refine wp_iconst (v := 0) dX9_rank_1 rfl ?_
  refine wp_putI dX9_rank_2 fl_X9_1 rfl rfl (fun _ _ _ h => by cases h; rfl) rfl rfl ?_
  refine wp_aload_n dX9_rank_5 rfl ?_
  refine wp_getI dX9_rank_6 fl_X9_112 rfl rfl ?_
  rw [en]
  refine wp_if_ne (tgt := 15) dX9_rank_9 (by decide) (fun c9 => ?_) (fun c9 => ?_)
  · exact wp_lv (main (fun e => c9 (by rw [e]; rfl))) (by repeat (first | exact trivial | refine ⟨rfl, ?_⟩))
  · refine wp_bipush (v := (-104)) dX9_rank_12 (by decide) ?_
    refine wp_ireturn dX9_rank_14 rfl rfl (Nat.zero_le _) (Nat.zero_le _) ?_
    unfold rkV
    rw [if_pos (nI_e (b := 0) (by omega) (by decide) c9)]
    exact ⟨rfl, rfl, rfl, h0m, wF_out hw0⟩
