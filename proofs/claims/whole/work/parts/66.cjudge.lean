/-! ===== fits, worth, why, rank ===== -/
abbrev hasI (q : QQ) (k : Int32) : Prop := ¬ k < 0 ∧ ¬ nI q.1 ≤ k
theorem hasI_n {q : QQ} {k : Int32} (hn : q.1 ≤ 25) (h : hasI q k) : ∃ K, K < q.1 ∧ k = nI K := by
  refine ⟨k.toNatClampNeg, ?_, ?_⟩
  · obtain ⟨a, b⟩ := h
    have h1 : 0 ≤ k.toInt := by
      have := Int32.not_lt.mp a
      rw [Int32.le_iff_toInt_le] at this
      exact this
    have h2 := Int32.not_le.mp b
    rw [Int32.lt_iff_toInt_lt, nI_toInt (by omega)] at h2
    show k.toInt.toNat < _
    omega
  · obtain ⟨a, b⟩ := h
    have h1 : 0 ≤ k.toInt := by
      have := Int32.not_lt.mp a
      rw [Int32.le_iff_toInt_le] at this
      exact this
    apply Int32.toInt_inj.mp
    have h3 := Int32.toInt_lt k
    rw [nI_toInt (by show k.toInt.toNat < _; omega)]
    show k.toInt = ((k.toInt.toNat : Nat) : Int)
    omega
theorem hasI_0 {q : QQ} (h : q.1 = 0) (k : Int32) : ¬ hasI q k := fun ⟨a, b⟩ => b (by rw [h]; exact Int32.not_lt.mp a)
theorem hasI_m {q : QQ} (hn : q.1 ≤ 25) (k : Int32) : (0 ≤ k ∧ k ≤ nI q.1 - 1) ↔ hasI q k := by
  show _ ↔ (¬ k < 0 ∧ ¬ nI q.1 ≤ k)
  rw [show (¬ k < 0) = (0 ≤ k) from propext Int32.not_lt, show (¬ nI q.1 ≤ k) = (k < nI q.1) from propext Int32.not_le]
  have e : (nI q.1 - 1).toInt = (q.1 : Int) - 1 := by
    rcases Nat.eq_zero_or_pos q.1 with h | h
    · rw [h]; rfl
    · rw [nI_m h, nI_toInt (by omega)]; omega
  rw [Int32.le_iff_toInt_le, Int32.le_iff_toInt_le, Int32.lt_iff_toInt_lt, nI_toInt (by omega), e]
  omega
def Vq (q : QQ) (dc : Nat → List (List Nat)) (D k : Nat) : Option Nat := vT q.2 q.1 dc D q.1 k
def ftV (q : QQ) (dc : Nat → List (List Nat)) (k d : Int32) : Int32 := if hasI q k ∧ docI d then mI (Vq q dc d.toNatClampNeg k.toNatClampNeg) else -101
def woV (q : QQ) (dc : Nat → List (List Nat)) (k d : Int32) : Int64 := if hasI q k ∧ docI d then mL (Vq q dc d.toNatClampNeg k.toNatClampNeg) else -101
def whN (q : QQ) (dc : Nat → List (List Nat)) (D : Nat) : Int32 := if (Vq q dc D 0).isSome = true then -1 else if ff q.2 (Vq q dc D) 1 (q.1 - 1) 1 = 0 then nI (ff q.2 (Vq q dc D) 2 (q.1 - 1) 1) else nI (ff q.2 (Vq q dc D) 1 (q.1 - 1) 1)
def whV (q : QQ) (dc : Nat → List (List Nat)) (d : Int32) : Int32 := if docI d then if q.1 = 0 then -104 else whN q dc d.toNatClampNeg else -101
/-- whether document j stands ahead of D -/
def ahB (W : Nat → Option Nat) (D j : Nat) : Bool := match W j with
  | none => false
  | some a => decide ((W D).getD 0 < a) || (decide (a = (W D).getD 0) && decide (j < D))
def ahd (W : Nat → Option Nat) (D : Nat) : Nat → Nat
  | 0 => 0
  | j + 1 => ahd W D j + (if ahB W D j = true then 1 else 0)
theorem ahd_le (W : Nat → Option Nat) (D : Nat) : ∀ j, ahd W D j ≤ j
  | 0 => Nat.le_refl 0
  | j + 1 => by have := ahd_le W D j; unfold ahd; split <;> omega
def rkN (W : Nat → Option Nat) (k : Int32) : Nat → Nat → Int32
  | 0, _ => -1
  | r + 1, D => if (W D).isSome = true ∧ nI (ahd W D 8) = k then nI D else rkN W k r (D + 1)
def rkV (q : QQ) (dc : Nat → List (List Nat)) (k : Int32) : Int32 := if q.1 = 0 then -104 else rkN (fun D => Vq q dc D 0) k 8 0
def pDocL (M : Mem) (v0 : Int64) (tp gn : List Nat) (q : QQ) (o : Option (List Nat)) (dc : Nat → List (List Nat)) : PT := fun v sh1 M1 => sh1 = SH ∧ v = some (.long v0) ∧ RC M1 tp gn q o dc ∧ OutC M M1
def pDocLM (M : Mem) (v0 : Int64) (tp gn : List Nat) (q : QQ) (o : Option (List Nat)) (dc : Nat → List (List Nat)) : PT := fun v sh1 M1 => sh1 = SH ∧ v = some (.long v0) ∧ fI M1 121 0 = 0 ∧ RM M1 tp gn q o dc ∧ OutM M M1
theorem RC_JC {M : Mem} {tp gn : List Nat} {q : QQ} {o : Option (List Nat)} {dc : Nat → List (List Nat)} (h : RC M tp gn q o dc) : JC M dc := by
  obtain ⟨a1, a2, a3, a4, a5, a6, a7, _⟩ := RC_jd h
  exact ⟨⟨a2, a5, a6, a3, a4, a7⟩, h.2.2.2.2.2⟩
abbrev qF (M M1 : Mem) : Prop := Fr [] [118] [119, 120] M M1
theorem jF_q {M M1 : Mem} (h : jF M M1) : qF M M1 := h.wk (by simp) (by simp) (by simp)
theorem JC.fq {M M1 : Mem} {dc : Nat → List (List Nat)} (h : JC M dc) (k : qF M M1) : JC M1 dc :=
  ⟨⟨(k.2.2.2.1 _ _).trans h.1.1, (k.2.2.2.1 _ _).trans h.1.2.1, (k.2.2.2.1 _ _).trans h.1.2.2.1, (k.2.2.2.1 _ _).trans h.1.2.2.2.1, (k.2.2.2.1 _ _).trans h.1.2.2.2.2.1, (k.2.2.2.1 _ _).trans h.1.2.2.2.2.2⟩, h.2.fr k (by simp) (by simp)⟩
theorem CT.fq {M M1 : Mem} {T n : Nat} {nd : Nat → ND} (h : CT M T n nd) (k : qF M M1) : CT M1 T n nd := by
  obtain ⟨a, b, c, d⟩ := h
  exact ⟨a, b.fr k, c.fr k (fun j hj f => by simp) (fun j hj => by simp; omega), d⟩
theorem RC_qF {M M1 : Mem} {tp gn : List Nat} {q : QQ} {o : Option (List Nat)} {dc : Nat → List (List Nat)} (h : RC M tp gn q o dc) (k : qF M M1) : RC M1 tp gn q o dc :=
  RC_J h (k.wk (by simp) (by simp) (by simp)) (h.2.2.2.2.2.fr k (by simp) (by simp))
theorem qF_out {M M1 : Mem} (k : qF M M1) : OutC M M1 := k.outC (by simp) (by simp) (by simp)
abbrev wF (M M1 : Mem) : Prop := Fr [(121, 0)] [147, 148, 150, 151] [149, 152] M M1
theorem vF_w {M M1 : Mem} (h : vF M M1) : wF M M1 := h.wk (by simp) (by simp) (by simp)
theorem RM_wF {M M1 : Mem} {tp gn : List Nat} {q : QQ} {o : Option (List Nat)} {dc : Nat → List (List Nat)} (h : RM M tp gn q o dc) (k : wF M M1) : RM M1 tp gn q o dc :=
  ⟨h.1.fr k, h.2.1.fr k (by simp) (by simp), h.2.2.1.fr k (by simp) (by simp), h.2.2.2.1.fr k (by simp) (fun j hj => by simp; omega), h.2.2.2.2.1.fr k (by simp) (by simp), h.2.2.2.2.2.fr k (by simp) (by simp) (by simp)⟩
theorem wF_out {M M1 : Mem} (k : wF M M1) : OutM M M1 := k.out (by simp) (by simp) (by simp)
theorem wF_0 {M : Mem} (x : Int32) : wF M (sI M 121 0 x) := Fr.rf.sI (by simp)
theorem wh_b {q : QQ} {dc : Nat → List (List Nat)} {D : Nat} (hk : QOk q) (h0 : q.1 ≠ 0) (hdl : ∀ r, r < 32 → (dc r).length ≤ 12) (hD : D < 8) : ∀ c, c < q.1 → ∀ w, Vq q dc D c = some w → w < 2 ^ 62 := fun c hc w hw =>
  vT_lt (QOk.dt hk h0) hdl hD (Nat.le_refl _) (by omega) hc hw
set_option maxRecDepth 100000 in
set_option maxHeartbeats 4000000 in
theorem cX8_fits_ (E : GE) (tp gn : List Nat) (q : QQ) (o : Option (List Nat)) (dc : Nat → List (List Nat)) (M : Mem) (h : RC M tp gn q o dc) (hk : QOk q) (hdc : dcOk dc) (k d : Int32) : Sp E mX8_fits 7 0 0 [.ref 0, .int k, .int d] SH M (pDoc M (ftV q dc k d) tp gn q o dc) := by
  refine sp_of vX8_fits.1 rfl (Nat.le_of_ble_eq_true rfl) ?_
  obtain ⟨tq, hq⟩ := h.2.2.2.1
  have hT := hq.2.2.1
  have ec : fI M tq 1 = nI q.1 := hq.2.2.2.1
  have hn25 := hq.2.2.2.2.1
  have hj := RC_JC h
  have hdl : ∀ r, r < 32 → (dc r).length ≤ 12 := fun r hr => (hj.2 r hr).2.1
  obtain ⟨j8, -, -, -, -, -, -, j9, -, -⟩ := RC_jd h
  have j5 : fR M 0 5 = some tq := hq.1
  have hb : b2i (¬ k < 0 ∧ ¬ fI M tq 1 ≤ k) = b2i (hasI q k) := by rw [ec]
  have hdb : b2i (¬ d < 0 ∧ ¬ 8 ≤ d) = b2i (docI d) := b2i_c (doc_c d)
  refine wp_aload_n dX8_fits_0 rfl ?_
  refine wp_getR dX8_fits_1 fl_X8_30 rfl rfl j5 ?_
  refine wp_iload_n dX8_fits_4 rfl ?_
  refine wp_cV1i dX8_fits_5 ml_X8_85 vX7_has (isO_T hT) (cX7_has_ E tq k M hT) (Nat.le_of_ble_eq_true rfl) (Nat.le_of_ble_eq_true rfl) (Nat.le_of_ble_eq_true rfl) ?_
  rw [hb]
  refine wp_if_eq (tgt := 18) dX8_fits_8 (by decide) (fun c8 => ?_) (fun c8 => ?_)
  · refine wp_bipush (v := (-101)) dX8_fits_18 (by decide) ?_
    refine wp_ireturn dX8_fits_20 rfl rfl (Nat.zero_le _) (Nat.zero_le _) ?_
    unfold ftV
    rw [if_neg (fun z => b2i_e0.mp c8 z.1)]
    exact ⟨rfl, rfl, h, fun p hp => EqP.rf⟩
  · refine wp_iload_n dX8_fits_11 rfl ?_
    refine wp_cS1i dX8_fits_12 ml_X8_160 sX8_isDocument (cX8_isDocument_ E d _ _) (Nat.le_of_ble_eq_true rfl) (Nat.le_of_ble_eq_true rfl) (Nat.le_of_ble_eq_true rfl) ?_
    rw [hdb]
    refine wp_if_ne (tgt := 21) dX8_fits_15 (by decide) (fun c15 => ?_) (fun c15 => ?_)
    · have hh := b2i_ne.mp c8
      have hd8 := b2i_ne.mp c15
      have h0 : q.1 ≠ 0 := fun e => hasI_0 e k hh
      obtain ⟨K, hK, rfl⟩ := hasI_n hn25 hh
      obtain ⟨D, hD, rfl⟩ := doc_n hd8
      have hct := RC_CT h hq hk h0
      have hdt : DT q.2 q.1 := QOk.dt hk h0
      have eK : (nI K).toNatClampNeg = K := nI_clamp (by omega)
      have eD : (nI D).toNatClampNeg = D := nI_clamp (by omega)
      have hval : hasI q (nI K) ∧ docI (nI D) := ⟨hh, hd8⟩
      have hbd := wh_b hk h0 hdl hD K hK
      refine wp_aload_n dX8_fits_21 rfl ?_
      refine wp_getR dX8_fits_22 fl_X8_51 rfl rfl j8 ?_
      refine wp_aload_n dX8_fits_25 rfl ?_
      refine wp_getR dX8_fits_26 fl_X8_30 rfl rfl j5 ?_
      refine wp_iload_n dX8_fits_29 rfl ?_
      refine wp_iload_n dX8_fits_30 rfl ?_
      refine wp_cV3p dX8_fits_31 ml_X8_184 vX1_weigh ⟨1, (RX1, TX1, 3), rfl, rfl, rfl⟩ (cX1_weigh_ E tq q.1 K D q.2 dc M hct hdt hK hD hj hdc) (Nat.le_of_ble_eq_true rfl) (Nat.le_of_ble_eq_true rfl) (Nat.le_of_ble_eq_true rfl) (Nat.le_refl _) (Nat.le_refl _) (fun v sh1 M2 hqq => ?_)
      obtain ⟨rfl, rfl, hF, hrow⟩ := hqq
      refine wp_ldc2 dX8_fits_34 kl_X8_188 ?_
      refine wp_lcmp dX8_fits_37 ?_
      refine wp_if_ne (tgt := 45) dX8_fits_38 (by decide) (fun c38 => ?_) (fun c38 => ?_)
      · refine wp_iconst (v := 1) dX8_fits_45 rfl ?_
        refine wp_ireturn dX8_fits_46 rfl rfl (Nat.zero_le _) (Nat.zero_le _) ?_
        have hv : ¬ Vq q dc D K = none := fun e => c38 ((lg_eq _ _).mpr (by show cV (Vq q dc D K) = _; rw [e]; rfl))
        unfold ftV
        rw [if_pos hval, eK, eD, show mI (Vq q dc D K) = 1 by cases hz : Vq q dc D K with | none => exact absurd hz hv | some w => rfl]
        exact ⟨rfl, rfl, RC_qF h (jF_q hF), qF_out (jF_q hF)⟩
      · refine wp_iconst (v := 0) dX8_fits_41 rfl ?_
        refine wp_goto (tgt := 46) dX8_fits_42 (by decide) ?_
        refine wp_ireturn dX8_fits_46 rfl rfl (Nat.zero_le _) (Nat.zero_le _) ?_
        have hv : Vq q dc D K = none := (cV_m1 hbd).mp ((lg_eq _ _).mp c38)
        unfold ftV
        rw [if_pos hval, eK, eD, hv]
        exact ⟨rfl, rfl, RC_qF h (jF_q hF), qF_out (jF_q hF)⟩
    · refine wp_bipush (v := (-101)) dX8_fits_18 (by decide) ?_
      refine wp_ireturn dX8_fits_20 rfl rfl (Nat.zero_le _) (Nat.zero_le _) ?_
      unfold ftV
      rw [if_neg (fun z => b2i_e0.mp c15 z.2)]
      exact ⟨rfl, rfl, h, fun p hp => EqP.rf⟩
set_option maxRecDepth 100000 in
set_option maxHeartbeats 4000000 in
theorem cX8_worth_ (E : GE) (tp gn : List Nat) (q : QQ) (o : Option (List Nat)) (dc : Nat → List (List Nat)) (M : Mem) (h : RC M tp gn q o dc) (hk : QOk q) (hdc : dcOk dc) (k d : Int32) : Sp E mX8_worth 7 0 0 [.ref 0, .int k, .int d] SH M (pDocL M (woV q dc k d) tp gn q o dc) := by
  refine sp_of vX8_worth.1 rfl (Nat.le_of_ble_eq_true rfl) ?_
  obtain ⟨tq, hq⟩ := h.2.2.2.1
  have hT := hq.2.2.1
  have ec : fI M tq 1 = nI q.1 := hq.2.2.2.1
  have hn25 := hq.2.2.2.2.1
  have hj := RC_JC h
  have hdl : ∀ r, r < 32 → (dc r).length ≤ 12 := fun r hr => (hj.2 r hr).2.1
  obtain ⟨j8, -, -, -, -, -, -, j9, -, -⟩ := RC_jd h
  have j5 : fR M 0 5 = some tq := hq.1
  have hb : b2i (¬ k < 0 ∧ ¬ fI M tq 1 ≤ k) = b2i (hasI q k) := by rw [ec]
  have hdb : b2i (¬ d < 0 ∧ ¬ 8 ≤ d) = b2i (docI d) := b2i_c (doc_c d)
  refine wp_aload_n dX8_worth_0 rfl ?_
  refine wp_getR dX8_worth_1 fl_X8_30 rfl rfl j5 ?_
  refine wp_iload_n dX8_worth_4 rfl ?_
  refine wp_cV1i dX8_worth_5 ml_X8_85 vX7_has (isO_T hT) (cX7_has_ E tq k M hT) (Nat.le_of_ble_eq_true rfl) (Nat.le_of_ble_eq_true rfl) (Nat.le_of_ble_eq_true rfl) ?_
  rw [hb]
  refine wp_if_eq (tgt := 18) dX8_worth_8 (by decide) (fun c8 => ?_) (fun c8 => ?_)
  · refine wp_ldc2 dX8_worth_18 kl_X8_190 ?_
    refine wp_lreturn dX8_worth_21 rfl (Nat.zero_le _) (Nat.zero_le _) ?_
    unfold woV
    rw [if_neg (fun z => b2i_e0.mp c8 z.1)]
    exact ⟨rfl, rfl, h, fun p hp => EqP.rf⟩
  · refine wp_iload_n dX8_worth_11 rfl ?_
    refine wp_cS1i dX8_worth_12 ml_X8_160 sX8_isDocument (cX8_isDocument_ E d _ _) (Nat.le_of_ble_eq_true rfl) (Nat.le_of_ble_eq_true rfl) (Nat.le_of_ble_eq_true rfl) ?_
    rw [hdb]
    refine wp_if_ne (tgt := 22) dX8_worth_15 (by decide) (fun c15 => ?_) (fun c15 => ?_)
    · have hh := b2i_ne.mp c8
      have hd8 := b2i_ne.mp c15
      have h0 : q.1 ≠ 0 := fun e => hasI_0 e k hh
      obtain ⟨K, hK, rfl⟩ := hasI_n hn25 hh
      obtain ⟨D, hD, rfl⟩ := doc_n hd8
      have hct := RC_CT h hq hk h0
      have hdt : DT q.2 q.1 := QOk.dt hk h0
      have eK : (nI K).toNatClampNeg = K := nI_clamp (by omega)
      have eD : (nI D).toNatClampNeg = D := nI_clamp (by omega)
      have hval : hasI q (nI K) ∧ docI (nI D) := ⟨hh, hd8⟩
      have hbd := wh_b hk h0 hdl hD K hK
      refine wp_lconst (v := 0) dX8_worth_22 rfl ?_
      refine wp_aload_n dX8_worth_23 rfl ?_
      refine wp_getR dX8_worth_24 fl_X8_51 rfl rfl j8 ?_
      refine wp_aload_n dX8_worth_27 rfl ?_
      refine wp_getR dX8_worth_28 fl_X8_30 rfl rfl j5 ?_
      refine wp_iload_n dX8_worth_31 rfl ?_
      refine wp_iload_n dX8_worth_32 rfl ?_
      refine wp_cV3p dX8_worth_33 ml_X8_184 vX1_weigh ⟨1, (RX1, TX1, 3), rfl, rfl, rfl⟩ (cX1_weigh_ E tq q.1 K D q.2 dc M hct hdt hK hD hj hdc) (Nat.le_of_ble_eq_true rfl) (Nat.le_of_ble_eq_true rfl) (Nat.le_of_ble_eq_true rfl) (Nat.le_refl _) (Nat.le_refl _) (fun v sh1 M2 hqq => ?_)
      obtain ⟨rfl, rfl, hF, hrow⟩ := hqq
      rw [show vT q.2 q.1 dc D q.1 K = Vq q dc D K from rfl]
      refine wp_cS2l dX8_worth_36 ml_X8_192 sJ9_max_f86c9 (cJ9_max_ E _ _ _ _) (Nat.le_of_ble_eq_true rfl) (Nat.le_of_ble_eq_true rfl) (Nat.le_of_ble_eq_true rfl) ?_
      rw [cV_max hbd]
      refine wp_lreturn dX8_worth_39 rfl (Nat.zero_le _) (Nat.zero_le _) ?_
      unfold woV
      rw [if_pos hval, eK, eD]
      exact ⟨rfl, rfl, RC_qF h (jF_q hF), qF_out (jF_q hF)⟩
    · refine wp_ldc2 dX8_worth_18 kl_X8_190 ?_
      refine wp_lreturn dX8_worth_21 rfl (Nat.zero_le _) (Nat.zero_le _) ?_
      unfold woV
      rw [if_neg (fun z => b2i_e0.mp c15 z.2)]
      exact ⟨rfl, rfl, h, fun p hp => EqP.rf⟩
theorem ff_le (nd : Nat → ND) (V : Nat → Option Nat) (mk : Int32) : ∀ r k, ff nd V mk r k ≤ k + r
  | 0, k => Nat.zero_le _
  | r + 1, k => by
    show (if _ then k else ff nd V mk r (k + 1)) ≤ _
    have := ff_le nd V mk r (k + 1)
    split <;> omega
set_option maxRecDepth 100000 in
set_option maxHeartbeats 4000000 in
theorem cX8_why_ (E : GE) (tp gn : List Nat) (q : QQ) (o : Option (List Nat)) (dc : Nat → List (List Nat)) (M : Mem) (h : RC M tp gn q o dc) (hk : QOk q) (hdc : dcOk dc) (d : Int32) : Sp E mX8_why 7 0 0 [.ref 0, .int d] SH M (pDoc M (whV q dc d) tp gn q o dc) := by
  refine sp_of vX8_why.1 rfl (Nat.le_of_ble_eq_true rfl) ?_
  obtain ⟨tq, hq⟩ := h.2.2.2.1
  have hT := hq.2.2.1
  have ec : fI M tq 1 = nI q.1 := hq.2.2.2.1
  have hn25 := hq.2.2.2.2.1
  have hj := RC_JC h
  have hdl : ∀ r, r < 32 → (dc r).length ≤ 12 := fun r hr => (hj.2 r hr).2.1
  obtain ⟨j8, -, -, -, -, -, -, j9, -, -⟩ := RC_jd h
  have j5 : fR M 0 5 = some tq := hq.1
  have hdb : b2i (¬ d < 0 ∧ ¬ 8 ≤ d) = b2i (docI d) := b2i_c (doc_c d)
  refine wp_iload_n dX8_why_0 rfl ?_
  refine wp_cS1i dX8_why_1 ml_X8_160 sX8_isDocument (cX8_isDocument_ E d _ _) (Nat.le_of_ble_eq_true rfl) (Nat.le_of_ble_eq_true rfl) (Nat.le_of_ble_eq_true rfl) ?_
  rw [hdb]
  refine wp_if_ne (tgt := 10) dX8_why_4 (by decide) (fun c4 => ?_) (fun c4 => ?_)
  · have hd8 := b2i_ne.mp c4
    refine wp_aload_n dX8_why_10 rfl ?_
    refine wp_getR dX8_why_11 fl_X8_30 rfl rfl j5 ?_
    refine wp_cV0i dX8_why_14 ml_X8_139 vX7_isEmpty (isO_T hT) (cX7_isEmpty_ E tq M hT) (Nat.le_of_ble_eq_true rfl) (Nat.le_of_ble_eq_true rfl) (Nat.le_of_ble_eq_true rfl) ?_
    refine wp_if_eq (tgt := 23) dX8_why_17 (by decide) (fun c17 => ?_) (fun c17 => ?_)
    · have h0 : q.1 ≠ 0 := fun e => b2i_e0.mp c17 (by rw [ec, e]; rfl)
      obtain ⟨D, hD, rfl⟩ := doc_n hd8
      have hct := RC_CT h hq hk h0
      have hdt : DT q.2 q.1 := QOk.dt hk h0
      have eD : (nI D).toNatClampNeg = D := nI_clamp (by omega)
      have hbdA := wh_b hk h0 hdl hD
      refine wp_aload_n dX8_why_23 rfl ?_
      refine wp_getR dX8_why_24 fl_X8_51 rfl rfl j8 ?_
      refine wp_aload_n dX8_why_27 rfl ?_
      refine wp_getR dX8_why_28 fl_X8_30 rfl rfl j5 ?_
      refine wp_iconst (v := 0) dX8_why_31 rfl ?_
      refine wp_iload_n dX8_why_32 rfl ?_
      refine wp_cV3p dX8_why_33 ml_X8_184 vX1_weigh ⟨1, (RX1, TX1, 3), rfl, rfl, rfl⟩ (cX1_weigh_ E tq q.1 0 D q.2 dc M hct hdt (by omega) hD hj hdc) (Nat.le_of_ble_eq_true rfl) (Nat.le_of_ble_eq_true rfl) (Nat.le_of_ble_eq_true rfl) (Nat.le_refl _) (Nat.le_refl _) (fun v sh1 M2 hqq => ?_)
      obtain ⟨rfl, rfl, hF, hrow⟩ := hqq
      refine wp_ldc2 dX8_why_36 kl_X8_188 ?_
      refine wp_lcmp dX8_why_39 ?_
      refine wp_if_eq (tgt := 45) dX8_why_40 (by decide) (fun c40 => ?_) (fun c40 => ?_)
      · have hv : Vq q dc D 0 = none := (cV_m1 (hbdA 0 (by omega))).mp ((lg_eq _ _).mp c40)
        refine wp_aload_n dX8_why_45 rfl ?_
        refine wp_getR dX8_why_46 fl_X8_51 rfl rfl ((hF.2.2.2.1 _ _).trans j8) ?_
        refine wp_aload_n dX8_why_49 rfl ?_
        refine wp_getR dX8_why_50 fl_X8_30 rfl rfl ((hF.2.2.2.1 _ _).trans j5) ?_
        refine wp_iconst (v := 1) dX8_why_53 rfl ?_
        refine wp_cV2i dX8_why_54 ml_X8_208 vX1_firstFault (by first | rfl | exact ⟨1, (RX1, TX1, 3), rfl, rfl, rfl⟩) (cX1_firstFault_ E tq q.1 1 q.2 (Vq q dc D) M2 (hct.fj hF) (by omega) (hj.fr hF).1.2.2.1 (fun c h1 h2 => hrow c (by omega) h2) (fun c h1 h2 => hbdA c h2)) (Nat.le_of_ble_eq_true rfl) (Nat.le_of_ble_eq_true rfl) (Nat.le_of_ble_eq_true rfl) ?_
        refine wp_istore_n dX8_why_57 (Nat.le_of_ble_eq_true rfl) ?_
        refine wp_iload_n dX8_why_58 rfl ?_
        refine wp_if_eq (tgt := 66) dX8_why_59 (by decide) (fun c59 => ?_) (fun c59 => ?_)
        · refine wp_aload_n dX8_why_66 rfl ?_
          refine wp_getR dX8_why_67 fl_X8_51 rfl rfl ((hF.2.2.2.1 _ _).trans j8) ?_
          refine wp_aload_n dX8_why_70 rfl ?_
          refine wp_getR dX8_why_71 fl_X8_30 rfl rfl ((hF.2.2.2.1 _ _).trans j5) ?_
          refine wp_iconst (v := 2) dX8_why_74 rfl ?_
          refine wp_cV2i dX8_why_75 ml_X8_208 vX1_firstFault (by first | rfl | exact ⟨1, (RX1, TX1, 3), rfl, rfl, rfl⟩) (cX1_firstFault_ E tq q.1 2 q.2 (Vq q dc D) M2 (hct.fj hF) (by omega) (hj.fr hF).1.2.2.1 (fun c h1 h2 => hrow c (by omega) h2) (fun c h1 h2 => hbdA c h2)) (Nat.le_of_ble_eq_true rfl) (Nat.le_of_ble_eq_true rfl) (Nat.le_of_ble_eq_true rfl) ?_
          refine wp_ireturn dX8_why_78 rfl rfl (Nat.zero_le _) (Nat.zero_le _) ?_
          have hz : ff q.2 (Vq q dc D) 1 (q.1 - 1) 1 = 0 := nI_e (b := 0) (by have := ff_le q.2 (Vq q dc D) 1 (q.1 - 1) 1; omega) (by decide) c59
          unfold whV whN
          rw [if_pos hd8, if_neg h0, eD, hv, if_neg (by decide), if_pos hz]
          exact ⟨rfl, rfl, RC_qF h (jF_q hF), qF_out (jF_q hF)⟩
        · refine wp_iload_n dX8_why_62 rfl ?_
          refine wp_goto (tgt := 78) dX8_why_63 (by decide) ?_
          refine wp_ireturn dX8_why_78 rfl rfl (Nat.zero_le _) (Nat.zero_le _) ?_
          have hz : ¬ ff q.2 (Vq q dc D) 1 (q.1 - 1) 1 = 0 := fun e => c59 (by rw [e]; rfl)
          unfold whV whN
          rw [if_pos hd8, if_neg h0, eD, hv, if_neg (by decide), if_neg hz]
          exact ⟨rfl, rfl, RC_qF h (jF_q hF), qF_out (jF_q hF)⟩
      · refine wp_iconst (v := (-1)) dX8_why_43 rfl ?_
        refine wp_ireturn dX8_why_44 rfl rfl (Nat.zero_le _) (Nat.zero_le _) ?_
        have hv : (Vq q dc D 0).isSome = true := by
          cases hz : Vq q dc D 0 with
          | none => exact absurd ((lg_eq _ _).mpr (by show cV (Vq q dc D 0) = _; rw [hz]; rfl)) c40
          | some w => rfl
        unfold whV whN
        rw [if_pos hd8, if_neg h0, eD, if_pos hv]
        exact ⟨rfl, rfl, RC_qF h (jF_q hF), qF_out (jF_q hF)⟩
    · refine wp_bipush (v := (-104)) dX8_why_20 (by decide) ?_
      refine wp_ireturn dX8_why_22 rfl rfl (Nat.zero_le _) (Nat.zero_le _) ?_
      have h0 : q.1 = 0 := by
        have := b2i_ne.mp c17
        rw [ec] at this
        exact nI_e (b := 0) (by omega) (by decide) this
      unfold whV
      rw [if_pos hd8, if_pos h0]
      exact ⟨rfl, rfl, h, fun p hp => EqP.rf⟩
  · refine wp_bipush (v := (-101)) dX8_why_7 (by decide) ?_
    refine wp_ireturn dX8_why_9 rfl rfl (Nat.zero_le _) (Nat.zero_le _) ?_
    have hd8 : ¬ docI d := b2i_e0.mp c4
    unfold whV
    rw [if_neg hd8]
    exact ⟨rfl, rfl, h, fun p hp => EqP.rf⟩
set_option maxRecDepth 100000 in
set_option maxHeartbeats 4000000 in
theorem cX8_countAhead_ (E : GE) (D : Nat) (W : Nat → Option Nat) (M : Mem) (hr : fR M 0 9 = some 120) (hD : D < 8) (hs : (W D).isSome = true) (hrow : ∀ j, j < 8 → aL M 120 j = cV (W j)) (hbd : ∀ j, j < 8 → ∀ w, W j = some w → w < 2 ^ 62) : Sp E mX8_countAhead 1 0 0 [.ref 0, .int (nI D)] SH M (RV (some (.int (nI (ahd W D 8)))) SH M) := by
  refine sp_of vX8_countAhead.1 rfl (Nat.le_of_ble_eq_true rfl) ?_
  have hdb : b2i (¬ nI D < 0 ∧ ¬ 8 ≤ nI D) = 1 := b2i_t ⟨nI_pos (by omega), nI_ge (b := 8) hD (by decide)⟩
  have hclD : (nI D).toNatClampNeg = D := nI_clamp (by omega)
  have hinD : vp_in (nI D) 8 := vp_in_nI hD (by decide)
  obtain ⟨a, ha⟩ : ∃ a, W D = some a := by
    cases hz : W D with
    | none => rw [hz] at hs; exact absurd hs (by decide)
    | some a => exact ⟨a, rfl⟩
  have hab := hbd D hD a ha
  have rD : aL M 120 D = lN a := by rw [hrow D hD, ha]; rfl
  have loop : ∀ (r j : Nat), j + r = 8 → Wp (xM E mX8_countAhead 1 0 0 SH.length (RV (some (.int (nI (ahd W D 8)))) SH M)) 0 0 4 [(3, .int (nI j)), (2, .int (nI (ahd W D j))), (1, .int (nI D)), (0, .ref 0)] [] SH M := by
    intro r
    induction r with
    | zero =>
      intro j hj
      have hj : j = 8 := by omega
      subst hj
      refine wp_iload_n dX8_countAhead_4 rfl ?_
      refine wp_bipush (v := 8) dX8_countAhead_5 (by decide) ?_
      refine wp_icmp_ge (tgt := 87) dX8_countAhead_7 (by decide) (fun c7 => ?_) (fun c7 => absurd (show (8 : Int32) ≤ nI 8 by decide) c7)
      refine wp_iload_n dX8_countAhead_87 rfl ?_
      refine wp_ireturn dX8_countAhead_88 rfl rfl (Nat.zero_le _) (Nat.zero_le _) ?_
      exact ⟨rfl, rfl, rfl⟩
    | succ r ih =>
      intro j hj
      have hj8 : j < 8 := by omega
      have hclj : (nI j).toNatClampNeg = j := nI_clamp (by omega)
      have hinj : vp_in (nI j) 8 := vp_in_nI hj8 (by decide)
      have rj := hrow j hj8
      have hih := ih (j + 1) (by omega)
      have hah : ahd W D (j + 1) = ahd W D j + (if ahB W D j = true then 1 else 0) := rfl
      have hgt : lN a < cV (W j) ↔ ∃ b, W j = some b ∧ a < b := by
        cases hz : W j with
        | none => exact ⟨fun q => absurd q (Int64.not_lt.mpr (Int64.le_trans (show (-1 : Int64) ≤ lN 0 by decide) ((lNle (a := 0) (by decide) (by omega)).mpr (Nat.zero_le a)))), fun ⟨b, q, _⟩ => by cases q⟩
        | some b =>
          have := hbd j hj8 b hz
          exact ⟨fun q => ⟨b, rfl, (lNlt (by omega) (by omega)).mp q⟩, fun ⟨b', q1, q2⟩ => by cases q1; exact (lNlt (by omega) (by omega)).mpr q2⟩
      have heq : cV (W j) = lN a ↔ W j = some a := by
        cases hz : W j with
        | none => exact ⟨fun q => absurd q.symm (lN_m1 hab), fun q => by cases q⟩
        | some b =>
          have := hbd j hj8 b hz
          exact ⟨fun q => by rw [(lNeq (by omega) (by omega)).mp q], fun q => by cases q; rfl⟩
      have hB : ahB W D j = true ↔ (lN a < cV (W j) ∨ (cV (W j) = lN a ∧ j < D)) := by
        rw [hgt, heq]
        unfold ahB
        rw [ha]
        cases hz : W j with
        | none => simp
        | some b => simp
      have J81 : ∀ (z : Prop) (_ : Decidable z), (z ↔ ahB W D j = true) → Wp (xM E mX8_countAhead 1 0 0 SH.length (RV (some (.int (nI (ahd W D 8)))) SH M)) 0 0 81 [(3, .int (nI j)), (2, .int (nI (ahd W D j + (if z then 1 else 0)))), (1, .int (nI D)), (0, .ref 0)] [] SH M := by
        intro z _ hz
        rw [show (if z then 1 else 0) = (if ahB W D j = true then 1 else 0) by simp only [hz], ← hah]
        refine wp_iinc dX8_countAhead_81 rfl (i_inc _) (Nat.le_of_ble_eq_true rfl) ?_
        refine wp_goto (tgt := 4) dX8_countAhead_84 (by decide) ?_
        exact wp_lv hih (by repeat (first | exact trivial | refine ⟨rfl, ?_⟩))
      have J61o : ∀ (g e : Int32), (¬ g = 0 ↔ lN a < cV (W j)) → (e = 0 ↔ ¬ cV (W j) = lN a) → Wp (xM E mX8_countAhead 1 0 0 SH.length (RV (some (.int (nI (ahd W D 8)))) SH M)) 0 0 61 [(3, .int (nI j)), (2, .int (nI (ahd W D j))), (4, .int g), (1, .int (nI D)), (0, .ref 0)] [.int e] SH M := by
        intro g e hg he
        refine wp_istore dX8_countAhead_61 (Nat.le_of_ble_eq_true rfl) ?_
        refine wp_iload dX8_countAhead_63 rfl ?_
        refine wp_if_ne (tgt := 78) dX8_countAhead_65 (by decide) (fun c65 => ?_) (fun c65 => ?_)
        · refine wp_iinc dX8_countAhead_78 rfl (i_inc _) (Nat.le_of_ble_eq_true rfl) ?_
          have h := J81 True inferInstance (iff_of_true trivial (hB.mpr (Or.inl (hg.mp c65))))
          rw [if_pos trivial] at h
          exact wp_lv h (by repeat (first | exact trivial | refine ⟨rfl, ?_⟩))
        · refine wp_iload dX8_countAhead_68 rfl ?_
          refine wp_if_eq (tgt := 81) dX8_countAhead_70 (by decide) (fun c70 => ?_) (fun c70 => ?_)
          · have h := J81 False inferInstance (iff_of_false id (fun q => (hB.mp q).elim (fun z => hg.mpr z c65) (fun z => he.mp c70 z.1)))
            rw [if_neg id] at h
            exact wp_lv h (by repeat (first | exact trivial | refine ⟨rfl, ?_⟩))
          · refine wp_iload_n dX8_countAhead_73 rfl ?_
            refine wp_iload_n dX8_countAhead_74 rfl ?_
            refine wp_icmp_ge (tgt := 81) dX8_countAhead_75 (by decide) (fun c75 => ?_) (fun c75 => ?_)
            · have h := J81 False inferInstance (iff_of_false id (fun q => (hB.mp q).elim (fun z => hg.mpr z c65) (fun z => nI_ge z.2 (by omega) c75)))
              rw [if_neg id] at h
              exact wp_lv h (by repeat (first | exact trivial | refine ⟨rfl, ?_⟩))
            · refine wp_iinc dX8_countAhead_78 rfl (i_inc _) (Nat.le_of_ble_eq_true rfl) ?_
              have h := J81 True inferInstance (iff_of_true trivial (hB.mpr (Or.inr ⟨Decidable.not_not.mp (fun z => c70 (he.mpr z)), Nat.lt_of_not_le fun z => c75 (nI_le z (by omega))⟩)))
              rw [if_pos trivial] at h
              exact wp_lv h (by repeat (first | exact trivial | refine ⟨rfl, ?_⟩))
      have J38 : ∀ g : Int32, (¬ g = 0 ↔ lN a < cV (W j)) → Wp (xM E mX8_countAhead 1 0 0 SH.length (RV (some (.int (nI (ahd W D 8)))) SH M)) 0 0 38 [(3, .int (nI j)), (2, .int (nI (ahd W D j))), (1, .int (nI D)), (0, .ref 0)] [.int g] SH M := by
        intro g hg
        refine wp_istore dX8_countAhead_38 (Nat.le_of_ble_eq_true rfl) ?_
        refine wp_aload_n dX8_countAhead_40 rfl ?_
        refine wp_getR dX8_countAhead_41 fl_X8_55 rfl rfl hr ?_
        refine wp_iload_n dX8_countAhead_44 rfl ?_
        refine wp_laload dX8_countAhead_45 rfl hinj ?_
        rw [hclj, rj]
        refine wp_aload_n dX8_countAhead_46 rfl ?_
        refine wp_getR dX8_countAhead_47 fl_X8_55 rfl rfl hr ?_
        refine wp_iload_n dX8_countAhead_50 rfl ?_
        refine wp_laload dX8_countAhead_51 rfl hinD ?_
        rw [hclD, rD]
        refine wp_lcmp dX8_countAhead_52 ?_
        refine wp_if_ne (tgt := 60) dX8_countAhead_53 (by decide) (fun c53 => ?_) (fun c53 => ?_)
        · refine wp_iconst (v := 0) dX8_countAhead_60 rfl ?_
          exact wp_lv (J61o g 0 hg (iff_of_true rfl (fun z => c53 ((lg_eq _ _).mpr z)))) (by repeat (first | exact trivial | refine ⟨rfl, ?_⟩))
        · refine wp_iconst (v := 1) dX8_countAhead_56 rfl ?_
          refine wp_goto (tgt := 61) dX8_countAhead_57 (by decide) ?_
          exact wp_lv (J61o g 1 hg (iff_of_false (by decide) (fun z => z ((lg_eq _ _).mp c53)))) (by repeat (first | exact trivial | refine ⟨rfl, ?_⟩))
      refine wp_iload_n dX8_countAhead_4 rfl ?_
      refine wp_bipush (v := 8) dX8_countAhead_5 (by decide) ?_
      refine wp_icmp_ge (tgt := 87) dX8_countAhead_7 (by decide) (fun c7 => absurd c7 (nI_ge (b := 8) hj8 (by decide))) (fun c7 => ?_)
      refine wp_iload_n dX8_countAhead_10 rfl ?_
      refine wp_cS1i dX8_countAhead_11 ml_X8_160 sX8_isDocument (cX8_isDocument_ E _ _ _) (Nat.le_of_ble_eq_true rfl) (Nat.le_of_ble_eq_true rfl) (Nat.le_of_ble_eq_true rfl) ?_
      rw [hdb]
      refine wp_if_eq (tgt := 87) dX8_countAhead_14 (by decide) (fun c14 => absurd c14 (by decide)) (fun c14 => ?_)
      refine wp_aload_n dX8_countAhead_17 rfl ?_
      refine wp_getR dX8_countAhead_18 fl_X8_55 rfl rfl hr ?_
      refine wp_iload_n dX8_countAhead_21 rfl ?_
      refine wp_laload dX8_countAhead_22 rfl hinj ?_
      rw [hclj, rj]
      refine wp_aload_n dX8_countAhead_23 rfl ?_
      refine wp_getR dX8_countAhead_24 fl_X8_55 rfl rfl hr ?_
      refine wp_iload_n dX8_countAhead_27 rfl ?_
      refine wp_laload dX8_countAhead_28 rfl hinD ?_
      rw [hclD, rD]
      refine wp_lcmp dX8_countAhead_29 ?_
      refine wp_if_le (tgt := 37) dX8_countAhead_30 (by decide) (fun c30 => ?_) (fun c30 => ?_)
      · refine wp_iconst (v := 0) dX8_countAhead_37 rfl ?_
        exact wp_lv (J38 0 (iff_of_false (fun z => z rfl) (fun z => absurd ((lg_le _ _).mp c30) (Int64.not_le.mpr z)))) (by repeat (first | exact trivial | refine ⟨rfl, ?_⟩))
      · refine wp_iconst (v := 1) dX8_countAhead_33 rfl ?_
        refine wp_goto (tgt := 38) dX8_countAhead_34 (by decide) ?_
        exact wp_lv (J38 1 (iff_of_true (by decide) (Int64.not_le.mp (fun z => c30 ((lg_le _ _).mpr z))))) (by repeat (first | exact trivial | refine ⟨rfl, ?_⟩))
  refine wp_iconst (v := 0) dX8_countAhead_0 rfl ?_
  refine wp_istore_n dX8_countAhead_1 (Nat.le_of_ble_eq_true rfl) ?_
  refine wp_iconst (v := 0) dX8_countAhead_2 rfl ?_
  refine wp_istore_n dX8_countAhead_3 (Nat.le_of_ble_eq_true rfl) ?_
  exact wp_lv (loop 8 0 (by omega)) (by repeat (first | exact trivial | refine ⟨rfl, ?_⟩))
set_option maxRecDepth 100000 in
set_option maxHeartbeats 4000000 in
theorem cX8_rank_ (E : GE) (tp gn : List Nat) (q : QQ) (o : Option (List Nat)) (dc : Nat → List (List Nat)) (M : Mem) (h : RC M tp gn q o dc) (hk : QOk q) (hdc : dcOk dc) (k : Int32) : Sp E mX8_rank 7 0 0 [.ref 0, .int k] SH M (pDoc M (rkV q dc k) tp gn q o dc) := by
  refine sp_of vX8_rank.1 rfl (Nat.le_of_ble_eq_true rfl) ?_
  obtain ⟨tq, hq⟩ := h.2.2.2.1
  have hT := hq.2.2.1
  have ec : fI M tq 1 = nI q.1 := hq.2.2.2.1
  have hn25 := hq.2.2.2.2.1
  have hj := RC_JC h
  have hdl : ∀ r, r < 32 → (dc r).length ≤ 12 := fun r hr => (hj.2 r hr).2.1
  obtain ⟨j8, -, -, -, -, -, -, j9, -, -⟩ := RC_jd h
  have j5 : fR M 0 5 = some tq := hq.1
  have main : q.1 ≠ 0 → Wp (xM E mX8_rank 7 0 0 SH.length (pDoc M (rkV q dc k) tp gn q o dc)) 0 0 13 [(1, .int k), (0, .ref 0)] [] SH M := by
    intro h0
    have hct := RC_CT h hq hk h0
    have hdt : DT q.2 q.1 := QOk.dt hk h0
    have hrk : rkV q dc k = rkN (fun D => Vq q dc D 0) k 8 0 := by unfold rkV; rw [if_neg h0]
    have second : ∀ (r D : Nat) (M1 : Mem), D + r = 8 → qF M M1 → (∀ j, j < 8 → aL M1 120 j = cV (Vq q dc j 0)) → rkN (fun D => Vq q dc D 0) k r D = rkV q dc k → Wp (xM E mX8_rank 7 0 0 SH.length (pDoc M (rkV q dc k) tp gn q o dc)) 0 0 48 [(2, .int (nI D)), (1, .int k), (0, .ref 0)] [] SH M1 := by
      intro r
      induction r with
      | zero =>
        intro D M1 hD hF ha hrr
        have hD : D = 8 := by omega
        subst hD
        refine wp_iload_n dX8_rank_48 rfl ?_
        refine wp_bipush (v := 8) dX8_rank_49 (by decide) ?_
        refine wp_icmp_ge (tgt := 84) dX8_rank_51 (by decide) (fun c51 => ?_) (fun c51 => absurd (show (8 : Int32) ≤ nI 8 by decide) c51)
        refine wp_iconst (v := (-1)) dX8_rank_84 rfl ?_
        refine wp_ireturn dX8_rank_85 rfl rfl (Nat.zero_le _) (Nat.zero_le _) ?_
        rw [← hrr]
        exact ⟨rfl, rfl, RC_qF h hF, qF_out hF⟩
      | succ r ih =>
        intro D M1 hD hF ha hrr
        have hD8 : D < 8 := by omega
        have hclD : (nI D).toNatClampNeg = D := nI_clamp (by omega)
        have hinD : vp_in (nI D) 8 := vp_in_nI hD8 (by decide)
        have hr9 : fR M1 0 9 = some 120 := (hF.2.2.2.1 _ _).trans j9
        have hbD := wh_b hk h0 hdl hD8 0 (by omega)
        have hrr' : (if (Vq q dc D 0).isSome = true ∧ nI (ahd (fun D => Vq q dc D 0) D 8) = k then nI D else rkN (fun D => Vq q dc D 0) k r (D + 1)) = rkV q dc k := hrr
        refine wp_iload_n dX8_rank_48 rfl ?_
        refine wp_bipush (v := 8) dX8_rank_49 (by decide) ?_
        refine wp_icmp_ge (tgt := 84) dX8_rank_51 (by decide) (fun c51 => absurd c51 (nI_ge (b := 8) hD8 (by decide))) (fun c51 => ?_)
        refine wp_aload_n dX8_rank_54 rfl ?_
        refine wp_getR dX8_rank_55 fl_X8_55 rfl rfl hr9 ?_
        refine wp_iload_n dX8_rank_58 rfl ?_
        refine wp_laload dX8_rank_59 rfl hinD ?_
        rw [hclD, ha D hD8]
        refine wp_ldc2 dX8_rank_60 kl_X8_188 ?_
        refine wp_lcmp dX8_rank_63 ?_
        refine wp_if_eq (tgt := 78) dX8_rank_64 (by decide) (fun c64 => ?_) (fun c64 => ?_)
        · refine wp_iinc dX8_rank_78 rfl (i_inc _) (Nat.le_of_ble_eq_true rfl) ?_
          refine wp_goto (tgt := 48) dX8_rank_81 (by decide) ?_
          rw [if_neg (fun z => by rw [(cV_m1 hbD).mp ((lg_eq _ _).mp c64)] at z; exact absurd z.1 (by decide))] at hrr'
          exact wp_lv (ih (D + 1) M1 (by omega) hF ha hrr') (by repeat (first | exact trivial | refine ⟨rfl, ?_⟩))
        · have hsm : (Vq q dc D 0).isSome = true := by
            cases hz : Vq q dc D 0 with
            | none => exact absurd ((lg_eq _ _).mpr (by rw [hz]; rfl)) c64
            | some w => rfl
          refine wp_aload_n dX8_rank_67 rfl ?_
          refine wp_iload_n dX8_rank_68 rfl ?_
          refine wp_cV1i dX8_rank_69 ml_X8_212 vX8_countAhead ⟨7, (RX8, TX8, 10), rfl, rfl, rfl⟩ (cX8_countAhead_ E D (fun D => Vq q dc D 0) M1 hr9 hD8 hsm ha (fun j h8 w hw => wh_b hk h0 hdl h8 0 (by omega) w hw)) (Nat.le_of_ble_eq_true rfl) (Nat.le_of_ble_eq_true rfl) (Nat.le_of_ble_eq_true rfl) ?_
          refine wp_iload_n dX8_rank_72 rfl ?_
          refine wp_icmp_ne (tgt := 78) dX8_rank_73 (by decide) (fun c73 => ?_) (fun c73 => ?_)
          · refine wp_iinc dX8_rank_78 rfl (i_inc _) (Nat.le_of_ble_eq_true rfl) ?_
            refine wp_goto (tgt := 48) dX8_rank_81 (by decide) ?_
            rw [if_neg (fun z => c73 z.2)] at hrr'
            exact wp_lv (ih (D + 1) M1 (by omega) hF ha hrr') (by repeat (first | exact trivial | refine ⟨rfl, ?_⟩))
          · refine wp_iload_n dX8_rank_76 rfl ?_
            refine wp_ireturn dX8_rank_77 rfl rfl (Nat.zero_le _) (Nat.zero_le _) ?_
            rw [if_pos ⟨hsm, c73⟩] at hrr'
            rw [← hrr']
            exact ⟨rfl, rfl, RC_qF h hF, qF_out hF⟩
    have firstL : ∀ (r D : Nat) (M1 : Mem), D + r = 8 → qF M M1 → (∀ j, j < D → aL M1 120 j = cV (Vq q dc j 0)) → Wp (xM E mX8_rank 7 0 0 SH.length (pDoc M (rkV q dc k) tp gn q o dc)) 0 0 15 [(2, .int (nI D)), (1, .int k), (0, .ref 0)] [] SH M1 := by
      intro r
      induction r with
      | zero =>
        intro D M1 hD hF ha
        have hD : D = 8 := by omega
        subst hD
        refine wp_iload_n dX8_rank_15 rfl ?_
        refine wp_bipush (v := 8) dX8_rank_16 (by decide) ?_
        refine wp_icmp_ge (tgt := 46) dX8_rank_18 (by decide) (fun c18 => ?_) (fun c18 => absurd (show (8 : Int32) ≤ nI 8 by decide) c18)
        refine wp_iconst (v := 0) dX8_rank_46 rfl ?_
        refine wp_istore_n dX8_rank_47 (Nat.le_of_ble_eq_true rfl) ?_
        exact wp_lv (second 8 0 M1 (by omega) hF ha hrk.symm) (by repeat (first | exact trivial | refine ⟨rfl, ?_⟩))
      | succ r ih =>
        intro D M1 hD hF ha
        have hD8 : D < 8 := by omega
        have hclD : (nI D).toNatClampNeg = D := nI_clamp (by omega)
        have hinD : vp_in (nI D) 8 := vp_in_nI hD8 (by decide)
        refine wp_iload_n dX8_rank_15 rfl ?_
        refine wp_bipush (v := 8) dX8_rank_16 (by decide) ?_
        refine wp_icmp_ge (tgt := 46) dX8_rank_18 (by decide) (fun c18 => absurd c18 (nI_ge (b := 8) hD8 (by decide))) (fun c18 => ?_)
        refine wp_aload_n dX8_rank_21 rfl ?_
        refine wp_getR dX8_rank_22 fl_X8_55 rfl rfl ((hF.2.2.2.1 _ _).trans j9) ?_
        refine wp_iload_n dX8_rank_25 rfl ?_
        refine wp_aload_n dX8_rank_26 rfl ?_
        refine wp_getR dX8_rank_27 fl_X8_51 rfl rfl ((hF.2.2.2.1 _ _).trans j8) ?_
        refine wp_aload_n dX8_rank_30 rfl ?_
        refine wp_getR dX8_rank_31 fl_X8_30 rfl rfl ((hF.2.2.2.1 _ _).trans j5) ?_
        refine wp_iconst (v := 0) dX8_rank_34 rfl ?_
        refine wp_iload_n dX8_rank_35 rfl ?_
        refine wp_cV3p dX8_rank_36 ml_X8_184 vX1_weigh ⟨1, (RX1, TX1, 3), rfl, rfl, rfl⟩ (cX1_weigh_ E tq q.1 0 D q.2 dc M1 (hct.fq hF) hdt (by omega) hD8 (hj.fq hF) hdc) (Nat.le_of_ble_eq_true rfl) (Nat.le_of_ble_eq_true rfl) (Nat.le_of_ble_eq_true rfl) (Nat.le_refl _) (Nat.le_refl _) (fun v sh1 M2 hqq => ?_)
        obtain ⟨rfl, rfl, hF1, hrow⟩ := hqq
        refine wp_lastore dX8_rank_39 rfl hinD ?_
        refine wp_iinc dX8_rank_40 rfl (i_inc _) (Nat.le_of_ble_eq_true rfl) ?_
        refine wp_goto (tgt := 15) dX8_rank_43 (by decide) ?_
        rw [hclD]
        refine wp_lv (ih (D + 1) _ (by omega) ((hF.tr (jF_q hF1)).sL (by simp)) (fun j hj => ?_)) (by repeat (first | exact trivial | refine ⟨rfl, ?_⟩))
        rw [aL_sL]
        by_cases z : j = D
        · rw [if_pos ⟨rfl, z⟩, z]; rfl
        · rw [if_neg (fun w => z w.2), show aL M2 120 j = aL M1 120 j from hF1.2.2.1 120 (by simp) j]; exact ha j (by omega)
    refine wp_iconst (v := 0) dX8_rank_13 rfl ?_
    refine wp_istore_n dX8_rank_14 (Nat.le_of_ble_eq_true rfl) ?_
    exact wp_lv (firstL 8 0 M (by omega) Fr.rf (fun j hj => absurd hj (Nat.not_lt_zero j))) (by repeat (first | exact trivial | refine ⟨rfl, ?_⟩))
  refine wp_aload_n dX8_rank_0 rfl ?_
  refine wp_getR dX8_rank_1 fl_X8_30 rfl rfl j5 ?_
  refine wp_cV0i dX8_rank_4 ml_X8_139 vX7_isEmpty (isO_T hT) (cX7_isEmpty_ E tq M hT) (Nat.le_of_ble_eq_true rfl) (Nat.le_of_ble_eq_true rfl) (Nat.le_of_ble_eq_true rfl) ?_
  refine wp_if_eq (tgt := 13) dX8_rank_7 (by decide) (fun c7 => ?_) (fun c7 => ?_)
  · exact wp_lv (main (fun e => b2i_e0.mp c7 (by rw [ec, e]; rfl))) (by repeat (first | exact trivial | refine ⟨rfl, ?_⟩))
  · refine wp_bipush (v := (-104)) dX8_rank_10 (by decide) ?_
    refine wp_ireturn dX8_rank_12 rfl rfl (Nat.zero_le _) (Nat.zero_le _) ?_
    have h0 : q.1 = 0 := by
      have := b2i_ne.mp c7
      rw [ec] at this
      exact nI_e (b := 0) (by omega) (by decide) this
    unfold rkV
    rw [if_pos h0]
    exact ⟨rfl, rfl, h, fun p hp => EqP.rf⟩
