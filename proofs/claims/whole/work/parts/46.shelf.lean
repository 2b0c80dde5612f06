/-! ===== the shelf; word and clear, both ===== -/
abbrev docI (d : Int32) : Prop := 0 ≤ d ∧ d ≤ 7
abbrev fldI (f : Int32) : Prop := 0 ≤ f ∧ f ≤ 3
theorem doc_n {d : Int32} (h : docI d) : ∃ D, D < 8 ∧ d = nI D := by
  obtain ⟨n, hn, rfl⟩ := wb_of32 d
  refine ⟨n, ?_, rfl⟩
  have h1 := h.1
  have h2 := h.2
  rw [Int32.le_iff_toInt_le] at h1 h2
  have e : (nI n).toInt = if n < 2 ^ 31 then (n : Int) else (n : Int) - 2 ^ 32 := by
    show (Int32.ofNat n).toInt = _
    rw [Int32.toInt_ofNat', Int.bmod_def]
    simp only [show Int32.size = 4294967296 from rfl]
    split <;> split <;> omega
  rw [e] at h1 h2
  have h1 : (0 : Int) ≤ _ := h1
  have h2 : _ ≤ (7 : Int) := h2
  split at h2 <;> omega
theorem fld_n {d : Int32} (h : fldI d) : ∃ D, D < 4 ∧ d = nI D := by
  obtain ⟨D, hD, rfl⟩ := doc_n (d := d) ⟨h.1, Int32.le_trans h.2 (by decide)⟩
  refine ⟨D, ?_, rfl⟩
  have := h.2
  rw [show (3 : Int32) = nI 3 from rfl, nI_leI (by omega) (by decide)] at this
  omega
theorem doc_c (d : Int32) : (¬ d < 0 ∧ ¬ 8 ≤ d) ↔ docI d := by
  rw [Int32.not_lt, Int32.not_le]
  constructor
  · rintro ⟨h1, h2⟩; refine ⟨h1, ?_⟩
    rw [Int32.le_iff_toInt_le]; rw [Int32.lt_iff_toInt_lt] at h2
    have h2 : d.toInt < (8 : Int) := h2
    show d.toInt ≤ (7 : Int); omega
  · rintro ⟨h1, h2⟩; refine ⟨h1, ?_⟩
    rw [Int32.le_iff_toInt_le] at h2; rw [Int32.lt_iff_toInt_lt]
    have h2 : d.toInt ≤ (7 : Int) := h2
    show d.toInt < (8 : Int); omega
theorem fld_c (d : Int32) : (¬ d < 0 ∧ d < 4) ↔ fldI d := by
  rw [Int32.not_lt]
  constructor
  · rintro ⟨h1, h2⟩; refine ⟨h1, ?_⟩
    rw [Int32.le_iff_toInt_le]; rw [Int32.lt_iff_toInt_lt] at h2
    have h2 : d.toInt < (4 : Int) := h2
    show d.toInt ≤ (3 : Int); omega
  · rintro ⟨h1, h2⟩; refine ⟨h1, ?_⟩
    rw [Int32.le_iff_toInt_le] at h2; rw [Int32.lt_iff_toInt_lt]
    have h2 : d.toInt ≤ (3 : Int) := h2
    show d.toInt < (4 : Int); omega
def rowD (d f : Int32) : Nat := 4 * d.toNatClampNeg + f.toNatClampNeg
abbrev wdOk (d f : Int32) (w : Int64) (dc : Nat → List (List Nat)) : Prop := (docI d ∧ fldI f) ∧ pln w ∧ (dc (rowD d f)).length < 12
def wdV (dc : Nat → List (List Nat)) (d f : Int32) (w : Int64) : Int32 := if docI d ∧ fldI f then if pln w then if (dc (rowD d f)).length < 12 then nI ((dc (rowD d f)).length + 1) else -103 else -102 else -101
def wdD (dc : Nat → List (List Nat)) (d f : Int32) (w : Int64) : Nat → List (List Nat) := if docI d ∧ fldI f then if pln w then if (dc (rowD d f)).length < 12 then va_up dc (rowD d f) (dc (rowD d f) ++ [wl w]) else dc else dc else dc
def clV (dc : Nat → List (List Nat)) (d : Int32) : Int32 := if docI d then nI ((dc (4 * d.toNatClampNeg)).length + (dc (4 * d.toNatClampNeg + 1)).length + (dc (4 * d.toNatClampNeg + 2)).length + (dc (4 * d.toNatClampNeg + 3)).length) else -101
def clD (dc : Nat → List (List Nat)) (d : Int32) : Nat → List (List Nat) := if docI d then fun r => if r / 4 = d.toNatClampNeg then [] else dc r else dc
theorem row_n {D F : Nat} (hD : D < 8) (hF : F < 4) : rowD (nI D) (nI F) = 4 * D + F := by unfold rowD; rw [nI_clamp (by omega), nI_clamp (by omega)]
theorem mul4 (D F : Nat) : nI D * 4 + nI F = nI (4 * D + F) := by rw [show (4 : Int32) = nI 4 from rfl, pk_mul, nI_add, Nat.mul_comm]
theorem mul4' (D F : Nat) : 4 * nI D + nI F = nI (4 * D + F) := by rw [show (4 : Int32) = nI 4 from rfl, pk_mul, nI_add]
theorem mul12 (r p : Nat) : nI r * 12 + nI p = nI (12 * r + p) := by rw [show (12 : Int32) = nI 12 from rfl, pk_mul, nI_add, Nat.mul_comm]
theorem RC_J {M M1 : Mem} {tp gn : List Nat} {q : QQ} {o : Option (List Nat)} {dc dc1 : Nat → List (List Nat)} (h : RC M tp gn q o dc) (k : Fr [] [116, 118] [115, 119, 120] M M1) (hw : rcW M1 dc1) : RC M1 tp gn q o dc1 := by
  obtain ⟨hg, ht, hd, ⟨tq, q1, q2, q3, q4⟩, ho, -⟩ := h
  refine ⟨hg.fr k, ht.fr k (by simp) (by simp), hd.fr k (by simp) (by simp), ⟨tq, (k.2.2.2.1 _ _).trans q1, (k.2.2.2.1 _ _).trans q2, q3, q4.fr k (fun _ _ _ => by simp) (fun j hj => by simp; omega)⟩, ho.fr k (by simp) (by simp), hw⟩
theorem Fr.outC {LI : List (Nat × Nat)} {LA LL : List Nat} {M M1 : Mem} (h : Fr LI LA LL M M1) (h1 : ∀ x ∈ LI, x.1 < 121) (h2 : ∀ x ∈ LA, x < 121) (h3 : ∀ x ∈ LL, x < 121) : OutC M M1 := fun p hp =>
  ⟨fun f => h.1 p f (fun q => by have := h1 _ q; simp at this; omega), fun f => h.2.2.2.1 p f, fun i => h.2.1 p (fun q => by have := h2 _ q; omega) i, fun i => h.2.2.1 p (fun q => by have := h3 _ q; omega) i, fun i => h.2.2.2.2 p i⟩
theorem RM_W {M M1 : Mem} {tp gn : List Nat} {q : QQ} {o : Option (List Nat)} {dc dc1 : Nat → List (List Nat)} (h : RM M tp gn q o dc) (k : Fr [(121, 0)] [144, 145, 146] [] M M1) (hw : rmW M1 dc1) : RM M1 tp gn q o dc1 :=
  ⟨h.1.fr k, h.2.1.fr k (by simp) (by simp), h.2.2.1.fr k (by simp) (by simp), h.2.2.2.1.fr k (by simp) (fun j hj => by simp; omega), h.2.2.2.2.1.fr k (by simp) (by simp), hw⟩
theorem rcW_add {M : Mem} {dc : Nat → List (List Nat)} {r : Nat} {x : List Nat} (h : rcW M dc) (hr : r < 32) (hl : (dc r).length < 12) : rcW (sA (sL M 115 (12 * r + (dc r).length) (pack x)) 116 r (nI ((dc r).length + 1))) (va_up dc r (dc r ++ [x])) := by
  intro r1 hr1
  by_cases e : r1 = r
  · subst e
    rw [va_up_self]
    refine ⟨?_, by rw [List.length_append]; exact hl, fun p hp => ?_⟩
    · rw [aI_sA, if_pos ⟨rfl, rfl⟩, List.length_append]; rfl
    · rw [List.length_append] at hp
      have hp : p < (dc r1).length + 1 := hp
      rw [aL_sA, aL_sL, getD_app]
      by_cases c : p = (dc r1).length
      · rw [if_pos ⟨rfl, by rw [c]⟩, if_pos c]
      · rw [if_neg (by omega), if_neg c]; exact (h r1 hr1).2.2 p (by omega)
  · rw [va_up_ne _ _ e]
    obtain ⟨a, b, c⟩ := h r1 hr1
    refine ⟨?_, b, fun p hp => ?_⟩
    · rw [aI_sA, if_neg (by omega)]; exact a
    · rw [aL_sA, aL_sL, if_neg (by omega)]; exact c p hp
set_option maxRecDepth 100000 in
set_option maxHeartbeats 4000000 in
theorem cX6_countOf_ (E : GE) (dc : Nat → List (List Nat)) (D F : Nat) (hD : D < 8) (hF : F < 4) (M : Mem) (h1 : fR M 114 1 = some 116) (hW : rcW M dc) : Sp E mX6_countOf 0 0 0 [.ref 114, .int (nI D), .int (nI F)] SH M (RV (some (.int (nI (dc (4 * D + F)).length))) SH M) := by
  refine sp_of vX6_countOf.1 rfl (Nat.le_of_ble_eq_true rfl) ?_
  refine wp_iload_n dX6_countOf_0 rfl ?_
  refine wp_iconst (v := 4) dX6_countOf_1 rfl ?_
  refine wp_imul dX6_countOf_2 ?_
  refine wp_iload_n dX6_countOf_3 rfl ?_
  refine wp_iadd dX6_countOf_4 ?_
  rw [mul4]
  refine wp_istore_n dX6_countOf_5 (Nat.le_of_ble_eq_true rfl) ?_
  refine wp_iload_n dX6_countOf_6 rfl ?_
  refine wp_if_lt (tgt := 28) dX6_countOf_7 (by decide) (fun c7 => absurd c7 (nI_pos (by omega))) (fun c7 => ?_)
  refine wp_iload_n dX6_countOf_10 rfl ?_
  refine wp_aload_n dX6_countOf_11 rfl ?_
  refine wp_getR dX6_countOf_12 fl_X6_15 rfl rfl h1 ?_
  refine wp_alen dX6_countOf_15 rfl (Nat.le_of_ble_eq_true rfl) ?_
  refine wp_icmp_ge (tgt := 28) dX6_countOf_16 (by decide) (fun c16 => absurd c16 (nI_ge (b := 32) (by omega) (by decide))) (fun c16 => ?_)
  refine wp_aload_n dX6_countOf_19 rfl ?_
  refine wp_getR dX6_countOf_20 fl_X6_15 rfl rfl h1 ?_
  refine wp_iload_n dX6_countOf_23 rfl ?_
  refine wp_iaload dX6_countOf_24 rfl (vp_in_nI (by omega) (by decide)) ?_
  refine wp_goto (tgt := 29) dX6_countOf_25 (by decide) ?_
  refine wp_ireturn dX6_countOf_29 rfl rfl (Nat.zero_le _) (Nat.zero_le _) ?_
  rw [nI_clamp (by omega), (hW _ (by omega)).1]
  exact ⟨rfl, rfl, rfl⟩
set_option maxRecDepth 100000 in
set_option maxHeartbeats 4000000 in
theorem cX6_wordAt_ (E : GE) (dc : Nat → List (List Nat)) (D F p : Nat) (hD : D < 8) (hF : F < 4) (M : Mem) (h0 : fR M 114 0 = some 115) (hW : rcW M dc) (hp : p < (dc (4 * D + F)).length) : Sp E mX6_wordAt 0 0 0 [.ref 114, .int (nI D), .int (nI F), .int (nI p)] SH M (RV (some (.long (pack ((dc (4 * D + F)).getD p [])))) SH M) := by
  refine sp_of vX6_wordAt.1 rfl (Nat.le_of_ble_eq_true rfl) ?_
  have hl := (hW (4 * D + F) (by omega)).2.1
  refine wp_iload_n dX6_wordAt_0 rfl ?_
  refine wp_iconst (v := 4) dX6_wordAt_1 rfl ?_
  refine wp_imul dX6_wordAt_2 ?_
  refine wp_iload_n dX6_wordAt_3 rfl ?_
  refine wp_iadd dX6_wordAt_4 ?_
  refine wp_bipush (v := 12) dX6_wordAt_5 (by decide) ?_
  refine wp_imul dX6_wordAt_7 ?_
  refine wp_iload_n dX6_wordAt_8 rfl ?_
  refine wp_iadd dX6_wordAt_9 ?_
  rw [mul4, mul12]
  refine wp_istore dX6_wordAt_10 (Nat.le_of_ble_eq_true rfl) ?_
  refine wp_iload dX6_wordAt_12 rfl ?_
  refine wp_if_lt (tgt := 37) dX6_wordAt_14 (by decide) (fun c14 => absurd c14 (nI_pos (by omega))) (fun c14 => ?_)
  refine wp_iload dX6_wordAt_17 rfl ?_
  refine wp_aload_n dX6_wordAt_19 rfl ?_
  refine wp_getR dX6_wordAt_20 fl_X6_9 rfl rfl h0 ?_
  refine wp_alen dX6_wordAt_23 rfl (Nat.le_of_ble_eq_true rfl) ?_
  refine wp_icmp_ge (tgt := 37) dX6_wordAt_24 (by decide) (fun c24 => absurd c24 (nI_ge (b := 384) (by omega) (by decide))) (fun c24 => ?_)
  refine wp_aload_n dX6_wordAt_27 rfl ?_
  refine wp_getR dX6_wordAt_28 fl_X6_9 rfl rfl h0 ?_
  refine wp_iload dX6_wordAt_31 rfl ?_
  refine wp_laload dX6_wordAt_33 rfl (vp_in_nI (by omega) (by decide)) ?_
  refine wp_goto (tgt := 38) dX6_wordAt_34 (by decide) ?_
  refine wp_lreturn dX6_wordAt_38 rfl (Nat.zero_le _) (Nat.zero_le _) ?_
  rw [nI_clamp (by omega), (hW _ (by omega)).2.2 p hp]
  exact ⟨rfl, rfl, rfl⟩
set_option maxRecDepth 100000 in
set_option maxHeartbeats 4000000 in
theorem cX6_add_ (E : GE) (dc : Nat → List (List Nat)) (D F : Nat) (x : List Nat) (hD : D < 8) (hF : F < 4) (M : Mem) (h0 : fR M 114 0 = some 115) (h1 : fR M 114 1 = some 116) (hW : rcW M dc) (hl : (dc (4 * D + F)).length < 12) : Sp E mX6_add 1 0 0 [.ref 114, .int (nI D), .int (nI F), .long (pack x)] SH M (RV (some (.int (nI ((dc (4 * D + F)).length + 1)))) SH (sA (sL M 115 (12 * (4 * D + F) + (dc (4 * D + F)).length) (pack x)) 116 (4 * D + F) (nI ((dc (4 * D + F)).length + 1)))) := by
  refine sp_of vX6_add.1 rfl (Nat.le_of_ble_eq_true rfl) ?_
  refine wp_iload_n dX6_add_0 rfl ?_
  refine wp_iconst (v := 4) dX6_add_1 rfl ?_
  refine wp_imul dX6_add_2 ?_
  refine wp_iload_n dX6_add_3 rfl ?_
  refine wp_iadd dX6_add_4 ?_
  rw [mul4]
  refine wp_istore dX6_add_5 (Nat.le_of_ble_eq_true rfl) ?_
  refine wp_aload_n dX6_add_7 rfl ?_
  refine wp_iload_n dX6_add_8 rfl ?_
  refine wp_iload_n dX6_add_9 rfl ?_
  refine wp_cV2i dX6_add_10 ml_X6_19 vX6_countOf ⟨5, (RX6, TX6, 2), rfl, rfl, rfl⟩ (cX6_countOf_ E dc D F hD hF M h1 hW) (Nat.le_of_ble_eq_true rfl) (Nat.le_of_ble_eq_true rfl) (Nat.le_of_ble_eq_true rfl) ?_
  refine wp_istore dX6_add_13 (Nat.le_of_ble_eq_true rfl) ?_
  refine wp_iload dX6_add_15 rfl ?_
  refine wp_bipush (v := 12) dX6_add_17 (by decide) ?_
  refine wp_imul dX6_add_19 ?_
  refine wp_iload dX6_add_20 rfl ?_
  refine wp_iadd dX6_add_22 ?_
  rw [mul12]
  refine wp_istore dX6_add_23 (Nat.le_of_ble_eq_true rfl) ?_
  refine wp_iload dX6_add_25 rfl ?_
  refine wp_bipush (v := 12) dX6_add_27 (by decide) ?_
  refine wp_icmp_ge (tgt := 62) dX6_add_29 (by decide) (fun c29 => absurd c29 (nI_ge (b := 12) (by omega) (by decide))) (fun c29 => ?_)
  refine wp_iload dX6_add_32 rfl ?_
  refine wp_if_lt (tgt := 62) dX6_add_34 (by decide) (fun c34 => absurd c34 (nI_pos (by omega))) (fun c34 => ?_)
  refine wp_iload dX6_add_37 rfl ?_
  refine wp_aload_n dX6_add_39 rfl ?_
  refine wp_getR dX6_add_40 fl_X6_15 rfl rfl h1 ?_
  refine wp_alen dX6_add_43 rfl (Nat.le_of_ble_eq_true rfl) ?_
  refine wp_icmp_ge (tgt := 62) dX6_add_44 (by decide) (fun c44 => absurd c44 (nI_ge (b := 32) (by omega) (by decide))) (fun c44 => ?_)
  refine wp_iload dX6_add_47 rfl ?_
  refine wp_if_lt (tgt := 62) dX6_add_49 (by decide) (fun c49 => absurd c49 (nI_pos (by omega))) (fun c49 => ?_)
  refine wp_iload dX6_add_52 rfl ?_
  refine wp_aload_n dX6_add_54 rfl ?_
  refine wp_getR dX6_add_55 fl_X6_9 rfl rfl h0 ?_
  refine wp_alen dX6_add_58 rfl (Nat.le_of_ble_eq_true rfl) ?_
  refine wp_icmp_lt (tgt := 65) dX6_add_59 (by decide) (fun c59 => ?_) (fun c59 => absurd (by rw [Int32.lt_iff_toInt_lt, nI_toInt (by omega)]; show _ < (384 : Int); omega) c59)
  refine wp_aload_n dX6_add_65 rfl ?_
  refine wp_getR dX6_add_66 fl_X6_9 rfl rfl h0 ?_
  refine wp_iload dX6_add_69 rfl ?_
  refine wp_lload_n dX6_add_71 rfl ?_
  refine wp_lastore dX6_add_72 rfl (vp_in_nI (by omega) (by decide)) ?_
  refine wp_aload_n dX6_add_73 rfl ?_
  refine wp_getR dX6_add_74 fl_X6_15 rfl rfl h1 ?_
  refine wp_iload dX6_add_77 rfl ?_
  refine wp_iload dX6_add_79 rfl ?_
  refine wp_iconst (v := 1) dX6_add_81 rfl ?_
  refine wp_iadd dX6_add_82 ?_
  refine wp_iastore dX6_add_83 rfl (vp_in_nI (by omega) (by decide)) ?_
  rw [nI_clamp (show 12 * (4 * D + F) + (dc (4 * D + F)).length < 2 ^ 31 by omega), nI_clamp (show 4 * D + F < 2 ^ 31 by omega), nI_1]
  refine wp_aload_n dX6_add_84 rfl ?_
  refine wp_getR dX6_add_85 fl_X6_15 rfl rfl h1 ?_
  refine wp_iload dX6_add_88 rfl ?_
  refine wp_iaload dX6_add_90 rfl (vp_in_nI (by omega) (by decide)) ?_
  rw [nI_clamp (show 4 * D + F < 2 ^ 31 by omega)]
  refine wp_ireturn dX6_add_91 rfl rfl (Nat.zero_le _) (Nat.zero_le _) ?_
  rw [aI_sA, if_pos ⟨rfl, rfl⟩]
  exact ⟨rfl, rfl, rfl⟩
set_option maxRecDepth 100000 in
set_option maxHeartbeats 4000000 in
theorem cX6_addF_ (E : GE) (dc : Nat → List (List Nat)) (D F : Nat) (x : List Nat) (hD : D < 8) (hF : F < 4) (M : Mem) (h0 : fR M 114 0 = some 115) (h1 : fR M 114 1 = some 116) (hW : rcW M dc) (hl : ¬ (dc (4 * D + F)).length < 12) : Sp E mX6_add 1 0 0 [.ref 114, .int (nI D), .int (nI F), .long (pack x)] SH M (RV (some (.int (-103))) SH M) := by
  refine sp_of vX6_add.1 rfl (Nat.le_of_ble_eq_true rfl) ?_
  have hb := (hW (4 * D + F) (by omega)).2.1
  refine wp_iload_n dX6_add_0 rfl ?_
  refine wp_iconst (v := 4) dX6_add_1 rfl ?_
  refine wp_imul dX6_add_2 ?_
  refine wp_iload_n dX6_add_3 rfl ?_
  refine wp_iadd dX6_add_4 ?_
  rw [mul4]
  refine wp_istore dX6_add_5 (Nat.le_of_ble_eq_true rfl) ?_
  refine wp_aload_n dX6_add_7 rfl ?_
  refine wp_iload_n dX6_add_8 rfl ?_
  refine wp_iload_n dX6_add_9 rfl ?_
  refine wp_cV2i dX6_add_10 ml_X6_19 vX6_countOf ⟨5, (RX6, TX6, 2), rfl, rfl, rfl⟩ (cX6_countOf_ E dc D F hD hF M h1 hW) (Nat.le_of_ble_eq_true rfl) (Nat.le_of_ble_eq_true rfl) (Nat.le_of_ble_eq_true rfl) ?_
  refine wp_istore dX6_add_13 (Nat.le_of_ble_eq_true rfl) ?_
  refine wp_iload dX6_add_15 rfl ?_
  refine wp_bipush (v := 12) dX6_add_17 (by decide) ?_
  refine wp_imul dX6_add_19 ?_
  refine wp_iload dX6_add_20 rfl ?_
  refine wp_iadd dX6_add_22 ?_
  rw [mul12]
  refine wp_istore dX6_add_23 (Nat.le_of_ble_eq_true rfl) ?_
  refine wp_iload dX6_add_25 rfl ?_
  refine wp_bipush (v := 12) dX6_add_27 (by decide) ?_
  refine wp_icmp_ge (tgt := 62) dX6_add_29 (by decide) (fun c29 => ?_) (fun c29 => absurd (nI_le (a := 12) (by omega) (by omega)) c29)
  refine wp_bipush (v := (-103)) dX6_add_62 (by decide) ?_
  refine wp_ireturn dX6_add_64 rfl rfl (Nat.zero_le _) (Nat.zero_le _) ?_
  exact ⟨rfl, rfl, rfl⟩
def pDoc (M : Mem) (v0 : Int32) (tp gn : List Nat) (q : QQ) (o : Option (List Nat)) (dc : Nat → List (List Nat)) : PT := fun v sh1 M1 => sh1 = SH ∧ v = some (.int v0) ∧ RC M1 tp gn q o dc ∧ OutC M M1
def pDocM (M : Mem) (v0 : Int32) (tp gn : List Nat) (q : QQ) (o : Option (List Nat)) (dc : Nat → List (List Nat)) : PT := fun v sh1 M1 => sh1 = SH ∧ v = some (.int v0) ∧ fI M1 121 0 = 0 ∧ RM M1 tp gn q o dc ∧ OutM M M1
theorem OutC.rf {M : Mem} : OutC M M := fun _ _ => EqP.rf
theorem RC_jd {M : Mem} {tp gn : List Nat} {q : QQ} {o : Option (List Nat)} {dc : Nat → List (List Nat)} (h : RC M tp gn q o dc) : fR M 0 8 = some 113 ∧ fR M 113 0 = some 114 ∧ fR M 114 0 = some 115 ∧ fR M 114 1 = some 116 ∧ fR M 113 1 = some 117 ∧ fR M 113 2 = some 119 ∧ fR M 117 0 = some 118 ∧ fR M 0 9 = some 120 ∧ fR M 0 7 = some 111 ∧ fR M 111 0 = some 112 :=
  ⟨h.1.1 (0, 8, 113) (by decide), h.1.1 (113, 0, 114) (by decide), h.1.1 (114, 0, 115) (by decide), h.1.1 (114, 1, 116) (by decide), h.1.1 (113, 1, 117) (by decide), h.1.1 (113, 2, 119) (by decide), h.1.1 (117, 0, 118) (by decide), h.1.1 (0, 9, 120) (by decide), h.1.1 (0, 7, 111) (by decide), h.1.1 (111, 0, 112) (by decide)⟩
set_option maxRecDepth 100000 in
set_option maxHeartbeats 4000000 in
theorem cX8_word_ (E : GE) (tp gn : List Nat) (q : QQ) (o : Option (List Nat)) (dc : Nat → List (List Nat)) (M : Mem) (h : RC M tp gn q o dc) (d f : Int32) (w : Int64) : Sp E mX8_word 2 0 0 [.ref 0, .int d, .int f, .long w] SH M (pDoc M (wdV dc d f w) tp gn q o (wdD dc d f w)) := by
  refine sp_of vX8_word.1 rfl (Nat.le_of_ble_eq_true rfl) ?_
  obtain ⟨j0, j1, j2, j3, -⟩ := RC_jd h
  have hno : ¬ (docI d ∧ fldI f) → Wp (xM E mX8_word 2 0 0 SH.length (pDoc M (wdV dc d f w) tp gn q o (wdD dc d f w))) 0 0 16 [(1, .int d), (2, .int f), (3, .long w), (0, .ref 0)] [] SH M := by
    intro hn
    refine wp_bipush (v := (-101)) dX8_word_16 (by decide) ?_
    refine wp_ireturn dX8_word_18 rfl rfl (Nat.zero_le _) (Nat.zero_le _) ?_
    unfold wdV wdD
    rw [if_neg hn, if_neg hn]
    exact ⟨rfl, rfl, h, OutC.rf⟩
  refine wp_iload_n dX8_word_0 rfl ?_
  refine wp_cS1i dX8_word_1 ml_X8_160 sX8_isDocument (cX8_isDocument_ E _ _ _) (Nat.le_of_ble_eq_true rfl) (Nat.le_of_ble_eq_true rfl) (Nat.le_of_ble_eq_true rfl) ?_
  refine wp_if_eq (tgt := 16) dX8_word_4 (by decide) (fun c4 => ?_) (fun c4 => ?_)
  · exact wp_lv (hno (fun h => b2i_e0.mp c4 ((doc_c d).mpr h.1))) (by repeat (first | exact trivial | refine ⟨rfl, ?_⟩))
  · refine wp_iload_n dX8_word_7 rfl ?_
    refine wp_if_lt (tgt := 16) dX8_word_8 (by decide) (fun c8 => ?_) (fun c8 => ?_)
    · exact wp_lv (hno (fun h => absurd c8 ((fld_c f).mpr h.2).1)) (by repeat (first | exact trivial | refine ⟨rfl, ?_⟩))
    · refine wp_iload_n dX8_word_11 rfl ?_
      refine wp_iconst (v := 4) dX8_word_12 rfl ?_
      refine wp_icmp_lt (tgt := 19) dX8_word_13 (by decide) (fun c13 => ?_) (fun c13 => ?_)
      · refine wp_lload_n dX8_word_19 rfl ?_
        refine wp_cS1i dX8_word_20 ml_X8_163 sX2_isPlain (cX2_isPlain_ E _ _ _) (Nat.le_of_ble_eq_true rfl) (Nat.le_of_ble_eq_true rfl) (Nat.le_of_ble_eq_true rfl) ?_
        refine wp_if_ne (tgt := 29) dX8_word_23 (by decide) (fun c23 => ?_) (fun c23 => ?_)
        · have hok : docI d ∧ fldI f := ⟨(doc_c d).mp (b2i_ne.mp c4), (fld_c f).mp ⟨c8, c13⟩⟩
          have hp := b2i_ne.mp c23
          obtain ⟨D, hD, rfl⟩ := doc_n hok.1
          obtain ⟨F, hF, rfl⟩ := fld_n hok.2
          have er := row_n hD hF
          by_cases hl : (dc (4 * D + F)).length < 12
          · refine wp_aload_n dX8_word_29 rfl ?_
            refine wp_getR dX8_word_30 fl_X8_51 rfl rfl j0 ?_
            refine wp_getR dX8_word_33 fl_X8_167 rfl rfl j1 ?_
            refine wp_iload_n dX8_word_36 rfl ?_
            refine wp_iload_n dX8_word_37 rfl ?_
            refine wp_lload_n dX8_word_38 rfl ?_
            refine wp_cS1l dX8_word_39 ml_X8_171 sX2_moveAhead (cX2_moveAhead_ E _ _ _ hp.1) (Nat.le_of_ble_eq_true rfl) (Nat.le_of_ble_eq_true rfl) (Nat.le_of_ble_eq_true rfl) ?_
            refine wp_cV3i dX8_word_42 ml_X8_175 vX6_add ⟨5, (RX6, TX6, 2), rfl, rfl, rfl⟩ (cX6_add_ E dc D F (wl w) hD hF M j2 j3 h.2.2.2.2.2 hl) (Nat.le_of_ble_eq_true rfl) (Nat.le_of_ble_eq_true rfl) (Nat.le_of_ble_eq_true rfl) ?_
            refine wp_ireturn dX8_word_45 rfl rfl (Nat.zero_le _) (Nat.zero_le _) ?_
            unfold wdV wdD
            rw [if_pos hok, if_pos hp, if_pos hok, if_pos hp, er, if_pos hl, if_pos hl]
            have hF1 : Fr [] [116, 118] [115, 119, 120] M (sA (sL M 115 (12 * (4 * D + F) + (dc (4 * D + F)).length) (pack (wl w))) 116 (4 * D + F) (nI ((dc (4 * D + F)).length + 1))) := (Fr.rf.sL (by simp)).sA (by simp)
            exact ⟨rfl, rfl, RC_J h hF1 (rcW_add h.2.2.2.2.2 (by omega) hl), hF1.outC (by simp) (by simp) (by simp)⟩
          · refine wp_aload_n dX8_word_29 rfl ?_
            refine wp_getR dX8_word_30 fl_X8_51 rfl rfl j0 ?_
            refine wp_getR dX8_word_33 fl_X8_167 rfl rfl j1 ?_
            refine wp_iload_n dX8_word_36 rfl ?_
            refine wp_iload_n dX8_word_37 rfl ?_
            refine wp_lload_n dX8_word_38 rfl ?_
            refine wp_cS1l dX8_word_39 ml_X8_171 sX2_moveAhead (cX2_moveAhead_ E _ _ _ hp.1) (Nat.le_of_ble_eq_true rfl) (Nat.le_of_ble_eq_true rfl) (Nat.le_of_ble_eq_true rfl) ?_
            refine wp_cV3i dX8_word_42 ml_X8_175 vX6_add ⟨5, (RX6, TX6, 2), rfl, rfl, rfl⟩ (cX6_addF_ E dc D F (wl w) hD hF M j2 j3 h.2.2.2.2.2 hl) (Nat.le_of_ble_eq_true rfl) (Nat.le_of_ble_eq_true rfl) (Nat.le_of_ble_eq_true rfl) ?_
            refine wp_ireturn dX8_word_45 rfl rfl (Nat.zero_le _) (Nat.zero_le _) ?_
            unfold wdV wdD
            rw [if_pos hok, if_pos hp, if_pos hok, if_pos hp, er, if_neg hl, if_neg hl]
            exact ⟨rfl, rfl, h, OutC.rf⟩
        · refine wp_bipush (v := (-102)) dX8_word_26 (by decide) ?_
          refine wp_ireturn dX8_word_28 rfl rfl (Nat.zero_le _) (Nat.zero_le _) ?_
          have hok : docI d ∧ fldI f := ⟨(doc_c d).mp (b2i_ne.mp c4), (fld_c f).mp ⟨c8, c13⟩⟩
          have hp := b2i_e0.mp c23
          unfold wdV wdD
          rw [if_pos hok, if_neg hp, if_pos hok, if_neg hp]
          exact ⟨rfl, rfl, h, OutC.rf⟩
      · exact wp_lv (hno (fun h => c13 ((fld_c f).mpr h.2).2)) (by repeat (first | exact trivial | refine ⟨rfl, ?_⟩))
theorem rcW_clr {M M1 : Mem} {dc : Nat → List (List Nat)} {D n : Nat} (h : rcW M dc) (hn : n ≤ 4) (hL : ∀ i, aL M1 115 i = aL M 115 i) (hA : ∀ i, i < 32 → aI M1 116 i = if i / 4 = D ∧ i % 4 < n then 0 else aI M 116 i) : rcW M1 (fun r => if r / 4 = D ∧ r % 4 < n then [] else dc r) := by
  intro r hr
  show aI M1 116 r = nI (if r / 4 = D ∧ r % 4 < n then [] else dc r).length ∧ (if r / 4 = D ∧ r % 4 < n then [] else dc r).length ≤ 12 ∧ ∀ p, p < (if r / 4 = D ∧ r % 4 < n then [] else dc r).length → aL M1 115 (12 * r + p) = pack ((if r / 4 = D ∧ r % 4 < n then [] else dc r).getD p [])
  rw [hA r hr]
  split
  · exact ⟨rfl, Nat.zero_le _, fun p hp => absurd hp (Nat.not_lt_zero p)⟩
  · obtain ⟨a, b, c⟩ := h r hr
    exact ⟨a, b, fun p hp => by rw [hL]; exact c p hp⟩
def sumD (dc : Nat → List (List Nat)) (D : Nat) : Nat → Nat
  | 0 => 0
  | n + 1 => sumD dc D n + (dc (4 * D + n)).length
theorem sumD_le {dc : Nat → List (List Nat)} {D : Nat} (h : ∀ r, r < 32 → (dc r).length ≤ 12) (hD : D < 8) : ∀ n, n ≤ 4 → sumD dc D n ≤ 12 * n
  | 0, _ => Nat.le_refl 0
  | n + 1, hn => by
    have := sumD_le h hD n (by omega)
    have := h (4 * D + n) (by omega)
    unfold sumD; omega
theorem clV_s {dc : Nat → List (List Nat)} {D : Nat} (hD : D < 8) (hd : docI (nI D)) : clV dc (nI D) = nI (sumD dc D 4) ∧ clD dc (nI D) = fun r => if r / 4 = D ∧ r % 4 < 4 then [] else dc r := by
  unfold clV clD
  rw [if_pos hd, if_pos hd, nI_clamp (by omega)]
  refine ⟨?_, ?_⟩
  · unfold sumD sumD sumD sumD sumD; rw [Nat.zero_add]; rfl
  · funext r
    by_cases c : r / 4 = D
    · rw [if_pos c, if_pos ⟨c, Nat.mod_lt _ (by decide)⟩]
    · rw [if_neg c, if_neg (fun q => c q.1)]
set_option maxRecDepth 100000 in
set_option maxHeartbeats 4000000 in
theorem cX6_empty_ (E : GE) (dc : Nat → List (List Nat)) (D : Nat) (hD : D < 8) (M : Mem) (h1 : fR M 114 1 = some 116) (hW : rcW M dc) : Sp E mX6_empty 0 0 0 [.ref 114, .int (nI D)] SH M (fun v sh1 M1 => sh1 = SH ∧ v = some (.int (nI (sumD dc D 4))) ∧ Fr [] [116] [] M M1 ∧ rcW M1 (fun r => if r / 4 = D ∧ r % 4 < 4 then [] else dc r)) := by
  refine sp_of vX6_empty.1 rfl (Nat.le_of_ble_eq_true rfl) ?_
  have hb : ∀ r, r < 32 → (dc r).length ≤ 12 := fun r hr => (hW r hr).2.1
  have loop : ∀ (r n : Nat) (M1 : Mem), n + r = 4 → Fr [] [116] [] M M1 → (∀ i, i < 32 → aI M1 116 i = if i / 4 = D ∧ i % 4 < n then 0 else aI M 116 i) → Wp (xM E mX6_empty 0 0 0 SH.length (fun v sh1 M1 => sh1 = SH ∧ v = some (.int (nI (sumD dc D 4))) ∧ Fr [] [116] [] M M1 ∧ rcW M1 (fun r => if r / 4 = D ∧ r % 4 < 4 then [] else dc r))) 0 0 4 [(3, .int (nI n)), (2, .int (nI (sumD dc D n))), (1, .int (nI D)), (0, .ref 114)] [] SH M1 := by
    intro r
    induction r with
    | zero =>
      intro n M1 hn hF hA
      have hn : n = 4 := by omega
      subst hn
      refine wp_iload_n dX6_empty_4 rfl ?_
      refine wp_iconst (v := 4) dX6_empty_5 rfl ?_
      refine wp_icmp_ge (tgt := 55) dX6_empty_6 (by decide) (fun c6 => ?_) (fun c6 => absurd (show (4 : Int32) ≤ nI 4 by decide) c6)
      refine wp_iload_n dX6_empty_55 rfl ?_
      refine wp_ireturn dX6_empty_56 rfl rfl (Nat.zero_le _) (Nat.zero_le _) ?_
      exact ⟨rfl, rfl, hF, rcW_clr hW (by decide) (fun i => hF.2.2.1 _ (by simp) i) hA⟩
    | succ r ih =>
      intro n M1 hn hF hA
      have j1 : fR M1 114 1 = some 116 := (hF.2.2.2.1 _ _).trans h1
      have e : aI M1 116 (4 * D + n) = nI (dc (4 * D + n)).length := by
        rw [hA _ (by omega), if_neg (by omega)]; exact (hW _ (by omega)).1
      refine wp_iload_n dX6_empty_4 rfl ?_
      refine wp_iconst (v := 4) dX6_empty_5 rfl ?_
      refine wp_icmp_ge (tgt := 55) dX6_empty_6 (by decide) (fun c6 => absurd c6 (nI_ge (b := 4) (by omega) (by decide))) (fun c6 => ?_)
      refine wp_iload_n dX6_empty_9 rfl ?_
      refine wp_iconst (v := 4) dX6_empty_10 rfl ?_
      refine wp_imul dX6_empty_11 ?_
      refine wp_iload_n dX6_empty_12 rfl ?_
      refine wp_iadd dX6_empty_13 ?_
      rw [mul4]
      refine wp_istore dX6_empty_14 (Nat.le_of_ble_eq_true rfl) ?_
      refine wp_iload dX6_empty_16 rfl ?_
      refine wp_if_lt (tgt := 49) dX6_empty_18 (by decide) (fun c18 => absurd c18 (nI_pos (by omega))) (fun c18 => ?_)
      refine wp_iload dX6_empty_21 rfl ?_
      refine wp_aload_n dX6_empty_23 rfl ?_
      refine wp_getR dX6_empty_24 fl_X6_15 rfl rfl j1 ?_
      refine wp_alen dX6_empty_27 rfl (Nat.le_of_ble_eq_true rfl) ?_
      refine wp_icmp_ge (tgt := 49) dX6_empty_28 (by decide) (fun c28 => absurd c28 (nI_ge (b := 32) (by omega) (by decide))) (fun c28 => ?_)
      refine wp_iload_n dX6_empty_31 rfl ?_
      refine wp_aload_n dX6_empty_32 rfl ?_
      refine wp_getR dX6_empty_33 fl_X6_15 rfl rfl j1 ?_
      refine wp_iload dX6_empty_36 rfl ?_
      refine wp_iaload dX6_empty_38 rfl (vp_in_nI (by omega) (by decide)) ?_
      refine wp_iadd dX6_empty_39 ?_
      refine wp_istore_n dX6_empty_40 (Nat.le_of_ble_eq_true rfl) ?_
      refine wp_aload_n dX6_empty_41 rfl ?_
      refine wp_getR dX6_empty_42 fl_X6_15 rfl rfl j1 ?_
      refine wp_iload dX6_empty_45 rfl ?_
      refine wp_iconst (v := 0) dX6_empty_47 rfl ?_
      refine wp_iastore dX6_empty_48 rfl (vp_in_nI (by omega) (by decide)) ?_
      rw [nI_clamp (show 4 * D + n < 2 ^ 31 by omega), e, nI_add]
      refine wp_iinc dX6_empty_49 rfl (i_inc _) (Nat.le_of_ble_eq_true rfl) ?_
      refine wp_goto (tgt := 4) dX6_empty_52 (by decide) ?_
      refine wp_lv (ih (n + 1) _ (by omega) (hF.sA (by simp)) (fun i hi => ?_)) (by repeat (first | exact trivial | refine ⟨rfl, ?_⟩))
      rw [aI_sA]
      by_cases c : i = 4 * D + n
      · rw [if_pos ⟨rfl, c⟩, if_pos (by omega)]
      · rw [if_neg (fun q => c q.2), hA i hi]
        by_cases c2 : i / 4 = D ∧ i % 4 < n
        · rw [if_pos c2, if_pos (by omega)]
        · rw [if_neg c2, if_neg (by omega)]
  refine wp_iconst (v := 0) dX6_empty_0 rfl ?_
  refine wp_istore_n dX6_empty_1 (Nat.le_of_ble_eq_true rfl) ?_
  refine wp_iconst (v := 0) dX6_empty_2 rfl ?_
  refine wp_istore_n dX6_empty_3 (Nat.le_of_ble_eq_true rfl) ?_
  exact wp_lv (loop 4 0 M (by omega) Fr.rf (fun i _ => by rw [if_neg (by omega)])) (by repeat (first | exact trivial | refine ⟨rfl, ?_⟩))
set_option maxRecDepth 100000 in
set_option maxHeartbeats 4000000 in
theorem cX8_clear_ (E : GE) (tp gn : List Nat) (q : QQ) (o : Option (List Nat)) (dc : Nat → List (List Nat)) (M : Mem) (h : RC M tp gn q o dc) (d : Int32) : Sp E mX8_clear 1 0 0 [.ref 0, .int d] SH M (pDoc M (clV dc d) tp gn q o (clD dc d)) := by
  refine sp_of vX8_clear.1 rfl (Nat.le_of_ble_eq_true rfl) ?_
  obtain ⟨j0, j1, j2, j3, -⟩ := RC_jd h
  by_cases hd : docI d
  · obtain ⟨D, hD, rfl⟩ := doc_n hd
    obtain ⟨e1, e2⟩ := clV_s (dc := dc) hD hd
    rw [e1, e2]
    refine wp_iload_n dX8_clear_0 rfl ?_
    refine wp_cS1i dX8_clear_1 ml_X8_160 sX8_isDocument (cX8_isDocument_ E _ _ _) (Nat.le_of_ble_eq_true rfl) (Nat.le_of_ble_eq_true rfl) (Nat.le_of_ble_eq_true rfl) ?_
    refine wp_if_eq (tgt := 21) dX8_clear_4 (by decide) (fun c4 => absurd ((doc_c _).mpr hd) (b2i_e0.mp c4)) (fun c4 => ?_)
    refine wp_aload_n dX8_clear_7 rfl ?_
    refine wp_getR dX8_clear_8 fl_X8_51 rfl rfl j0 ?_
    refine wp_getR dX8_clear_11 fl_X8_167 rfl rfl j1 ?_
    refine wp_iload_n dX8_clear_14 rfl ?_
    refine wp_cV1p dX8_clear_15 ml_X8_181 vX6_empty ⟨5, (RX6, TX6, 2), rfl, rfl, rfl⟩ (cX6_empty_ E dc D hD M j3 h.2.2.2.2.2) (Nat.le_of_ble_eq_true rfl) (Nat.le_of_ble_eq_true rfl) (Nat.le_of_ble_eq_true rfl) (Nat.le_refl _) (Nat.le_refl _) (fun v sh1 M1 hqq => ?_)
    obtain ⟨rfl, rfl, hF, hW⟩ := hqq
    refine wp_goto (tgt := 23) dX8_clear_18 (by decide) ?_
    refine wp_ireturn dX8_clear_23 rfl rfl (Nat.zero_le _) (Nat.zero_le _) ?_
    have hF1 : Fr [] [116, 118] [115, 119, 120] M M1 := hF.wk (by simp) (by simp) (by simp)
    exact ⟨rfl, rfl, RC_J h hF1 hW, hF1.outC (by simp) (by simp) (by simp)⟩
  · have e : clV dc d = -101 ∧ clD dc d = dc := by unfold clV clD; rw [if_neg hd, if_neg hd]; exact ⟨rfl, rfl⟩
    rw [e.1, e.2]
    refine wp_iload_n dX8_clear_0 rfl ?_
    refine wp_cS1i dX8_clear_1 ml_X8_160 sX8_isDocument (cX8_isDocument_ E _ _ _) (Nat.le_of_ble_eq_true rfl) (Nat.le_of_ble_eq_true rfl) (Nat.le_of_ble_eq_true rfl) ?_
    refine wp_if_eq (tgt := 21) dX8_clear_4 (by decide) (fun c4 => ?_) (fun c4 => absurd ((doc_c _).mp (b2i_ne.mp c4)) hd)
    refine wp_bipush (v := (-101)) dX8_clear_21 (by decide) ?_
    refine wp_ireturn dX8_clear_23 rfl rfl (Nat.zero_le _) (Nat.zero_le _) ?_
    exact ⟨rfl, rfl, h, OutC.rf⟩
