/-! ===== the model: sign, out, ratio ===== -/
def sgC (q : QQ) (k j i : Int32) : Int32 := if hasI q k then if nCo (q.2 k.toNatClampNeg) = 3 then 2 else if sgV (q.2 k.toNatClampNeg) j i = 0 then 1 else 0 else 1
def sgR (q : QQ) (k j i : Int32) : Int32 := if sgC q k j i = 0 then sgV (q.2 k.toNatClampNeg) j i else 0
theorem in_n {j : Int32} {n : Nat} (h : ¬ j < 0 ∧ ¬ nI n ≤ j) : ∃ J, J < n ∧ J < 2 ^ 31 ∧ j = nI J ∧ j.toNatClampNeg = J := by
  obtain ⟨e, h31⟩ := pos_n h.1
  exact ⟨_, Nat.lt_of_not_le fun w => h.2 (by rw [e]; exact nI_le w h31), h31, e, rfl⟩
theorem sgV_out {x : ND} {j i : Int32} (h : ¬ (¬ j < 0 ∧ ¬ nI (nWo x).length ≤ j)) (h5 : (nWo x).length ≤ 5) : sgV x j i = 0 := by
  unfold sgV
  by_cases cj : j < 0
  · rw [if_neg (fun z => z.1 cj)]
  · have hle : nI (nWo x).length ≤ j := Decidable.byContradiction fun z => h ⟨cj, z⟩
    obtain ⟨e, h31⟩ := pos_n cj
    have : (nWo x).length ≤ j.toNatClampNeg := Nat.le_of_not_lt fun w => nI_ge w (by omega) (by rw [← e]; exact hle)
    have e2 : nWd x j.toNatClampNeg = [] := getD_big this
    rw [e2]
    split
    · rfl
    · rfl
theorem sgV_out2 {x : ND} {j i : Int32} (hl : okL (nWd x j.toNatClampNeg)) (h : ¬ (¬ i < 0 ∧ ¬ nI (nWd x j.toNatClampNeg).length ≤ i)) : sgV x j i = 0 := by
  unfold sgV
  by_cases ci : i < 0
  · rw [if_neg (fun z => z.2 ci)]
  · have hle : nI (nWd x j.toNatClampNeg).length ≤ i := Decidable.byContradiction fun z => h ⟨ci, z⟩
    obtain ⟨e, h31⟩ := pos_n ci
    have h8 := hl.1
    have : (nWd x j.toNatClampNeg).length ≤ i.toNatClampNeg := Nat.le_of_not_lt fun w => nI_ge w (by omega) (by rw [← e]; exact hle)
    rw [getD_big this]
    split
    · rfl
    · rfl
set_option maxRecDepth 100000 in
set_option maxHeartbeats 4000000 in
theorem cX9_sign_ (E : GE) (tp gn : List Nat) (q : QQ) (o : Option (List Nat)) (dc : Nat → List (List Nat)) (M : Mem) (h : RM M tp gn q o dc) (hk : QOk q) (k j i : Int32) : Sp E mX9_sign 2 0 0 [.ref 121, .int k, .int j, .int i] SH M (RV (some (.int (sgR q k j i))) SH (sI M 121 0 (sgC q k j i))) := by
  refine sp_of vX9_sign.1 rfl (Nat.le_of_ble_eq_true rfl) ?_
  have hG := h.1
  have en : fI M 121 13 = nI q.1 := h.2.2.2.1.1
  have hn25 := h.2.2.2.1.2.1
  have hb : b2i (0 ≤ k ∧ k ≤ fI M 121 13 - 1) = b2i (hasI q k) := by rw [en]; exact b2i_c (hasI_m hn25 k)
  have hrt : q.1 ≠ 0 → nCo (q.2 0) = 3 := fun h0 => by
    rcases hk with z | z
    · exact absurd z h0
    · exact z.2.2.2.1.1
  have hok : ∀ K, K < q.1 → okN (q.2 K) := fun K hK => by
    rcases hk with z | z
    · omega
    · exact (z.2.2.2.2.2.1 K hK).1
  have hnd : ∀ K, 1 ≤ K → K < q.1 → nOk (q.2 K) := fun K h1 hK => by
    rcases hk with z | z
    · omega
    · exact z.2.2.2.2.1 K h1 hK
  have J72 : ∀ z : Int32, z = sgC q k j i → (z = 0 → ∃ K J I, k = nI K ∧ j = nI J ∧ i = nI I ∧ K < q.1 ∧ J < (nWo (q.2 K)).length ∧ I < (nWd (q.2 K) J).length ∧ (nWo (q.2 K)).length ≤ 5 ∧ (nWd (q.2 K) J).length ≤ 8 ∧ sgV (q.2 k.toNatClampNeg) j i = nI ((nWd (q.2 K) J).getD I 0)) → (¬ z = 0 → 0 < z) → Wp (xM E mX9_sign 2 0 0 SH.length (RV (some (.int (sgR q k j i))) SH (sI M 121 0 (sgC q k j i)))) 0 0 72 [(1, .int k), (2, .int j), (3, .int i), (0, .ref 121)] [.int z, .ref 121] SH M := by
    intro z hz h0 h1
    have ef : fI (sI M 121 0 z) 121 0 = z := by rw [fI_sI, if_pos ⟨rfl, rfl⟩]
    have hG1 : rmG (sI M 121 0 z) := hG
    refine wp_putI dX9_sign_72 fl_X9_1 rfl rfl (fun _ _ _ h => by cases h; rfl) rfl rfl ?_
    refine wp_aload_n dX9_sign_75 rfl ?_
    refine wp_getI dX9_sign_76 fl_X9_1 rfl rfl ?_
    rw [ef]
    refine wp_if_le (tgt := 86) dX9_sign_79 (by decide) (fun c79 => ?_) (fun c79 => ?_)
    · have hz0 : z = 0 := Decidable.byContradiction fun w => absurd c79 (Int32.not_le.mpr (h1 w))
      obtain ⟨K, J, I, rfl, rfl, rfl, hK, hJ, hI, h5, h8, hv⟩ := h0 hz0
      have es : aI (sI M 121 0 z) 140 (40 * K + 8 * J + I) = nI ((nWd (q.2 K) J).getD I 0) := ((h.2.2.2.1.2.2 K hK).2.2.2.2.2.2.2 J hJ).2 I hI
      have hcl : (nI (40 * K + 8 * J + I)).toNatClampNeg = 40 * K + 8 * J + I := nI_clamp (by omega)
      refine wp_aload_n dX9_sign_86 rfl ?_
      refine wp_getR dX9_sign_87 fl_X9_68 rfl rfl (hG1 22) ?_
      refine wp_bipush (v := 40) dX9_sign_90 (by decide) ?_
      refine wp_iload_n dX9_sign_92 rfl ?_
      refine wp_imul dX9_sign_93 ?_
      refine wp_bipush (v := 8) dX9_sign_94 (by decide) ?_
      refine wp_iload_n dX9_sign_96 rfl ?_
      refine wp_imul dX9_sign_97 ?_
      refine wp_iadd dX9_sign_98 ?_
      refine wp_iload_n dX9_sign_99 rfl ?_
      refine wp_iadd dX9_sign_100 ?_
      rw [mu48]
      refine wp_iaload dX9_sign_101 rfl (vp_in_nI (by omega) (by decide)) ?_
      refine wp_ireturn dX9_sign_102 rfl rfl (Nat.zero_le _) (Nat.zero_le _) ?_
      rw [hcl, es, hz]
      refine ⟨?_, rfl, rfl⟩
      unfold sgR
      rw [← hz, if_pos hz0, hv]
    · refine wp_iconst (v := 0) dX9_sign_82 rfl ?_
      refine wp_goto (tgt := 102) dX9_sign_83 (by decide) ?_
      refine wp_ireturn dX9_sign_102 rfl rfl (Nat.zero_le _) (Nat.zero_le _) ?_
      have hz0 : ¬ z = 0 := fun w => c79 (by rw [w]; decide)
      rw [hz]
      refine ⟨?_, rfl, rfl⟩
      unfold sgR
      rw [← hz, if_neg hz0]
  refine wp_aload_n dX9_sign_0 rfl ?_
  refine wp_aload_n dX9_sign_1 rfl ?_
  refine wp_iload_n dX9_sign_2 rfl ?_
  refine wp_cV1i dX9_sign_3 ml_X9_193 vX9_isNode ⟨8, (RX9, TX9, 39), rfl, rfl, rfl⟩ (cX9_isNode_ E k M) (Nat.le_of_ble_eq_true rfl) (Nat.le_of_ble_eq_true rfl) (Nat.le_of_ble_eq_true rfl) ?_
  rw [hb]
  refine wp_if_ne (tgt := 13) dX9_sign_6 (by decide) (fun c6 => ?_) (fun c6 => ?_)
  · have hh := b2i_ne.mp c6
    obtain ⟨K, hK, rfl⟩ := hasI_n hn25 hh
    have eK : (nI K).toNatClampNeg = K := nI_clamp (by omega)
    have hin : vp_in (nI K) 25 := vp_in_nI (by omega) (by decide)
    obtain ⟨n0, -, -, -, -, -, n6, n7⟩ := h.2.2.2.1.2.2 K hK
    have n0 : aI M 132 K = nCo (q.2 K) := n0
    refine wp_aload_n dX9_sign_13 rfl ?_
    refine wp_getR dX9_sign_14 fl_X9_44 rfl rfl (hG 14) ?_
    refine wp_iload_n dX9_sign_17 rfl ?_
    refine wp_iaload dX9_sign_18 rfl hin ?_
    rw [eK, n0]
    refine wp_iconst (v := 3) dX9_sign_19 rfl ?_
    refine wp_icmp_ne (tgt := 27) dX9_sign_20 (by decide) (fun c20 => ?_) (fun c20 => ?_)
    · have hK1 : 1 ≤ K := Nat.pos_of_ne_zero fun z => c20 (by rw [z]; exact hrt (by omega))
      have ecn : aI M 138 K = nI (nWo (q.2 K)).length := n6.trans (by rw [if_neg c20])
      have h5 := (hok K hK).1
      have hokL := fun J => nd_okL (hnd K hK1 hK) (hok K hK) J
      have hs1 : sgV (q.2 K) j i = 0 → sgC q (nI K) j i = 1 := fun z => by unfold sgC; rw [if_pos hh, eK, if_neg c20, if_pos z]
      refine wp_iload_n dX9_sign_27 rfl ?_
      refine wp_i2l dX9_sign_28 ?_
      refine wp_lconst (v := 0) dX9_sign_29 rfl ?_
      refine wp_aload_n dX9_sign_30 rfl ?_
      refine wp_getR dX9_sign_31 fl_X9_62 rfl rfl (hG 20) ?_
      refine wp_iload_n dX9_sign_34 rfl ?_
      refine wp_iaload dX9_sign_35 rfl hin ?_
      rw [eK]
      refine wp_iconst (v := 1) dX9_sign_36 rfl ?_
      refine wp_isub dX9_sign_37 ?_
      refine wp_i2l dX9_sign_38 ?_
      refine wp_cS3i dX9_sign_39 ml_X9_117 sX9_in (cX9_inN E j (aI M 138 K) (nWo (q.2 K)).length ecn (by omega) _ _ _ _ _ rfl (by decide) rfl) (Nat.le_of_ble_eq_true rfl) (Nat.le_of_ble_eq_true rfl) (Nat.le_of_ble_eq_true rfl) ?_
      refine wp_if_eq (tgt := 67) dX9_sign_42 (by decide) (fun c42 => ?_) (fun c42 => ?_)
      · refine wp_iconst (v := 1) dX9_sign_67 rfl ?_
        refine wp_goto (tgt := 72) dX9_sign_68 (by decide) ?_
        exact wp_lv (J72 1 (hs1 (sgV_out (b2i_e0.mp c42) h5)).symm (fun w => absurd w (by decide)) (fun _ => by decide)) (by repeat (first | exact trivial | refine ⟨rfl, ?_⟩))
      · obtain ⟨J, hJ, hJ31, rfl, eJ⟩ := in_n (b2i_ne.mp c42)
        have eln : aI M 139 (5 * K + J) = nI (nWd (q.2 K) J).length := (n7 J hJ).1
        have h8 := (hokL J).1
        have hcl5 : (nI (5 * K + J)).toNatClampNeg = 5 * K + J := nI_clamp (by omega)
        refine wp_iload_n dX9_sign_45 rfl ?_
        refine wp_i2l dX9_sign_46 ?_
        refine wp_lconst (v := 0) dX9_sign_47 rfl ?_
        refine wp_aload_n dX9_sign_48 rfl ?_
        refine wp_getR dX9_sign_49 fl_X9_65 rfl rfl (hG 21) ?_
        refine wp_iconst (v := 5) dX9_sign_52 rfl ?_
        refine wp_iload_n dX9_sign_53 rfl ?_
        refine wp_imul dX9_sign_54 ?_
        refine wp_iload_n dX9_sign_55 rfl ?_
        refine wp_iadd dX9_sign_56 ?_
        rw [mu5]
        refine wp_iaload dX9_sign_57 rfl (vp_in_nI (by omega) (by decide)) ?_
        rw [hcl5]
        refine wp_iconst (v := 1) dX9_sign_58 rfl ?_
        refine wp_isub dX9_sign_59 ?_
        refine wp_i2l dX9_sign_60 ?_
        refine wp_cS3i dX9_sign_61 ml_X9_117 sX9_in (cX9_inN E i (aI M 139 (5 * K + J)) (nWd (q.2 K) J).length eln (by omega) _ _ _ _ _ rfl (by decide) rfl) (Nat.le_of_ble_eq_true rfl) (Nat.le_of_ble_eq_true rfl) (Nat.le_of_ble_eq_true rfl) ?_
        refine wp_if_ne (tgt := 71) dX9_sign_64 (by decide) (fun c64 => ?_) (fun c64 => ?_)
        · refine wp_iconst (v := 0) dX9_sign_71 rfl ?_
          obtain ⟨I, hI, hI31, rfl, eI⟩ := in_n (b2i_ne.mp c64)
          have hv : sgV (q.2 K) (nI J) (nI I) = nI ((nWd (q.2 K) J).getD I 0) := by unfold sgV; rw [if_pos ⟨nI_pos (by omega), nI_pos (by omega)⟩, eJ, eI]
          have hnz : ¬ sgV (q.2 K) (nI J) (nI I) = 0 := by
            rw [hv]
            intro e
            have hm : (nWd (q.2 K) J).getD I 0 ∈ nWd (q.2 K) J := by
              rw [List.getD_eq_getElem?_getD, List.getElem?_eq_getElem hI]
              exact List.getElem_mem hI
            have hb := (hokL J).2 _ hm
            have := nI_e (b := 0) (by omega) (by decide) e
            omega
          exact wp_lv (J72 0 (by unfold sgC; rw [if_pos hh, eK, if_neg c20, if_neg hnz]) (fun _ => ⟨K, J, I, rfl, rfl, rfl, hK, hJ, hI, h5, h8, by rw [eK]; exact hv⟩) (fun w => absurd rfl w)) (by repeat (first | exact trivial | refine ⟨rfl, ?_⟩))
        · refine wp_iconst (v := 1) dX9_sign_67 rfl ?_
          refine wp_goto (tgt := 72) dX9_sign_68 (by decide) ?_
          exact wp_lv (J72 1 (hs1 (sgV_out2 (by rw [eJ]; exact hokL J) (by rw [eJ]; exact b2i_e0.mp c64))).symm (fun w => absurd w (by decide)) (fun _ => by decide)) (by repeat (first | exact trivial | refine ⟨rfl, ?_⟩))
    · refine wp_iconst (v := 2) dX9_sign_23 rfl ?_
      refine wp_goto (tgt := 72) dX9_sign_24 (by decide) ?_
      exact wp_lv (J72 2 (by unfold sgC; rw [if_pos hh, eK, if_pos c20]) (fun w => absurd w (by decide)) (fun _ => by decide)) (by repeat (first | exact trivial | refine ⟨rfl, ?_⟩))
  · refine wp_iconst (v := 1) dX9_sign_9 rfl ?_
    refine wp_goto (tgt := 72) dX9_sign_10 (by decide) ?_
    exact wp_lv (J72 1 (by unfold sgC; rw [if_neg (b2i_e0.mp c6)]) (fun w => absurd w (by decide)) (fun _ => by decide)) (by repeat (first | exact trivial | refine ⟨rfl, ?_⟩))
def ouC (o : Option (List Nat)) (i : Int32) : Int32 := match o with
  | none => 1
  | some l => if inO l i then 0 else 2
def ouR (o : Option (List Nat)) (i : Int32) : Int32 := match o with
  | none => 0
  | some l => if inO l i then nI (l.getD i.toNatClampNeg 0) else 0
set_option maxRecDepth 100000 in
set_option maxHeartbeats 4000000 in
theorem cX9_out_ (E : GE) (tp gn : List Nat) (q : QQ) (o : Option (List Nat)) (dc : Nat → List (List Nat)) (M : Mem) (h : RM M tp gn q o dc) (i : Int32) : Sp E mX9_out 1 0 0 [.ref 121, .int i] SH M (RV (some (.int (ouR o i))) SH (sI M 121 0 (ouC o i))) := by
  refine sp_of vX9_out.1 rfl (Nat.le_of_ble_eq_true rfl) ?_
  have hG := h.1
  have hO := h.2.2.2.2.1
  have J34 : ∀ z : Int32, z = ouC o i → (z = 0 → ∃ l I, o = some l ∧ i = nI I ∧ I < l.length ∧ l.length ≤ 240 ∧ inO l i) → (¬ z = 0 → 0 < z) → Wp (xM E mX9_out 1 0 0 SH.length (RV (some (.int (ouR o i))) SH (sI M 121 0 (ouC o i)))) 0 0 34 [(1, .int i), (0, .ref 121)] [.int z, .ref 121] SH M := by
    intro z hz h0 h1
    have ef : fI (sI M 121 0 z) 121 0 = z := by rw [fI_sI, if_pos ⟨rfl, rfl⟩]
    have hG1 : rmG (sI M 121 0 z) := hG
    refine wp_putI dX9_out_34 fl_X9_1 rfl rfl (fun _ _ _ h => by cases h; rfl) rfl rfl ?_
    refine wp_aload_n dX9_out_37 rfl ?_
    refine wp_getI dX9_out_38 fl_X9_1 rfl rfl ?_
    rw [ef]
    refine wp_if_le (tgt := 48) dX9_out_41 (by decide) (fun c41 => ?_) (fun c41 => ?_)
    · have hz0 : z = 0 := Decidable.byContradiction fun w => absurd c41 (Int32.not_le.mpr (h1 w))
      obtain ⟨l, I, rfl, rfl, hI, h240, hio⟩ := h0 hz0
      have es : aI (sI M 121 0 z) 143 I = nI (l.getD I 0) := (hO.2 l rfl).2 I hI
      have hcl : (nI I).toNatClampNeg = I := nI_clamp (by omega)
      refine wp_aload_n dX9_out_48 rfl ?_
      refine wp_getR dX9_out_49 fl_X9_77 rfl rfl (hG1 28) ?_
      refine wp_iload_n dX9_out_52 rfl ?_
      refine wp_iaload dX9_out_53 rfl (vp_in_nI (by omega) (by decide)) ?_
      refine wp_ireturn dX9_out_54 rfl rfl (Nat.zero_le _) (Nat.zero_le _) ?_
      rw [hcl, es, hz]
      refine ⟨?_, rfl, rfl⟩
      show _ = some (Value.int (if inO l (nI I) then nI (l.getD (nI I).toNatClampNeg 0) else 0))
      rw [if_pos hio, hcl]
    · refine wp_iconst (v := 0) dX9_out_44 rfl ?_
      refine wp_goto (tgt := 54) dX9_out_45 (by decide) ?_
      refine wp_ireturn dX9_out_54 rfl rfl (Nat.zero_le _) (Nat.zero_le _) ?_
      have hz0 : ¬ z = 0 := fun w => c41 (by rw [w]; decide)
      rw [hz]
      refine ⟨?_, rfl, rfl⟩
      have : ouR o i = 0 := by
        cases o with
        | none => rfl
        | some l =>
          show (if inO l i then _ else (0 : Int32)) = 0
          rw [if_neg]
          intro w
          exact hz0 (hz.trans (if_pos w))
      rw [this]
  refine wp_aload_n dX9_out_0 rfl ?_
  refine wp_aload_n dX9_out_1 rfl ?_
  refine wp_getI dX9_out_2 fl_X9_80 rfl rfl ?_
  refine wp_iconst (v := (-1)) dX9_out_5 rfl ?_
  refine wp_icmp_ne (tgt := 13) dX9_out_6 (by decide) (fun c6 => ?_) (fun c6 => ?_)
  · obtain ⟨l, rfl⟩ : ∃ l, o = some l := by
      cases o with
      | none => exact absurd hO.1 c6
      | some l => exact ⟨l, rfl⟩
    have h240 := (hO.2 l rfl).1
    refine wp_iload_n dX9_out_13 rfl ?_
    refine wp_i2l dX9_out_14 ?_
    refine wp_lconst (v := 0) dX9_out_15 rfl ?_
    refine wp_aload_n dX9_out_16 rfl ?_
    refine wp_getI dX9_out_17 fl_X9_80 rfl rfl ?_
    refine wp_iconst (v := 1) dX9_out_20 rfl ?_
    refine wp_isub dX9_out_21 ?_
    refine wp_i2l dX9_out_22 ?_
    refine wp_cS3i dX9_out_23 ml_X9_117 sX9_in (cX9_inN E i (fI M 121 29) l.length hO.1 (by omega) _ _ _ _ _ rfl (by decide) rfl) (Nat.le_of_ble_eq_true rfl) (Nat.le_of_ble_eq_true rfl) (Nat.le_of_ble_eq_true rfl) ?_
    refine wp_if_eq (tgt := 33) dX9_out_26 (by decide) (fun c26 => ?_) (fun c26 => ?_)
    · refine wp_iconst (v := 2) dX9_out_33 rfl ?_
      exact wp_lv (J34 2 (by show (2 : Int32) = if inO l i then 0 else 2; rw [if_neg (b2i_e0.mp c26)]) (fun w => absurd w (by decide)) (fun _ => by decide)) (by repeat (first | exact trivial | refine ⟨rfl, ?_⟩))
    · refine wp_iconst (v := 0) dX9_out_29 rfl ?_
      refine wp_goto (tgt := 34) dX9_out_30 (by decide) ?_
      obtain ⟨I, hI, hI31, rfl, eI⟩ := in_n (b2i_ne.mp c26)
      exact wp_lv (J34 0 (by show (0 : Int32) = if inO l (nI I) then 0 else 2; rw [if_pos (b2i_ne.mp c26)]) (fun _ => ⟨l, I, rfl, rfl, hI, h240, b2i_ne.mp c26⟩) (fun w => absurd rfl w)) (by repeat (first | exact trivial | refine ⟨rfl, ?_⟩))
  · refine wp_iconst (v := 1) dX9_out_9 rfl ?_
    refine wp_goto (tgt := 34) dX9_out_10 (by decide) ?_
    have ho : o = none := by
      cases o with
      | none => rfl
      | some l =>
        have h240 := (hO.2 l rfl).1
        have e1 : fI M 121 29 = nI l.length := hO.1
        rw [e1] at c6
        have := congrArg Int32.toInt c6
        rw [nI_toInt (by omega)] at this
        have this : (l.length : Int) = -1 := this
        omega
    exact wp_lv (J34 1 (by rw [ho]; rfl) (fun w => absurd w (by decide)) (fun _ => by decide)) (by repeat (first | exact trivial | refine ⟨rfl, ?_⟩))
def rtC (q : QQ) (dc : Nat → List (List Nat)) (d f : Int32) : Int32 := if rtX q dc d f then 1 else 0
def rtR (q : QQ) (dc : Nat → List (List Nat)) (d f : Int32) : Int64 := if rtX q dc d f then 0 else rtV q dc d f
set_option maxRecDepth 100000 in
set_option maxHeartbeats 4000000 in
theorem cX9_ratio_ (E : GE) (tp gn : List Nat) (q : QQ) (o : Option (List Nat)) (dc : Nat → List (List Nat)) (M : Mem) (h : RM M tp gn q o dc) (hk : QOk q) (hdc : dcOk dc) (d f : Int32) : Sp E mX9_ratio 5 0 0 [.ref 121, .int d, .int f] SH M (fun v sh1 M1 => sh1 = SH ∧ v = some (.long (rtR q dc d f)) ∧ fI M1 121 0 = rtC q dc d f ∧ RM M1 tp gn q o dc ∧ OutM M M1) := by
  refine sp_of vX9_ratio.1 rfl (Nat.le_of_ble_eq_true rfl) ?_
  have h0m : RM (sI M 121 0 0) tp gn q o dc := RM_sI h (by decide)
  have en : fI (sI M 121 0 0) 121 13 = nI q.1 := h0m.2.2.2.1.1
  have hn25 := h.2.2.2.1.2.1
  have hw0 : wF M (sI M 121 0 0) := wF_0 0
  have hdl : ∀ r, r < 32 → (dc r).length ≤ 12 := fun r hr => (h.2.2.2.2.2 r hr).2.1
  have hdb : b2i (0 ≤ d ∧ d ≤ 7) = b2i (docI d) := rfl
  have hfb : b2i (0 ≤ f ∧ f ≤ 7) = b2i (docI f) := rfl
  have hin0 : vp_in (0 : Int32) 25 := vp_in_nI (n := 0) (N := 25) (by decide) (by decide)
  have tail : ∀ (D F : Nat) (M3 : Mem), d = nI D → f = nI F → D < 8 → F < 8 → docI d → docI f → q.1 ≠ 0 → wF M M3 → aL M3 149 0 = mL (Vq q dc D 0) → ∀ z : Int32, z = rtC q dc d f → (z = 0 ↔ ¬ mL (Vq q dc F 0) = 0) → Wp (xM E mX9_ratio 5 0 0 SH.length (fun v sh1 M1 => sh1 = SH ∧ v = some (.long (rtR q dc d f)) ∧ fI M1 121 0 = rtC q dc d f ∧ RM M1 tp gn q o dc ∧ OutM M M1)) 0 0 63 [(1, .int d), (2, .int f), (3, .long (mL (Vq q dc F 0))), (0, .ref 121)] [.int z, .ref 121] SH M3 := by
    intro D F M3 hdD hfF hD hF8 hd8 hf8 h0 hF w0 z hz hzi
    have eD : d.toNatClampNeg = D := by rw [hdD]; exact nI_clamp (by omega)
    have eF : f.toNatClampNeg = F := by rw [hfF]; exact nI_clamp (by omega)
    have ef : fI (sI M3 121 0 z) 121 0 = z := by rw [fI_sI, if_pos ⟨rfl, rfl⟩]
    have hF4 : wF M (sI M3 121 0 z) := hF.sI (by simp)
    have hG4 := (RM_wF h hF4).1
    have w4 : aL (sI M3 121 0 z) 149 (0 : Int32).toNatClampNeg = mL (Vq q dc D 0) := w0
    have hz1 : z = 0 ∨ z = 1 := by rw [hz]; unfold rtC; split <;> simp
    have ev : rtV q dc d f = mL (Vq q dc D 0) / mL (Vq q dc F 0) := by unfold rtV; rw [if_pos ⟨hd8, hf8⟩, if_neg h0, eD, eF]
    refine wp_putI dX9_ratio_63 fl_X9_1 rfl rfl (fun _ _ _ h => by cases h; rfl) rfl rfl ?_
    refine wp_aload_n dX9_ratio_66 rfl ?_
    refine wp_getI dX9_ratio_67 fl_X9_1 rfl rfl ?_
    rw [ef]
    refine wp_if_le (tgt := 77) dX9_ratio_70 (by decide) (fun c70 => ?_) (fun c70 => ?_)
    · have hz0 : z = 0 := hz1.elim id (fun w => absurd c70 (by rw [w]; decide))
      refine wp_aload_n dX9_ratio_77 rfl ?_
      refine wp_getR dX9_ratio_78 fl_X9_99 rfl rfl (hG4 35) ?_
      refine wp_iconst (v := 0) dX9_ratio_81 rfl ?_
      refine wp_laload dX9_ratio_82 rfl hin0 ?_
      rw [w4]
      refine wp_lload_n dX9_ratio_83 rfl ?_
      refine wp_ldiv dX9_ratio_84 (hzi.mp hz0) ?_
      refine wp_lreturn dX9_ratio_85 rfl (Nat.zero_le _) (Nat.zero_le _) ?_
      refine ⟨rfl, ?_, ef.trans hz, RM_wF h hF4, wF_out hF4⟩
      have hx : ¬ rtX q dc d f := fun w => hzi.mp hz0 (by have := w.2.2; rw [eF] at this; exact this)
      unfold rtR
      rw [if_neg hx, ev]
    · refine wp_lconst (v := 0) dX9_ratio_73 rfl ?_
      refine wp_goto (tgt := 85) dX9_ratio_74 (by decide) ?_
      refine wp_lreturn dX9_ratio_85 rfl (Nat.zero_le _) (Nat.zero_le _) ?_
      have hz0 : ¬ z = 0 := fun w => c70 (by rw [w]; decide)
      refine ⟨rfl, ?_, ef.trans hz, RM_wF h hF4, wF_out hF4⟩
      have hx : rtX q dc d f := ⟨⟨hd8, hf8⟩, h0, by rw [eF]; exact Decidable.byContradiction fun w => hz0 (hzi.mpr w)⟩
      unfold rtR
      rw [if_pos hx]
  refine wp_aload_n dX9_ratio_0 rfl ?_
  refine wp_iconst (v := 0) dX9_ratio_1 rfl ?_
  refine wp_putI dX9_ratio_2 fl_X9_1 rfl rfl (fun _ _ _ h => by cases h; rfl) rfl rfl ?_
  refine wp_iload_n dX9_ratio_5 rfl ?_
  refine wp_cS1i dX9_ratio_6 ml_X9_214 sX9_isDocument (cX9_isDocument_ E d _ _) (Nat.le_of_ble_eq_true rfl) (Nat.le_of_ble_eq_true rfl) (Nat.le_of_ble_eq_true rfl) ?_
  rw [hdb]
  refine wp_if_eq (tgt := 19) dX9_ratio_9 (by decide) (fun c9 => ?_) (fun c9 => ?_)
  · refine wp_ldc2 dX9_ratio_19 kl_X9_248 ?_
    refine wp_lreturn dX9_ratio_22 rfl (Nat.zero_le _) (Nat.zero_le _) ?_
    have hb : ¬ (docI d ∧ docI f) := fun z => b2i_e0.mp c9 z.1
    have hx : ¬ rtX q dc d f := fun w => hb w.1
    have e1 : rtR q dc d f = -101 := by unfold rtR rtV; rw [if_neg hx, if_neg hb]
    have e2 : rtC q dc d f = 0 := by unfold rtC; rw [if_neg hx]
    rw [e1, e2]
    exact ⟨rfl, rfl, rfl, h0m, wF_out hw0⟩
  · have hd8 := b2i_ne.mp c9
    refine wp_iload_n dX9_ratio_12 rfl ?_
    refine wp_cS1i dX9_ratio_13 ml_X9_214 sX9_isDocument (cX9_isDocument_ E f _ _) (Nat.le_of_ble_eq_true rfl) (Nat.le_of_ble_eq_true rfl) (Nat.le_of_ble_eq_true rfl) ?_
    rw [hfb]
    refine wp_if_ne (tgt := 23) dX9_ratio_16 (by decide) (fun c16 => ?_) (fun c16 => ?_)
    · have hf8 := b2i_ne.mp c16
      refine wp_aload_n dX9_ratio_23 rfl ?_
      refine wp_getI dX9_ratio_24 fl_X9_112 rfl rfl ?_
      rw [en]
      refine wp_if_ne (tgt := 34) dX9_ratio_27 (by decide) (fun c27 => ?_) (fun c27 => ?_)
      · have h0 : q.1 ≠ 0 := fun e => c27 (by rw [e]; rfl)
        obtain ⟨D, hD, rfl⟩ := doc_n hd8
        obtain ⟨F, hF8, rfl⟩ := doc_n hf8
        have eF : (nI F).toNatClampNeg = F := nI_clamp (by omega)
        have hmt := RM_MT h0m hk h0
        have hdt : DT q.2 q.1 := QOk.dt hk h0
        refine wp_aload_n dX9_ratio_34 rfl ?_
        refine wp_iload_n dX9_ratio_35 rfl ?_
        refine wp_cV1p dX9_ratio_36 ml_X9_245 vX9_reckon ⟨8, (RX9, TX9, 39), rfl, rfl, rfl⟩ (cX9_reckon_ E q.1 F q.2 dc (sI M 121 0 0) hmt hdt h0m.2.2.2.2.2 hdc hF8) (Nat.le_of_ble_eq_true rfl) (Nat.le_of_ble_eq_true rfl) (Nat.le_of_ble_eq_true rfl) (Nat.le_refl _) (Nat.le_refl _) (fun v sh1 M2 hqq => ?_)
        obtain ⟨rfl, rfl, hF, hrow⟩ := hqq
        have hF2 := hw0.tr (vF_w hF)
        have hG2 := hmt.1.fr hF
        have hR2 := RM_wF h hF2
        refine wp_aload_n dX9_ratio_39 rfl ?_
        refine wp_getR dX9_ratio_40 fl_X9_99 rfl rfl (hG2 35) ?_
        refine wp_iconst (v := 0) dX9_ratio_43 rfl ?_
        refine wp_laload dX9_ratio_44 rfl hin0 ?_
        rw [show aL M2 149 (0 : Int32).toNatClampNeg = mL (Vq q dc F 0) from (hrow 0 (by omega)).2]
        refine wp_lstore_n dX9_ratio_45 (Nat.le_of_ble_eq_true rfl) ?_
        refine wp_aload_n dX9_ratio_46 rfl ?_
        refine wp_iload_n dX9_ratio_47 rfl ?_
        refine wp_cV1p dX9_ratio_48 ml_X9_245 vX9_reckon ⟨8, (RX9, TX9, 39), rfl, rfl, rfl⟩ (cX9_reckon_ E q.1 D q.2 dc M2 (RM_MT hR2 hk h0) hdt hR2.2.2.2.2.2 hdc hD) (Nat.le_of_ble_eq_true rfl) (Nat.le_of_ble_eq_true rfl) (Nat.le_of_ble_eq_true rfl) (Nat.le_refl _) (Nat.le_refl _) (fun v sh1 M3 hqq => ?_)
        obtain ⟨rfl, rfl, hF3, hrow3⟩ := hqq
        have hF4 := hF2.tr (vF_w hF3)
        have w3 : aL M3 149 0 = mL (Vq q dc D 0) := (hrow3 0 (by omega)).2
        refine wp_aload_n dX9_ratio_51 rfl ?_
        refine wp_lload_n dX9_ratio_52 rfl ?_
        refine wp_lconst (v := 0) dX9_ratio_53 rfl ?_
        refine wp_lcmp dX9_ratio_54 ?_
        refine wp_if_ne (tgt := 62) dX9_ratio_55 (by decide) (fun c55 => ?_) (fun c55 => ?_)
        · refine wp_iconst (v := 0) dX9_ratio_62 rfl ?_
          have hn : ¬ mL (Vq q dc F 0) = 0 := fun w => c55 ((lg_eq _ _).mpr w)
          exact wp_lv (tail D F M3 rfl rfl hD hF8 hd8 hf8 h0 hF4 w3 0 (by unfold rtC; rw [if_neg (fun w => hn (by have := w.2.2; rw [eF] at this; exact this))]) (iff_of_true rfl hn)) (by repeat (first | exact trivial | refine ⟨rfl, ?_⟩))
        · refine wp_iconst (v := 1) dX9_ratio_58 rfl ?_
          refine wp_goto (tgt := 63) dX9_ratio_59 (by decide) ?_
          have hy : mL (Vq q dc F 0) = 0 := (lg_eq _ _).mp c55
          exact wp_lv (tail D F M3 rfl rfl hD hF8 hd8 hf8 h0 hF4 w3 1 (by unfold rtC; rw [if_pos ⟨⟨hd8, hf8⟩, h0, by rw [eF]; exact hy⟩]) (iff_of_false (by decide) (fun w => w hy))) (by repeat (first | exact trivial | refine ⟨rfl, ?_⟩))
      · refine wp_ldc2 dX9_ratio_30 kl_X9_250 ?_
        refine wp_lreturn dX9_ratio_33 rfl (Nat.zero_le _) (Nat.zero_le _) ?_
        have hq0 : q.1 = 0 := nI_e (b := 0) (by omega) (by decide) c27
        have hx : ¬ rtX q dc d f := fun w => w.2.1 hq0
        have e1 : rtR q dc d f = -104 := by unfold rtR rtV; rw [if_neg hx, if_pos ⟨hd8, hf8⟩, if_pos hq0]
        have e2 : rtC q dc d f = 0 := by unfold rtC; rw [if_neg hx]
        rw [e1, e2]
        exact ⟨rfl, rfl, rfl, h0m, wF_out hw0⟩
    · refine wp_ldc2 dX9_ratio_19 kl_X9_248 ?_
      refine wp_lreturn dX9_ratio_22 rfl (Nat.zero_le _) (Nat.zero_le _) ?_
      have hb : ¬ (docI d ∧ docI f) := fun z => b2i_e0.mp c16 z.2
      have hx : ¬ rtX q dc d f := fun w => hb w.1
      have e1 : rtR q dc d f = -101 := by unfold rtR rtV; rw [if_neg hx, if_neg hb]
      have e2 : rtC q dc d f = 0 := by unfold rtC; rw [if_neg hx]
      rw [e1, e2]
      exact ⟨rfl, rfl, rfl, h0m, wF_out hw0⟩
