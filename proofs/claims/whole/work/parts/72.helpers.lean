/-! ===== the law's helpers ===== -/
abbrev mL_node : MM := (yL_node, RL, cL_node, 5, some .int)
abbrev mL_sign : MM := (yL_sign, RL, cL_sign, 6, some .int)
abbrev mL_out : MM := (yL_out, RL, cL_out, 4, some .int)
abbrev mL_ratio : MM := (yL_ratio, RL, cL_ratio, 5, some .int)
abbrev hhN : List (Nat × Nat × Nat × Nat) := [(0, 10, 13, 13)]
abbrev hhS : List (Nat × Nat × Nat × Nat) := [(0, 12, 15, 13), (0, 12, 19, 19)]
abbrev hhO : List (Nat × Nat × Nat × Nat) := [(0, 9, 12, 25), (0, 9, 15, 13)]
abbrev hhR : List (Nat × Nat × Nat × Nat) := [(0, 9, 12, 31)]
theorem hcN : cdH mL_node hhN ∈ BIG := big_t (i := 588) (by decide +kernel) (by decide +kernel)
theorem hcS : cdH mL_sign hhS ∈ BIG := big_t (i := 685) (by decide +kernel) (by decide +kernel)
theorem hcO : cdH mL_out hhO ∈ BIG := big_t (i := 712) (by decide +kernel) (by decide +kernel)
theorem hcR : cdH mL_ratio hhR ∈ BIG := big_t (i := 760) (by decide +kernel) (by decide +kernel)
theorem hsN : Cond.static yL_node ∈ BIG := big_t (i := 587) (by decide +kernel) (by decide +kernel)
theorem hsS : Cond.static yL_sign ∈ BIG := big_t (i := 684) (by decide +kernel) (by decide +kernel)
theorem hsO : Cond.static yL_out ∈ BIG := big_t (i := 711) (by decide +kernel) (by decide +kernel)
theorem hsR : Cond.static yL_ratio ∈ BIG := big_t (i := 759) (by decide +kernel) (by decide +kernel)
theorem castA : Cond.castable RJx00060 RJx00060 ∈ othW := List.mem_filter.mpr ⟨List.mem_of_getElem? (i := 651) (by decide +kernel), rfl⟩
theorem castC : Cond.castable RJx3273f RJx3273f ∈ othW := List.mem_filter.mpr ⟨List.mem_of_getElem? (i := 698) (by decide +kernel), rfl⟩
theorem castN : Cond.castable RJx5d777 RJx5d777 ∈ othW := List.mem_filter.mpr ⟨List.mem_of_getElem? (i := 736) (by decide +kernel), rfl⟩
theorem castR : Cond.castable RAr RAr ∈ othW := List.mem_filter.mpr ⟨List.mem_of_getElem? (i := 773) (by decide +kernel), rfl⟩
def PH (M : Mem) (tp gn : List Nat) (q : QQ) (o : Option (List Nat)) (dc : Nat → List (List Nat)) (c : Int32) (x : Int64) : PT := fun v sh1 M1 => sh1 = SH ∧ v = some (.int c) ∧ (c = 0 → aL M1 153 0 = x) ∧ RC M1 tp gn q o dc ∧ Out2 M M1
def ndC (q : QQ) (k : Int32) : Int32 := if hasI q k then 0 else 1
def ndR (q : QQ) (k w : Int32) : Int32 := if hasI q k then ndV q k w else 0
theorem RC_sL153 {M : Mem} {tp gn : List Nat} {q : QQ} {o : Option (List Nat)} {dc : Nat → List (List Nat)} {i : Nat} {x : Int64} (h : RC M tp gn q o dc) : RC (sL M 153 i x) tp gn q o dc := RC_eq h (fun p hp => sL_eq (by omega))
theorem Out2.sL153 {M M1 : Mem} {i : Nat} {x : Int64} (h : Out2 M M1) : Out2 M (sL M1 153 i x) := fun p h1 h2 => (h p h1 h2).tr (sL_eq (by omega))
theorem in01 : vp_in (0 : Int32) 1 := vp_in_nI (n := 0) (N := 1) (by decide) (by decide)
set_option maxRecDepth 100000 in
set_option maxHeartbeats 4000000 in
theorem cL_node_ (E : GE) (hlt : E.1.stackTraces = false) (tp gn : List Nat) (q : QQ) (o : Option (List Nat)) (dc : Nat → List (List Nat)) (M : Mem) (h : RC M tp gn q o dc) (k w : Int32) : SpH E mL_node hhN 8 1 8 [.ref 0, .int k, .int w, .ref 153] SH M (PH M tp gn q o dc (ndC q k) ((ndR q k w).toInt64)) := by
  refine spH_of rfl (by decide) (Nat.le_of_ble_eq_true rfl) ?_
  refine wp_aload_n dL_node_0 rfl ?_
  refine wp_iconst (v := 0) dL_node_1 rfl ?_
  refine wp_aload_n dL_node_2 rfl ?_
  refine wp_iload_n dL_node_3 rfl ?_
  refine wp_iload_n dL_node_4 rfl ?_
  show Wp _ _ _ _ _ ([.int k, .int w].reverse ++ .ref 0 :: [.int 0, .ref 153]) SH M
  refine wp_callVX (n := 2) (As := [.int k, .int w]) (rest := [.int 0, .ref 153]) dL_node_5 ml_L_7 vX8_node rfl ⟨7, (RX8, TX8, 10), rfl, rfl, rfl⟩ (cX8_node_ E hlt tp gn q o dc M h k w) (Nat.le_of_ble_eq_true rfl) (Nat.le_of_ble_eq_true rfl) (Nat.le_of_ble_eq_true rfl) (Nat.le_of_ble_eq_true rfl) (Nat.le_of_ble_eq_true rfl) (fun v sh1 M1 hq => ?_) (fun Ex sh1 M1 hx => ?_)
  · obtain ⟨hh, rfl, rfl, rfl⟩ := hq
    refine wp_i2l dL_node_8 ?_
    refine wp_lastore dL_node_9 rfl in01 ?_
    refine wp_goto (tgt := 17) dL_node_10 (by decide) ?_
    refine wp_iconst (v := 0) dL_node_17 rfl ?_
    refine wp_ireturnH dL_node_18 rfl rfl (Nat.le_of_ble_eq_true rfl) (Nat.le_of_ble_eq_true rfl) ?_
    rw [show ndC q k = 0 from if_pos hh]
    refine ⟨rfl, rfl, fun _ => ?_, RC_sL153 h, Out2.sL153 (fun p _ _ => EqP.rf)⟩
    rw [aL_sL, if_pos ⟨rfl, rfl⟩, show ndR q k w = ndV q k w from if_pos hh]
  · obtain ⟨rfl, hh, rfl, rfl⟩ := hx
    refine ⟨[], ⟨0, 10, 13, 13⟩, [], RJx00060, 4, 2, rfl, (fun z hz => nomatch hz), by decide, by decide, cl_L_13, castA, Or.inl ⟨dL_node_13, rfl⟩, Nat.le_of_ble_eq_true rfl, ?_⟩
    refine wp_iconst (v := 1) dL_node_15 rfl ?_
    refine wp_ireturnH dL_node_16 rfl rfl (Nat.le_of_ble_eq_true rfl) (Nat.le_of_ble_eq_true rfl) ?_
    rw [show ndC q k = 1 from if_neg hh]
    exact ⟨rfl, rfl, fun z => absurd z (by decide), h, fun p _ _ => EqP.rf⟩
set_option maxRecDepth 100000 in
set_option maxHeartbeats 4000000 in
theorem cL_sign_ (E : GE) (hlt : E.1.stackTraces = false) (tp gn : List Nat) (q : QQ) (o : Option (List Nat)) (dc : Nat → List (List Nat)) (M : Mem) (h : RC M tp gn q o dc) (hk : QOk q) (k j i : Int32) : SpH E mL_sign hhS 8 1 8 [.ref 0, .int k, .int j, .int i, .ref 153] SH M (PH M tp gn q o dc (sgC q k j i) ((sgR q k j i).toInt64)) := by
  refine spH_of rfl (by decide) (Nat.le_of_ble_eq_true rfl) ?_
  refine wp_aload dL_sign_0 rfl ?_
  refine wp_iconst (v := 0) dL_sign_2 rfl ?_
  refine wp_aload_n dL_sign_3 rfl ?_
  refine wp_iload_n dL_sign_4 rfl ?_
  refine wp_iload_n dL_sign_5 rfl ?_
  refine wp_iload_n dL_sign_6 rfl ?_
  show Wp _ _ _ _ _ ([.int k, .int j, .int i].reverse ++ .ref 0 :: [.int 0, .ref 153]) SH M
  refine wp_callVX (n := 3) (As := [.int k, .int j, .int i]) (rest := [.int 0, .ref 153]) dL_sign_7 ml_L_15 vX8_sign rfl ⟨7, (RX8, TX8, 10), rfl, rfl, rfl⟩ (cX8_sign_ E hlt tp gn q o dc M h hk k j i) (Nat.le_of_ble_eq_true rfl) (Nat.le_of_ble_eq_true rfl) (Nat.le_of_ble_eq_true rfl) (Nat.le_of_ble_eq_true rfl) (Nat.le_of_ble_eq_true rfl) (fun v sh1 M1 hq => ?_) (fun Ex sh1 M1 hx => ?_)
  · obtain ⟨⟨hh, h3, hv⟩, rfl, rfl, rfl⟩ := hq
    refine wp_i2l dL_sign_10 ?_
    refine wp_lastore dL_sign_11 rfl in01 ?_
    refine wp_goto (tgt := 23) dL_sign_12 (by decide) ?_
    refine wp_iconst (v := 0) dL_sign_23 rfl ?_
    refine wp_ireturnH dL_sign_24 rfl rfl (Nat.le_of_ble_eq_true rfl) (Nat.le_of_ble_eq_true rfl) ?_
    have hc : sgC q k j i = 0 := by unfold sgC; rw [if_pos hh, if_neg h3, if_neg hv]
    rw [hc]
    refine ⟨rfl, rfl, fun _ => ?_, RC_sL153 h, Out2.sL153 (fun p _ _ => EqP.rf)⟩
    rw [aL_sL, if_pos ⟨rfl, rfl⟩, show sgR q k j i = sgV (q.2 k.toNatClampNeg) j i from if_pos hc]
  · obtain ⟨hx, rfl, rfl⟩ := hx
    rcases hx with ⟨rfl, hx⟩ | ⟨rfl, hh, h3⟩
    · have hc : sgC q k j i = 1 := by
        unfold sgC
        rcases hx with hx | ⟨hh, h3, hv⟩
        · rw [if_neg hx]
        · rw [if_pos hh, if_neg h3, if_pos hv]
      refine ⟨[], ⟨0, 12, 15, 13⟩, [⟨0, 12, 19, 19⟩], RJx00060, 5, 2, rfl, (fun z hz => nomatch hz), by decide, by decide, cl_L_13, castA, Or.inl ⟨dL_sign_15, rfl⟩, Nat.le_of_ble_eq_true rfl, ?_⟩
      refine wp_iconst (v := 1) dL_sign_17 rfl ?_
      refine wp_ireturnH dL_sign_18 rfl rfl (Nat.le_of_ble_eq_true rfl) (Nat.le_of_ble_eq_true rfl) ?_
      rw [hc]
      exact ⟨rfl, rfl, fun z => absurd z (by decide), h, fun p _ _ => EqP.rf⟩
    · have hc : sgC q k j i = 2 := by
        unfold sgC
        rw [if_pos hh, if_pos h3]
      refine ⟨[⟨0, 12, 15, 13⟩], ⟨0, 12, 19, 19⟩, [], RJx3273f, 5, 2, rfl, (fun z hz => ?_), by decide, by decide, cl_L_19, castC, Or.inl ⟨dL_sign_19, rfl⟩, Nat.le_of_ble_eq_true rfl, ?_⟩
      · rcases List.mem_singleton.mp hz with rfl
        exact Or.inr ⟨by decide, RJx00060, cl_L_13, List.mem_cons_self⟩
      · refine wp_iconst (v := 2) dL_sign_21 rfl ?_
        refine wp_ireturnH dL_sign_22 rfl rfl (Nat.le_of_ble_eq_true rfl) (Nat.le_of_ble_eq_true rfl) ?_
        rw [hc]
        exact ⟨rfl, rfl, fun z => absurd z (by decide), h, fun p _ _ => EqP.rf⟩
set_option maxRecDepth 100000 in
set_option maxHeartbeats 4000000 in
theorem cL_out_ (E : GE) (hlt : E.1.stackTraces = false) (tp gn : List Nat) (q : QQ) (o : Option (List Nat)) (dc : Nat → List (List Nat)) (M : Mem) (h : RC M tp gn q o dc) (i : Int32) : SpH E mL_out hhO 8 1 8 [.ref 0, .int i, .ref 153] SH M (PH M tp gn q o dc (ouC o i) ((ouR o i).toInt64)) := by
  refine spH_of rfl (by decide) (Nat.le_of_ble_eq_true rfl) ?_
  refine wp_aload_n dL_out_0 rfl ?_
  refine wp_iconst (v := 0) dL_out_1 rfl ?_
  refine wp_aload_n dL_out_2 rfl ?_
  refine wp_iload_n dL_out_3 rfl ?_
  show Wp _ _ _ _ _ ([.int i].reverse ++ .ref 0 :: [.int 0, .ref 153]) SH M
  refine wp_callVX (n := 1) (As := [.int i]) (rest := [.int 0, .ref 153]) dL_out_4 ml_L_21 vX8_out rfl ⟨7, (RX8, TX8, 10), rfl, rfl, rfl⟩ (cX8_out_ E hlt tp gn q o dc M h i) (Nat.le_of_ble_eq_true rfl) (Nat.le_of_ble_eq_true rfl) (Nat.le_of_ble_eq_true rfl) (Nat.le_of_ble_eq_true rfl) (Nat.le_of_ble_eq_true rfl) (fun v sh1 M1 hq => ?_) (fun Ex sh1 M1 hx => ?_)
  · obtain ⟨⟨l, rfl, hio, rfl⟩, rfl, rfl⟩ := hq
    refine wp_i2l dL_out_7 ?_
    refine wp_lastore dL_out_8 rfl in01 ?_
    refine wp_goto (tgt := 18) dL_out_9 (by decide) ?_
    refine wp_iconst (v := 0) dL_out_18 rfl ?_
    refine wp_ireturnH dL_out_19 rfl rfl (Nat.le_of_ble_eq_true rfl) (Nat.le_of_ble_eq_true rfl) ?_
    have hc : ouC (some l) i = 0 := if_pos hio
    rw [hc]
    refine ⟨rfl, rfl, fun _ => ?_, RC_sL153 h, Out2.sL153 (fun p _ _ => EqP.rf)⟩
    rw [aL_sL, if_pos ⟨rfl, rfl⟩, show ouR (some l) i = nI (l.getD i.toNatClampNeg 0) from if_pos hio]
  · obtain ⟨hx, rfl, rfl⟩ := hx
    rcases hx with ⟨rfl, rfl⟩ | ⟨rfl, l, rfl, hio⟩
    · refine ⟨[], ⟨0, 9, 12, 25⟩, [⟨0, 9, 15, 13⟩], RJx5d777, 3, 1, rfl, (fun z hz => nomatch hz), by decide, by decide, cl_L_25, castN, Or.inr ⟨3, dL_out_12, rfl, rfl⟩, Nat.le_of_ble_eq_true rfl, ?_⟩
      refine wp_iconst (v := 1) dL_out_13 rfl ?_
      refine wp_ireturnH dL_out_14 rfl rfl (Nat.le_of_ble_eq_true rfl) (Nat.le_of_ble_eq_true rfl) ?_
      exact ⟨rfl, rfl, fun z => absurd z (show ¬ (1 : Int32) = 0 by decide), h, fun p _ _ => EqP.rf⟩
    · have hc : ouC (some l) i = 2 := if_neg hio
      refine ⟨[⟨0, 9, 12, 25⟩], ⟨0, 9, 15, 13⟩, [], RJx00060, 3, 1, rfl, (fun z hz => ?_), by decide, by decide, cl_L_13, castA, Or.inr ⟨3, dL_out_15, rfl, rfl⟩, Nat.le_of_ble_eq_true rfl, ?_⟩
      · rcases List.mem_singleton.mp hz with rfl
        exact Or.inr ⟨by decide, RJx5d777, cl_L_25, List.mem_cons_of_mem _ List.mem_cons_self⟩
      · refine wp_iconst (v := 2) dL_out_16 rfl ?_
        refine wp_ireturnH dL_out_17 rfl rfl (Nat.le_of_ble_eq_true rfl) (Nat.le_of_ble_eq_true rfl) ?_
        rw [hc]
        exact ⟨rfl, rfl, fun z => absurd z (by decide), h, fun p _ _ => EqP.rf⟩
set_option maxRecDepth 100000 in
set_option maxHeartbeats 4000000 in
theorem cL_ratio_ (E : GE) (hlt : E.1.stackTraces = false) (tp gn : List Nat) (q : QQ) (o : Option (List Nat)) (dc : Nat → List (List Nat)) (M : Mem) (h : RC M tp gn q o dc) (hk : QOk q) (hdc : dcOk dc) (d f : Int32) : SpH E mL_ratio hhR 9 1 8 [.ref 0, .int d, .int f, .ref 153] SH M (PH M tp gn q o dc (rtC q dc d f) (rtR q dc d f)) := by
  refine spH_of rfl (by decide) (Nat.le_of_ble_eq_true rfl) ?_
  refine wp_aload_n dL_ratio_0 rfl ?_
  refine wp_iconst (v := 0) dL_ratio_1 rfl ?_
  refine wp_aload_n dL_ratio_2 rfl ?_
  refine wp_iload_n dL_ratio_3 rfl ?_
  refine wp_iload_n dL_ratio_4 rfl ?_
  show Wp _ _ _ _ _ ([.int d, .int f].reverse ++ .ref 0 :: [.int 0, .ref 153]) SH M
  refine wp_callVX (n := 2) (As := [.int d, .int f]) (rest := [.int 0, .ref 153]) dL_ratio_5 ml_L_27 vX8_ratio rfl ⟨7, (RX8, TX8, 10), rfl, rfl, rfl⟩ (cX8_ratio_ E hlt tp gn q o dc M h hk hdc d f) (Nat.le_of_ble_eq_true rfl) (Nat.le_of_ble_eq_true rfl) (Nat.le_of_ble_eq_true rfl) (Nat.le_of_ble_eq_true rfl) (Nat.le_of_ble_eq_true rfl) (fun v sh1 M1 hq => ?_) (fun Ex sh1 M1 hx => ?_)
  · obtain ⟨hx, rfl, rfl, hF⟩ := hq
    refine wp_lastore dL_ratio_8 rfl in01 ?_
    refine wp_goto (tgt := 16) dL_ratio_9 (by decide) ?_
    refine wp_iconst (v := 0) dL_ratio_16 rfl ?_
    refine wp_ireturnH dL_ratio_17 rfl rfl (Nat.le_of_ble_eq_true rfl) (Nat.le_of_ble_eq_true rfl) ?_
    have hc : rtC q dc d f = 0 := if_neg hx
    rw [hc]
    refine ⟨rfl, rfl, fun _ => ?_, RC_sL153 (RC_qF h hF), Out2.sL153 (fun p h1 _ => qF_out hF p h1)⟩
    rw [aL_sL, if_pos ⟨rfl, rfl⟩, show rtR q dc d f = rtV q dc d f from if_neg hx]
  · obtain ⟨rfl, hx, rfl, hF⟩ := hx
    have hc : rtC q dc d f = 1 := if_pos hx
    refine ⟨[], ⟨0, 9, 12, 31⟩, [], RAr, 4, 2, rfl, (fun z hz => nomatch hz), by decide, by decide, cl_L_31, castR, Or.inl ⟨dL_ratio_12, rfl⟩, Nat.le_of_ble_eq_true rfl, ?_⟩
    refine wp_iconst (v := 1) dL_ratio_14 rfl ?_
    refine wp_ireturnH dL_ratio_15 rfl rfl (Nat.le_of_ble_eq_true rfl) (Nat.le_of_ble_eq_true rfl) ?_
    rw [hc]
    exact ⟨rfl, rfl, fun z => absurd z (by decide), RC_qF h hF, fun p h1 _ => qF_out hF p h1⟩
