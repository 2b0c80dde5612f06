/-! ===== the model: matching ===== -/
abbrev tF (M M1 : Mem) : Prop := Fr [] [147] [] M M1
theorem NX.ft {M M1 : Mem} {k : Nat} {x : ND} (h : NX M k x) (q : tF M M1) : NX M1 k x := ⟨h.1.fr q, h.2.1, h.2.2.1.fr q (fun j hj => by simp; omega), h.2.2.2⟩
def WV (M : Mem) (vi : Nat) (v : List Nat) : Prop := vi < 384 ∧ aI M 145 vi = nI v.length ∧ (∀ i, i < v.length → aI M 146 (8 * vi + i) = nI (v.getD i 0)) ∧ okL v
theorem WV.ft {M M1 : Mem} {vi : Nat} {v : List Nat} (h : WV M vi v) (q : tF M M1) : WV M1 vi v := ⟨h.1, (q.2.1 _ (by simp) _).trans h.2.1, fun i hi => (q.2.1 _ (by simp) _).trans (h.2.2.1 i hi), h.2.2.2⟩
theorem mu5 (k j : Nat) : 5 * nI k + nI j = nI (5 * k + j) := by rw [show (5 : Int32) = nI 5 from rfl, pk_mul, nI_add]
theorem mu8 (k j : Nat) : 8 * nI k + nI j = nI (8 * k + j) := by rw [show (8 : Int32) = nI 8 from rfl, pk_mul, nI_add]
theorem mu9 (k j : Nat) : 9 * nI k + nI j = nI (9 * k + j) := by rw [show (9 : Int32) = nI 9 from rfl, pk_mul, nI_add]
theorem mu40 (k j : Nat) : 40 * nI k + nI j = nI (40 * k + j) := by rw [show (40 : Int32) = nI 40 from rfl, pk_mul, nI_add]
theorem mu48 (k j i : Nat) : 40 * nI k + 8 * nI j + nI i = nI (40 * k + 8 * j + i) := by rw [show (8 : Int32) = nI 8 from rfl, pk_mul, mu40, nI_add]
theorem mu5' (k : Nat) : 5 * nI k = nI (5 * k) := by rw [show (5 : Int32) = nI 5 from rfl, pk_mul]
def agI (v w : List Nat) : Int32 := Int32.ofInt (agn v w)
theorem nI_subI (a b : Nat) : nI a - nI b = Int32.ofInt ((a : Int) - (b : Int)) := by
  rw [Int32.ofInt_sub]; rfl
theorem agn_nl (w : List Nat) : agn [] w = -(w.length : Int) := by cases w <;> simp [agn]
theorem agn_nr (v : List Nat) : agn v [] = (v.length : Int) := by cases v <;> simp [agn]
theorem agn_b : ∀ (v w : List Nat), v.length ≤ 8 → w.length ≤ 8 → (∀ x ∈ v, x < 128 ∧ 0 < x) → (∀ x ∈ w, x < 128 ∧ 0 < x) → -128 ≤ agn v w ∧ agn v w ≤ 128
  | [], w, _, h, _, _ => by rw [agn_nl]; omega
  | a :: v, [], h, _, _, _ => by rw [agn_nr]; omega
  | a :: v, b :: w, h1, h2, hv, hw => by
    show -128 ≤ (if a = b then agn v w else (a : Int) - (b : Int)) ∧ (if a = b then agn v w else (a : Int) - (b : Int)) ≤ 128
    simp only [List.length_cons] at h1 h2
    have := agn_b v w (by omega) (by omega) (fun x hx => hv x (List.mem_cons_of_mem _ hx)) (fun x hx => hw x (List.mem_cons_of_mem _ hx))
    have ha := hv a List.mem_cons_self
    have hb := hw b List.mem_cons_self
    split <;> omega
theorem agI_t {v w : List Nat} (hv : okL v) (hw : okL w) : (agI v w).toInt = agn v w := by
  have := agn_b v w hv.1 hw.1 hv.2 hw.2
  unfold agI
  rw [Int32.toInt_ofInt, Int.bmod_def]
  simp only [show Int32.size = 4294967296 from rfl]
  split <;> omega
theorem agI_le {v w : List Nat} (hv : okL v) (hw : okL w) : agI v w ≤ 0 ↔ agn v w ≤ 0 := by
  rw [Int32.le_iff_toInt_le, agI_t hv hw]; rfl
theorem agI_ge {v w : List Nat} (hv : okL v) (hw : okL w) : 0 ≤ agI v w ↔ 0 ≤ agn v w := by
  rw [Int32.le_iff_toInt_le, agI_t hv hw]; rfl
theorem agI_lt {v w : List Nat} (hv : okL v) (hw : okL w) : agI v w < 0 ↔ agn v w < 0 := by
  rw [Int32.lt_iff_toInt_lt, agI_t hv hw]; rfl
theorem agI_gt {v w : List Nat} (hv : okL v) (hw : okL w) : 0 < agI v w ↔ 0 < agn v w := by
  rw [Int32.lt_iff_toInt_lt, agI_t hv hw]; rfl
theorem agI_0 {v w : List Nat} (hv : okL v) (hw : okL w) : agI v w = 0 ↔ v = w := by
  rw [← Int32.toInt_inj, agI_t hv hw]
  constructor
  · intro h; exact agn_0 v w h
  · intro h; rw [h, agn_refl]; rfl
theorem drop_c {v : List Nat} {i : Nat} (h : i < v.length) : v.drop i = v.getD i 0 :: v.drop (i + 1) := by
  rw [List.drop_eq_getElem_cons h, List.getD_eq_getElem?_getD, List.getElem?_eq_getElem h]; rfl
theorem agn_dc {v w : List Nat} {i : Nat} (h : i < v.length) (k : i < w.length) : agn (v.drop i) (w.drop i) = if v.getD i 0 = w.getD i 0 then agn (v.drop (i + 1)) (w.drop (i + 1)) else ((v.getD i 0 : Nat) : Int) - ((w.getD i 0 : Nat) : Int) := by
  rw [drop_c h, drop_c k]; rfl
set_option maxRecDepth 100000 in
set_option maxHeartbeats 4000000 in
theorem cX9_against_ (E : GE) (vi k j : Nat) (v : List Nat) (x : ND) (M : Mem) (hn : NX M k x) (hv : WV M vi v) (hx : nOk x) (hj : j < (nWo x).length) : Sp E mX9_against 0 0 0 [.ref 121, .int (nI vi), .int (nI k), .int (nI j)] SH M (RV (some (.int (agI v (nWd x j)))) SH M) := by
  refine sp_of vX9_against.1 rfl (Nat.le_of_ble_eq_true rfl) ?_
  have hG := hn.1
  have ho := hn.2.2.2
  have o0 := nd_okL hx ho j
  have h8 := hv.2.2.2.1
  have hw8 := o0.1
  have hj5 := ho.1
  have hk := hn.2.1
  have hvi := hv.1
  obtain ⟨nl, ns⟩ := hn.2.2.1.2.2.2.2.2.2.2 j hj
  have hend : ∀ i, i ≤ v.length → i ≤ (nWd x j).length → (i = v.length ∨ i = (nWd x j).length) → agn v (nWd x j) = agn (v.drop i) ((nWd x j).drop i) → Wp (xM E mX9_against 0 0 0 SH.length (RV (some (.int (agI v (nWd x j)))) SH M)) 0 0 83 [(6, .int (nI i)), (5, .int (nI (nWd x j).length)), (4, .int (nI v.length)), (1, .int (nI vi)), (2, .int (nI k)), (3, .int (nI j)), (0, .ref 121)] [] SH M := by
    intro i h1 h2 hor ha
    refine wp_iload dX9_against_83 rfl ?_
    refine wp_iload dX9_against_85 rfl ?_
    refine wp_isub dX9_against_87 ?_
    refine wp_ireturn dX9_against_88 rfl rfl (Nat.zero_le _) (Nat.zero_le _) ?_
    have e : nI v.length - nI (nWd x j).length = agI v (nWd x j) := by
      rw [nI_subI]
      unfold agI
      rw [ha]
      rcases hor with h | h
      · rw [h, List.drop_length, agn_nl, List.length_drop]
        congr 1; omega
      · rw [h, List.drop_length, agn_nr, List.length_drop]
        congr 1; omega
    rw [e]
    exact ⟨rfl, rfl, rfl⟩
  have loop : ∀ (r i : Nat), i + r = v.length → i ≤ (nWd x j).length → agn v (nWd x j) = agn (v.drop i) ((nWd x j).drop i) → Wp (xM E mX9_against 0 0 0 SH.length (RV (some (.int (agI v (nWd x j)))) SH M)) 0 0 23 [(6, .int (nI i)), (5, .int (nI (nWd x j).length)), (4, .int (nI v.length)), (1, .int (nI vi)), (2, .int (nI k)), (3, .int (nI j)), (0, .ref 121)] [] SH M := by
    intro r
    induction r with
    | zero =>
      intro i hi hw ha
      have hi : i = v.length := by omega
      subst hi
      refine wp_iload dX9_against_23 rfl ?_
      refine wp_iload dX9_against_25 rfl ?_
      refine wp_icmp_ge (tgt := 83) dX9_against_27 (by decide) (fun c27 => ?_) (fun c27 => absurd (Int32.le_refl _) c27)
      exact wp_lv (hend v.length (Nat.le_refl _) hw (Or.inl rfl) ha) (by repeat (first | exact trivial | refine ⟨rfl, ?_⟩))
    | succ r ih =>
      intro i hi hw ha
      have hil : i < v.length := by omega
      have sv := hv.2.2.1 i hil
      have hcl : (nI (8 * vi + i)).toNatClampNeg = 8 * vi + i := nI_clamp (by omega)
      have hcl2 : (nI (40 * k + 8 * j + i)).toNatClampNeg = 40 * k + 8 * j + i := nI_clamp (by omega)
      refine wp_iload dX9_against_23 rfl ?_
      refine wp_iload dX9_against_25 rfl ?_
      refine wp_icmp_ge (tgt := 83) dX9_against_27 (by decide) (fun c27 => absurd c27 (nI_ge hil (by omega))) (fun c27 => ?_)
      refine wp_iload dX9_against_30 rfl ?_
      refine wp_iload dX9_against_32 rfl ?_
      refine wp_icmp_ge (tgt := 83) dX9_against_34 (by decide) (fun c34 => ?_) (fun c34 => ?_)
      · have hwl : (nWd x j).length ≤ i := Nat.le_of_not_lt fun q => nI_ge q (by omega) c34
        exact wp_lv (hend i (by omega) hw (Or.inr (by omega)) ha) (by repeat (first | exact trivial | refine ⟨rfl, ?_⟩))
      · have hiw : i < (nWd x j).length := Nat.lt_of_not_le fun q => c34 (nI_le q (by omega))
        refine wp_aload_n dX9_against_37 rfl ?_
        refine wp_getR dX9_against_38 fl_X9_89 rfl rfl (hG 32) ?_
        refine wp_bipush (v := 8) dX9_against_41 (by decide) ?_
        refine wp_iload_n dX9_against_43 rfl ?_
        refine wp_imul dX9_against_44 ?_
        refine wp_iload dX9_against_45 rfl ?_
        refine wp_iadd dX9_against_47 ?_
        rw [mu8]
        refine wp_iaload dX9_against_48 rfl (vp_in_nI (by omega) (by decide)) ?_
        rw [hcl, sv]
        refine wp_aload_n dX9_against_49 rfl ?_
        refine wp_getR dX9_against_50 fl_X9_68 rfl rfl (hG 22) ?_
        refine wp_bipush (v := 40) dX9_against_53 (by decide) ?_
        refine wp_iload_n dX9_against_55 rfl ?_
        refine wp_imul dX9_against_56 ?_
        refine wp_bipush (v := 8) dX9_against_57 (by decide) ?_
        refine wp_iload_n dX9_against_59 rfl ?_
        refine wp_imul dX9_against_60 ?_
        refine wp_iadd dX9_against_61 ?_
        refine wp_iload dX9_against_62 rfl ?_
        refine wp_iadd dX9_against_64 ?_
        rw [mu48]
        refine wp_iaload dX9_against_65 rfl (vp_in_nI (by omega) (by decide)) ?_
        rw [hcl2, show aI M 140 (40 * k + 8 * j + i) = nI ((nWd x j).getD i 0) from ns i hiw]
        refine wp_isub dX9_against_66 ?_
        refine wp_istore dX9_against_67 (Nat.le_of_ble_eq_true rfl) ?_
        refine wp_iload dX9_against_69 rfl ?_
        refine wp_if_eq (tgt := 77) dX9_against_71 (by decide) (fun c71 => ?_) (fun c71 => ?_)
        · refine wp_iinc dX9_against_77 rfl (i_inc _) (Nat.le_of_ble_eq_true rfl) ?_
          refine wp_goto (tgt := 23) dX9_against_80 (by decide) ?_
          have he : v.getD i 0 = (nWd x j).getD i 0 := by
            have b1 := okL_at hv.2.2.2 i
            have b2 := okL_at o0 i
            rw [nI_subI, ← Int32.toInt_inj, Int32.toInt_ofInt, Int.bmod_def] at c71
            simp only [show Int32.size = 4294967296 from rfl] at c71
            have c71 : _ = (0 : Int) := c71
            split at c71 <;> omega
          refine wp_lv (ih (i + 1) (by omega) (by omega) ?_) (by repeat (first | exact trivial | refine ⟨rfl, ?_⟩))
          rw [ha, agn_dc hil hiw, if_pos he]
        · refine wp_iload dX9_against_74 rfl ?_
          refine wp_ireturn dX9_against_76 rfl rfl (Nat.zero_le _) (Nat.zero_le _) ?_
          have he : ¬ v.getD i 0 = (nWd x j).getD i 0 := fun e => c71 (by rw [e, Int32.sub_self])
          rw [nI_subI, show Int32.ofInt (((v.getD i 0 : Nat) : Int) - (((nWd x j).getD i 0 : Nat) : Int)) = agI v (nWd x j) by unfold agI; rw [ha, agn_dc hil hiw, if_neg he]]
          exact ⟨rfl, rfl, rfl⟩
  have hclv : (nI vi).toNatClampNeg = vi := nI_clamp (by omega)
  have hcl5 : (nI (5 * k + j)).toNatClampNeg = 5 * k + j := nI_clamp (by omega)
  refine wp_aload_n dX9_against_0 rfl ?_
  refine wp_getR dX9_against_1 fl_X9_86 rfl rfl (hG 31) ?_
  refine wp_iload_n dX9_against_4 rfl ?_
  refine wp_iaload dX9_against_5 rfl (vp_in_nI (by omega) (by decide)) ?_
  rw [hclv, hv.2.1]
  refine wp_istore dX9_against_6 (Nat.le_of_ble_eq_true rfl) ?_
  refine wp_aload_n dX9_against_8 rfl ?_
  refine wp_getR dX9_against_9 fl_X9_65 rfl rfl (hG 21) ?_
  refine wp_iconst (v := 5) dX9_against_12 rfl ?_
  refine wp_iload_n dX9_against_13 rfl ?_
  refine wp_imul dX9_against_14 ?_
  refine wp_iload_n dX9_against_15 rfl ?_
  refine wp_iadd dX9_against_16 ?_
  rw [mu5]
  refine wp_iaload dX9_against_17 rfl (vp_in_nI (by omega) (by decide)) ?_
  rw [hcl5, show aI M 139 (5 * k + j) = nI (nWd x j).length from nl]
  refine wp_istore dX9_against_18 (Nat.le_of_ble_eq_true rfl) ?_
  refine wp_iconst (v := 0) dX9_against_20 rfl ?_
  refine wp_istore dX9_against_21 (Nat.le_of_ble_eq_true rfl) ?_
  exact wp_lv (loop v.length 0 (by omega) (Nat.zero_le _) rfl) (by repeat (first | exact trivial | refine ⟨rfl, ?_⟩))
theorem min_n2 {a b : Nat} (ha : a < 2 ^ 31) (hb : b < 2 ^ 31) : (if nI b ≤ nI a then nI b else nI a) = nI (min a b) := by
  have e : nI b ≤ nI a ↔ b ≤ a := by
    rw [Int32.le_iff_toInt_le, nI_toInt ha, nI_toInt hb]; omega
  by_cases c : b ≤ a
  · rw [if_pos (e.mpr c), Nat.min_eq_right (by omega)]
  · rw [if_neg (fun q => c (e.mp q)), Nat.min_eq_left (by omega)]
theorem nI_le0 {a : Nat} (ha : a < 2 ^ 31) : nI a ≤ 0 ↔ a = 0 := by
  rw [Int32.le_iff_toInt_le, nI_toInt ha]
  show (a : Int) ≤ 0 ↔ _
  omega
theorem nI_lti {a b : Nat} (ha : a < 2 ^ 31) (hb : b < 2 ^ 31) : nI a < nI b ↔ a < b := by
  rw [Int32.lt_iff_toInt_lt, nI_toInt ha, nI_toInt hb]; omega
set_option maxRecDepth 100000 in
set_option maxHeartbeats 4000000 in
theorem cX9_changes_ (E : GE) (vi k : Nat) (v : List Nat) (x : ND) (M : Mem) (hn : NX M k x) (hv : WV M vi v) (hx : nOk x) (hj : 0 < (nWo x).length) : Sp E mX9_changes 1 0 0 [.ref 121, .int (nI vi), .int (nI k)] SH M (fun o sh1 M1 => sh1 = SH ∧ o = some (.int (nI (ed v (nWd x 0) v.length (nWd x 0).length))) ∧ tF M M1) := by
  refine sp_of vX9_changes.1 rfl (Nat.le_of_ble_eq_true rfl) ?_
  obtain ⟨w, hw⟩ : ∃ w, w = nWd x 0 := ⟨_, rfl⟩
  have ho := hn.2.2.2
  have o0 := nd_okL hx ho 0
  obtain ⟨nl, ns⟩ := hn.2.2.1.2.2.2.2.2.2.2 0 hj
  rw [← hw] at o0 nl ns ⊢
  have h8 := hv.2.2.2.1
  have hw8 := o0.1
  have hk := hn.2.1
  have hvi := hv.1
  have hfin : ∀ M1 : Mem, tF M M1 → (∀ i, i ≤ v.length → ∀ j, j ≤ w.length → aI M1 147 (9 * i + j) = nI (ed v w i j)) → Wp (xM E mX9_changes 1 0 0 SH.length (fun o sh1 M1 => sh1 = SH ∧ o = some (.int (nI (ed v w v.length w.length))) ∧ tF M M1)) 0 0 178 [(4, .int (nI w.length)), (3, .int (nI v.length)), (1, .int (nI vi)), (2, .int (nI k)), (0, .ref 121)] [] SH M1 := by
    intro M1 hF ha
    have hG1 := (hn.ft hF).1
    refine wp_aload_n dX9_changes_178 rfl ?_
    refine wp_getR dX9_changes_179 fl_X9_92 rfl rfl (hG1 33) ?_
    refine wp_bipush (v := 9) dX9_changes_182 (by decide) ?_
    refine wp_iload_n dX9_changes_184 rfl ?_
    refine wp_imul dX9_changes_185 ?_
    refine wp_iload dX9_changes_186 rfl ?_
    refine wp_iadd dX9_changes_188 ?_
    rw [mu9]
    refine wp_iaload dX9_changes_189 rfl (vp_in_nI (by omega) (by decide)) ?_
    refine wp_ireturn dX9_changes_190 rfl rfl (Nat.zero_le _) (Nat.zero_le _) ?_
    rw [nI_clamp (show 9 * v.length + w.length < 2 ^ 31 by omega), ha v.length (Nat.le_refl _) w.length (Nat.le_refl _)]
    exact ⟨rfl, rfl, hF⟩
  have inner : ∀ (i : Nat) (hi : i ≤ v.length) (kk : ∀ M2 : Mem, tF M M2 → (∀ p, p < i + 1 → ∀ j, j ≤ w.length → aI M2 147 (9 * p + j) = nI (ed v w p j)) → Wp (xM E mX9_changes 1 0 0 SH.length (fun o sh1 M1 => sh1 = SH ∧ o = some (.int (nI (ed v w v.length w.length))) ∧ tF M M1)) 0 0 172 [(5, .int (nI i)), (4, .int (nI w.length)), (3, .int (nI v.length)), (1, .int (nI vi)), (2, .int (nI k)), (0, .ref 121)] [] SH M2) (r j : Nat) (M1 : Mem), j + r = w.length + 1 → tF M M1 → (∀ p, p < i → ∀ q, q ≤ w.length → aI M1 147 (9 * p + q) = nI (ed v w p q)) → (∀ q, q < j → aI M1 147 (9 * i + q) = nI (ed v w i q)) → Wp (xM E mX9_changes 1 0 0 SH.length (fun o sh1 M1 => sh1 = SH ∧ o = some (.int (nI (ed v w v.length w.length))) ∧ tF M M1)) 0 0 29 [(6, .int (nI j)), (5, .int (nI i)), (4, .int (nI w.length)), (3, .int (nI v.length)), (1, .int (nI vi)), (2, .int (nI k)), (0, .ref 121)] [] SH M1 := by
    intro i hi kk r
    induction r with
    | zero =>
      intro j M1 hj hF ha hb
      have hj : j = w.length + 1 := by omega
      subst hj
      refine wp_iload dX9_changes_29 rfl ?_
      refine wp_iload dX9_changes_31 rfl ?_
      refine wp_icmp_gt (tgt := 172) dX9_changes_33 (by decide) (fun c33 => ?_) (fun c33 => absurd ((nI_lti (by omega) (by omega)).mpr (Nat.lt_succ_self _)) c33)
      refine wp_lv (kk M1 hF (fun p hp q hq => ?_)) (by repeat (first | exact trivial | refine ⟨rfl, ?_⟩))
      by_cases c : p = i
      · rw [c]; exact hb q (by omega)
      · exact ha p (by omega) q hq
    | succ r ih =>
      intro j M1 hj hF ha hb
      have hjl : j ≤ w.length := by omega
      have hn1 := hn.ft hF
      have hG1 := hn1.1
      have hv1 := hv.ft hF
      obtain ⟨nl1, ns1⟩ := hn1.2.2.1.2.2.2.2.2.2.2 0 (by assumption)
      rw [← hw] at nl1 ns1
      have ij1 : (nI (9 * i + j)).toNatClampNeg = 9 * i + j := nI_clamp (by omega)
      have J151 : Wp (xM E mX9_changes 1 0 0 SH.length (fun o sh1 M1 => sh1 = SH ∧ o = some (.int (nI (ed v w v.length w.length))) ∧ tF M M1)) 0 0 151 [(7, .int (nI (ed v w i j))), (6, .int (nI j)), (5, .int (nI i)), (4, .int (nI w.length)), (3, .int (nI v.length)), (1, .int (nI vi)), (2, .int (nI k)), (0, .ref 121)] [] SH M1 := by
        refine wp_aload_n dX9_changes_151 rfl ?_
        refine wp_getR dX9_changes_152 fl_X9_92 rfl rfl (hG1 33) ?_
        refine wp_bipush (v := 9) dX9_changes_155 (by decide) ?_
        refine wp_iload dX9_changes_157 rfl ?_
        refine wp_imul dX9_changes_159 ?_
        refine wp_iload dX9_changes_160 rfl ?_
        refine wp_iadd dX9_changes_162 ?_
        rw [mu9]
        refine wp_iload dX9_changes_163 rfl ?_
        refine wp_iastore dX9_changes_165 rfl (vp_in_nI (by omega) (by decide)) ?_
        refine wp_iinc dX9_changes_166 rfl (i_inc _) (Nat.le_of_ble_eq_true rfl) ?_
        refine wp_goto (tgt := 29) dX9_changes_169 (by decide) ?_
        rw [ij1]
        refine wp_lv (ih (j + 1) _ (by omega) (hF.sA (by simp)) (fun p hp q hq => ?_) (fun q hq => ?_)) (by repeat (first | exact trivial | refine ⟨rfl, ?_⟩))
        · rw [aI_sA, if_neg (by omega)]; exact ha p hp q hq
        · rw [aI_sA]
          by_cases c : q = j
          · rw [c, if_pos ⟨rfl, rfl⟩]
          · rw [if_neg (by omega)]; exact hb q (by omega)
      have J89 : ∀ o : Nat, 1 ≤ i → 1 ≤ j → o = (if v.getD (i - 1) 0 = w.getD (j - 1) 0 then 0 else 1) → ∀ z : Int32, Wp (xM E mX9_changes 1 0 0 SH.length (fun o sh1 M1 => sh1 = SH ∧ o = some (.int (nI (ed v w v.length w.length))) ∧ tF M M1)) 0 0 89 [(7, .int z), (6, .int (nI j)), (5, .int (nI i)), (4, .int (nI w.length)), (3, .int (nI v.length)), (1, .int (nI vi)), (2, .int (nI k)), (0, .ref 121)] [.int (nI o)] SH M1 := by
        intro o hi1 hj1 ho z
        have ho1 : o ≤ 1 := by rw [ho]; split <;> decide
        have eed : ed v w i j = min (ed v w (i - 1) (j - 1) + o) (1 + min (ed v w (i - 1) j) (ed v w i (j - 1))) := by
          obtain ⟨a, rfl⟩ : ∃ a, i = a + 1 := ⟨i - 1, by omega⟩
          obtain ⟨b, rfl⟩ : ∃ b, j = b + 1 := ⟨j - 1, by omega⟩
          rw [ho]
          exact ed_ss v w a b
        have l1 := ed_le v w (i - 1) (j - 1)
        have l2 := ed_le v w (i - 1) j
        have l3 := ed_le v w i (j - 1)
        have r1 := ha (i - 1) (by omega) (j - 1) (by omega)
        have r2 := ha (i - 1) (by omega) j hjl
        have r3 := hb (j - 1) (by omega)
        have q1 : 9 * (nI i - 1) + nI j - 1 = nI (9 * (i - 1) + (j - 1)) := by rw [nI_m hi1, mu9, nI_m (by omega)]; congr 1; omega
        have q2 : 9 * (nI i - 1) + nI j = nI (9 * (i - 1) + j) := by rw [nI_m hi1, mu9]
        have q3 : 9 * nI i + nI j - 1 = nI (9 * i + (j - 1)) := by rw [mu9, nI_m (by omega)]; congr 1; omega
        have k1 : (nI (9 * (i - 1) + (j - 1))).toNatClampNeg = 9 * (i - 1) + (j - 1) := nI_clamp (by omega)
        have k2 : (nI (9 * (i - 1) + j)).toNatClampNeg = 9 * (i - 1) + j := nI_clamp (by omega)
        have k3 : (nI (9 * i + (j - 1))).toNatClampNeg = 9 * i + (j - 1) := nI_clamp (by omega)
        have e1 : (1 : Int32) + nI (min (ed v w (i - 1) j) (ed v w i (j - 1))) = nI (1 + min (ed v w (i - 1) j) (ed v w i (j - 1))) := nI_add 1 _
        refine wp_istore dX9_changes_89 (Nat.le_of_ble_eq_true rfl) ?_
        refine wp_aload_n dX9_changes_91 rfl ?_
        refine wp_getR dX9_changes_92 fl_X9_92 rfl rfl (hG1 33) ?_
        refine wp_bipush (v := 9) dX9_changes_95 (by decide) ?_
        refine wp_iload dX9_changes_97 rfl ?_
        refine wp_iconst (v := 1) dX9_changes_99 rfl ?_
        refine wp_isub dX9_changes_100 ?_
        refine wp_imul dX9_changes_101 ?_
        refine wp_iload dX9_changes_102 rfl ?_
        refine wp_iadd dX9_changes_104 ?_
        refine wp_iconst (v := 1) dX9_changes_105 rfl ?_
        refine wp_isub dX9_changes_106 ?_
        rw [q1]
        refine wp_iaload dX9_changes_107 rfl (vp_in_nI (by omega) (by decide)) ?_
        rw [k1, r1]
        refine wp_iload dX9_changes_108 rfl ?_
        refine wp_iadd dX9_changes_110 ?_
        rw [nI_add]
        refine wp_iconst (v := 1) dX9_changes_111 rfl ?_
        refine wp_aload_n dX9_changes_112 rfl ?_
        refine wp_getR dX9_changes_113 fl_X9_92 rfl rfl (hG1 33) ?_
        refine wp_bipush (v := 9) dX9_changes_116 (by decide) ?_
        refine wp_iload dX9_changes_118 rfl ?_
        refine wp_iconst (v := 1) dX9_changes_120 rfl ?_
        refine wp_isub dX9_changes_121 ?_
        refine wp_imul dX9_changes_122 ?_
        refine wp_iload dX9_changes_123 rfl ?_
        refine wp_iadd dX9_changes_125 ?_
        rw [q2]
        refine wp_iaload dX9_changes_126 rfl (vp_in_nI (by omega) (by decide)) ?_
        rw [k2, r2]
        refine wp_aload_n dX9_changes_127 rfl ?_
        refine wp_getR dX9_changes_128 fl_X9_92 rfl rfl (hG1 33) ?_
        refine wp_bipush (v := 9) dX9_changes_131 (by decide) ?_
        refine wp_iload dX9_changes_133 rfl ?_
        refine wp_imul dX9_changes_135 ?_
        refine wp_iload dX9_changes_136 rfl ?_
        refine wp_iadd dX9_changes_138 ?_
        refine wp_iconst (v := 1) dX9_changes_139 rfl ?_
        refine wp_isub dX9_changes_140 ?_
        rw [q3]
        refine wp_iaload dX9_changes_141 rfl (vp_in_nI (by omega) (by decide)) ?_
        rw [k3, r3]
        refine wp_cS2i dX9_changes_142 ml_X9_219 sX9_least (cX9_least_ E _ _ _ _) (Nat.le_of_ble_eq_true rfl) (Nat.le_of_ble_eq_true rfl) (Nat.le_of_ble_eq_true rfl) ?_
        rw [min_n2 (by omega) (by omega)]
        refine wp_iadd dX9_changes_145 ?_
        rw [e1]
        refine wp_cS2i dX9_changes_146 ml_X9_219 sX9_least (cX9_least_ E _ _ _ _) (Nat.le_of_ble_eq_true rfl) (Nat.le_of_ble_eq_true rfl) (Nat.le_of_ble_eq_true rfl) ?_
        rw [min_n2 (by omega) (by omega), ← eed]
        refine wp_istore dX9_changes_149 (Nat.le_of_ble_eq_true rfl) ?_
        exact wp_lv J151 (by repeat (first | exact trivial | refine ⟨rfl, ?_⟩))
      refine wp_iload dX9_changes_29 rfl ?_
      refine wp_iload dX9_changes_31 rfl ?_
      refine wp_icmp_gt (tgt := 172) dX9_changes_33 (by decide) (fun c33 => absurd c33 (fun q => Nat.not_lt_of_le hjl ((nI_lti (by omega) (by omega)).mp q))) (fun c33 => ?_)
      refine wp_iload dX9_changes_36 rfl ?_
      refine wp_iload dX9_changes_38 rfl ?_
      refine wp_iadd dX9_changes_40 ?_
      refine wp_istore dX9_changes_41 (Nat.le_of_ble_eq_true rfl) ?_
      refine wp_iload dX9_changes_43 rfl ?_
      refine wp_if_le (tgt := 151) dX9_changes_45 (by decide) (fun c45 => ?_) (fun c45 => ?_)
      · have hi0 : i = 0 := (nI_le0 (by omega)).mp c45
        have := J151
        rw [show ed v w i j = i + j by rw [hi0, ed_0]; omega, ← nI_add] at this
        exact wp_lv this (by repeat (first | exact trivial | refine ⟨rfl, ?_⟩))
      · refine wp_iload dX9_changes_48 rfl ?_
        refine wp_if_le (tgt := 151) dX9_changes_50 (by decide) (fun c50 => ?_) (fun c50 => ?_)
        · have hj0 : j = 0 := (nI_le0 (by omega)).mp c50
          have := J151
          rw [show ed v w i j = i + j by rw [hj0, ed_s0]; omega, ← nI_add] at this
          exact wp_lv this (by repeat (first | exact trivial | refine ⟨rfl, ?_⟩))
        · have hi1 : 1 ≤ i := Nat.pos_of_ne_zero fun q => c45 ((nI_le0 (by omega)).mpr q)
          have hj1 : 1 ≤ j := Nat.pos_of_ne_zero fun q => c50 ((nI_le0 (by omega)).mpr q)
          have sv := hv1.2.2.1 (i - 1) (by omega)
          have sw : aI M1 140 (40 * k + (j - 1)) = nI (w.getD (j - 1) 0) := by
            have := ns1 (j - 1) (by omega)
            rw [show 40 * k + 8 * 0 + (j - 1) = 40 * k + (j - 1) by omega] at this
            exact this
          have k1 : (nI (8 * vi + (i - 1))).toNatClampNeg = 8 * vi + (i - 1) := nI_clamp (by omega)
          have k2 : (nI (40 * k + (j - 1))).toNatClampNeg = 40 * k + (j - 1) := nI_clamp (by omega)
          have q1 : 8 * nI vi + nI i - 1 = nI (8 * vi + (i - 1)) := by rw [mu8, nI_m (by omega)]; congr 1; omega
          have q2 : 40 * nI k + nI j - 1 = nI (40 * k + (j - 1)) := by rw [mu40, nI_m (by omega)]; congr 1; omega
          refine wp_aload_n dX9_changes_53 rfl ?_
          refine wp_getR dX9_changes_54 fl_X9_89 rfl rfl (hG1 32) ?_
          refine wp_bipush (v := 8) dX9_changes_57 (by decide) ?_
          refine wp_iload_n dX9_changes_59 rfl ?_
          refine wp_imul dX9_changes_60 ?_
          refine wp_iload dX9_changes_61 rfl ?_
          refine wp_iadd dX9_changes_63 ?_
          refine wp_iconst (v := 1) dX9_changes_64 rfl ?_
          refine wp_isub dX9_changes_65 ?_
          rw [q1]
          refine wp_iaload dX9_changes_66 rfl (vp_in_nI (by omega) (by decide)) ?_
          rw [k1, sv]
          refine wp_aload_n dX9_changes_67 rfl ?_
          refine wp_getR dX9_changes_68 fl_X9_68 rfl rfl (hG1 22) ?_
          refine wp_bipush (v := 40) dX9_changes_71 (by decide) ?_
          refine wp_iload_n dX9_changes_73 rfl ?_
          refine wp_imul dX9_changes_74 ?_
          refine wp_iload dX9_changes_75 rfl ?_
          refine wp_iadd dX9_changes_77 ?_
          refine wp_iconst (v := 1) dX9_changes_78 rfl ?_
          refine wp_isub dX9_changes_79 ?_
          rw [q2]
          refine wp_iaload dX9_changes_80 rfl (vp_in_nI (by omega) (by decide)) ?_
          rw [k2, sw]
          refine wp_icmp_ne (tgt := 88) dX9_changes_81 (by decide) (fun c81 => ?_) (fun c81 => ?_)
          · refine wp_iconst (v := 1) dX9_changes_88 rfl ?_
            exact wp_lv (J89 1 hi1 hj1 (by rw [if_neg (fun e => c81 (by rw [e]))]) _) (by repeat (first | exact trivial | refine ⟨rfl, ?_⟩))
          · refine wp_iconst (v := 0) dX9_changes_84 rfl ?_
            refine wp_goto (tgt := 89) dX9_changes_85 (by decide) ?_
            exact wp_lv (J89 0 hi1 hj1 (by rw [if_pos ((nIb (okL_at hv.2.2.2 _) (okL_at o0 _)).mp c81)]) _) (by repeat (first | exact trivial | refine ⟨rfl, ?_⟩))
  have outer : ∀ (r i : Nat) (M1 : Mem), i + r = v.length + 1 → tF M M1 → (∀ p, p < i → ∀ q, q ≤ w.length → aI M1 147 (9 * p + q) = nI (ed v w p q)) → Wp (xM E mX9_changes 1 0 0 SH.length (fun o sh1 M1 => sh1 = SH ∧ o = some (.int (nI (ed v w v.length w.length))) ∧ tF M M1)) 0 0 20 [(5, .int (nI i)), (4, .int (nI w.length)), (3, .int (nI v.length)), (1, .int (nI vi)), (2, .int (nI k)), (0, .ref 121)] [] SH M1 := by
    intro r
    induction r with
    | zero =>
      intro i M1 hi hF ha
      have hi : i = v.length + 1 := by omega
      subst hi
      refine wp_iload dX9_changes_20 rfl ?_
      refine wp_iload_n dX9_changes_22 rfl ?_
      refine wp_icmp_gt (tgt := 178) dX9_changes_23 (by decide) (fun c23 => ?_) (fun c23 => absurd ((nI_lti (by omega) (by omega)).mpr (Nat.lt_succ_self _)) c23)
      exact wp_lv (hfin M1 hF (fun p hp q hq => ha p (by omega) q hq)) (by repeat (first | exact trivial | refine ⟨rfl, ?_⟩))
    | succ r ih =>
      intro i M1 hi hF ha
      have hil : i ≤ v.length := by omega
      refine wp_iload dX9_changes_20 rfl ?_
      refine wp_iload_n dX9_changes_22 rfl ?_
      refine wp_icmp_gt (tgt := 178) dX9_changes_23 (by decide) (fun c23 => absurd c23 (fun q => Nat.not_lt_of_le hil ((nI_lti (by omega) (by omega)).mp q))) (fun c23 => ?_)
      refine wp_iconst (v := 0) dX9_changes_26 rfl ?_
      refine wp_istore dX9_changes_27 (Nat.le_of_ble_eq_true rfl) ?_
      refine wp_lv (inner i hil (fun M2 hF2 h2 => ?_) (w.length + 1) 0 M1 (by omega) hF ha (fun q hq => absurd hq (Nat.not_lt_zero q))) (by repeat (first | exact trivial | refine ⟨rfl, ?_⟩))
      refine wp_iinc dX9_changes_172 rfl (i_inc _) (Nat.le_of_ble_eq_true rfl) ?_
      refine wp_goto (tgt := 20) dX9_changes_175 (by decide) ?_
      exact wp_lv (ih (i + 1) M2 (by omega) hF2 h2) (by repeat (first | exact trivial | refine ⟨rfl, ?_⟩))
  have hG := hn.1
  have hclv : (nI vi).toNatClampNeg = vi := nI_clamp (by omega)
  have hcl5 : (nI (5 * k)).toNatClampNeg = 5 * k + 0 := nI_clamp (by omega)
  refine wp_aload_n dX9_changes_0 rfl ?_
  refine wp_getR dX9_changes_1 fl_X9_86 rfl rfl (hG 31) ?_
  refine wp_iload_n dX9_changes_4 rfl ?_
  refine wp_iaload dX9_changes_5 rfl (vp_in_nI (by omega) (by decide)) ?_
  rw [hclv, hv.2.1]
  refine wp_istore_n dX9_changes_6 (Nat.le_of_ble_eq_true rfl) ?_
  refine wp_aload_n dX9_changes_7 rfl ?_
  refine wp_getR dX9_changes_8 fl_X9_65 rfl rfl (hG 21) ?_
  refine wp_iconst (v := 5) dX9_changes_11 rfl ?_
  refine wp_iload_n dX9_changes_12 rfl ?_
  refine wp_imul dX9_changes_13 ?_
  rw [mu5']
  refine wp_iaload dX9_changes_14 rfl (vp_in_nI (by omega) (by decide)) ?_
  rw [hcl5, show aI M 139 (5 * k + 0) = nI w.length from nl]
  refine wp_istore dX9_changes_15 (Nat.le_of_ble_eq_true rfl) ?_
  refine wp_iconst (v := 0) dX9_changes_17 rfl ?_
  refine wp_istore dX9_changes_18 (Nat.le_of_ble_eq_true rfl) ?_
  exact wp_lv (outer (v.length + 1) 0 M (by omega) Fr.rf (fun p hp => absurd hp (Nat.not_lt_zero p))) (by repeat (first | exact trivial | refine ⟨rfl, ?_⟩))
set_option maxRecDepth 100000 in
set_option maxHeartbeats 4000000 in
theorem cX9_fitsSigns_ (E : GE) (vi k : Nat) (v : List Nat) (x : ND) (M : Mem) (hn : NX M k x) (hv : WV M vi v) (hx : nOk x) (hj : 0 < (nWo x).length) : Sp E mX9_fitsSigns 1 0 0 [.ref 121, .int (nI vi), .int (nI k)] SH M (fun o sh1 M1 => sh1 = SH ∧ o = some (.int (b2i (pmN v (nWd x 0) (nWd x 0).length v.length = true))) ∧ tF M M1) := by
  refine sp_of vX9_fitsSigns.1 rfl (Nat.le_of_ble_eq_true rfl) ?_
  obtain ⟨w, hw⟩ : ∃ w, w = nWd x 0 := ⟨_, rfl⟩
  have ho := hn.2.2.2
  have o0 := nd_okL hx ho 0
  obtain ⟨nl, ns⟩ := hn.2.2.1.2.2.2.2.2.2.2 0 hj
  rw [← hw] at o0 nl ns ⊢
  have h8 := hv.2.2.2.1
  have hw8 := o0.1
  have hk := hn.2.1
  have hvi := hv.1
  have hfin : ∀ M1 : Mem, tF M M1 → (∀ j, j ≤ w.length → ∀ i, i ≤ v.length → aI M1 147 (9 * i + j) = b2i (pmN v w j i = true)) → Wp (xM E mX9_fitsSigns 1 0 0 SH.length (fun o sh1 M1 => sh1 = SH ∧ o = some (.int (b2i (pmN v w w.length v.length = true))) ∧ tF M M1)) 0 0 235 [(4, .int (nI w.length)), (3, .int (nI v.length)), (1, .int (nI vi)), (2, .int (nI k)), (0, .ref 121)] [] SH M1 := by
    intro M1 hF ha
    have hG1 := (hn.ft hF).1
    have hcl : (nI (9 * v.length + w.length)).toNatClampNeg = 9 * v.length + w.length := nI_clamp (by omega)
    refine wp_aload_n dX9_fitsSigns_235 rfl ?_
    refine wp_getR dX9_fitsSigns_236 fl_X9_92 rfl rfl (hG1 33) ?_
    refine wp_bipush (v := 9) dX9_fitsSigns_239 (by decide) ?_
    refine wp_iload_n dX9_fitsSigns_241 rfl ?_
    refine wp_imul dX9_fitsSigns_242 ?_
    refine wp_iload dX9_fitsSigns_243 rfl ?_
    refine wp_iadd dX9_fitsSigns_245 ?_
    rw [mu9]
    refine wp_iaload dX9_fitsSigns_246 rfl (vp_in_nI (by omega) (by decide)) ?_
    rw [hcl, ha w.length (Nat.le_refl _) v.length (Nat.le_refl _)]
    refine wp_iconst (v := 1) dX9_fitsSigns_247 rfl ?_
    refine wp_icmp_ne (tgt := 255) dX9_fitsSigns_248 (by decide) (fun c248 => ?_) (fun c248 => ?_)
    · refine wp_iconst (v := 0) dX9_fitsSigns_255 rfl ?_
      refine wp_ireturn dX9_fitsSigns_256 rfl rfl (Nat.zero_le _) (Nat.zero_le _) ?_
      have hq : ¬ pmN v w w.length v.length = true := fun q => c248 (b2i_t q)
      rw [b2i_f hq]
      exact ⟨rfl, rfl, hF⟩
    · refine wp_iconst (v := 1) dX9_fitsSigns_251 rfl ?_
      refine wp_goto (tgt := 256) dX9_fitsSigns_252 (by decide) ?_
      refine wp_ireturn dX9_fitsSigns_256 rfl rfl (Nat.zero_le _) (Nat.zero_le _) ?_
      have hq : pmN v w w.length v.length = true := b2i_ne.mp (by rw [c248]; decide)
      rw [b2i_t hq]
      exact ⟨rfl, rfl, hF⟩
  have inner : ∀ (j : Nat) (hj : j ≤ w.length) (s : Int32) (hs : 1 ≤ j → s = nI (w.getD (j - 1) 0)) (kk : ∀ M2 : Mem, tF M M2 → (∀ p, p < j + 1 → ∀ i, i ≤ v.length → aI M2 147 (9 * i + p) = b2i (pmN v w p i = true)) → Wp (xM E mX9_fitsSigns 1 0 0 SH.length (fun o sh1 M1 => sh1 = SH ∧ o = some (.int (b2i (pmN v w w.length v.length = true))) ∧ tF M M1)) 0 0 229 [(5, .int (nI j)), (4, .int (nI w.length)), (3, .int (nI v.length)), (1, .int (nI vi)), (2, .int (nI k)), (0, .ref 121)] [] SH M2) (r i : Nat) (M1 : Mem), i + r = v.length + 1 → tF M M1 → (∀ p, p < j → ∀ q, q ≤ v.length → aI M1 147 (9 * q + p) = b2i (pmN v w p q = true)) → (∀ q, q < i → aI M1 147 (9 * q + j) = b2i (pmN v w j q = true)) → Wp (xM E mX9_fitsSigns 1 0 0 SH.length (fun o sh1 M1 => sh1 = SH ∧ o = some (.int (b2i (pmN v w w.length v.length = true))) ∧ tF M M1)) 0 0 55 [(7, .int (nI i)), (6, .int s), (5, .int (nI j)), (4, .int (nI w.length)), (3, .int (nI v.length)), (1, .int (nI vi)), (2, .int (nI k)), (0, .ref 121)] [] SH M1 := by
    intro j hj s hs kk r
    induction r with
    | zero =>
      intro i M1 hi hF ha hb
      have hi : i = v.length + 1 := by omega
      subst hi
      refine wp_iload dX9_fitsSigns_55 rfl ?_
      refine wp_iload_n dX9_fitsSigns_57 rfl ?_
      refine wp_icmp_gt (tgt := 229) dX9_fitsSigns_58 (by decide) (fun c58 => ?_) (fun c58 => absurd ((nI_lti (by omega) (by omega)).mpr (Nat.lt_succ_self _)) c58)
      refine wp_lv (kk M1 hF (fun p hp q hq => ?_)) (by repeat (first | exact trivial | refine ⟨rfl, ?_⟩))
      by_cases c : p = j
      · rw [c]; exact hb q (by omega)
      · exact ha p (by omega) q hq
    | succ r ih =>
      intro i M1 hi hF ha hb
      have hil : i ≤ v.length := by omega
      have hn1 := hn.ft hF
      have hG1 := hn1.1
      have hv1 := hv.ft hF
      have ij1 : (nI (9 * i + j)).toNatClampNeg = 9 * i + j := nI_clamp (by omega)
      have J222 : ∀ z : Int32, Wp (xM E mX9_fitsSigns 1 0 0 SH.length (fun o sh1 M1 => sh1 = SH ∧ o = some (.int (b2i (pmN v w w.length v.length = true))) ∧ tF M M1)) 0 0 222 [(8, .int z), (7, .int (nI i)), (6, .int s), (5, .int (nI j)), (4, .int (nI w.length)), (3, .int (nI v.length)), (1, .int (nI vi)), (2, .int (nI k)), (0, .ref 121)] [.int (b2i (pmN v w j i = true)), .int (nI (9 * i + j)), .ref 147] SH M1 := by
        intro z
        refine wp_iastore dX9_fitsSigns_222 rfl (vp_in_nI (by omega) (by decide)) ?_
        refine wp_iinc dX9_fitsSigns_223 rfl (i_inc _) (Nat.le_of_ble_eq_true rfl) ?_
        refine wp_goto (tgt := 55) dX9_fitsSigns_226 (by decide) ?_
        rw [ij1]
        refine wp_lv (ih (i + 1) _ (by omega) (hF.sA (by simp)) (fun p hp q hq => ?_) (fun q hq => ?_)) (by repeat (first | exact trivial | refine ⟨rfl, ?_⟩))
        · rw [aI_sA, if_neg (by omega)]; exact ha p hp q hq
        · rw [aI_sA]
          by_cases c : q = i
          · rw [c, if_pos ⟨rfl, rfl⟩]
          · rw [if_neg (by omega)]; exact hb q (by omega)
      have J200 : ∀ z : Int32, z = b2i (pmN v w j i = true) → Wp (xM E mX9_fitsSigns 1 0 0 SH.length (fun o sh1 M1 => sh1 = SH ∧ o = some (.int (b2i (pmN v w w.length v.length = true))) ∧ tF M M1)) 0 0 200 [(8, .int z), (7, .int (nI i)), (6, .int s), (5, .int (nI j)), (4, .int (nI w.length)), (3, .int (nI v.length)), (1, .int (nI vi)), (2, .int (nI k)), (0, .ref 121)] [] SH M1 := by
        intro z hz
        subst hz
        refine wp_aload_n dX9_fitsSigns_200 rfl ?_
        refine wp_getR dX9_fitsSigns_201 fl_X9_92 rfl rfl (hG1 33) ?_
        refine wp_bipush (v := 9) dX9_fitsSigns_204 (by decide) ?_
        refine wp_iload dX9_fitsSigns_206 rfl ?_
        refine wp_imul dX9_fitsSigns_208 ?_
        refine wp_iload dX9_fitsSigns_209 rfl ?_
        refine wp_iadd dX9_fitsSigns_211 ?_
        rw [mu9]
        refine wp_iload dX9_fitsSigns_212 rfl ?_
        refine wp_if_eq (tgt := 221) dX9_fitsSigns_214 (by decide) (fun c214 => ?_) (fun c214 => ?_)
        · refine wp_iconst (v := 0) dX9_fitsSigns_221 rfl ?_
          have := J222 (b2i (pmN v w j i = true))
          rw [b2i_f (b2i_e0.mp c214)] at this
          rw [b2i_f (b2i_e0.mp c214)]
          exact wp_lv this (by repeat (first | exact trivial | refine ⟨rfl, ?_⟩))
        · refine wp_iconst (v := 1) dX9_fitsSigns_217 rfl ?_
          refine wp_goto (tgt := 222) dX9_fitsSigns_218 (by decide) ?_
          have := J222 (b2i (pmN v w j i = true))
          rw [b2i_t (b2i_ne.mp c214)] at this
          rw [b2i_t (b2i_ne.mp c214)]
          exact wp_lv this (by repeat (first | exact trivial | refine ⟨rfl, ?_⟩))
      refine wp_iload dX9_fitsSigns_55 rfl ?_
      refine wp_iload_n dX9_fitsSigns_57 rfl ?_
      refine wp_icmp_gt (tgt := 229) dX9_fitsSigns_58 (by decide) (fun c58 => absurd c58 (fun q => Nat.not_lt_of_le hil ((nI_lti (by omega) (by omega)).mp q))) (fun c58 => ?_)
      refine wp_iload dX9_fitsSigns_61 rfl ?_
      refine wp_if_ne (tgt := 81) dX9_fitsSigns_63 (by decide) (fun c63 => ?_) (fun c63 => ?_)
      · have hj1 : 1 ≤ j := Nat.pos_of_ne_zero fun q => c63 (by rw [q]; rfl)
        have hsj := hs hj1
        subst hsj
        have hwa := okL_at o0 (j - 1)
        have hpm : pmN v w j = pmRow (pmN v w (j - 1)) (w.getD (j - 1) 0) v := by
          obtain ⟨a, rfl⟩ : ∃ a, j = a + 1 := ⟨j - 1, by omega⟩
          rfl
        have r1 := ha (j - 1) (by omega) i hil
        have k1 : (nI (9 * i + (j - 1))).toNatClampNeg = 9 * i + (j - 1) := nI_clamp (by omega)
        have q1 : 9 * nI i + nI j - 1 = nI (9 * i + (j - 1)) := by rw [mu9, nI_m (by omega)]; congr 1; omega
        have p42 : ∀ a, w.getD (j - 1) 0 = 42 → pmN v w j (a + 1) = (pmN v w (j - 1) (a + 1) || pmN v w j a) := fun a h => by
          rw [hpm]
          show (if w.getD (j - 1) 0 = 42 then _ else _) = _
          rw [if_pos h]
        have p420 : w.getD (j - 1) 0 = 42 → pmN v w j 0 = pmN v w (j - 1) 0 := fun h => by
          rw [hpm]
          show (if w.getD (j - 1) 0 = 42 then _ else _) = _
          rw [if_pos h]
        have pel : ∀ a, ¬ w.getD (j - 1) 0 = 42 → pmN v w j (a + 1) = (pmN v w (j - 1) a && (w.getD (j - 1) 0 == 63 || w.getD (j - 1) 0 == v.getD a 0)) := fun a h => by
          rw [hpm]
          show (if w.getD (j - 1) 0 = 42 then _ else _) = _
          rw [if_neg h]
        have pel0 : ¬ w.getD (j - 1) 0 = 42 → pmN v w j 0 = false := fun h => by
          rw [hpm]
          show (if w.getD (j - 1) 0 = 42 then _ else _) = _
          rw [if_neg h]
        refine wp_iload dX9_fitsSigns_81 rfl ?_
        refine wp_bipush (v := 42) dX9_fitsSigns_83 (by decide) ?_
        refine wp_icmp_ne (tgt := 141) dX9_fitsSigns_85 (by decide) (fun c85 => ?_) (fun c85 => ?_)
        · have h42 : ¬ w.getD (j - 1) 0 = 42 := fun q => c85 (by rw [q]; rfl)
          refine wp_iload dX9_fitsSigns_141 rfl ?_
          refine wp_if_le (tgt := 197) dX9_fitsSigns_143 (by decide) (fun c143 => ?_) (fun c143 => ?_)
          · refine wp_iconst (v := 0) dX9_fitsSigns_197 rfl ?_
            refine wp_istore dX9_fitsSigns_198 (Nat.le_of_ble_eq_true rfl) ?_
            have hi0 : i = 0 := (nI_le0 (by omega)).mp c143
            subst hi0
            exact wp_lv (J200 0 (b2i_f (by rw [pel0 h42]; decide)).symm) (by repeat (first | exact trivial | refine ⟨rfl, ?_⟩))
          · obtain ⟨a, rfl⟩ : ∃ a, i = a + 1 := Nat.exists_eq_succ_of_ne_zero (fun q => c143 ((nI_le0 (by omega)).mpr q))
            have r2 := ha (j - 1) (by omega) a (by omega)
            have k2 : (nI (9 * a + (j - 1))).toNatClampNeg = 9 * a + (j - 1) := nI_clamp (by omega)
            have q2 : 9 * (nI (a + 1) - 1) + nI j - 1 = nI (9 * a + (j - 1)) := by rw [nI_m (by omega), mu9, nI_m (by omega)]; congr 1; omega
            refine wp_aload_n dX9_fitsSigns_146 rfl ?_
            refine wp_getR dX9_fitsSigns_147 fl_X9_92 rfl rfl (hG1 33) ?_
            refine wp_bipush (v := 9) dX9_fitsSigns_150 (by decide) ?_
            refine wp_iload dX9_fitsSigns_152 rfl ?_
            refine wp_iconst (v := 1) dX9_fitsSigns_154 rfl ?_
            refine wp_isub dX9_fitsSigns_155 ?_
            refine wp_imul dX9_fitsSigns_156 ?_
            refine wp_iload dX9_fitsSigns_157 rfl ?_
            refine wp_iadd dX9_fitsSigns_159 ?_
            refine wp_iconst (v := 1) dX9_fitsSigns_160 rfl ?_
            refine wp_isub dX9_fitsSigns_161 ?_
            rw [q2]
            refine wp_iaload dX9_fitsSigns_162 rfl (vp_in_nI (by omega) (by decide)) ?_
            rw [k2, r2]
            refine wp_iconst (v := 1) dX9_fitsSigns_163 rfl ?_
            refine wp_icmp_ne (tgt := 197) dX9_fitsSigns_164 (by decide) (fun c164 => ?_) (fun c164 => ?_)
            · refine wp_iconst (v := 0) dX9_fitsSigns_197 rfl ?_
              refine wp_istore dX9_fitsSigns_198 (Nat.le_of_ble_eq_true rfl) ?_
              exact wp_lv (J200 0 (b2i_f (by rw [pel a h42, Bool.and_eq_true]; exact fun q => c164 (b2i_t q.1))).symm) (by repeat (first | exact trivial | refine ⟨rfl, ?_⟩))
            · have py : pmN v w (j - 1) a = true := b2i_ne.mp (by rw [c164]; decide)
              refine wp_iload dX9_fitsSigns_167 rfl ?_
              refine wp_bipush (v := 63) dX9_fitsSigns_169 (by decide) ?_
              refine wp_icmp_eq (tgt := 193) dX9_fitsSigns_171 (by decide) (fun c171 => ?_) (fun c171 => ?_)
              · refine wp_iconst (v := 1) dX9_fitsSigns_193 rfl ?_
                refine wp_goto (tgt := 198) dX9_fitsSigns_194 (by decide) ?_
                refine wp_istore dX9_fitsSigns_198 (Nat.le_of_ble_eq_true rfl) ?_
                have h63 : w.getD (j - 1) 0 = 63 := (nIb hwa (by decide)).mp c171
                exact wp_lv (J200 1 (b2i_t (by rw [pel a h42, py, h63]; rfl)).symm) (by repeat (first | exact trivial | refine ⟨rfl, ?_⟩))
              · have sv := hv1.2.2.1 a (by omega)
                have k3 : (nI (8 * vi + a)).toNatClampNeg = 8 * vi + a := nI_clamp (by omega)
                have q3 : 8 * nI vi + nI (a + 1) - 1 = nI (8 * vi + a) := by rw [mu8, nI_m (by omega)]; congr 1
                refine wp_iload dX9_fitsSigns_174 rfl ?_
                refine wp_aload_n dX9_fitsSigns_176 rfl ?_
                refine wp_getR dX9_fitsSigns_177 fl_X9_89 rfl rfl (hG1 32) ?_
                refine wp_bipush (v := 8) dX9_fitsSigns_180 (by decide) ?_
                refine wp_iload_n dX9_fitsSigns_182 rfl ?_
                refine wp_imul dX9_fitsSigns_183 ?_
                refine wp_iload dX9_fitsSigns_184 rfl ?_
                refine wp_iadd dX9_fitsSigns_186 ?_
                refine wp_iconst (v := 1) dX9_fitsSigns_187 rfl ?_
                refine wp_isub dX9_fitsSigns_188 ?_
                rw [q3]
                refine wp_iaload dX9_fitsSigns_189 rfl (vp_in_nI (by omega) (by decide)) ?_
                rw [k3, sv]
                refine wp_icmp_ne (tgt := 197) dX9_fitsSigns_190 (by decide) (fun c190 => ?_) (fun c190 => ?_)
                · refine wp_iconst (v := 0) dX9_fitsSigns_197 rfl ?_
                  refine wp_istore dX9_fitsSigns_198 (Nat.le_of_ble_eq_true rfl) ?_
                  have h63 : ¬ w.getD (j - 1) 0 = 63 := fun q => c171 (by rw [q]; rfl)
                  exact wp_lv (J200 0 (b2i_f (by rw [pel a h42, py, Bool.true_and, Bool.or_eq_true, beq_iff_eq, beq_iff_eq]; exact fun q => q.elim h63 (fun e => c190 (by rw [e])))).symm) (by repeat (first | exact trivial | refine ⟨rfl, ?_⟩))
                · refine wp_iconst (v := 1) dX9_fitsSigns_193 rfl ?_
                  refine wp_goto (tgt := 198) dX9_fitsSigns_194 (by decide) ?_
                  refine wp_istore dX9_fitsSigns_198 (Nat.le_of_ble_eq_true rfl) ?_
                  have he := (nIb hwa (okL_at hv.2.2.2 _)).mp c190
                  exact wp_lv (J200 1 (b2i_t (by rw [pel a h42, py, Bool.true_and, Bool.or_eq_true, beq_iff_eq, beq_iff_eq]; exact Or.inr he)).symm) (by repeat (first | exact trivial | refine ⟨rfl, ?_⟩))
        · have h42 : w.getD (j - 1) 0 = 42 := (nIb hwa (by decide)).mp c85
          refine wp_aload_n dX9_fitsSigns_88 rfl ?_
          refine wp_getR dX9_fitsSigns_89 fl_X9_92 rfl rfl (hG1 33) ?_
          refine wp_bipush (v := 9) dX9_fitsSigns_92 (by decide) ?_
          refine wp_iload dX9_fitsSigns_94 rfl ?_
          refine wp_imul dX9_fitsSigns_96 ?_
          refine wp_iload dX9_fitsSigns_97 rfl ?_
          refine wp_iadd dX9_fitsSigns_99 ?_
          refine wp_iconst (v := 1) dX9_fitsSigns_100 rfl ?_
          refine wp_isub dX9_fitsSigns_101 ?_
          rw [q1]
          refine wp_iaload dX9_fitsSigns_102 rfl (vp_in_nI (by omega) (by decide)) ?_
          rw [k1, r1]
          refine wp_iconst (v := 1) dX9_fitsSigns_103 rfl ?_
          refine wp_icmp_eq (tgt := 131) dX9_fitsSigns_104 (by decide) (fun c104 => ?_) (fun c104 => ?_)
          · refine wp_iconst (v := 1) dX9_fitsSigns_131 rfl ?_
            refine wp_goto (tgt := 136) dX9_fitsSigns_132 (by decide) ?_
            refine wp_istore dX9_fitsSigns_136 (Nat.le_of_ble_eq_true rfl) ?_
            refine wp_goto (tgt := 200) dX9_fitsSigns_138 (by decide) ?_
            have py : pmN v w (j - 1) i = true := b2i_ne.mp (by rw [c104]; decide)
            exact wp_lv (J200 1 (b2i_t (by
              cases i with
              | zero => rw [p420 h42]; exact py
              | succ a => rw [p42 a h42, py]; rfl)).symm) (by repeat (first | exact trivial | refine ⟨rfl, ?_⟩))
          · refine wp_iload dX9_fitsSigns_107 rfl ?_
            refine wp_if_le (tgt := 135) dX9_fitsSigns_109 (by decide) (fun c109 => ?_) (fun c109 => ?_)
            · refine wp_iconst (v := 0) dX9_fitsSigns_135 rfl ?_
              refine wp_istore dX9_fitsSigns_136 (Nat.le_of_ble_eq_true rfl) ?_
              refine wp_goto (tgt := 200) dX9_fitsSigns_138 (by decide) ?_
              have hi0 : i = 0 := (nI_le0 (by omega)).mp c109
              subst hi0
              exact wp_lv (J200 0 (b2i_f (by rw [p420 h42]; exact fun q => c104 (b2i_t q))).symm) (by repeat (first | exact trivial | refine ⟨rfl, ?_⟩))
            · obtain ⟨a, rfl⟩ : ∃ a, i = a + 1 := Nat.exists_eq_succ_of_ne_zero (fun q => c109 ((nI_le0 (by omega)).mpr q))
              have r2 := hb a (by omega)
              have k2 : (nI (9 * a + j)).toNatClampNeg = 9 * a + j := nI_clamp (by omega)
              have q2 : 9 * (nI (a + 1) - 1) + nI j = nI (9 * a + j) := by rw [nI_m (by omega), mu9]; rfl
              have n1 : ¬ pmN v w (j - 1) (a + 1) = true := fun q => c104 (b2i_t q)
              refine wp_aload_n dX9_fitsSigns_112 rfl ?_
              refine wp_getR dX9_fitsSigns_113 fl_X9_92 rfl rfl (hG1 33) ?_
              refine wp_bipush (v := 9) dX9_fitsSigns_116 (by decide) ?_
              refine wp_iload dX9_fitsSigns_118 rfl ?_
              refine wp_iconst (v := 1) dX9_fitsSigns_120 rfl ?_
              refine wp_isub dX9_fitsSigns_121 ?_
              refine wp_imul dX9_fitsSigns_122 ?_
              refine wp_iload dX9_fitsSigns_123 rfl ?_
              refine wp_iadd dX9_fitsSigns_125 ?_
              rw [q2]
              refine wp_iaload dX9_fitsSigns_126 rfl (vp_in_nI (by omega) (by decide)) ?_
              rw [k2, r2]
              refine wp_iconst (v := 1) dX9_fitsSigns_127 rfl ?_
              refine wp_icmp_ne (tgt := 135) dX9_fitsSigns_128 (by decide) (fun c128 => ?_) (fun c128 => ?_)
              · refine wp_iconst (v := 0) dX9_fitsSigns_135 rfl ?_
                refine wp_istore dX9_fitsSigns_136 (Nat.le_of_ble_eq_true rfl) ?_
                refine wp_goto (tgt := 200) dX9_fitsSigns_138 (by decide) ?_
                exact wp_lv (J200 0 (b2i_f (by rw [p42 a h42, Bool.or_eq_true]; exact fun q => q.elim n1 (fun e => c128 (b2i_t e)))).symm) (by repeat (first | exact trivial | refine ⟨rfl, ?_⟩))
              · refine wp_iconst (v := 1) dX9_fitsSigns_131 rfl ?_
                refine wp_goto (tgt := 136) dX9_fitsSigns_132 (by decide) ?_
                refine wp_istore dX9_fitsSigns_136 (Nat.le_of_ble_eq_true rfl) ?_
                refine wp_goto (tgt := 200) dX9_fitsSigns_138 (by decide) ?_
                have py : pmN v w j a = true := b2i_ne.mp (by rw [c128]; decide)
                exact wp_lv (J200 1 (b2i_t (by rw [p42 a h42, py, Bool.or_true])).symm) (by repeat (first | exact trivial | refine ⟨rfl, ?_⟩))
      · have hj0 : j = 0 := nI_e (b := 0) (by omega) (by decide) c63
        refine wp_iload dX9_fitsSigns_66 rfl ?_
        refine wp_if_ne (tgt := 75) dX9_fitsSigns_68 (by decide) (fun c68 => ?_) (fun c68 => ?_)
        · refine wp_iconst (v := 0) dX9_fitsSigns_75 rfl ?_
          refine wp_istore dX9_fitsSigns_76 (Nat.le_of_ble_eq_true rfl) ?_
          refine wp_goto (tgt := 200) dX9_fitsSigns_78 (by decide) ?_
          have hi0 : ¬ i = 0 := fun q => c68 (by rw [q]; rfl)
          exact wp_lv (J200 0 (b2i_f (by rw [hj0]; show ¬ (i == 0) = true; rw [beq_iff_eq]; exact hi0)).symm) (by repeat (first | exact trivial | refine ⟨rfl, ?_⟩))
        · refine wp_iconst (v := 1) dX9_fitsSigns_71 rfl ?_
          refine wp_goto (tgt := 76) dX9_fitsSigns_72 (by decide) ?_
          refine wp_istore dX9_fitsSigns_76 (Nat.le_of_ble_eq_true rfl) ?_
          refine wp_goto (tgt := 200) dX9_fitsSigns_78 (by decide) ?_
          have hi0 : i = 0 := nI_e (b := 0) (by omega) (by decide) c68
          exact wp_lv (J200 1 (b2i_t (by rw [hj0, hi0]; rfl)).symm) (by repeat (first | exact trivial | refine ⟨rfl, ?_⟩))
  have outer : ∀ (r j : Nat) (M1 : Mem), j + r = w.length + 1 → tF M M1 → (∀ p, p < j → ∀ q, q ≤ v.length → aI M1 147 (9 * q + p) = b2i (pmN v w p q = true)) → Wp (xM E mX9_fitsSigns 1 0 0 SH.length (fun o sh1 M1 => sh1 = SH ∧ o = some (.int (b2i (pmN v w w.length v.length = true))) ∧ tF M M1)) 0 0 20 [(5, .int (nI j)), (4, .int (nI w.length)), (3, .int (nI v.length)), (1, .int (nI vi)), (2, .int (nI k)), (0, .ref 121)] [] SH M1 := by
    intro r
    induction r with
    | zero =>
      intro j M1 hj hF ha
      have hj : j = w.length + 1 := by omega
      subst hj
      refine wp_iload dX9_fitsSigns_20 rfl ?_
      refine wp_iload dX9_fitsSigns_22 rfl ?_
      refine wp_icmp_gt (tgt := 235) dX9_fitsSigns_24 (by decide) (fun c24 => ?_) (fun c24 => absurd ((nI_lti (by omega) (by omega)).mpr (Nat.lt_succ_self _)) c24)
      exact wp_lv (hfin M1 hF (fun p hp q hq => ha p (by omega) q hq)) (by repeat (first | exact trivial | refine ⟨rfl, ?_⟩))
    | succ r ih =>
      intro j M1 hj hF ha
      have hjl : j ≤ w.length := by omega
      have hn1 := hn.ft hF
      have hG1 := hn1.1
      obtain ⟨nl1, ns1⟩ := hn1.2.2.1.2.2.2.2.2.2.2 0 (by assumption)
      rw [← hw] at nl1 ns1
      refine wp_iload dX9_fitsSigns_20 rfl ?_
      refine wp_iload dX9_fitsSigns_22 rfl ?_
      refine wp_icmp_gt (tgt := 235) dX9_fitsSigns_24 (by decide) (fun c24 => absurd c24 (fun q => Nat.not_lt_of_le hjl ((nI_lti (by omega) (by omega)).mp q))) (fun c24 => ?_)
      refine wp_iload dX9_fitsSigns_27 rfl ?_
      refine wp_if_le (tgt := 49) dX9_fitsSigns_29 (by decide) (fun c29 => ?_) (fun c29 => ?_)
      · refine wp_iconst (v := 0) dX9_fitsSigns_49 rfl ?_
        refine wp_istore dX9_fitsSigns_50 (Nat.le_of_ble_eq_true rfl) ?_
        refine wp_iconst (v := 0) dX9_fitsSigns_52 rfl ?_
        refine wp_istore dX9_fitsSigns_53 (Nat.le_of_ble_eq_true rfl) ?_
        have hj0 : j = 0 := (nI_le0 (by omega)).mp c29
        refine wp_lv (inner j hjl 0 (fun h => absurd h (by omega)) (fun M2 hF2 h2 => ?_) (v.length + 1) 0 M1 (by omega) hF ha (fun q hq => absurd hq (Nat.not_lt_zero q))) (by repeat (first | exact trivial | refine ⟨rfl, ?_⟩))
        refine wp_iinc dX9_fitsSigns_229 rfl (i_inc _) (Nat.le_of_ble_eq_true rfl) ?_
        refine wp_goto (tgt := 20) dX9_fitsSigns_232 (by decide) ?_
        exact wp_lv (ih (j + 1) M2 (by omega) hF2 h2) (by repeat (first | exact trivial | refine ⟨rfl, ?_⟩))
      · have hj1 : 1 ≤ j := Nat.pos_of_ne_zero fun q => c29 ((nI_le0 (by omega)).mpr q)
        have sw : aI M1 140 (40 * k + (j - 1)) = nI (w.getD (j - 1) 0) := by
          have := ns1 (j - 1) (by omega)
          rw [show 40 * k + 8 * 0 + (j - 1) = 40 * k + (j - 1) by omega] at this
          exact this
        have k2 : (nI (40 * k + (j - 1))).toNatClampNeg = 40 * k + (j - 1) := nI_clamp (by omega)
        have q2 : 40 * nI k + nI j - 1 = nI (40 * k + (j - 1)) := by rw [mu40, nI_m (by omega)]; congr 1; omega
        refine wp_aload_n dX9_fitsSigns_32 rfl ?_
        refine wp_getR dX9_fitsSigns_33 fl_X9_68 rfl rfl (hG1 22) ?_
        refine wp_bipush (v := 40) dX9_fitsSigns_36 (by decide) ?_
        refine wp_iload_n dX9_fitsSigns_38 rfl ?_
        refine wp_imul dX9_fitsSigns_39 ?_
        refine wp_iload dX9_fitsSigns_40 rfl ?_
        refine wp_iadd dX9_fitsSigns_42 ?_
        refine wp_iconst (v := 1) dX9_fitsSigns_43 rfl ?_
        refine wp_isub dX9_fitsSigns_44 ?_
        rw [q2]
        refine wp_iaload dX9_fitsSigns_45 rfl (vp_in_nI (by omega) (by decide)) ?_
        rw [k2, sw]
        refine wp_goto (tgt := 50) dX9_fitsSigns_46 (by decide) ?_
        refine wp_istore dX9_fitsSigns_50 (Nat.le_of_ble_eq_true rfl) ?_
        refine wp_iconst (v := 0) dX9_fitsSigns_52 rfl ?_
        refine wp_istore dX9_fitsSigns_53 (Nat.le_of_ble_eq_true rfl) ?_
        refine wp_lv (inner j hjl (nI (w.getD (j - 1) 0)) (fun _ => rfl) (fun M2 hF2 h2 => ?_) (v.length + 1) 0 M1 (by omega) hF ha (fun q hq => absurd hq (Nat.not_lt_zero q))) (by repeat (first | exact trivial | refine ⟨rfl, ?_⟩))
        refine wp_iinc dX9_fitsSigns_229 rfl (i_inc _) (Nat.le_of_ble_eq_true rfl) ?_
        refine wp_goto (tgt := 20) dX9_fitsSigns_232 (by decide) ?_
        exact wp_lv (ih (j + 1) M2 (by omega) hF2 h2) (by repeat (first | exact trivial | refine ⟨rfl, ?_⟩))
  have hG := hn.1
  have hclv : (nI vi).toNatClampNeg = vi := nI_clamp (by omega)
  have hcl5 : (nI (5 * k)).toNatClampNeg = 5 * k + 0 := nI_clamp (by omega)
  refine wp_aload_n dX9_fitsSigns_0 rfl ?_
  refine wp_getR dX9_fitsSigns_1 fl_X9_86 rfl rfl (hG 31) ?_
  refine wp_iload_n dX9_fitsSigns_4 rfl ?_
  refine wp_iaload dX9_fitsSigns_5 rfl (vp_in_nI (by omega) (by decide)) ?_
  rw [hclv, hv.2.1]
  refine wp_istore_n dX9_fitsSigns_6 (Nat.le_of_ble_eq_true rfl) ?_
  refine wp_aload_n dX9_fitsSigns_7 rfl ?_
  refine wp_getR dX9_fitsSigns_8 fl_X9_65 rfl rfl (hG 21) ?_
  refine wp_iconst (v := 5) dX9_fitsSigns_11 rfl ?_
  refine wp_iload_n dX9_fitsSigns_12 rfl ?_
  refine wp_imul dX9_fitsSigns_13 ?_
  rw [mu5']
  refine wp_iaload dX9_fitsSigns_14 rfl (vp_in_nI (by omega) (by decide)) ?_
  rw [hcl5, show aI M 139 (5 * k + 0) = nI w.length from nl]
  refine wp_istore dX9_fitsSigns_15 (Nat.le_of_ble_eq_true rfl) ?_
  refine wp_iconst (v := 0) dX9_fitsSigns_17 rfl ?_
  refine wp_istore dX9_fitsSigns_18 (Nat.le_of_ble_eq_true rfl) ?_
  exact wp_lv (outer (w.length + 1) 0 M (by omega) Fr.rf (fun p hp => absurd hp (Nat.not_lt_zero p))) (by repeat (first | exact trivial | refine ⟨rfl, ?_⟩))
set_option maxRecDepth 100000 in
set_option maxHeartbeats 4000000 in
theorem cX9_fitsWord_ (E : GE) (vi k : Nat) (v : List Nat) (x : ND) (M : Mem) (hn : NX M k x) (hv : WV M vi v) (hx : nOk x) (h3 : ¬ nCo x = 3) : Sp E mX9_fitsWord 2 0 0 [.ref 121, .int (nI vi), .int (nI k)] SH M (fun o sh1 M1 => sh1 = SH ∧ o = some (.int (b2i (fitW x v = true))) ∧ tF M M1) := by
  refine sp_of vX9_fitsWord.1 rfl (Nat.le_of_ble_eq_true rfl) ?_
  have hG := hn.1
  have ho := hn.2.2.2
  have o0 := nd_okL hx ho 0
  have o1 := nd_okL hx ho 1
  have ov := hv.2.2.2
  have hk := hn.2.1
  have hclk : (nI k).toNatClampNeg = k := nI_clamp (by omega)
  have e0 : aI M 132 k = nCo x := hn.2.2.1.1
  have e4 : ∀ {M1 : Mem}, tF M M1 → aI M1 136 k = nDe x := fun q => (hn.ft q).2.2.1.2.2.2.2.1
  have hin : vp_in (nI k) 25 := vp_in_nI hk (by decide)
  have hl0 : 0 < (nWo x).length := by
    rcases hx.2 with ⟨_, e, _⟩ | ⟨_, e, _⟩ | ⟨_, e, _⟩ | ⟨e, _⟩
    · omega
    · omega
    · omega
    · exact absurd e h3
  have hl1 : nCo x = 2 → 1 < (nWo x).length := fun h => by
    rcases hx.2 with ⟨e, _⟩ | ⟨e, _⟩ | ⟨_, e, _⟩ | ⟨e, _⟩
    · exact absurd (e.symm.trans h) (by decide)
    · exact absurd (e.symm.trans h) (by decide)
    · omega
    · exact absurd e h3
  have hfit : nCo x = 2 → fitW x v = (if nDe x = 1 then decide (agn v (nWd x 0) > 0) && decide (agn v (nWd x 1) < 0) else decide (agn v (nWd x 0) ≥ 0) && decide (agn v (nWd x 1) ≤ 0)) := fun hco => by unfold fitW; rw [if_pos hco]
  have hfa : ¬ nCo x = 2 → 0 < nDe x → fitW x v = decide (nI (ed v (nWd x 0) v.length (nWd x 0).length) ≤ nDe x) := fun h k => by unfold fitW; rw [if_neg h, if_pos k]
  have hfb : ¬ nCo x = 2 → ¬ 0 < nDe x → fitW x v = pmN v (nWd x 0) (nWd x 0).length v.length := fun h k => by unfold fitW; rw [if_neg h, if_neg k]
  refine wp_aload_n dX9_fitsWord_0 rfl ?_
  refine wp_getR dX9_fitsWord_1 fl_X9_44 rfl rfl (hG 14) ?_
  refine wp_iload_n dX9_fitsWord_4 rfl ?_
  refine wp_iaload dX9_fitsWord_5 rfl hin ?_
  rw [hclk, e0]
  refine wp_iconst (v := 2) dX9_fitsWord_6 rfl ?_
  refine wp_icmp_ne (tgt := 69) dX9_fitsWord_7 (by decide) (fun c7 => ?_) (fun c7 => ?_)
  · refine wp_aload_n dX9_fitsWord_69 rfl ?_
    refine wp_getR dX9_fitsWord_70 fl_X9_56 rfl rfl (hG 18) ?_
    refine wp_iload_n dX9_fitsWord_73 rfl ?_
    refine wp_iaload dX9_fitsWord_74 rfl hin ?_
    rw [hclk, e4 Fr.rf]
    refine wp_if_le (tgt := 101) dX9_fitsWord_75 (by decide) (fun c75 => ?_) (fun c75 => ?_)
    · refine wp_aload_n dX9_fitsWord_101 rfl ?_
      refine wp_iload_n dX9_fitsWord_102 rfl ?_
      refine wp_iload_n dX9_fitsWord_103 rfl ?_
      refine wp_cV2p dX9_fitsWord_104 ml_X9_230 vX9_fitsSigns ⟨8, (RX9, TX9, 39), rfl, rfl, rfl⟩ (cX9_fitsSigns_ E vi k v x M hn hv hx hl0) (Nat.le_of_ble_eq_true rfl) (Nat.le_of_ble_eq_true rfl) (Nat.le_of_ble_eq_true rfl) (Nat.le_refl _) (Nat.le_refl _) (fun v sh1 M1 hqq => ?_)
      obtain ⟨rfl, rfl, hF⟩ := hqq
      refine wp_ireturn dX9_fitsWord_107 rfl (by first | exact nar_b2i _ | rfl) (Nat.zero_le _) (Nat.zero_le _) ?_
      rw [hfb c7 (fun q => by rw [← Int32.not_le] at q; exact q c75)]
      exact ⟨rfl, rfl, hF⟩
    · refine wp_aload_n dX9_fitsWord_78 rfl ?_
      refine wp_iload_n dX9_fitsWord_79 rfl ?_
      refine wp_iload_n dX9_fitsWord_80 rfl ?_
      refine wp_cV2p dX9_fitsWord_81 ml_X9_227 vX9_changes ⟨8, (RX9, TX9, 39), rfl, rfl, rfl⟩ (cX9_changes_ E vi k v x M hn hv hx hl0) (Nat.le_of_ble_eq_true rfl) (Nat.le_of_ble_eq_true rfl) (Nat.le_of_ble_eq_true rfl) (Nat.le_refl _) (Nat.le_refl _) (fun v sh1 M1 hqq => ?_)
      obtain ⟨rfl, rfl, hF⟩ := hqq
      refine wp_aload_n dX9_fitsWord_84 rfl ?_
      refine wp_getR dX9_fitsWord_85 fl_X9_56 rfl rfl ((hn.ft hF).1 18) ?_
      refine wp_iload_n dX9_fitsWord_88 rfl ?_
      refine wp_iaload dX9_fitsWord_89 rfl hin ?_
      rw [hclk, e4 hF]
      refine wp_icmp_gt (tgt := 97) dX9_fitsWord_90 (by decide) (fun c90 => ?_) (fun c90 => ?_)
      · refine wp_iconst (v := 0) dX9_fitsWord_97 rfl ?_
        refine wp_goto (tgt := 107) dX9_fitsWord_98 (by decide) ?_
        refine wp_ireturn dX9_fitsWord_107 rfl (by first | exact nar_b2i _ | rfl) (Nat.zero_le _) (Nat.zero_le _) ?_
        rw [hfa c7 (Int32.not_le.mp c75), b2i_f (by simp only [decide_eq_true_eq]; exact Int32.not_le.mpr c90)]
        exact ⟨rfl, rfl, hF⟩
      · refine wp_iconst (v := 1) dX9_fitsWord_93 rfl ?_
        refine wp_goto (tgt := 107) dX9_fitsWord_94 (by decide) ?_
        refine wp_ireturn dX9_fitsWord_107 rfl (by first | exact nar_b2i _ | rfl) (Nat.zero_le _) (Nat.zero_le _) ?_
        rw [hfa c7 (Int32.not_le.mp c75), b2i_t (by simp only [decide_eq_true_eq]; exact Int32.not_lt.mp c90)]
        exact ⟨rfl, rfl, hF⟩
  · refine wp_aload_n dX9_fitsWord_10 rfl ?_
    refine wp_iload_n dX9_fitsWord_11 rfl ?_
    refine wp_iload_n dX9_fitsWord_12 rfl ?_
    refine wp_iconst (v := 0) dX9_fitsWord_13 rfl ?_
    refine wp_cV3i dX9_fitsWord_14 ml_X9_223 vX9_against ⟨8, (RX9, TX9, 39), rfl, rfl, rfl⟩ (cX9_against_ E vi k 0 v x M hn hv hx hl0) (Nat.le_of_ble_eq_true rfl) (Nat.le_of_ble_eq_true rfl) (Nat.le_of_ble_eq_true rfl) ?_
    refine wp_istore_n dX9_fitsWord_17 (Nat.le_of_ble_eq_true rfl) ?_
    refine wp_aload_n dX9_fitsWord_18 rfl ?_
    refine wp_iload_n dX9_fitsWord_19 rfl ?_
    refine wp_iload_n dX9_fitsWord_20 rfl ?_
    refine wp_iconst (v := 1) dX9_fitsWord_21 rfl ?_
    refine wp_cV3i dX9_fitsWord_22 ml_X9_223 vX9_against ⟨8, (RX9, TX9, 39), rfl, rfl, rfl⟩ (cX9_against_ E vi k 1 v x M hn hv hx (hl1 c7)) (Nat.le_of_ble_eq_true rfl) (Nat.le_of_ble_eq_true rfl) (Nat.le_of_ble_eq_true rfl) ?_
    refine wp_istore dX9_fitsWord_25 (Nat.le_of_ble_eq_true rfl) ?_
    refine wp_aload_n dX9_fitsWord_27 rfl ?_
    refine wp_getR dX9_fitsWord_28 fl_X9_56 rfl rfl (hG 18) ?_
    refine wp_iload_n dX9_fitsWord_31 rfl ?_
    refine wp_iaload dX9_fitsWord_32 rfl hin ?_
    rw [hclk, e4 Fr.rf]
    refine wp_iconst (v := 1) dX9_fitsWord_33 rfl ?_
    refine wp_icmp_ne (tgt := 54) dX9_fitsWord_34 (by decide) (fun c34 => ?_) (fun c34 => ?_)
    · refine wp_iload_n dX9_fitsWord_54 rfl ?_
      refine wp_if_lt (tgt := 67) dX9_fitsWord_55 (by decide) (fun c55 => ?_) (fun c55 => ?_)
      · refine wp_iconst (v := 0) dX9_fitsWord_67 rfl ?_
        refine wp_ireturn dX9_fitsWord_68 rfl rfl (Nat.zero_le _) (Nat.zero_le _) ?_
        have h := (agI_lt ov o0).mp c55
        rw [hfit c7, if_neg c34, b2i_f (by simp only [Bool.and_eq_true, decide_eq_true_eq]; omega)]; exact ⟨rfl, rfl, Fr.rf⟩
      · refine wp_iload dX9_fitsWord_58 rfl ?_
        refine wp_if_gt (tgt := 67) dX9_fitsWord_60 (by decide) (fun c60 => ?_) (fun c60 => ?_)
        · refine wp_iconst (v := 0) dX9_fitsWord_67 rfl ?_
          refine wp_ireturn dX9_fitsWord_68 rfl rfl (Nat.zero_le _) (Nat.zero_le _) ?_
          have h := (agI_gt ov o1).mp c60
          rw [hfit c7, if_neg c34, b2i_f (by simp only [Bool.and_eq_true, decide_eq_true_eq]; omega)]; exact ⟨rfl, rfl, Fr.rf⟩
        · refine wp_iconst (v := 1) dX9_fitsWord_63 rfl ?_
          refine wp_goto (tgt := 68) dX9_fitsWord_64 (by decide) ?_
          refine wp_ireturn dX9_fitsWord_68 rfl rfl (Nat.zero_le _) (Nat.zero_le _) ?_
          have h : ¬ agn v (nWd x 0) < 0 := fun q => c55 ((agI_lt ov o0).mpr q)
          have k : ¬ 0 < agn v (nWd x 1) := fun q => c60 ((agI_gt ov o1).mpr q)
          rw [hfit c7, if_neg c34, b2i_t (by simp only [Bool.and_eq_true, decide_eq_true_eq]; omega)]; exact ⟨rfl, rfl, Fr.rf⟩
    · refine wp_iload_n dX9_fitsWord_37 rfl ?_
      refine wp_if_le (tgt := 50) dX9_fitsWord_38 (by decide) (fun c38 => ?_) (fun c38 => ?_)
      · refine wp_iconst (v := 0) dX9_fitsWord_50 rfl ?_
        refine wp_goto (tgt := 68) dX9_fitsWord_51 (by decide) ?_
        refine wp_ireturn dX9_fitsWord_68 rfl rfl (Nat.zero_le _) (Nat.zero_le _) ?_
        have h := (agI_le ov o0).mp c38
        rw [hfit c7, if_pos c34, b2i_f (by simp only [Bool.and_eq_true, decide_eq_true_eq]; omega)]; exact ⟨rfl, rfl, Fr.rf⟩
      · refine wp_iload dX9_fitsWord_41 rfl ?_
        refine wp_if_ge (tgt := 50) dX9_fitsWord_43 (by decide) (fun c43 => ?_) (fun c43 => ?_)
        · refine wp_iconst (v := 0) dX9_fitsWord_50 rfl ?_
          refine wp_goto (tgt := 68) dX9_fitsWord_51 (by decide) ?_
          refine wp_ireturn dX9_fitsWord_68 rfl rfl (Nat.zero_le _) (Nat.zero_le _) ?_
          have h := (agI_ge ov o1).mp c43
          rw [hfit c7, if_pos c34, b2i_f (by simp only [Bool.and_eq_true, decide_eq_true_eq]; omega)]; exact ⟨rfl, rfl, Fr.rf⟩
        · refine wp_iconst (v := 1) dX9_fitsWord_46 rfl ?_
          refine wp_goto (tgt := 68) dX9_fitsWord_47 (by decide) ?_
          refine wp_ireturn dX9_fitsWord_68 rfl rfl (Nat.zero_le _) (Nat.zero_le _) ?_
          have h : ¬ agn v (nWd x 0) ≤ 0 := fun q => c38 ((agI_le ov o0).mpr q)
          have k : ¬ 0 ≤ agn v (nWd x 1) := fun q => c43 ((agI_ge ov o1).mpr q)
          rw [hfit c7, if_pos c34, b2i_t (by simp only [Bool.and_eq_true, decide_eq_true_eq]; omega)]; exact ⟨rfl, rfl, Fr.rf⟩
