/-! ===== the model: word and clear ===== -/
theorem mdoc_c (d : Int32) : b2i (0 ≤ d ∧ d ≤ 7) = b2i (docI d) := rfl
abbrev plnI (w : Int64) (i : Nat) : Prop := 0 < nb w ∧ ∀ k, k < nb w → i ≤ k → isLt (bv w k)
theorem bv_top {w : Int64} {k : Nat} (h : nb w ≤ k) : bv w k = 0 := by rw [bv_dg, (nb_div w k).mpr h]
theorem bv_cnt {w : Int64} {k : Nat} (h : nb w ≤ k + 1) : bv w k ≠ 0 ↔ k < nb w := by
  constructor
  · intro e
    exact Nat.lt_of_not_le fun c => e (bv_top c)
  · intro e
    have h1 : nb w = k + 1 := by omega
    have := nbk_hi w 8 (show 0 < nb w by omega)
    have h2 : nbk w 8 = k + 1 := h1
    rw [h2] at this; exact this
theorem rmW_add {M M1 : Mem} {dc : Nat → List (List Nat)} {r : Nat} {x : List Nat} (h : rmW M dc) (hr : r < 32) (hl : (dc r).length < 12) (hx : x.length ≤ 8) (h1 : ∀ i, aI M1 144 i = if i = r then nI ((dc r).length + 1) else aI M 144 i) (h2 : ∀ i, aI M1 145 i = if i = 12 * r + (dc r).length then nI x.length else aI M 145 i) (h3 : ∀ i, ¬ (8 * (12 * r + (dc r).length) ≤ i ∧ i < 8 * (12 * r + (dc r).length) + x.length) → aI M1 146 i = aI M 146 i) (h4 : ∀ i, i < x.length → aI M1 146 (8 * (12 * r + (dc r).length) + i) = nI (x.getD i 0)) : rmW M1 (va_up dc r (dc r ++ [x])) := by
  intro r1 hr1
  by_cases e : r1 = r
  · subst e
    rw [va_up_self]
    refine ⟨?_, by rw [List.length_append]; exact hl, fun p hp => ?_⟩
    · rw [h1, if_pos rfl, List.length_append]; rfl
    · rw [List.length_append] at hp
      have hp : p < (dc r1).length + 1 := hp
      rw [getD_app]
      by_cases c : p = (dc r1).length
      · rw [if_pos c, c]
        exact ⟨by rw [h2, if_pos rfl], hx, fun i hi => h4 i hi⟩
      · rw [if_neg c]
        obtain ⟨a1, a2, a3⟩ := (h r1 hr1).2.2 p (by omega)
        refine ⟨by rw [h2, if_neg (by omega)]; exact a1, a2, fun i hi => ?_⟩
        rw [h3 _ (by omega)]; exact a3 i hi
  · rw [va_up_ne _ _ e]
    obtain ⟨a, b, c⟩ := h r1 hr1
    refine ⟨by rw [h1, if_neg e]; exact a, b, fun p hp => ?_⟩
    obtain ⟨a1, a2, a3⟩ := c p hp
    refine ⟨by rw [h2, if_neg (by omega)]; exact a1, a2, fun i hi => ?_⟩
    rw [h3 _ (by omega)]; exact a3 i hi
theorem at0_n (D F c : Nat) : 48 * nI D + 12 * nI F + nI c = nI (12 * (4 * D + F) + c) := by
  rw [show (48 : Int32) = nI 48 from rfl, show (12 : Int32) = nI 12 from rfl, pk_mul, pk_mul, nI_add, nI_add]
  congr 1; omega
theorem sub2 {n i : Nat} (h : i < n) : nI n - 1 - nI i = nI (n - 1 - i) := by
  obtain ⟨m, rfl⟩ : ∃ m, n = m + 1 + i := ⟨n - 1 - i, by omega⟩
  rw [show m + 1 + i - 1 - i = m by omega, ← nI_add, ← nI_1]
  have e : nI m + 1 + nI i - 1 = nI m + nI i := by rw [Int32.add_assoc, Int32.add_comm 1, ← Int32.add_assoc, Int32.add_sub_cancel]
  rw [e, Int32.add_sub_cancel]
set_option maxRecDepth 100000 in
set_option maxHeartbeats 4000000 in
theorem cX9_word__ (E : GE) (tp gn : List Nat) (q : QQ) (o : Option (List Nat)) (dc : Nat → List (List Nat)) (M : Mem) (h : RM M tp gn q o dc) (d f : Int32) (w : Int64) : Sp E mX9_word_ 2 0 0 [.ref 121, .int d, .int f, .long w] SH M (pDocM M (wdV dc d f w) tp gn q o (wdD dc d f w)) := by
  refine sp_of vX9_word_.1 rfl (Nat.le_of_ble_eq_true rfl) ?_
  have h0 : RM (sI M 121 0 0) tp gn q o dc := RM_sI h (by decide)
  have hG := h0.1
  have hW := h0.2.2.2.2.2
  have h8 := nb_le w
  have ho0 : OutM M (sI M 121 0 0) := sI_out
  have hno : ¬ (docI d ∧ fldI f) → Wp (xM E mX9_word_ 2 0 0 SH.length (pDocM M (wdV dc d f w) tp gn q o (wdD dc d f w))) 0 0 24 [] [] SH (sI M 121 0 0) := by
    intro hn
    refine wp_bipush (v := (-101)) dX9_word__24 (by decide) ?_
    refine wp_ireturn dX9_word__26 rfl rfl (Nat.zero_le _) (Nat.zero_le _) ?_
    unfold wdV wdD
    rw [if_neg hn, if_neg hn]
    exact ⟨rfl, rfl, rfl, h0, ho0⟩
  have J129 : docI d → fldI f → Wp (xM E mX9_word_ 2 0 0 SH.length (pDocM M (wdV dc d f w) tp gn q o (wdD dc d f w))) 0 0 129 [(5, .int (nI (nb w))), (6, .int (b2i (plnI w 0))), (1, .int d), (2, .int f), (3, .long w), (0, .ref 121)] [] SH (sI M 121 0 0) := by
    intro hd hf
    have hok : docI d ∧ fldI f := ⟨hd, hf⟩
    obtain ⟨D, hD, rfl⟩ := doc_n hd
    obtain ⟨F, hF, rfl⟩ := fld_n hf
    have er := row_n hD hF
    obtain ⟨wa, wb, wc⟩ := hW (4 * D + F) (by omega)
    have hpi : plnI w 0 ↔ pln w := ⟨fun h => ⟨h.1, fun k hk => h.2 k hk (Nat.zero_le _)⟩, fun h => ⟨h.1, fun k hk _ => h.2 k hk⟩⟩
    have hin : vp_in (nI (4 * D + F)) 32 := vp_in_nI (by omega) (by decide)
    have hcl : (nI (4 * D + F)).toNatClampNeg = 4 * D + F := nI_clamp (by omega)
    have J189 : (dc (4 * D + F)).length < 12 → pln w → ∀ (r i : Nat) (M1 : Mem), i + r = nb w → Fr [] [145, 146] [] (sI M 121 0 0) M1 → (∀ j, aI M1 145 j = if j = 12 * (4 * D + F) + (dc (4 * D + F)).length then nI (nb w) else aI M 145 j) → (∀ j, ¬ (8 * (12 * (4 * D + F) + (dc (4 * D + F)).length) ≤ j ∧ j < 8 * (12 * (4 * D + F) + (dc (4 * D + F)).length) + i) → aI M1 146 j = aI M 146 j) → (∀ j, j < i → aI M1 146 (8 * (12 * (4 * D + F) + (dc (4 * D + F)).length) + j) = nI ((wl w).getD j 0)) → Wp (xM E mX9_word_ 2 0 0 SH.length (pDocM M (wdV dc (nI D) (nI F) w) tp gn q o (wdD dc (nI D) (nI F) w))) 0 0 189 [(8, .int (nI i)), (5, .int (nI (nb w))), (7, .int (nI (12 * (4 * D + F) + (dc (4 * D + F)).length))), (1, .int (nI D)), (2, .int (nI F)), (3, .long w), (0, .ref 121)] [] SH M1 := by
      intro hl hp r
      induction r with
      | zero =>
        intro i M1 hi hF1 h145 h146 hs
        have hi : i = nb w := by omega
        subst hi
        have hG1 := hG.fr hF1
        have e144 : aI M1 144 (4 * D + F) = nI (dc (4 * D + F)).length := (hF1.2.1 _ (by simp) _).trans wa
        refine wp_iload dX9_word__189 rfl ?_
        refine wp_iload dX9_word__191 rfl ?_
        refine wp_icmp_ge (tgt := 232) dX9_word__193 (by decide) (fun c193 => ?_) (fun c193 => absurd (Int32.le_refl _) c193)
        refine wp_aload_n dX9_word__232 rfl ?_
        refine wp_getR dX9_word__233 fl_X9_83 rfl rfl (hG1 30) ?_
        refine wp_iconst (v := 4) dX9_word__236 rfl ?_
        refine wp_iload_n dX9_word__237 rfl ?_
        refine wp_imul dX9_word__238 ?_
        refine wp_iload_n dX9_word__239 rfl ?_
        refine wp_iadd dX9_word__240 ?_
        rw [mul4']
        refine wp_dup2 dX9_word__241 rfl rfl ?_
        refine wp_iaload dX9_word__242 rfl hin ?_
        rw [hcl, e144]
        refine wp_iconst (v := 1) dX9_word__243 rfl ?_
        refine wp_iadd dX9_word__244 ?_
        refine wp_iastore dX9_word__245 rfl hin ?_
        rw [hcl, nI_1]
        refine wp_aload_n dX9_word__246 rfl ?_
        refine wp_getR dX9_word__247 fl_X9_83 rfl rfl (hG1 30) ?_
        refine wp_iconst (v := 4) dX9_word__250 rfl ?_
        refine wp_iload_n dX9_word__251 rfl ?_
        refine wp_imul dX9_word__252 ?_
        refine wp_iload_n dX9_word__253 rfl ?_
        refine wp_iadd dX9_word__254 ?_
        rw [mul4']
        refine wp_iaload dX9_word__255 rfl hin ?_
        refine wp_ireturn dX9_word__256 rfl rfl (Nat.zero_le _) (Nat.zero_le _) ?_
        rw [hcl, aI_sA, if_pos ⟨rfl, rfl⟩]
        unfold wdV wdD
        rw [if_pos hok, if_pos hp, if_pos hok, if_pos hp, er, if_pos hl, if_pos hl]
        have hF0 : Fr [(121, 0)] [144, 145, 146] [] M (sI M 121 0 0) := Fr.rf.sI (by simp)
        have hF2 : Fr [(121, 0)] [144, 145, 146] [] M (sA M1 144 (4 * D + F) (nI ((dc (4 * D + F)).length + 1))) := (hF0.tr (hF1.wk (by simp) (by simp) (by simp))).sA (by simp)
        refine ⟨rfl, rfl, ?_, RM_W h hF2 (rmW_add h.2.2.2.2.2 (by omega) hl (by unfold wl; rw [feedB_len]; exact h8) ?_ ?_ ?_ ?_), hF2.out (by simp) (by simp) (by simp)⟩
        · rw [fI_sA]; exact hF1.1 _ _ (by simp)
        · intro j; rw [aI_sA]
          by_cases c : j = 4 * D + F
          · rw [if_pos ⟨rfl, c⟩, if_pos c]
          · rw [if_neg (fun q => c q.2), if_neg c]; exact hF1.2.1 _ (by simp) j
        · intro j; rw [aI_sA, if_neg (by omega)]
          have : (wl w).length = nb w := by unfold wl; exact feedB_len _ _
          rw [this]; exact h145 j
        · intro j hj; rw [aI_sA, if_neg (by omega)]
          have : (wl w).length = nb w := by unfold wl; exact feedB_len _ _
          rw [this] at hj; exact h146 j hj
        · intro j hj; rw [aI_sA, if_neg (by omega)]
          have : (wl w).length = nb w := by unfold wl; exact feedB_len _ _
          rw [this] at hj; exact hs j hj
      | succ r ih =>
        intro i M1 hi hF1 h145 h146 hs
        have hG1 := hG.fr hF1
        have hil : i < nb w := by omega
        have e8 : 8 * nI (12 * (4 * D + F) + (dc (4 * D + F)).length) + nI i = nI (8 * (12 * (4 * D + F) + (dc (4 * D + F)).length) + i) := by
          rw [show (8 : Int32) = nI 8 from rfl, pk_mul, nI_add]
        have hin2 : vp_in (nI (8 * (12 * (4 * D + F) + (dc (4 * D + F)).length) + i)) 3072 := vp_in_nI (by omega) (by decide)
        have hby : (w >>> ((8 * (nI (nb w) - 1 - nI i)).toInt64 &&& 63)).toInt32 &&& 255 = nI ((wl w).getD i 0) := by
          rw [sub2 hil, low8_s w _ (by omega)]
          unfold wl
          rw [feedB_at _ _ _ hil]
        refine wp_iload dX9_word__189 rfl ?_
        refine wp_iload dX9_word__191 rfl ?_
        refine wp_icmp_ge (tgt := 232) dX9_word__193 (by decide) (fun c193 => absurd c193 (nI_ge hil (by omega))) (fun c193 => ?_)
        refine wp_aload_n dX9_word__196 rfl ?_
        refine wp_getR dX9_word__197 fl_X9_89 rfl rfl (hG1 32) ?_
        refine wp_bipush (v := 8) dX9_word__200 (by decide) ?_
        refine wp_iload dX9_word__202 rfl ?_
        refine wp_imul dX9_word__204 ?_
        refine wp_iload dX9_word__205 rfl ?_
        refine wp_iadd dX9_word__207 ?_
        rw [e8]
        refine wp_lload_n dX9_word__208 rfl ?_
        refine wp_bipush (v := 8) dX9_word__209 (by decide) ?_
        refine wp_iload dX9_word__211 rfl ?_
        refine wp_iconst (v := 1) dX9_word__213 rfl ?_
        refine wp_isub dX9_word__214 ?_
        refine wp_iload dX9_word__215 rfl ?_
        refine wp_isub dX9_word__217 ?_
        refine wp_imul dX9_word__218 ?_
        refine wp_lshr dX9_word__219 ?_
        refine wp_l2i dX9_word__220 ?_
        refine wp_sipush (v := 255) dX9_word__221 (by decide) ?_
        refine wp_iand dX9_word__224 ?_
        rw [hby]
        refine wp_iastore dX9_word__225 rfl hin2 ?_
        refine wp_iinc dX9_word__226 rfl (i_inc _) (Nat.le_of_ble_eq_true rfl) ?_
        refine wp_goto (tgt := 189) dX9_word__229 (by decide) ?_
        rw [nI_clamp (show 8 * (12 * (4 * D + F) + (dc (4 * D + F)).length) + i < 2 ^ 31 by omega)]
        refine wp_lv (ih (i + 1) _ (by omega) (hF1.sA (by simp)) (fun j => ?_) (fun j hj => ?_) (fun j hj => ?_)) (by repeat (first | exact trivial | refine ⟨rfl, ?_⟩))
        · rw [aI_sA, if_neg (by omega)]; exact h145 j
        · rw [aI_sA, if_neg (by omega)]; exact h146 j (by omega)
        · rw [aI_sA]
          split
          · next c => have : j = i := by omega
                      rw [this]
          · next c => exact hs j (by omega)
    refine wp_iload dX9_word__129 rfl ?_
    refine wp_if_ne (tgt := 137) dX9_word__131 (by decide) (fun c131 => ?_) (fun c131 => ?_)
    · have hp := hpi.mp (b2i_ne.mp c131)
      refine wp_aload_n dX9_word__137 rfl ?_
      refine wp_getR dX9_word__138 fl_X9_83 rfl rfl (hG 30) ?_
      refine wp_iconst (v := 4) dX9_word__141 rfl ?_
      refine wp_iload_n dX9_word__142 rfl ?_
      refine wp_imul dX9_word__143 ?_
      refine wp_iload_n dX9_word__144 rfl ?_
      refine wp_iadd dX9_word__145 ?_
      rw [mul4']
      refine wp_iaload dX9_word__146 rfl hin ?_
      rw [hcl, wa]
      refine wp_bipush (v := 12) dX9_word__147 (by decide) ?_
      refine wp_icmp_ne (tgt := 155) dX9_word__149 (by decide) (fun c149 => ?_) (fun c149 => ?_)
      · have hl : (dc (4 * D + F)).length < 12 := by
          have : (dc (4 * D + F)).length ≠ 12 := fun e => c149 (by rw [e]; rfl)
          omega
        refine wp_bipush (v := 48) dX9_word__155 (by decide) ?_
        refine wp_iload_n dX9_word__157 rfl ?_
        refine wp_imul dX9_word__158 ?_
        refine wp_bipush (v := 12) dX9_word__159 (by decide) ?_
        refine wp_iload_n dX9_word__161 rfl ?_
        refine wp_imul dX9_word__162 ?_
        refine wp_iadd dX9_word__163 ?_
        refine wp_aload_n dX9_word__164 rfl ?_
        refine wp_getR dX9_word__165 fl_X9_83 rfl rfl (hG 30) ?_
        refine wp_iconst (v := 4) dX9_word__168 rfl ?_
        refine wp_iload_n dX9_word__169 rfl ?_
        refine wp_imul dX9_word__170 ?_
        refine wp_iload_n dX9_word__171 rfl ?_
        refine wp_iadd dX9_word__172 ?_
        rw [mul4']
        refine wp_iaload dX9_word__173 rfl hin ?_
        rw [hcl, wa]
        refine wp_iadd dX9_word__174 ?_
        rw [at0_n]
        refine wp_istore dX9_word__175 (Nat.le_of_ble_eq_true rfl) ?_
        refine wp_aload_n dX9_word__177 rfl ?_
        refine wp_getR dX9_word__178 fl_X9_86 rfl rfl (hG 31) ?_
        refine wp_iload dX9_word__181 rfl ?_
        refine wp_iload dX9_word__183 rfl ?_
        refine wp_iastore dX9_word__185 rfl (vp_in_nI (by omega) (by decide)) ?_
        refine wp_iconst (v := 0) dX9_word__186 rfl ?_
        refine wp_istore dX9_word__187 (Nat.le_of_ble_eq_true rfl) ?_
        rw [nI_clamp (show 12 * (4 * D + F) + (dc (4 * D + F)).length < 2 ^ 31 by omega)]
        refine wp_lv (J189 hl hp (nb w) 0 _ (by omega) (Fr.rf.sA (by simp)) (fun j => ?_) (fun j hj => ?_) (fun j hj => absurd hj (Nat.not_lt_zero j))) (by repeat (first | exact trivial | refine ⟨rfl, ?_⟩))
        · rw [aI_sA]
          by_cases c : j = 12 * (4 * D + F) + (dc (4 * D + F)).length
          · rw [if_pos ⟨rfl, c⟩, if_pos c]
          · rw [if_neg (fun q => c q.2), if_neg c]; rfl
        · rw [aI_sA, if_neg (by omega)]; rfl
      · refine wp_bipush (v := (-103)) dX9_word__152 (by decide) ?_
        refine wp_ireturn dX9_word__154 rfl rfl (Nat.zero_le _) (Nat.zero_le _) ?_
        have hl : ¬ (dc (4 * D + F)).length < 12 := by
          have := nI_e (b := 12) (by omega) (by decide) c149
          omega
        unfold wdV wdD
        rw [if_pos hok, if_pos hp, if_pos hok, if_pos hp, er, if_neg hl, if_neg hl]
        exact ⟨rfl, rfl, rfl, h0, ho0⟩
    · refine wp_bipush (v := (-102)) dX9_word__134 (by decide) ?_
      refine wp_ireturn dX9_word__136 rfl rfl (Nat.zero_le _) (Nat.zero_le _) ?_
      have hp : ¬ pln w := fun h => b2i_e0.mp c131 (hpi.mpr h)
      unfold wdV wdD
      rw [if_pos hok, if_neg hp, if_pos hok, if_neg hp]
      exact ⟨rfl, rfl, rfl, h0, ho0⟩
  have J47 : docI d → fldI f → ∀ i, i ≤ 8 → Wp (xM E mX9_word_ 2 0 0 SH.length (pDocM M (wdV dc d f w) tp gn q o (wdD dc d f w))) 0 0 47 [(7, .int (nI i - 1)), (6, .int (b2i (plnI w i))), (5, .int (nI (nb w - i))), (1, .int d), (2, .int f), (3, .long w), (0, .ref 121)] [] SH (sI M 121 0 0) := by
    intro hd hf i
    induction i with
    | zero =>
      intro hi
      refine wp_iload dX9_word__47 rfl ?_
      refine wp_if_lt (tgt := 129) dX9_word__49 (by decide) (fun c49 => ?_) (fun c49 => absurd (show nI 0 - 1 < 0 by decide) c49)
      exact wp_lv (J129 hd hf) (by repeat (first | exact trivial | refine ⟨rfl, ?_⟩))
    | succ k ih =>
      intro hi
      have hk8 : k < 8 := by omega
      have e1 : nI (k + 1) - 1 = nI k := by rw [← nI_1, Int32.add_sub_cancel]
      rw [e1]
      have hby : (w >>> ((8 * nI k).toInt64 &&& 63)).toInt32 &&& 255 = nI (bv w k) := low8_s w k hk8
      have hcnt : (0 < nI (nb w - (k + 1)) ∨ ¬ nI (bv w k) = 0) ↔ k < nb w := by
        have e0 : (0 < nI (nb w - (k + 1))) ↔ k + 1 < nb w := by
          rw [Int32.lt_iff_toInt_lt, nI_toInt (by omega)]
          show (0 : Int) < _ ↔ _
          omega
        have e2 : (¬ nI (bv w k) = 0) ↔ bv w k ≠ 0 := by
          have hb := bv_lt w k
          constructor
          · intro e c; exact e (by rw [c]; rfl)
          · intro e c; exact e (nI_e (b := 0) (by omega) (by decide) c)
        rw [e0, e2]
        by_cases c : k + 1 < nb w
        · constructor
          · intro _; omega
          · intro _; exact Or.inl c
        · rw [bv_cnt (by omega)]
          constructor
          · rintro (q | q)
            · exact absurd q c
            · exact q
          · intro q; exact Or.inr q
      have J106 : ∀ z : Int32, z = b2i (plnI w k) → Wp (xM E mX9_word_ 2 0 0 SH.length (pDocM M (wdV dc d f w) tp gn q o (wdD dc d f w))) 0 0 106 [(9, .int (b2i (k < nb w))), (8, .int (nI (bv w k))), (7, .int (nI k)), (5, .int (nI (nb w - (k + 1)))), (1, .int d), (2, .int f), (3, .long w), (0, .ref 121)] [.int z] SH (sI M 121 0 0) := by
        intro z hz
        rw [hz]
        refine wp_istore dX9_word__106 (Nat.le_of_ble_eq_true rfl) ?_
        refine wp_iload dX9_word__108 rfl ?_
        refine wp_iload dX9_word__110 rfl ?_
        refine wp_if_eq (tgt := 119) dX9_word__112 (by decide) (fun c112 => ?_) (fun c112 => ?_)
        · refine wp_iconst (v := 0) dX9_word__119 rfl ?_
          refine wp_iadd dX9_word__120 ?_
          refine wp_istore dX9_word__121 (Nat.le_of_ble_eq_true rfl) ?_
          refine wp_iinc dX9_word__123 rfl (i_neg1 _) (Nat.le_of_ble_eq_true rfl) ?_
          refine wp_goto (tgt := 47) dX9_word__126 (by decide) ?_
          have e : nI (nb w - (k + 1)) + 0 = nI (nb w - k) := by rw [Int32.add_zero]; congr 1; have := b2i_e0.mp c112; omega
          rw [e]
          exact wp_lv (ih (by omega)) (by repeat (first | exact trivial | refine ⟨rfl, ?_⟩))
        · refine wp_iconst (v := 1) dX9_word__115 rfl ?_
          refine wp_goto (tgt := 120) dX9_word__116 (by decide) ?_
          refine wp_iadd dX9_word__120 ?_
          refine wp_istore dX9_word__121 (Nat.le_of_ble_eq_true rfl) ?_
          refine wp_iinc dX9_word__123 rfl (i_neg1 _) (Nat.le_of_ble_eq_true rfl) ?_
          refine wp_goto (tgt := 47) dX9_word__126 (by decide) ?_
          have e : nI (nb w - (k + 1)) + 1 = nI (nb w - k) := by rw [nI_1]; congr 1; have := b2i_ne.mp c112; omega
          rw [e]
          exact wp_lv (ih (by omega)) (by repeat (first | exact trivial | refine ⟨rfl, ?_⟩))
      have J81 : ∀ y : Int32, y = b2i (k < nb w) → Wp (xM E mX9_word_ 2 0 0 SH.length (pDocM M (wdV dc d f w) tp gn q o (wdD dc d f w))) 0 0 81 [(8, .int (nI (bv w k))), (7, .int (nI k)), (6, .int (b2i (plnI w (k + 1)))), (5, .int (nI (nb w - (k + 1)))), (1, .int d), (2, .int f), (3, .long w), (0, .ref 121)] [.int y] SH (sI M 121 0 0) := by
        intro y hy
        rw [hy]
        refine wp_istore dX9_word__81 (Nat.le_of_ble_eq_true rfl) ?_
        refine wp_iload dX9_word__83 rfl ?_
        refine wp_if_eq (tgt := 105) dX9_word__85 (by decide) (fun c85 => ?_) (fun c85 => ?_)
        · refine wp_iconst (v := 0) dX9_word__105 rfl ?_
          have hn : ¬ plnI w k := fun h => b2i_e0.mp c85 ⟨h.1, fun j hj hk => h.2 j hj (by omega)⟩
          exact wp_lv (J106 0 (b2i_f hn).symm) (by repeat (first | exact trivial | refine ⟨rfl, ?_⟩))
        · refine wp_iload dX9_word__88 rfl ?_
          refine wp_if_eq (tgt := 101) dX9_word__90 (by decide) (fun c90 => ?_) (fun c90 => ?_)
          · refine wp_iconst (v := 1) dX9_word__101 rfl ?_
            refine wp_goto (tgt := 106) dX9_word__102 (by decide) ?_
            have h1 := b2i_ne.mp c85
            have h2 := b2i_e0.mp c90
            exact wp_lv (J106 1 (b2i_t (p := plnI w k) ⟨h1.1, fun j hj hk => h1.2 j hj (by omega)⟩).symm) (by repeat (first | exact trivial | refine ⟨rfl, ?_⟩))
          · refine wp_iload dX9_word__93 rfl ?_
            refine wp_cS1i dX9_word__95 ml_X9_138 sX9_isLetter (cX9_isLetter_ E _ _ _) (Nat.le_of_ble_eq_true rfl) (Nat.le_of_ble_eq_true rfl) (Nat.le_of_ble_eq_true rfl) ?_
            refine wp_if_eq (tgt := 105) dX9_word__98 (by decide) (fun c98 => ?_) (fun c98 => ?_)
            · refine wp_iconst (v := 0) dX9_word__105 rfl ?_
              have h2 := b2i_ne.mp c90
              have hn : ¬ plnI w k := fun h => b2i_e0.mp c98 ((isLt_i (bv_lt w _)).mpr (h.2 k h2 (Nat.le_refl _)))
              exact wp_lv (J106 0 (b2i_f hn).symm) (by repeat (first | exact trivial | refine ⟨rfl, ?_⟩))
            · refine wp_iconst (v := 1) dX9_word__101 rfl ?_
              refine wp_goto (tgt := 106) dX9_word__102 (by decide) ?_
              have h1 := b2i_ne.mp c85
              have h3 := (isLt_i (bv_lt w _)).mp (b2i_ne.mp c98)
              exact wp_lv (J106 1 (b2i_t (p := plnI w k) ⟨h1.1, fun j hj hk => by
                by_cases c : j = k
                · rw [c]; exact h3
                · exact h1.2 j hj (by omega)⟩).symm) (by repeat (first | exact trivial | refine ⟨rfl, ?_⟩))
      refine wp_iload dX9_word__47 rfl ?_
      refine wp_if_lt (tgt := 129) dX9_word__49 (by decide) (fun c49 => absurd c49 (nI_pos (by omega))) (fun c49 => ?_)
      refine wp_lload_n dX9_word__52 rfl ?_
      refine wp_bipush (v := 8) dX9_word__53 (by decide) ?_
      refine wp_iload dX9_word__55 rfl ?_
      refine wp_imul dX9_word__57 ?_
      refine wp_lshr dX9_word__58 ?_
      refine wp_l2i dX9_word__59 ?_
      refine wp_sipush (v := 255) dX9_word__60 (by decide) ?_
      refine wp_iand dX9_word__63 ?_
      rw [hby]
      refine wp_istore dX9_word__64 (Nat.le_of_ble_eq_true rfl) ?_
      refine wp_iload dX9_word__66 rfl ?_
      refine wp_if_gt (tgt := 76) dX9_word__68 (by decide) (fun c68 => ?_) (fun c68 => ?_)
      · refine wp_iconst (v := 1) dX9_word__76 rfl ?_
        refine wp_goto (tgt := 81) dX9_word__77 (by decide) ?_
        exact wp_lv (J81 1 (b2i_t (hcnt.mp (Or.inl c68))).symm) (by repeat (first | exact trivial | refine ⟨rfl, ?_⟩))
      · refine wp_iload dX9_word__71 rfl ?_
        refine wp_if_eq (tgt := 80) dX9_word__73 (by decide) (fun c73 => ?_) (fun c73 => ?_)
        · refine wp_iconst (v := 0) dX9_word__80 rfl ?_
          exact wp_lv (J81 0 (b2i_f (fun h => by rcases hcnt.mpr h with q | q; exact c68 q; exact q c73)).symm) (by repeat (first | exact trivial | refine ⟨rfl, ?_⟩))
        · refine wp_iconst (v := 1) dX9_word__76 rfl ?_
          refine wp_goto (tgt := 81) dX9_word__77 (by decide) ?_
          exact wp_lv (J81 1 (b2i_t (hcnt.mp (Or.inr c73))).symm) (by repeat (first | exact trivial | refine ⟨rfl, ?_⟩))
  refine wp_aload_n dX9_word__0 rfl ?_
  refine wp_iconst (v := 0) dX9_word__1 rfl ?_
  refine wp_putI dX9_word__2 fl_X9_1 rfl rfl (fun _ _ _ h => by cases h; rfl) rfl rfl ?_
  refine wp_iload_n dX9_word__5 rfl ?_
  refine wp_cS1i dX9_word__6 ml_X9_214 sX9_isDocument (cX9_isDocument_ E _ _ _) (Nat.le_of_ble_eq_true rfl) (Nat.le_of_ble_eq_true rfl) (Nat.le_of_ble_eq_true rfl) ?_
  refine wp_if_eq (tgt := 24) dX9_word__9 (by decide) (fun c9 => ?_) (fun c9 => ?_)
  · exact wp_lv (hno (fun h => b2i_e0.mp c9 h.1)) (by repeat (first | exact trivial | refine ⟨rfl, ?_⟩))
  · refine wp_iload_n dX9_word__12 rfl ?_
    refine wp_i2l dX9_word__13 ?_
    refine wp_lconst (v := 0) dX9_word__14 rfl ?_
    refine wp_ldc2 dX9_word__15 kl_X9_217 ?_
    refine wp_cS3i dX9_word__18 ml_X9_117 sX9_in (cX9_inI E f 0 3 _ _ _ _ _ rfl rfl rfl) (Nat.le_of_ble_eq_true rfl) (Nat.le_of_ble_eq_true rfl) (Nat.le_of_ble_eq_true rfl) ?_
    refine wp_if_ne (tgt := 27) dX9_word__21 (by decide) (fun c21 => ?_) (fun c21 => ?_)
    · refine wp_iconst (v := 0) dX9_word__27 rfl ?_
      refine wp_istore dX9_word__28 (Nat.le_of_ble_eq_true rfl) ?_
      refine wp_lload_n dX9_word__30 rfl ?_
      refine wp_lconst (v := 0) dX9_word__31 rfl ?_
      refine wp_lcmp dX9_word__32 ?_
      refine wp_if_eq (tgt := 40) dX9_word__33 (by decide) (fun c33 => ?_) (fun c33 => ?_)
      · refine wp_iconst (v := 0) dX9_word__40 rfl ?_
        refine wp_istore dX9_word__41 (Nat.le_of_ble_eq_true rfl) ?_
        refine wp_bipush (v := 7) dX9_word__43 (by decide) ?_
        refine wp_istore dX9_word__45 (Nat.le_of_ble_eq_true rfl) ?_
        have e : nb w = 0 := (w_eq0 w).mp ((lg_eq _ _).mp c33)
        have h := J47 (b2i_ne.mp c9) (b2i_ne.mp c21) 8 (Nat.le_refl _)
        rw [b2i_f (p := plnI w 8) (fun h => by omega), show nb w - 8 = 0 by omega] at h
        exact wp_lv h (by repeat (first | exact trivial | refine ⟨rfl, ?_⟩))
      · refine wp_iconst (v := 1) dX9_word__36 rfl ?_
        refine wp_goto (tgt := 41) dX9_word__37 (by decide) ?_
        refine wp_istore dX9_word__41 (Nat.le_of_ble_eq_true rfl) ?_
        refine wp_bipush (v := 7) dX9_word__43 (by decide) ?_
        refine wp_istore dX9_word__45 (Nat.le_of_ble_eq_true rfl) ?_
        have e : nb w ≠ 0 := fun e => c33 ((lg_eq _ _).mpr ((w_eq0 w).mpr e))
        have h := J47 (b2i_ne.mp c9) (b2i_ne.mp c21) 8 (Nat.le_refl _)
        rw [b2i_t (p := plnI w 8) ⟨by omega, fun k hk h8 => by omega⟩, show nb w - 8 = 0 by omega] at h
        exact wp_lv h (by repeat (first | exact trivial | refine ⟨rfl, ?_⟩))
    · exact wp_lv (hno (fun h => b2i_e0.mp c21 h.2)) (by repeat (first | exact trivial | refine ⟨rfl, ?_⟩))
theorem rmW_clr {M M1 : Mem} {dc : Nat → List (List Nat)} {D n : Nat} (h : rmW M dc) (h2 : ∀ i, aI M1 145 i = aI M 145 i) (h3 : ∀ i, aI M1 146 i = aI M 146 i) (hA : ∀ i, i < 32 → aI M1 144 i = if i / 4 = D ∧ i % 4 < n then 0 else aI M 144 i) : rmW M1 (fun r => if r / 4 = D ∧ r % 4 < n then [] else dc r) := by
  intro r hr
  by_cases c : r / 4 = D ∧ r % 4 < n
  · have e : (fun r => if r / 4 = D ∧ r % 4 < n then [] else dc r) r = [] := if_pos c
    rw [e, hA r hr, if_pos c]
    exact ⟨rfl, Nat.zero_le _, fun p hp => absurd hp (Nat.not_lt_zero p)⟩
  · have e : (fun r => if r / 4 = D ∧ r % 4 < n then [] else dc r) r = dc r := if_neg c
    rw [e, hA r hr, if_neg c]
    obtain ⟨a, b, k⟩ := h r hr
    exact ⟨a, b, fun p hp => ⟨(h2 _).trans (k p hp).1, (k p hp).2.1, fun i hi => (h3 _).trans ((k p hp).2.2 i hi)⟩⟩
set_option maxRecDepth 100000 in
set_option maxHeartbeats 4000000 in
theorem cX9_clear_ (E : GE) (tp gn : List Nat) (q : QQ) (o : Option (List Nat)) (dc : Nat → List (List Nat)) (M : Mem) (h : RM M tp gn q o dc) (d : Int32) : Sp E mX9_clear 2 0 0 [.ref 121, .int d] SH M (pDocM M (clV dc d) tp gn q o (clD dc d)) := by
  refine sp_of vX9_clear.1 rfl (Nat.le_of_ble_eq_true rfl) ?_
  have h0 : RM (sI M 121 0 0) tp gn q o dc := RM_sI h (by decide)
  have hW := h.2.2.2.2.2
  have ho0 : OutM M (sI M 121 0 0) := sI_out
  by_cases hd : docI d
  · obtain ⟨D, hD, rfl⟩ := doc_n hd
    obtain ⟨e1, e2⟩ := clV_s (dc := dc) hD hd
    rw [e1, e2]
    have loop : ∀ (r n : Nat) (M1 : Mem), n + r = 4 → Fr [(121, 0)] [144] [] M M1 → fI M1 121 0 = 0 → (∀ i, i < 32 → aI M1 144 i = if i / 4 = D ∧ i % 4 < n then 0 else aI M 144 i) → Wp (xM E mX9_clear 2 0 0 SH.length (pDocM M (nI (sumD dc D 4)) tp gn q o (fun r => if r / 4 = D ∧ r % 4 < 4 then [] else dc r))) 0 0 19 [(3, .int (nI n)), (2, .int (nI (sumD dc D n))), (1, .int (nI D)), (0, .ref 121)] [] SH M1 := by
      intro r
      induction r with
      | zero =>
        intro n M1 hn hF ht hA
        have hn : n = 4 := by omega
        subst hn
        refine wp_iload_n dX9_clear_19 rfl ?_
        refine wp_iconst (v := 4) dX9_clear_20 rfl ?_
        refine wp_icmp_ge (tgt := 54) dX9_clear_21 (by decide) (fun c21 => ?_) (fun c21 => absurd (show (4 : Int32) ≤ nI 4 by decide) c21)
        refine wp_iload_n dX9_clear_54 rfl ?_
        refine wp_ireturn dX9_clear_55 rfl rfl (Nat.zero_le _) (Nat.zero_le _) ?_
        have hF1 : Fr [(121, 0)] [144, 145, 146] [] M M1 := hF.wk (by simp) (by simp) (by simp)
        exact ⟨rfl, rfl, ht, RM_W h hF1 (rmW_clr hW (fun i => hF.2.1 _ (by simp) i) (fun i => hF.2.1 _ (by simp) i) hA), hF1.out (by simp) (by simp) (by simp)⟩
      | succ r ih =>
        intro n M1 hn hF ht hA
        have hG1 := h.1.fr hF
        have hin : vp_in (nI (4 * D + n)) 32 := vp_in_nI (by omega) (by decide)
        have e : aI M1 144 (4 * D + n) = nI (dc (4 * D + n)).length := by
          rw [hA _ (by omega), if_neg (by omega)]; exact (hW _ (by omega)).1
        refine wp_iload_n dX9_clear_19 rfl ?_
        refine wp_iconst (v := 4) dX9_clear_20 rfl ?_
        refine wp_icmp_ge (tgt := 54) dX9_clear_21 (by decide) (fun c21 => absurd c21 (nI_ge (b := 4) (by omega) (by decide))) (fun c21 => ?_)
        refine wp_iload_n dX9_clear_24 rfl ?_
        refine wp_aload_n dX9_clear_25 rfl ?_
        refine wp_getR dX9_clear_26 fl_X9_83 rfl rfl (hG1 30) ?_
        refine wp_iconst (v := 4) dX9_clear_29 rfl ?_
        refine wp_iload_n dX9_clear_30 rfl ?_
        refine wp_imul dX9_clear_31 ?_
        refine wp_iload_n dX9_clear_32 rfl ?_
        refine wp_iadd dX9_clear_33 ?_
        rw [mul4']
        refine wp_iaload dX9_clear_34 rfl hin ?_
        refine wp_iadd dX9_clear_35 ?_
        rw [nI_clamp (show 4 * D + n < 2 ^ 31 by omega), e, nI_add]
        refine wp_istore_n dX9_clear_36 (Nat.le_of_ble_eq_true rfl) ?_
        refine wp_aload_n dX9_clear_37 rfl ?_
        refine wp_getR dX9_clear_38 fl_X9_83 rfl rfl (hG1 30) ?_
        refine wp_iconst (v := 4) dX9_clear_41 rfl ?_
        refine wp_iload_n dX9_clear_42 rfl ?_
        refine wp_imul dX9_clear_43 ?_
        refine wp_iload_n dX9_clear_44 rfl ?_
        refine wp_iadd dX9_clear_45 ?_
        rw [mul4']
        refine wp_iconst (v := 0) dX9_clear_46 rfl ?_
        refine wp_iastore dX9_clear_47 rfl hin ?_
        rw [nI_clamp (show 4 * D + n < 2 ^ 31 by omega)]
        refine wp_iinc dX9_clear_48 rfl (i_inc _) (Nat.le_of_ble_eq_true rfl) ?_
        refine wp_goto (tgt := 19) dX9_clear_51 (by decide) ?_
        refine wp_lv (ih (n + 1) _ (by omega) (hF.sA (by simp)) ht (fun i hi => ?_)) (by repeat (first | exact trivial | refine ⟨rfl, ?_⟩))
        rw [aI_sA]
        by_cases c : i = 4 * D + n
        · rw [if_pos ⟨rfl, c⟩, if_pos (by omega)]
        · rw [if_neg (fun q => c q.2), hA i hi]
          by_cases c2 : i / 4 = D ∧ i % 4 < n
          · rw [if_pos c2, if_pos (by omega)]
          · rw [if_neg c2, if_neg (by omega)]
    refine wp_aload_n dX9_clear_0 rfl ?_
    refine wp_iconst (v := 0) dX9_clear_1 rfl ?_
    refine wp_putI dX9_clear_2 fl_X9_1 rfl rfl (fun _ _ _ h => by cases h; rfl) rfl rfl ?_
    refine wp_iload_n dX9_clear_5 rfl ?_
    refine wp_cS1i dX9_clear_6 ml_X9_214 sX9_isDocument (cX9_isDocument_ E _ _ _) (Nat.le_of_ble_eq_true rfl) (Nat.le_of_ble_eq_true rfl) (Nat.le_of_ble_eq_true rfl) ?_
    refine wp_if_ne (tgt := 15) dX9_clear_9 (by decide) (fun c9 => ?_) (fun c9 => absurd hd (b2i_e0.mp c9))
    refine wp_iconst (v := 0) dX9_clear_15 rfl ?_
    refine wp_istore_n dX9_clear_16 (Nat.le_of_ble_eq_true rfl) ?_
    refine wp_iconst (v := 0) dX9_clear_17 rfl ?_
    refine wp_istore_n dX9_clear_18 (Nat.le_of_ble_eq_true rfl) ?_
    exact wp_lv (loop 4 0 _ (by omega) (Fr.rf.sI (by simp)) rfl (fun i _ => by rw [if_neg (by omega)]; rfl)) (by repeat (first | exact trivial | refine ⟨rfl, ?_⟩))
  · have e : clV dc d = -101 ∧ clD dc d = dc := by unfold clV clD; rw [if_neg hd, if_neg hd]; exact ⟨rfl, rfl⟩
    rw [e.1, e.2]
    refine wp_aload_n dX9_clear_0 rfl ?_
    refine wp_iconst (v := 0) dX9_clear_1 rfl ?_
    refine wp_putI dX9_clear_2 fl_X9_1 rfl rfl (fun _ _ _ h => by cases h; rfl) rfl rfl ?_
    refine wp_iload_n dX9_clear_5 rfl ?_
    refine wp_cS1i dX9_clear_6 ml_X9_214 sX9_isDocument (cX9_isDocument_ E _ _ _) (Nat.le_of_ble_eq_true rfl) (Nat.le_of_ble_eq_true rfl) (Nat.le_of_ble_eq_true rfl) ?_
    refine wp_if_ne (tgt := 15) dX9_clear_9 (by decide) (fun c9 => absurd (b2i_ne.mp c9) hd) (fun c9 => ?_)
    refine wp_bipush (v := (-101)) dX9_clear_12 (by decide) ?_
    refine wp_ireturn dX9_clear_14 rfl rfl (Nat.zero_le _) (Nat.zero_le _) ?_
    exact ⟨rfl, rfl, rfl, h0, ho0⟩
