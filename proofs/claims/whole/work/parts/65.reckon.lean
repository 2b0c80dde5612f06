/-! ===== the model: reckoning ===== -/
abbrev vF (M M1 : Mem) : Prop := Fr [] [147, 148, 150] [149] M M1
theorem tF_v {M M1 : Mem} (h : tF M M1) : vF M M1 := h.wk (by simp) (by simp) (by simp)
theorem MT.fv {M M1 : Mem} {n : Nat} {nd : Nat → ND} (h : MT M n nd) (k : vF M M1) : MT M1 n nd :=
  ⟨h.1.fr k, h.2.1.fr k (by simp) (fun j hj => by simp; omega), h.2.2⟩
theorem vn_m (v : Option Nat) : vp_nar .boolean (mI v) = mI v := by
  cases v with
  | none => decide
  | some w => show vp_nar .boolean 1 = 1; decide
theorem mI_0 {v : Option Nat} : mI v = 0 ↔ v = none := by cases v <;> simp [mI]
theorem mI_n {v : Option Nat} : ¬ mI v = 0 ↔ v.isSome = true := by cases v <;> simp [mI]
set_option maxRecDepth 100000 in
set_option maxHeartbeats 4000000 in
theorem cX9_reckonGroup_ (E : GE) (n k : Nat) (nd : Nat → ND) (Tb : Nat → Option Nat) (M : Mem) (hmt : MT M n nd) (hd : DT nd n) (hk : k < n) (hrow : ∀ c, k < c → c < n → aI M 148 c = mI (Tb c) ∧ aL M 149 c = mL (Tb c)) : Sp E mX9_reckonGroup 0 0 0 [.ref 121, .int (nI k)] SH M (RV none SH (sL (sA M 148 k (mI (gV (nd k) (gS nd Tb k (n - 1 - k))))) 149 k (mL (gV (nd k) (gS nd Tb k (n - 1 - k)))))) := by
  refine sp_of vX9_reckonGroup.1 rfl (Nat.le_of_ble_eq_true rfl) ?_
  have hG := hmt.1
  have hq := hmt.2.1
  have hn25 := hq.2.1
  have hcn : fI M 121 13 = nI n := hq.1
  obtain ⟨hb99, hbo, hdk⟩ := hd.2.1 k hk
  obtain ⟨_, _, k2, _, k4, _⟩ := hq.2.2 k hk
  have k2 : aI M 134 k = nI (bo (nd k)) := k2.trans hbo
  have k4 : aI M 136 k = nDe (nd k) := k4
  have hclk : (nI k).toNatClampNeg = k := nI_clamp (by omega)
  have hink : vp_in (nI k) 25 := vp_in_nI (by omega) (by decide)
  have hfin : ∀ s : GS, s = gS nd Tb k (n - 1 - k) → Wp (xM E mX9_reckonGroup 0 0 0 SH.length (RV none SH (sL (sA M 148 k (mI (gV (nd k) (gS nd Tb k (n - 1 - k))))) 149 k (mL (gV (nd k) (gS nd Tb k (n - 1 - k))))))) 0 0 202 [(2, .int (nI s.2.2.1)), (3, .int (nI s.2.1)), (4, .int (nI s.2.2.2.1)), (5, .int (b2i (s.1 = true))), (6, .long (lN s.2.2.2.2)), (1, .int (nI k)), (0, .ref 121)] [] SH M := by
    intro s hs
    have hc := gS_cnt nd Tb k (n - 1 - k)
    rw [← hs] at hc ⊢
    have J287 : ∀ v : Int64, v = mL (gV (nd k) s) → ∀ y : Int32, Wp (xM E mX9_reckonGroup 0 0 0 SH.length (RV none SH (sL (sA M 148 k (mI (gV (nd k) s))) 149 k (mL (gV (nd k) s))))) 0 0 287 [(8, .int y), (2, .int (nI s.2.2.1)), (3, .int (nI s.2.1)), (4, .int (nI s.2.2.2.1)), (5, .int (b2i (s.1 = true))), (6, .long (lN s.2.2.2.2)), (1, .int (nI k)), (0, .ref 121)] [.long v, .int (nI k), .ref 149] SH (sA M 148 k (mI (gV (nd k) s))) := by
      intro v hv y
      subst hv
      refine wp_lastore dX9_reckonGroup_287 rfl hink ?_
      refine wp_ret0 dX9_reckonGroup_288 rfl (Nat.le_refl _) (Nat.le_refl _) ?_
      rw [hclk]
      exact ⟨rfl, rfl, rfl⟩
    have J258 : ∀ z : Int32, z = mI (gV (nd k) s) → ∀ y : Int32, Wp (xM E mX9_reckonGroup 0 0 0 SH.length (RV none SH (sL (sA M 148 k (mI (gV (nd k) s))) 149 k (mL (gV (nd k) s))))) 0 0 258 [(8, .int y), (2, .int (nI s.2.2.1)), (3, .int (nI s.2.1)), (4, .int (nI s.2.2.2.1)), (5, .int (b2i (s.1 = true))), (6, .long (lN s.2.2.2.2)), (1, .int (nI k)), (0, .ref 121)] [.int z, .int (nI k), .ref 148] SH M := by
      intro z hz y
      subst hz
      have hnar : vp_nar .boolean (mI (gV (nd k) s)) = mI (gV (nd k) s) := vn_m _
      have hG2 : rmG (sA M 148 k (mI (gV (nd k) s))) := hG
      have e148 : aI (sA M 148 k (mI (gV (nd k) s))) 148 k = mI (gV (nd k) s) := by rw [aI_sA, if_pos ⟨rfl, rfl⟩]
      have e134 : aI (sA M 148 k (mI (gV (nd k) s))) 134 k = nI (bo (nd k)) := by rw [aI_sA, if_neg (by omega)]; exact k2
      refine wp_zastore dX9_reckonGroup_258 rfl hink ?_
      rw [hclk, hnar]
      refine wp_aload_n dX9_reckonGroup_259 rfl ?_
      refine wp_getR dX9_reckonGroup_260 fl_X9_99 rfl rfl (hG2 35) ?_
      refine wp_iload_n dX9_reckonGroup_263 rfl ?_
      refine wp_aload_n dX9_reckonGroup_264 rfl ?_
      refine wp_getR dX9_reckonGroup_265 fl_X9_95 rfl rfl (hG2 34) ?_
      refine wp_iload_n dX9_reckonGroup_268 rfl ?_
      refine wp_zaload dX9_reckonGroup_269 rfl hink ?_
      rw [hclk, e148]
      refine wp_if_eq (tgt := 286) dX9_reckonGroup_270 (by decide) (fun c270 => ?_) (fun c270 => ?_)
      · refine wp_lconst (v := 0) dX9_reckonGroup_286 rfl ?_
        have hv := mI_0.mp c270
        exact wp_lv (J287 0 (by rw [hv]; rfl) _) (by repeat (first | exact trivial | refine ⟨rfl, ?_⟩))
      · refine wp_aload_n dX9_reckonGroup_273 rfl ?_
        refine wp_getR dX9_reckonGroup_274 fl_X9_50 rfl rfl (hG2 16) ?_
        refine wp_iload_n dX9_reckonGroup_277 rfl ?_
        refine wp_iaload dX9_reckonGroup_278 rfl hink ?_
        rw [hclk, e134]
        refine wp_i2l dX9_reckonGroup_279 ?_
        rw [lNi (show bo (nd k) < 2 ^ 31 by omega)]
        refine wp_lload dX9_reckonGroup_280 rfl ?_
        refine wp_lmul dX9_reckonGroup_282 ?_
        refine wp_goto (tgt := 287) dX9_reckonGroup_283 (by decide) ?_
        have hv := mI_n.mp c270
        exact wp_lv (J287 _ (by
          rw [lNmul]
          unfold gV at hv ⊢
          split at hv
          · next q => rw [if_pos q]; rfl
          · exact absurd hv (by decide)) _) (by repeat (first | exact trivial | refine ⟨rfl, ?_⟩))
    have J234 : ∀ z : Int32, z = lst (nd k) s → Wp (xM E mX9_reckonGroup 0 0 0 SH.length (RV none SH (sL (sA M 148 k (mI (gV (nd k) s))) 149 k (mL (gV (nd k) s))))) 0 0 234 [(2, .int (nI s.2.2.1)), (3, .int (nI s.2.1)), (4, .int (nI s.2.2.2.1)), (5, .int (b2i (s.1 = true))), (6, .long (lN s.2.2.2.2)), (1, .int (nI k)), (0, .ref 121)] [.int z] SH M := by
      intro z hz
      subst hz
      refine wp_istore dX9_reckonGroup_234 (Nat.le_of_ble_eq_true rfl) ?_
      refine wp_aload_n dX9_reckonGroup_236 rfl ?_
      refine wp_getR dX9_reckonGroup_237 fl_X9_95 rfl rfl (hG 34) ?_
      refine wp_iload_n dX9_reckonGroup_240 rfl ?_
      refine wp_iload dX9_reckonGroup_241 rfl ?_
      refine wp_if_eq (tgt := 257) dX9_reckonGroup_243 (by decide) (fun c243 => ?_) (fun c243 => ?_)
      · refine wp_iconst (v := 0) dX9_reckonGroup_257 rfl ?_
        exact wp_lv (J258 0 (by unfold gV; rw [if_neg (fun q => b2i_e0.mp c243 q.1)]; rfl) _) (by repeat (first | exact trivial | refine ⟨rfl, ?_⟩))
      · refine wp_iload dX9_reckonGroup_246 rfl ?_
        refine wp_iload dX9_reckonGroup_248 rfl ?_
        refine wp_icmp_lt (tgt := 257) dX9_reckonGroup_250 (by decide) (fun c250 => ?_) (fun c250 => ?_)
        · refine wp_iconst (v := 0) dX9_reckonGroup_257 rfl ?_
          exact wp_lv (J258 0 (by unfold gV; rw [if_neg (fun q => q.2 c250)]; rfl) _) (by repeat (first | exact trivial | refine ⟨rfl, ?_⟩))
        · refine wp_iconst (v := 1) dX9_reckonGroup_253 rfl ?_
          refine wp_goto (tgt := 258) dX9_reckonGroup_254 (by decide) ?_
          exact wp_lv (J258 1 (by unfold gV; rw [if_pos ⟨b2i_ne.mp c243, c250⟩]; rfl) _) (by repeat (first | exact trivial | refine ⟨rfl, ?_⟩))
    refine wp_aload_n dX9_reckonGroup_202 rfl ?_
    refine wp_getR dX9_reckonGroup_203 fl_X9_56 rfl rfl (hG 18) ?_
    refine wp_iload_n dX9_reckonGroup_206 rfl ?_
    refine wp_iaload dX9_reckonGroup_207 rfl hink ?_
    rw [hclk, k4]
    refine wp_iconst (v := (-1)) dX9_reckonGroup_208 rfl ?_
    refine wp_icmp_eq (tgt := 221) dX9_reckonGroup_209 (by decide) (fun c209 => ?_) (fun c209 => ?_)
    · refine wp_iload_n dX9_reckonGroup_221 rfl ?_
      refine wp_if_gt (tgt := 229) dX9_reckonGroup_222 (by decide) (fun c222 => ?_) (fun c222 => ?_)
      · refine wp_iconst (v := 0) dX9_reckonGroup_229 rfl ?_
        refine wp_goto (tgt := 234) dX9_reckonGroup_230 (by decide) ?_
        have hm : 0 < s.2.1 := (nI_lti (a := 0) (by decide) (by omega)).mp c222
        exact wp_lv (J234 0 (by unfold lst; rw [if_pos c209, if_pos (Or.inl hm)])) (by repeat (first | exact trivial | refine ⟨rfl, ?_⟩))
      · refine wp_iload_n dX9_reckonGroup_225 rfl ?_
        refine wp_if_ne (tgt := 233) dX9_reckonGroup_226 (by decide) (fun c226 => ?_) (fun c226 => ?_)
        · refine wp_iconst (v := 1) dX9_reckonGroup_233 rfl ?_
          have hm : ¬ 0 < s.2.1 := fun q => c222 ((nI_lti (a := 0) (by decide) (by omega)).mpr q)
          exact wp_lv (J234 1 (by unfold lst; rw [if_pos c209, if_neg (fun q => q.elim hm (fun e => c226 (by rw [e]; rfl)))])) (by repeat (first | exact trivial | refine ⟨rfl, ?_⟩))
        · refine wp_iconst (v := 0) dX9_reckonGroup_229 rfl ?_
          refine wp_goto (tgt := 234) dX9_reckonGroup_230 (by decide) ?_
          exact wp_lv (J234 0 (by unfold lst; rw [if_pos c209, if_pos (Or.inr (nI_e (b := 0) (by omega) (by decide) c226))])) (by repeat (first | exact trivial | refine ⟨rfl, ?_⟩))
    · refine wp_aload_n dX9_reckonGroup_212 rfl ?_
      refine wp_getR dX9_reckonGroup_213 fl_X9_56 rfl rfl (hG 18) ?_
      refine wp_iload_n dX9_reckonGroup_216 rfl ?_
      refine wp_iaload dX9_reckonGroup_217 rfl hink ?_
      rw [hclk, k4]
      refine wp_goto (tgt := 234) dX9_reckonGroup_218 (by decide) ?_
      exact wp_lv (J234 _ (by unfold lst; rw [if_neg c209])) (by repeat (first | exact trivial | refine ⟨rfl, ?_⟩))
  have loop : ∀ (r m : Nat), k + 1 + m + r = n → Wp (xM E mX9_reckonGroup 0 0 0 SH.length (RV none SH (sL (sA M 148 k (mI (gV (nd k) (gS nd Tb k (n - 1 - k))))) 149 k (mL (gV (nd k) (gS nd Tb k (n - 1 - k))))))) 0 0 18 [(8, .int (nI (k + 1 + m))), (2, .int (nI (gS nd Tb k m).2.2.1)), (3, .int (nI (gS nd Tb k m).2.1)), (4, .int (nI (gS nd Tb k m).2.2.2.1)), (5, .int (b2i ((gS nd Tb k m).1 = true))), (6, .long (lN (gS nd Tb k m).2.2.2.2)), (1, .int (nI k)), (0, .ref 121)] [] SH M := by
    intro r
    induction r with
    | zero =>
      intro m hm
      have em : n - 1 - k = m := by omega
      have en : k + 1 + m = n := by omega
      refine wp_iload dX9_reckonGroup_18 rfl ?_
      refine wp_aload_n dX9_reckonGroup_20 rfl ?_
      refine wp_getI dX9_reckonGroup_21 fl_X9_112 rfl rfl ?_
      rw [hcn]
      refine wp_icmp_ge (tgt := 202) dX9_reckonGroup_24 (by decide) (fun c24 => ?_) (fun c24 => absurd (by rw [en]; exact Int32.le_refl _) c24)
      exact wp_lv (hfin _ (by rw [em])) (by repeat (first | exact trivial | refine ⟨rfl, ?_⟩))
    | succ r ih =>
      intro m hm
      obtain ⟨c, hc⟩ : ∃ c, c = k + 1 + m := ⟨_, rfl⟩
      have hcl : c < n := by omega
      obtain ⟨s, hs⟩ : ∃ s, s = gS nd Tb k m := ⟨_, rfl⟩
      have hih := ih (m + 1) (by omega)
      have hgs : gS nd Tb k (m + 1) = if nAr (nd c) = nI k then gSt (nd c) (Tb c) s else s := by rw [hc, hs]; rfl
      rw [show k + 1 + (m + 1) = c + 1 by omega] at hih
      rw [← hc, ← hs]
      obtain ⟨_, m1, _, _, _, m5, _⟩ := hq.2.2 c hcl
      have m1 : aI M 133 c = nMa (nd c) := m1
      have m5 : aI M 137 c = nAr (nd c) := m5
      obtain ⟨v1, v2⟩ := hrow c (by omega) hcl
      have hclc : (nI c).toNatClampNeg = c := nI_clamp (by omega)
      have hinc : vp_in (nI c) 25 := vp_in_nI (by omega) (by decide)
      have J193 : nAr (nd c) = nI k → ∀ z : Nat, z = (if nMa (nd c) = 2 then 0 else (Tb c).getD 0) → Wp (xM E mX9_reckonGroup 0 0 0 SH.length (RV none SH (sL (sA M 148 k (mI (gV (nd k) (gS nd Tb k (n - 1 - k))))) 149 k (mL (gV (nd k) (gS nd Tb k (n - 1 - k))))))) 0 0 193 [(8, .int (nI c)), (2, .int (nI (gSt (nd c) (Tb c) s).2.2.1)), (3, .int (nI (gSt (nd c) (Tb c) s).2.1)), (4, .int (nI (gSt (nd c) (Tb c) s).2.2.2.1)), (5, .int (b2i ((gSt (nd c) (Tb c) s).1 = true))), (6, .long (lN s.2.2.2.2)), (1, .int (nI k)), (0, .ref 121)] [.long (lN z), .long (lN s.2.2.2.2)] SH M := by
        intro har z hz
        rw [if_pos har] at hgs
        rw [hgs] at hih
        refine wp_ladd dX9_reckonGroup_193 ?_
        rw [lNadd, hz]
        refine wp_lstore dX9_reckonGroup_194 (Nat.le_of_ble_eq_true rfl) ?_
        refine wp_iinc dX9_reckonGroup_196 rfl (i_inc _) (Nat.le_of_ble_eq_true rfl) ?_
        refine wp_goto (tgt := 18) dX9_reckonGroup_199 (by decide) ?_
        exact wp_lv hih (by repeat (first | exact trivial | refine ⟨rfl, ?_⟩))
      have J157 : nAr (nd c) = nI k → ∀ z : Int32, z = b2i ((gSt (nd c) (Tb c) s).1 = true) → ∀ y : Int32, Wp (xM E mX9_reckonGroup 0 0 0 SH.length (RV none SH (sL (sA M 148 k (mI (gV (nd k) (gS nd Tb k (n - 1 - k))))) 149 k (mL (gV (nd k) (gS nd Tb k (n - 1 - k))))))) 0 0 157 [(8, .int (nI c)), (5, .int y), (2, .int (nI (gSt (nd c) (Tb c) s).2.2.1)), (3, .int (nI (gSt (nd c) (Tb c) s).2.1)), (4, .int (nI (gSt (nd c) (Tb c) s).2.2.2.1)), (6, .long (lN s.2.2.2.2)), (1, .int (nI k)), (0, .ref 121)] [.int z] SH M := by
        intro har z hz y
        subst hz
        refine wp_istore dX9_reckonGroup_157 (Nat.le_of_ble_eq_true rfl) ?_
        refine wp_lload dX9_reckonGroup_159 rfl ?_
        refine wp_aload_n dX9_reckonGroup_161 rfl ?_
        refine wp_getR dX9_reckonGroup_162 fl_X9_47 rfl rfl (hG 15) ?_
        refine wp_iload dX9_reckonGroup_165 rfl ?_
        refine wp_iaload dX9_reckonGroup_167 rfl hinc ?_
        rw [hclc, m1]
        refine wp_iconst (v := 2) dX9_reckonGroup_168 rfl ?_
        refine wp_icmp_eq (tgt := 192) dX9_reckonGroup_169 (by decide) (fun c169 => ?_) (fun c169 => ?_)
        · refine wp_lconst (v := 0) dX9_reckonGroup_192 rfl ?_
          exact wp_lv (J193 har 0 (by rw [if_pos c169])) (by repeat (first | exact trivial | refine ⟨rfl, ?_⟩))
        · refine wp_aload_n dX9_reckonGroup_172 rfl ?_
          refine wp_getR dX9_reckonGroup_173 fl_X9_95 rfl rfl (hG 34) ?_
          refine wp_iload dX9_reckonGroup_176 rfl ?_
          refine wp_zaload dX9_reckonGroup_178 rfl hinc ?_
          rw [hclc, v1]
          refine wp_if_eq (tgt := 192) dX9_reckonGroup_179 (by decide) (fun c179 => ?_) (fun c179 => ?_)
          · refine wp_lconst (v := 0) dX9_reckonGroup_192 rfl ?_
            exact wp_lv (J193 har 0 (by rw [if_neg c169, mI_0.mp c179]; rfl)) (by repeat (first | exact trivial | refine ⟨rfl, ?_⟩))
          · refine wp_aload_n dX9_reckonGroup_182 rfl ?_
            refine wp_getR dX9_reckonGroup_183 fl_X9_99 rfl rfl (hG 35) ?_
            refine wp_iload dX9_reckonGroup_186 rfl ?_
            refine wp_laload dX9_reckonGroup_188 rfl hinc ?_
            rw [hclc, v2]
            refine wp_goto (tgt := 193) dX9_reckonGroup_189 (by decide) ?_
            have hsm := mI_n.mp c179
            rw [show mL (Tb c) = lN ((Tb c).getD 0) by cases Tb c <;> rfl]
            exact wp_lv (J193 har ((Tb c).getD 0) (by rw [if_neg c169])) (by repeat (first | exact trivial | refine ⟨rfl, ?_⟩))
      have eok : (gSt (nd c) (Tb c) s).1 = (s.1 && !flt (nd c) (Tb c)) := rfl
      have J103 : nAr (nd c) = nI k → ∀ z : Nat, z = (if nMa (nd c) = 1 then 1 else 0) → ∀ y : Int32, Wp (xM E mX9_reckonGroup 0 0 0 SH.length (RV none SH (sL (sA M 148 k (mI (gV (nd k) (gS nd Tb k (n - 1 - k))))) 149 k (mL (gV (nd k) (gS nd Tb k (n - 1 - k))))))) 0 0 103 [(8, .int (nI c)), (3, .int y), (2, .int (nI (gSt (nd c) (Tb c) s).2.2.1)), (4, .int (nI (gSt (nd c) (Tb c) s).2.2.2.1)), (5, .int (b2i (s.1 = true))), (6, .long (lN s.2.2.2.2)), (1, .int (nI k)), (0, .ref 121)] [.int (nI z), .int (nI s.2.1)] SH M := by
        intro har z hz y
        have em : nI s.2.1 + nI z = nI (gSt (nd c) (Tb c) s).2.1 := by rw [nI_add, hz]; rfl
        refine wp_iadd dX9_reckonGroup_103 ?_
        rw [em]
        refine wp_istore_n dX9_reckonGroup_104 (Nat.le_of_ble_eq_true rfl) ?_
        refine wp_iload dX9_reckonGroup_105 rfl ?_
        refine wp_if_eq (tgt := 156) dX9_reckonGroup_107 (by decide) (fun c107 => ?_) (fun c107 => ?_)
        · refine wp_iconst (v := 0) dX9_reckonGroup_156 rfl ?_
          exact wp_lv (J157 har 0 (b2i_f (by rw [eok, Bool.and_eq_true]; exact fun q => b2i_e0.mp c107 q.1)).symm _) (by repeat (first | exact trivial | refine ⟨rfl, ?_⟩))
        · refine wp_aload_n dX9_reckonGroup_110 rfl ?_
          refine wp_getR dX9_reckonGroup_111 fl_X9_47 rfl rfl (hG 15) ?_
          refine wp_iload dX9_reckonGroup_114 rfl ?_
          refine wp_iaload dX9_reckonGroup_116 rfl hinc ?_
          rw [hclc, m1]
          refine wp_iconst (v := 1) dX9_reckonGroup_117 rfl ?_
          refine wp_icmp_ne (tgt := 131) dX9_reckonGroup_118 (by decide) (fun c118 => ?_) (fun c118 => ?_)
          · refine wp_aload_n dX9_reckonGroup_131 rfl ?_
            refine wp_getR dX9_reckonGroup_132 fl_X9_47 rfl rfl (hG 15) ?_
            refine wp_iload dX9_reckonGroup_135 rfl ?_
            refine wp_iaload dX9_reckonGroup_137 rfl hinc ?_
            rw [hclc, m1]
            refine wp_iconst (v := 2) dX9_reckonGroup_138 rfl ?_
            refine wp_icmp_ne (tgt := 152) dX9_reckonGroup_139 (by decide) (fun c139 => ?_) (fun c139 => ?_)
            · refine wp_iconst (v := 1) dX9_reckonGroup_152 rfl ?_
              refine wp_goto (tgt := 157) dX9_reckonGroup_153 (by decide) ?_
              have hf : flt (nd c) (Tb c) = false := by
                rw [← Bool.not_eq_true, flt_iff]
                exact fun q => q.elim (fun q => c118 q.1) (fun q => c139 q.1)
              exact wp_lv (J157 har 1 (b2i_t (by rw [eok, hf, b2i_ne.mp c107]; rfl)).symm _) (by repeat (first | exact trivial | refine ⟨rfl, ?_⟩))
            · refine wp_aload_n dX9_reckonGroup_142 rfl ?_
              refine wp_getR dX9_reckonGroup_143 fl_X9_95 rfl rfl (hG 34) ?_
              refine wp_iload dX9_reckonGroup_146 rfl ?_
              refine wp_zaload dX9_reckonGroup_148 rfl hinc ?_
              rw [hclc, v1]
              refine wp_if_ne (tgt := 156) dX9_reckonGroup_149 (by decide) (fun c149 => ?_) (fun c149 => ?_)
              · refine wp_iconst (v := 0) dX9_reckonGroup_156 rfl ?_
                have hf : flt (nd c) (Tb c) = true := (flt_iff _ _).mpr (Or.inr ⟨c139, fun q => c149 (mI_0.mpr q)⟩)
                exact wp_lv (J157 har 0 (b2i_f (by rw [eok, hf, Bool.not_true, Bool.and_false]; decide)).symm _) (by repeat (first | exact trivial | refine ⟨rfl, ?_⟩))
              · refine wp_iconst (v := 1) dX9_reckonGroup_152 rfl ?_
                refine wp_goto (tgt := 157) dX9_reckonGroup_153 (by decide) ?_
                have hf : flt (nd c) (Tb c) = false := by
                  rw [← Bool.not_eq_true, flt_iff]
                  exact fun q => q.elim (fun q => c118 q.1) (fun q => q.2 (mI_0.mp c149))
                exact wp_lv (J157 har 1 (b2i_t (by rw [eok, hf, b2i_ne.mp c107]; rfl)).symm _) (by repeat (first | exact trivial | refine ⟨rfl, ?_⟩))
          · refine wp_aload_n dX9_reckonGroup_121 rfl ?_
            refine wp_getR dX9_reckonGroup_122 fl_X9_95 rfl rfl (hG 34) ?_
            refine wp_iload dX9_reckonGroup_125 rfl ?_
            refine wp_zaload dX9_reckonGroup_127 rfl hinc ?_
            rw [hclc, v1]
            refine wp_if_eq (tgt := 156) dX9_reckonGroup_128 (by decide) (fun c128 => ?_) (fun c128 => ?_)
            · refine wp_iconst (v := 0) dX9_reckonGroup_156 rfl ?_
              have hf : flt (nd c) (Tb c) = true := (flt_iff _ _).mpr (Or.inl ⟨c118, mI_0.mp c128⟩)
              exact wp_lv (J157 har 0 (b2i_f (by rw [eok, hf, Bool.not_true, Bool.and_false]; decide)).symm _) (by repeat (first | exact trivial | refine ⟨rfl, ?_⟩))
            · refine wp_aload_n dX9_reckonGroup_131 rfl ?_
              refine wp_getR dX9_reckonGroup_132 fl_X9_47 rfl rfl (hG 15) ?_
              refine wp_iload dX9_reckonGroup_135 rfl ?_
              refine wp_iaload dX9_reckonGroup_137 rfl hinc ?_
              rw [hclc, m1]
              refine wp_iconst (v := 2) dX9_reckonGroup_138 rfl ?_
              refine wp_icmp_ne (tgt := 152) dX9_reckonGroup_139 (by decide) (fun c139 => ?_) (fun c139 => ?_)
              · refine wp_iconst (v := 1) dX9_reckonGroup_152 rfl ?_
                refine wp_goto (tgt := 157) dX9_reckonGroup_153 (by decide) ?_
                have hf : flt (nd c) (Tb c) = false := by
                  rw [← Bool.not_eq_true, flt_iff]
                  exact fun q => q.elim (fun q => c128 (mI_0.mpr q.2)) (fun q => c139 q.1)
                exact wp_lv (J157 har 1 (b2i_t (by rw [eok, hf, b2i_ne.mp c107]; rfl)).symm _) (by repeat (first | exact trivial | refine ⟨rfl, ?_⟩))
              · refine wp_aload_n dX9_reckonGroup_142 rfl ?_
                refine wp_getR dX9_reckonGroup_143 fl_X9_95 rfl rfl (hG 34) ?_
                refine wp_iload dX9_reckonGroup_146 rfl ?_
                refine wp_zaload dX9_reckonGroup_148 rfl hinc ?_
                rw [hclc, v1]
                refine wp_if_ne (tgt := 156) dX9_reckonGroup_149 (by decide) (fun c149 => ?_) (fun c149 => ?_)
                · refine wp_iconst (v := 0) dX9_reckonGroup_156 rfl ?_
                  exact absurd (c118.symm.trans c139) (by decide)
                · refine wp_iconst (v := 1) dX9_reckonGroup_152 rfl ?_
                  refine wp_goto (tgt := 157) dX9_reckonGroup_153 (by decide) ?_
                  exact absurd (c118.symm.trans c139) (by decide)
      have J83 : nAr (nd c) = nI k → ∀ z : Nat, z = (if nMa (nd c) = 0 ∧ (Tb c).isSome = true then 1 else 0) → ∀ y : Int32, Wp (xM E mX9_reckonGroup 0 0 0 SH.length (RV none SH (sL (sA M 148 k (mI (gV (nd k) (gS nd Tb k (n - 1 - k))))) 149 k (mL (gV (nd k) (gS nd Tb k (n - 1 - k))))))) 0 0 83 [(8, .int (nI c)), (4, .int y), (2, .int (nI (gSt (nd c) (Tb c) s).2.2.1)), (3, .int (nI s.2.1)), (5, .int (b2i (s.1 = true))), (6, .long (lN s.2.2.2.2)), (1, .int (nI k)), (0, .ref 121)] [.int (nI z), .int (nI s.2.2.2.1)] SH M := by
        intro har z hz y
        have em : nI s.2.2.2.1 + nI z = nI (gSt (nd c) (Tb c) s).2.2.2.1 := by rw [nI_add, hz]; rfl
        refine wp_iadd dX9_reckonGroup_83 ?_
        rw [em]
        refine wp_istore dX9_reckonGroup_84 (Nat.le_of_ble_eq_true rfl) ?_
        refine wp_iload_n dX9_reckonGroup_86 rfl ?_
        refine wp_aload_n dX9_reckonGroup_87 rfl ?_
        refine wp_getR dX9_reckonGroup_88 fl_X9_47 rfl rfl (hG 15) ?_
        refine wp_iload dX9_reckonGroup_91 rfl ?_
        refine wp_iaload dX9_reckonGroup_93 rfl hinc ?_
        rw [hclc, m1]
        refine wp_iconst (v := 1) dX9_reckonGroup_94 rfl ?_
        refine wp_icmp_ne (tgt := 102) dX9_reckonGroup_95 (by decide) (fun c95 => ?_) (fun c95 => ?_)
        · refine wp_iconst (v := 0) dX9_reckonGroup_102 rfl ?_
          exact wp_lv (J103 har 0 (by rw [if_neg c95]) _) (by repeat (first | exact trivial | refine ⟨rfl, ?_⟩))
        · refine wp_iconst (v := 1) dX9_reckonGroup_98 rfl ?_
          refine wp_goto (tgt := 103) dX9_reckonGroup_99 (by decide) ?_
          exact wp_lv (J103 har 1 (by rw [if_pos c95]) _) (by repeat (first | exact trivial | refine ⟨rfl, ?_⟩))
      have J54 : nAr (nd c) = nI k → ∀ z : Nat, z = (if nMa (nd c) = 0 then 1 else 0) → ∀ y : Int32, Wp (xM E mX9_reckonGroup 0 0 0 SH.length (RV none SH (sL (sA M 148 k (mI (gV (nd k) (gS nd Tb k (n - 1 - k))))) 149 k (mL (gV (nd k) (gS nd Tb k (n - 1 - k))))))) 0 0 54 [(8, .int (nI c)), (2, .int y), (3, .int (nI s.2.1)), (4, .int (nI s.2.2.2.1)), (5, .int (b2i (s.1 = true))), (6, .long (lN s.2.2.2.2)), (1, .int (nI k)), (0, .ref 121)] [.int (nI z), .int (nI s.2.2.1)] SH M := by
        intro har z hz y
        have em : nI s.2.2.1 + nI z = nI (gSt (nd c) (Tb c) s).2.2.1 := by rw [nI_add, hz]; rfl
        refine wp_iadd dX9_reckonGroup_54 ?_
        rw [em]
        refine wp_istore_n dX9_reckonGroup_55 (Nat.le_of_ble_eq_true rfl) ?_
        refine wp_iload dX9_reckonGroup_56 rfl ?_
        refine wp_aload_n dX9_reckonGroup_58 rfl ?_
        refine wp_getR dX9_reckonGroup_59 fl_X9_47 rfl rfl (hG 15) ?_
        refine wp_iload dX9_reckonGroup_62 rfl ?_
        refine wp_iaload dX9_reckonGroup_64 rfl hinc ?_
        rw [hclc, m1]
        refine wp_if_ne (tgt := 82) dX9_reckonGroup_65 (by decide) (fun c65 => ?_) (fun c65 => ?_)
        · refine wp_iconst (v := 0) dX9_reckonGroup_82 rfl ?_
          exact wp_lv (J83 har 0 (by rw [if_neg (fun q => c65 q.1)]) _) (by repeat (first | exact trivial | refine ⟨rfl, ?_⟩))
        · refine wp_aload_n dX9_reckonGroup_68 rfl ?_
          refine wp_getR dX9_reckonGroup_69 fl_X9_95 rfl rfl (hG 34) ?_
          refine wp_iload dX9_reckonGroup_72 rfl ?_
          refine wp_zaload dX9_reckonGroup_74 rfl hinc ?_
          rw [hclc, v1]
          refine wp_if_eq (tgt := 82) dX9_reckonGroup_75 (by decide) (fun c75 => ?_) (fun c75 => ?_)
          · refine wp_iconst (v := 0) dX9_reckonGroup_82 rfl ?_
            exact wp_lv (J83 har 0 (by rw [if_neg (fun q => by rw [mI_0.mp c75] at q; exact absurd q.2 (by decide))]) _) (by repeat (first | exact trivial | refine ⟨rfl, ?_⟩))
          · refine wp_iconst (v := 1) dX9_reckonGroup_78 rfl ?_
            refine wp_goto (tgt := 83) dX9_reckonGroup_79 (by decide) ?_
            exact wp_lv (J83 har 1 (by rw [if_pos ⟨c65, mI_n.mp c75⟩]) _) (by repeat (first | exact trivial | refine ⟨rfl, ?_⟩))
      refine wp_iload dX9_reckonGroup_18 rfl ?_
      refine wp_aload_n dX9_reckonGroup_20 rfl ?_
      refine wp_getI dX9_reckonGroup_21 fl_X9_112 rfl rfl ?_
      rw [hcn]
      refine wp_icmp_ge (tgt := 202) dX9_reckonGroup_24 (by decide) (fun c24 => absurd c24 (nI_ge hcl (by omega))) (fun c24 => ?_)
      refine wp_aload_n dX9_reckonGroup_27 rfl ?_
      refine wp_getR dX9_reckonGroup_28 fl_X9_59 rfl rfl (hG 19) ?_
      refine wp_iload dX9_reckonGroup_31 rfl ?_
      refine wp_iaload dX9_reckonGroup_33 rfl hinc ?_
      rw [hclc, m5]
      refine wp_iload_n dX9_reckonGroup_34 rfl ?_
      refine wp_icmp_ne (tgt := 196) dX9_reckonGroup_35 (by decide) (fun c35 => ?_) (fun c35 => ?_)
      · refine wp_iinc dX9_reckonGroup_196 rfl (i_inc _) (Nat.le_of_ble_eq_true rfl) ?_
        refine wp_goto (tgt := 18) dX9_reckonGroup_199 (by decide) ?_
        rw [hgs, if_neg c35] at hih
        exact wp_lv hih (by repeat (first | exact trivial | refine ⟨rfl, ?_⟩))
      · refine wp_iload_n dX9_reckonGroup_38 rfl ?_
        refine wp_aload_n dX9_reckonGroup_39 rfl ?_
        refine wp_getR dX9_reckonGroup_40 fl_X9_47 rfl rfl (hG 15) ?_
        refine wp_iload dX9_reckonGroup_43 rfl ?_
        refine wp_iaload dX9_reckonGroup_45 rfl hinc ?_
        rw [hclc, m1]
        refine wp_if_ne (tgt := 53) dX9_reckonGroup_46 (by decide) (fun c46 => ?_) (fun c46 => ?_)
        · refine wp_iconst (v := 0) dX9_reckonGroup_53 rfl ?_
          exact wp_lv (J54 c35 0 (by rw [if_neg c46]) _) (by repeat (first | exact trivial | refine ⟨rfl, ?_⟩))
        · refine wp_iconst (v := 1) dX9_reckonGroup_49 rfl ?_
          refine wp_goto (tgt := 54) dX9_reckonGroup_50 (by decide) ?_
          exact wp_lv (J54 c35 1 (by rw [if_pos c46]) _) (by repeat (first | exact trivial | refine ⟨rfl, ?_⟩))
  refine wp_iconst (v := 0) dX9_reckonGroup_0 rfl ?_
  refine wp_istore_n dX9_reckonGroup_1 (Nat.le_of_ble_eq_true rfl) ?_
  refine wp_iconst (v := 0) dX9_reckonGroup_2 rfl ?_
  refine wp_istore_n dX9_reckonGroup_3 (Nat.le_of_ble_eq_true rfl) ?_
  refine wp_iconst (v := 0) dX9_reckonGroup_4 rfl ?_
  refine wp_istore dX9_reckonGroup_5 (Nat.le_of_ble_eq_true rfl) ?_
  refine wp_iconst (v := 1) dX9_reckonGroup_7 rfl ?_
  refine wp_istore dX9_reckonGroup_8 (Nat.le_of_ble_eq_true rfl) ?_
  refine wp_lconst (v := 0) dX9_reckonGroup_10 rfl ?_
  refine wp_lstore dX9_reckonGroup_11 (Nat.le_of_ble_eq_true rfl) ?_
  refine wp_iload_n dX9_reckonGroup_13 rfl ?_
  refine wp_iconst (v := 1) dX9_reckonGroup_14 rfl ?_
  refine wp_iadd dX9_reckonGroup_15 ?_
  rw [nI_1]
  refine wp_istore dX9_reckonGroup_16 (Nat.le_of_ble_eq_true rfl) ?_
  exact wp_lv (loop (n - 1 - k) 0 (by omega)) (by repeat (first | exact trivial | refine ⟨rfl, ?_⟩))
set_option maxRecDepth 100000 in
set_option maxHeartbeats 4000000 in
theorem cX9_reckon_ (E : GE) (n D : Nat) (nd : Nat → ND) (dc : Nat → List (List Nat)) (M : Mem) (hmt : MT M n nd) (hd : DT nd n) (hW : rmW M dc) (hdc : dcOk dc) (hD : D < 8) : Sp E mX9_reckon 4 0 0 [.ref 121, .int (nI D)] SH M (fun o sh1 M1 => sh1 = SH ∧ o = none ∧ vF M M1 ∧ ∀ c, c < n → aI M1 148 c = mI (vT nd n dc D n c) ∧ aL M1 149 c = mL (vT nd n dc D n c)) := by
  refine sp_of vX9_reckon.1 rfl (Nat.le_of_ble_eq_true rfl) ?_
  have hn25 := hmt.2.1.2.1
  have hdl : ∀ r, r < 32 → (dc r).length ≤ 12 := fun r hr => (hW r hr).2.1
  have down : ∀ (s r : Nat) (M1 : Mem), s + r = n → vF M M1 → (∀ j, j < n → aI M1 150 j = fo nd j) → (∀ j, n - r ≤ j → j < n → aI M1 148 j = mI (vT nd n dc D r j) ∧ aL M1 149 j = mL (vT nd n dc D r j)) → Wp (xM E mX9_reckon 4 0 0 SH.length (fun o sh1 M1 => sh1 = SH ∧ o = none ∧ vF M M1 ∧ ∀ c, c < n → aI M1 148 c = mI (vT nd n dc D n c) ∧ aL M1 149 c = mL (vT nd n dc D n c))) 0 0 63 [(2, .int (nI s - 1)), (1, .int (nI D)), (0, .ref 121)] [] SH M1 := by
    intro s
    induction s with
    | zero =>
      intro r M1 hr hF hfo ha
      have hr : r = n := by omega
      subst hr
      refine wp_iload_n dX9_reckon_63 rfl ?_
      refine wp_if_lt (tgt := 129) dX9_reckon_64 (by decide) (fun c64 => ?_) (fun c64 => absurd (show nI 0 - 1 < 0 by decide) c64)
      refine wp_ret0 dX9_reckon_129 rfl (Nat.le_refl _) (Nat.le_refl _) ?_
      exact ⟨rfl, rfl, hF, fun c hc => ha c (by omega) hc⟩
    | succ s ih =>
      intro r M1 hr hF hfo ha
      have hsn : s < n := by omega
      have ec : nI (s + 1) - 1 = nI s := nI_m (by omega)
      rw [ec]
      have hmt1 := hmt.fv hF
      have hG1 := hmt1.1
      have hW1 : rmW M1 dc := hW.fr hF (by simp) (by simp) (by simp)
      have hnx := hmt1.nx hsn
      have e0 : aI M1 132 s = nCo (nd s) := hnx.2.2.1.1
      obtain ⟨hb99, hbo, hdc'⟩ := hd.2.1 s hsn
      have hcls : (nI s).toNatClampNeg = s := nI_clamp (by omega)
      have hins : vp_in (nI s) 25 := vp_in_nI (by omega) (by decide)
      have hvs : ∀ j, vT nd n dc D (r + 1) j = if j = s then nV nd n dc D (vT nd n dc D r) j else vT nd n dc D r j := fun j => by rw [show s = n - 1 - r by omega]; rfl
      have J123 : ∀ (M2 : Mem), vF M M2 → (∀ j, j < n → aI M2 150 j = fo nd j) → (∀ j, j < n → aI M2 148 j = (if j = s then mI (nV nd n dc D (vT nd n dc D r) s) else aI M1 148 j) ∧ aL M2 149 j = if j = s then mL (nV nd n dc D (vT nd n dc D r) s) else aL M1 149 j) → ∀ y : Int32, Wp (xM E mX9_reckon 4 0 0 SH.length (fun o sh1 M1 => sh1 = SH ∧ o = none ∧ vF M M1 ∧ ∀ c, c < n → aI M1 148 c = mI (vT nd n dc D n c) ∧ aL M1 149 c = mL (vT nd n dc D n c))) 0 0 123 [(2, .int (nI s)), (3, .int y), (1, .int (nI D)), (0, .ref 121)] [] SH M2 := by
        intro M2 hF2 hfo2 h2 y
        refine wp_iinc dX9_reckon_123 rfl (i_neg1 _) (Nat.le_of_ble_eq_true rfl) ?_
        refine wp_goto (tgt := 63) dX9_reckon_126 (by decide) ?_
        have h := ih (r + 1) M2 (by omega) hF2 hfo2 (fun j h3 h4 => by
          obtain ⟨q1, q2⟩ := h2 j h4
          rw [q1, q2, hvs]
          by_cases z : j = s
          · rw [if_pos z, if_pos z, if_pos z, z]; exact ⟨rfl, rfl⟩
          · rw [if_neg z, if_neg z, if_neg z]; exact ha j (by omega) h4)
        exact wp_lv h (by repeat (first | exact trivial | refine ⟨rfl, ?_⟩))
      have J123' : ∀ (M2 : Mem), vF M M2 → (∀ j, j < n → aI M2 150 j = fo nd j) → (∀ j, j < n → aI M2 148 j = (if j = s then mI (nV nd n dc D (vT nd n dc D r) s) else aI M1 148 j) ∧ aL M2 149 j = if j = s then mL (nV nd n dc D (vT nd n dc D r) s) else aL M1 149 j) → Wp (xM E mX9_reckon 4 0 0 SH.length (fun o sh1 M1 => sh1 = SH ∧ o = none ∧ vF M M1 ∧ ∀ c, c < n → aI M1 148 c = mI (vT nd n dc D n c) ∧ aL M1 149 c = mL (vT nd n dc D n c))) 0 0 123 [(2, .int (nI s)), (1, .int (nI D)), (0, .ref 121)] [] SH M2 := by
        intro M2 hF2 hfo2 h2
        refine wp_iinc dX9_reckon_123 rfl (i_neg1 _) (Nat.le_of_ble_eq_true rfl) ?_
        refine wp_goto (tgt := 63) dX9_reckon_126 (by decide) ?_
        have h := ih (r + 1) M2 (by omega) hF2 hfo2 (fun j h3 h4 => by
          obtain ⟨q1, q2⟩ := h2 j h4
          rw [q1, q2, hvs]
          by_cases z : j = s
          · rw [if_pos z, if_pos z, if_pos z, z]; exact ⟨rfl, rfl⟩
          · rw [if_neg z, if_neg z, if_neg z]; exact ha j (by omega) h4)
        exact wp_lv h (by repeat (first | exact trivial | refine ⟨rfl, ?_⟩))
      refine wp_iload_n dX9_reckon_63 rfl ?_
      refine wp_if_lt (tgt := 129) dX9_reckon_64 (by decide) (fun c64 => absurd c64 (nI_pos (by omega))) (fun c64 => ?_)
      refine wp_aload_n dX9_reckon_67 rfl ?_
      refine wp_getR dX9_reckon_68 fl_X9_44 rfl rfl (hG1 14) ?_
      refine wp_iload_n dX9_reckon_71 rfl ?_
      refine wp_iaload dX9_reckon_72 rfl hins ?_
      rw [hcls, e0]
      refine wp_iconst (v := 3) dX9_reckon_73 rfl ?_
      refine wp_icmp_ne (tgt := 85) dX9_reckon_74 (by decide) (fun c74 => ?_) (fun c74 => ?_)
      · have hnv : nV nd n dc D (vT nd n dc D r) s = lV (nd s) (cntD (nd s) (fo nd s) dc D 4) := by unfold nV; rw [if_neg c74]
        have hs1 : 1 ≤ s := Nat.pos_of_ne_zero fun q => c74 (by rw [q]; exact hmt.2.2.2.1.1)
        have hcnt := cntD_le (x := nd s) (told := fo nd s) hdl hD 4 (Nat.le_refl _)
        refine wp_aload_n dX9_reckon_85 rfl ?_
        refine wp_iload_n dX9_reckon_86 rfl ?_
        refine wp_iload_n dX9_reckon_87 rfl ?_
        refine wp_cV2p dX9_reckon_88 ml_X9_242 vX9_countOf ⟨8, (RX9, TX9, 39), rfl, rfl, rfl⟩ (cX9_countOf_ E s D (nd s) (fo nd s) dc M1 hnx hW1 hdc (hmt.2.2.2.2.1 s hs1 hsn) c74 hD (hfo s hsn)) (Nat.le_of_ble_eq_true rfl) (Nat.le_of_ble_eq_true rfl) (Nat.le_of_ble_eq_true rfl) (Nat.le_refl _) (Nat.le_refl _) (fun v sh1 M2 hqq => ?_)
        obtain ⟨rfl, rfl, hF1⟩ := hqq
        have hG2 := (hnx.ft hF1).1
        have hJ : ∀ z : Int32, z = mI (lV (nd s) (cntD (nd s) (fo nd s) dc D 4)) → Wp (xM E mX9_reckon 4 0 0 SH.length (fun o sh1 M1 => sh1 = SH ∧ o = none ∧ vF M M1 ∧ ∀ c, c < n → aI M1 148 c = mI (vT nd n dc D n c) ∧ aL M1 149 c = mL (vT nd n dc D n c))) 0 0 106 [(2, .int (nI s)), (3, .int (nI (cntD (nd s) (fo nd s) dc D 4))), (1, .int (nI D)), (0, .ref 121)] [.int z, .int (nI s), .ref 148] SH M2 := by
          intro z hz
          subst hz
          have hnar : vp_nar .boolean (mI (lV (nd s) (cntD (nd s) (fo nd s) dc D 4))) = mI (lV (nd s) (cntD (nd s) (fo nd s) dc D 4)) := vn_m _
          have hG3 : rmG (sA M2 148 s (mI (lV (nd s) (cntD (nd s) (fo nd s) dc D 4)))) := hG2
          have e134 : aI (sA M2 148 s (mI (lV (nd s) (cntD (nd s) (fo nd s) dc D 4)))) 134 s = nI (bo (nd s)) := by rw [aI_sA, if_neg (by omega)]; exact (hnx.ft hF1).2.2.1.2.2.1.trans hbo
          refine wp_zastore dX9_reckon_106 rfl hins ?_
          rw [hcls, hnar]
          refine wp_aload_n dX9_reckon_107 rfl ?_
          refine wp_getR dX9_reckon_108 fl_X9_99 rfl rfl (hG3 35) ?_
          refine wp_iload_n dX9_reckon_111 rfl ?_
          refine wp_aload_n dX9_reckon_112 rfl ?_
          refine wp_getR dX9_reckon_113 fl_X9_50 rfl rfl (hG3 16) ?_
          refine wp_iload_n dX9_reckon_116 rfl ?_
          refine wp_iaload dX9_reckon_117 rfl hins ?_
          rw [hcls, e134]
          refine wp_i2l dX9_reckon_118 ?_
          rw [lNi (show bo (nd s) < 2 ^ 31 by omega)]
          refine wp_iload_n dX9_reckon_119 rfl ?_
          refine wp_i2l dX9_reckon_120 ?_
          rw [lNi (show cntD (nd s) (fo nd s) dc D 4 < 2 ^ 31 by omega)]
          refine wp_lmul dX9_reckon_121 ?_
          rw [lNmul]
          refine wp_lastore dX9_reckon_122 rfl hins ?_
          rw [hcls]
          refine wp_lv (J123 _ (((hF.tr (tF_v hF1)).sA (by simp)).sL (by simp)) (fun j hj => ?_) (fun j hj => ⟨?_, ?_⟩) _) (by repeat (first | exact trivial | refine ⟨rfl, ?_⟩))
          · rw [aI_sL, aI_sA, if_neg (by omega)]; exact (hF1.2.1 _ (by simp) _).trans (hfo j hj)
          · rw [aI_sL, aI_sA, hnv]
            by_cases z : j = s
            · rw [if_pos ⟨rfl, z⟩, if_pos z]
            · rw [if_neg (fun q => z q.2), if_neg z]; exact hF1.2.1 _ (by simp) _
          · rw [aL_sL, hnv]
            by_cases z : j = s
            · rw [if_pos ⟨rfl, z⟩, if_pos z]
              unfold lV
              split
              · next q => rw [q]; rfl
              · rfl
            · rw [if_neg (fun q => z q.2), if_neg z, aL_sA]; exact hF1.2.2.1 _ (by simp) _
        refine wp_istore_n dX9_reckon_91 (Nat.le_of_ble_eq_true rfl) ?_
        refine wp_aload_n dX9_reckon_92 rfl ?_
        refine wp_getR dX9_reckon_93 fl_X9_95 rfl rfl (hG2 34) ?_
        refine wp_iload_n dX9_reckon_96 rfl ?_
        refine wp_iload_n dX9_reckon_97 rfl ?_
        refine wp_if_le (tgt := 105) dX9_reckon_98 (by decide) (fun c98 => ?_) (fun c98 => ?_)
        · refine wp_iconst (v := 0) dX9_reckon_105 rfl ?_
          have h0 : cntD (nd s) (fo nd s) dc D 4 = 0 := (nI_le0 (by omega)).mp c98
          exact wp_lv (hJ 0 (by rw [h0]; rfl)) (by repeat (first | exact trivial | refine ⟨rfl, ?_⟩))
        · refine wp_iconst (v := 1) dX9_reckon_101 rfl ?_
          refine wp_goto (tgt := 106) dX9_reckon_102 (by decide) ?_
          have h0 : ¬ cntD (nd s) (fo nd s) dc D 4 = 0 := fun q => c98 ((nI_le0 (by omega)).mpr q)
          exact wp_lv (hJ 1 (by unfold lV; rw [if_neg h0]; rfl)) (by repeat (first | exact trivial | refine ⟨rfl, ?_⟩))
      · have hnv : nV nd n dc D (vT nd n dc D r) s = gV (nd s) (gS nd (vT nd n dc D r) s (n - 1 - s)) := by unfold nV; rw [if_pos c74]
        refine wp_aload_n dX9_reckon_77 rfl ?_
        refine wp_iload_n dX9_reckon_78 rfl ?_
        refine wp_cV1v dX9_reckon_79 ml_X9_239 vX9_reckonGroup ⟨8, (RX9, TX9, 39), rfl, rfl, rfl⟩ (cX9_reckonGroup_ E n s nd (vT nd n dc D r) M1 hmt1 hd hsn (fun j h1 h2 => ha j (by omega) h2)) (Nat.le_of_ble_eq_true rfl) (Nat.le_of_ble_eq_true rfl) (Nat.le_of_ble_eq_true rfl) ?_
        refine wp_goto (tgt := 123) dX9_reckon_82 (by decide) ?_
        refine wp_lv (J123' _ ((hF.sA (by simp)).sL (by simp)) (fun j hj => ?_) (fun j hj => ⟨?_, ?_⟩)) (by repeat (first | exact trivial | refine ⟨rfl, ?_⟩))
        · rw [aI_sL, aI_sA, if_neg (by omega)]; exact hfo j hj
        · rw [aI_sL, aI_sA, hnv]
          by_cases z : j = s
          · rw [if_pos ⟨rfl, z⟩, if_pos z]
          · rw [if_neg (fun q => z q.2), if_neg z]
        · rw [aL_sL, hnv]
          by_cases z : j = s
          · rw [if_pos ⟨rfl, z⟩, if_pos z]
          · rw [if_neg (fun q => z q.2), if_neg z, aL_sA]
  have up : ∀ (s k : Nat) (M1 : Mem), k + s = n → vF M M1 → (∀ j, j < k → aI M1 150 j = fo nd j) → Wp (xM E mX9_reckon 4 0 0 SH.length (fun o sh1 M1 => sh1 = SH ∧ o = none ∧ vF M M1 ∧ ∀ c, c < n → aI M1 148 c = mI (vT nd n dc D n c) ∧ aL M1 149 c = mL (vT nd n dc D n c))) 0 0 2 [(2, .int (nI k)), (1, .int (nI D)), (0, .ref 121)] [] SH M1 := by
    intro s
    induction s with
    | zero =>
      intro k M1 hk hF hfo
      have hk : k = n := by omega
      subst hk
      have hmt1 := hmt.fv hF
      have hcn1 := hmt1.2.1.1
      refine wp_iload_n dX9_reckon_2 rfl ?_
      refine wp_aload_n dX9_reckon_3 rfl ?_
      refine wp_getI dX9_reckon_4 fl_X9_112 rfl rfl ?_
      rw [hcn1]
      refine wp_icmp_ge (tgt := 56) dX9_reckon_7 (by decide) (fun c7 => ?_) (fun c7 => absurd (Int32.le_refl _) c7)
      refine wp_aload_n dX9_reckon_56 rfl ?_
      refine wp_getI dX9_reckon_57 fl_X9_112 rfl rfl ?_
      rw [hcn1]
      refine wp_iconst (v := 1) dX9_reckon_60 rfl ?_
      refine wp_isub dX9_reckon_61 ?_
      refine wp_istore_n dX9_reckon_62 (Nat.le_of_ble_eq_true rfl) ?_
      exact wp_lv (down k 0 M1 (by omega) hF hfo (fun j h1 h2 => absurd h2 (by omega))) (by repeat (first | exact trivial | refine ⟨rfl, ?_⟩))
    | succ s ih =>
      intro k M1 hk hF hfo
      have hkn : k < n := by omega
      have hmt1 := hmt.fv hF
      have hG1 := hmt1.1
      have hcn1 := hmt1.2.1.1
      have hclk : (nI k).toNatClampNeg = k := nI_clamp (by omega)
      have hink : vp_in (nI k) 25 := vp_in_nI (by omega) (by decide)
      obtain ⟨_, _, _, k3, _, k5, _⟩ := hmt1.2.1.2.2 k hkn
      have k3 : aI M1 135 k = nFi (nd k) := k3
      have k5 : aI M1 137 k = nAr (nd k) := k5
      have J49 : ∀ z : Int32, z = fo nd k → Wp (xM E mX9_reckon 4 0 0 SH.length (fun o sh1 M1 => sh1 = SH ∧ o = none ∧ vF M M1 ∧ ∀ c, c < n → aI M1 148 c = mI (vT nd n dc D n c) ∧ aL M1 149 c = mL (vT nd n dc D n c))) 0 0 49 [(2, .int (nI k)), (1, .int (nI D)), (0, .ref 121)] [.int z, .int (nI k), .ref 150] SH M1 := by
        intro z hz
        subst hz
        refine wp_iastore dX9_reckon_49 rfl hink ?_
        refine wp_iinc dX9_reckon_50 rfl (i_inc _) (Nat.le_of_ble_eq_true rfl) ?_
        refine wp_goto (tgt := 2) dX9_reckon_53 (by decide) ?_
        rw [hclk]
        refine wp_lv (ih (k + 1) _ (by omega) (hF.sA (by simp)) (fun j hj => ?_)) (by repeat (first | exact trivial | refine ⟨rfl, ?_⟩))
        rw [aI_sA]
        by_cases z : j = k
        · rw [if_pos ⟨rfl, z⟩, z]
        · rw [if_neg (fun q => z q.2)]; exact hfo j (by omega)
      refine wp_iload_n dX9_reckon_2 rfl ?_
      refine wp_aload_n dX9_reckon_3 rfl ?_
      refine wp_getI dX9_reckon_4 fl_X9_112 rfl rfl ?_
      rw [hcn1]
      refine wp_icmp_ge (tgt := 56) dX9_reckon_7 (by decide) (fun c7 => absurd c7 (nI_ge hkn (by omega))) (fun c7 => ?_)
      refine wp_aload_n dX9_reckon_10 rfl ?_
      refine wp_getR dX9_reckon_11 fl_X9_103 rfl rfl (hG1 36) ?_
      refine wp_iload_n dX9_reckon_14 rfl ?_
      refine wp_aload_n dX9_reckon_15 rfl ?_
      refine wp_getR dX9_reckon_16 fl_X9_53 rfl rfl (hG1 17) ?_
      refine wp_iload_n dX9_reckon_19 rfl ?_
      refine wp_iaload dX9_reckon_20 rfl hink ?_
      rw [hclk, k3]
      refine wp_iconst (v := (-1)) dX9_reckon_21 rfl ?_
      refine wp_icmp_ne (tgt := 29) dX9_reckon_22 (by decide) (fun c22 => ?_) (fun c22 => ?_)
      · refine wp_aload_n dX9_reckon_29 rfl ?_
        refine wp_getR dX9_reckon_30 fl_X9_53 rfl rfl (hG1 17) ?_
        refine wp_iload_n dX9_reckon_33 rfl ?_
        refine wp_iaload dX9_reckon_34 rfl hink ?_
        refine wp_goto (tgt := 49) dX9_reckon_35 (by decide) ?_
        rw [hclk, k3]
        exact wp_lv (J49 _ (by
          by_cases z : k = 0
          · rw [z, fo_0]
          · obtain ⟨a, m, g1, g2, g3, g4, g5⟩ := hd.2.2.2 k (by omega) hkn
            rw [fo_s g5 (by omega) g2 (by omega) z, if_neg c22])) (by repeat (first | exact trivial | refine ⟨rfl, ?_⟩))
      · refine wp_iload_n dX9_reckon_25 rfl ?_
        refine wp_if_ne (tgt := 38) dX9_reckon_26 (by decide) (fun c26 => ?_) (fun c26 => ?_)
        · have hk0 : k ≠ 0 := fun q => c26 (by rw [q]; rfl)
          obtain ⟨a, m, g1, g2, g3, g4, g5⟩ := hd.2.2.2 k (by omega) hkn
          have hina : vp_in (nI a) 25 := vp_in_nI (by omega) (by decide)
          have hcla : (nI a).toNatClampNeg = a := nI_clamp (by omega)
          have hfs := fo_s g5 (by omega) g2 (by omega) hk0
          refine wp_aload_n dX9_reckon_38 rfl ?_
          refine wp_getR dX9_reckon_39 fl_X9_103 rfl rfl (hG1 36) ?_
          refine wp_aload_n dX9_reckon_42 rfl ?_
          refine wp_getR dX9_reckon_43 fl_X9_59 rfl rfl (hG1 19) ?_
          refine wp_iload_n dX9_reckon_46 rfl ?_
          refine wp_iaload dX9_reckon_47 rfl hink ?_
          rw [hclk, k5, g2]
          refine wp_iaload dX9_reckon_48 rfl hina ?_
          rw [hcla, hfo a g1]
          exact wp_lv (J49 _ (by rw [hfs, if_pos c22])) (by repeat (first | exact trivial | refine ⟨rfl, ?_⟩))
        · refine wp_aload_n dX9_reckon_29 rfl ?_
          refine wp_getR dX9_reckon_30 fl_X9_53 rfl rfl (hG1 17) ?_
          refine wp_iload_n dX9_reckon_33 rfl ?_
          refine wp_iaload dX9_reckon_34 rfl hink ?_
          refine wp_goto (tgt := 49) dX9_reckon_35 (by decide) ?_
          rw [hclk, k3]
          have z : k = 0 := nI_e (b := 0) (by omega) (by decide) c26
          exact wp_lv (J49 _ (by rw [z, fo_0])) (by repeat (first | exact trivial | refine ⟨rfl, ?_⟩))
  refine wp_iconst (v := 0) dX9_reckon_0 rfl ?_
  refine wp_istore_n dX9_reckon_1 (Nat.le_of_ble_eq_true rfl) ?_
  exact wp_lv (up n 0 M (by omega) Fr.rf (fun j hj => absurd hj (Nat.not_lt_zero j))) (by repeat (first | exact trivial | refine ⟨rfl, ?_⟩))
