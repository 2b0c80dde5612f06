/-! ===== the model reads: goAlong ===== -/
def kch (nd : Nat → ND) : Nat → Nat → Prop
  | 0, _ => True
  | d + 1, o => ∃ a, a < o ∧ nAr (nd o) = nI a ∧ 0 < nKi (nd a) ∧ kch nd d a
theorem kch_congr {nd nd1 : Nat → ND} : ∀ (d o : Nat), (∀ j, j ≤ o → nAr (nd1 j) = nAr (nd j) ∧ (0 < nKi (nd j) → 0 < nKi (nd1 j))) → kch nd d o → kch nd1 d o
  | 0, _, _, _ => trivial
  | d + 1, o, hc, ⟨a, h1, h2, h3, h4⟩ => ⟨a, h1, (hc o (Nat.le_refl _)).1.trans h2, (hc a (by omega)).2 h3, kch_congr d a (fun j hj => hc j (by omega)) h4⟩
abbrev hdSt (tp : List Nat) (a : Nat) (s : RS) : Prop := qSt s = 0 ∨ (dnSt (qSt s) ∧ (a < tp.length → tp.getD a 0 = 32 ∨ tp.getD a 0 = 41) ∧ 0 < nKi (qNd s (qOp s)))
def GI (M M1 : Mem) (tp : List Nat) (a : Nat) (s : RS) : Prop := mPF M M1 ∧ Ps M1 tp a ∧ Cn tp a s ∧ fI M1 121 24 = 0 ∧ fI M1 121 3 = nI (qCn s) ∧ (∀ j, j < qCn s → mNode 123 M1 j (qNd s j)) ∧ kch (qNd s) (qDep s) (qOp s) ∧ hdSt tp a s
def pGo (M : Mem) (tp : List Nat) : PT := fun v sh1 M1 => sh1 = SH ∧ mPF M M1 ∧ ((∃ a, a ≤ tp.length ∧ rdS tp = (a, none) ∧ v = some (.int (nI a))) ∨ ∃ a s, rdS tp = (a, some s) ∧ aOk s ∧ v = some (.int (-1)) ∧ fI M1 121 3 = nI (qCn s) ∧ ∀ j, j < qCn s → mNode 123 M1 j (qNd s j))
abbrev XGo (E : GE) (M : Mem) (tp : List Nat) : MX := xM E mX9_goAlong 4 0 0 SH.length (pGo M tp)
theorem dn_end {s : RS} {b : Nat} (h : dnSt (qSt s)) (hb : b = 32 ∨ b = 41) : dl s b = rEnd s b := by
  have e94 : ¬ b = 94 := by omega
  have e3 : rIn s b = rEnd s b := by
    unfold rIn rTail
    rw [if_neg (by omega), if_neg (by omega), if_neg (by omega), if_neg e94]
  have et : rTail s b = rEnd s b := by unfold rTail; rw [if_neg e94]
  rcases h with h | h | h | h | h | h <;> rw [dln h]
  · exact e3
  · show (if b = 126 then some (rGo s 9) else rTail s b) = _
    rw [if_neg (by omega), et]
  · show (if b = 64 then some (rGo s 14) else rTail s b) = _
    rw [if_neg (by omega), et]
  · exact et
  · show (if isFg b then some (rBoo s (10 * nBo (rCur s) + nI b - 48) 18) else rEnd s b) = _
    rw [if_neg (by omega)]
  · rfl
theorem dl_sp {tp : List Nat} {a : Nat} {s : RS} (h : hdSt tp a s) : dl s 32 = some (rGo s 0) := by
  rcases h with h | h
  · rw [dln h]
    show rGap s 32 = _
    unfold rGap
    rw [if_pos rfl]
    have : rGo s (qSt s) = s := rfl
    rw [← h, this]
  · rw [dn_end h.1 (Or.inl rfl)]; rfl
theorem dl_cl {tp : List Nat} {a : Nat} {s : RS} (h : hdSt tp a s) (hk : 0 < nKi (qNd s (qOp s))) : dl s 41 = rClose s := by
  rcases h with h | h
  · rw [dln h]
    show rGap s 41 = _
    unfold rGap
    rw [if_neg (by decide), if_pos rfl, if_pos hk]
  · rw [dn_end h.1 (Or.inr rfl)]; rfl
theorem cl_no {s : RS} (h : qDep s = 0) : rClose s = none := if_pos h
theorem dl_cln {tp : List Nat} {a : Nat} {s : RS} (h : hdSt tp a s) (hk : qDep s = 0 ∨ nKi (qNd s (qOp s)) = 0) : dl s 41 = none := by
  by_cases q : 0 < nKi (qNd s (qOp s))
  · rw [dl_cl h q, cl_no (by omega)]
  · rcases h with h | h
    · rw [dln h]
      show rGap s 41 = _
      unfold rGap
      rw [if_neg (by decide), if_pos rfl, if_neg q]
    · exact absurd h.2.2 q
theorem wh_iff {tp : List Nat} {a : Nat} {s : RS} (h : hdSt tp a s) (hg : gOk s) : rWhole s ↔ qDep s = 0 ∧ 0 < nKi (qNd s 0) := by
  constructor
  · rintro ⟨h1, h2⟩
    refine ⟨h1, ?_⟩
    rcases h2 with h2 | h2
    · exact h2.2
    · rcases h with h | h
      · omega
      · have e : qOp s = 0 := by have := hg.2.2.2.1; rw [h1] at this; exact this
        have := h.2.2
        rw [e] at this; exact this
  · rintro ⟨h1, h2⟩
    refine ⟨h1, ?_⟩
    rcases h with h | h
    · exact Or.inl ⟨h, h2⟩
    · exact Or.inr h.1
theorem Cn_end {tp : List Nat} {a : Nat} {s : RS} (h : Cn tp a s) (hl : ¬ a < tp.length) (hle : a ≤ tp.length) : rdS tp = if rWhole s then (a, some s) else (a, none) := by
  have : a = tp.length := by omega
  subst this
  rw [h.1, List.drop_length]; rfl
theorem mN_ct {M : Mem} {k : Nat} {x : ND} (h : mNode 123 M k x) (hc : nCo x = 3) : aI M 129 k = nI (nKi x) := by
  have := h.2.2.2.2.2.2.1
  rw [if_pos hc] at this; exact this
theorem hd_0 {tp : List Nat} {a : Nat} {s : RS} (h : hdSt tp a s) (hl : a < tp.length) (h1 : tp.getD a 0 ≠ 32) (h2 : tp.getD a 0 ≠ 41) : qSt s = 0 := by
  rcases h with h | h
  · exact h
  · rcases h.2.1 hl with q | q
    · exact absurd q h1
    · exact absurd q h2
set_option maxRecDepth 100000 in
set_option maxHeartbeats 4000000 in
theorem go_bad (E : GE) {M : Mem} {tp : List Nat} (M1 : Mem) (g d : Int32) (hF : mPF M M1) (hbd : Bad M1 tp) : Wp (XGo E M tp) 0 0 23 [(0, .ref 121), (1, .int g), (2, .int d)] [] SH M1 := by
  obtain ⟨hw, a, hle, ha, hr⟩ := hbd
  refine wp_aload_n dX9_goAlong_23 rfl ?_
  refine wp_getI dX9_goAlong_24 fl_X9_127 rfl rfl ?_
  refine wp_if_ne (tgt := 335) dX9_goAlong_27 (by decide) (fun c27 => ?_) (fun c27 => absurd c27 (by rw [hw]; decide))
  refine wp_aload_n dX9_goAlong_335 rfl ?_
  refine wp_getI dX9_goAlong_336 fl_X9_124 rfl rfl ?_
  refine wp_ireturn dX9_goAlong_339 rfl rfl (Nat.zero_le _) (Nat.zero_le _) ?_
  exact ⟨rfl, hF, Or.inl ⟨a, hle, hr, by rw [ha]⟩⟩
set_option maxRecDepth 100000 in
set_option maxHeartbeats 4000000 in
theorem go_close (E : GE) {M M1 : Mem} {tp : List Nat} {a : Nat} {s : RS} (hI : GI M M1 tp a s) (h41 : a < tp.length ∧ tp.getD a 0 = 41) (hd : qDep s ≠ 0) (hki : 0 < nKi (qNd s (qOp s))) (ih : ∀ (a : Nat) (s1 : RS) (M1 : Mem), GI M M1 tp a s1 → 2 * (25 - qCn s1) + qDep s1 < 2 * (25 - qCn s) + qDep s → Wp (XGo E M tp) 0 0 23 [(0, .ref 121), (1, .int (nI (qOp s1))), (2, .int (nI (qDep s1)))] [] SH M1) : Wp (XGo E M tp) 0 0 109 [(0, .ref 121), (1, .int (nI (qOp s))), (2, .int (nI (qDep s)))] [] SH M1 := by
  obtain ⟨hF, hP, hC, h24, h3, hmn, hkc, hhd⟩ := hI
  have hG := hP.1
  have hT := hP.2.1
  have h240 := hT.2.1
  have hg := hC.2.1
  have h25 := hg.2.2.1
  have hop := hg.2.1
  have hd5 := hg.1
  obtain ⟨d, hd⟩ : ∃ d, qDep s = d + 1 := ⟨qDep s - 1, by omega⟩
  rw [hd] at hkc
  obtain ⟨p, hp1, hp2, hp3, hp4⟩ := hkc
  obtain ⟨s1, hs1⟩ : ∃ s1, s1 = mkR 13 d p (qCn s) (qWn s) (qSg s) (qPl s) (qOp s) (qNd s) := ⟨_, rfl⟩
  have hC1 : Cn tp (a + 1) s1 := Cn_step hC h41.1 (by
    rw [h41.2, dl_cl hhd hki]
    unfold rClose
    rw [if_neg (by omega), hp2, nI_clamp (by omega), hd, hs1]; rfl)
  have hP1 := Ps_at hP h41.1
  have hst1 : qSt s1 = 13 := by rw [hs1]; rfl
  have hcur1 : rCur s1 = qNd s (qOp s) := by rw [hs1]; rfl
  have hnd1 : qNd s1 = qNd s := by rw [hs1]; rfl
  have hop1 : qOp s1 = p := by rw [hs1]; rfl
  have hdp1 : qDep s1 = d := by rw [hs1]; rfl
  have hcn1 : qCn s1 = qCn s := by rw [hs1]; rfl
  have hcu1 : qCu s1 = qOp s := by rw [hs1]; rfl
  have hin : vp_in (nI (qOp s)) 25 := vp_in_nI (by omega) (by decide)
  have hcl : (nI (qOp s)).toNatClampNeg = qOp s := nI_clamp (by omega)
  have har : aI M1 128 (qOp s) = nI p := (hmn _ hop).2.2.2.2.2.1.trans hp2
  have hF1 : mPF M (sI M1 121 23 (nI (a + 1))) := hF.sI (by simp)
  have hmn1 : ∀ j, j < qCn s → mNode 123 (sI M1 121 23 (nI (a + 1))) j (qNd s j) := hmn
  have ede : nI (qDep s) - 1 = nI d := by rw [hd, ← nI_1, Int32.add_sub_cancel]
  have Jg : ∀ (M2 : Mem) (a2 : Nat) (s2 : RS) (x : Int32), mPF M M2 → NF (qOp s) (sI M1 121 23 (nI (a + 1))) M2 → fI M2 121 24 = 0 → fI M2 121 3 = nI (qCn s) → Ps M2 tp a2 → Cn tp a2 s2 → eOk tp a2 s2 → SF s1 s2 → mNode 123 M2 (qOp s) (rCur s2) → (∃ v, rCur s2 = nsDe (rCur s1) v) → Wp (XGo E M tp) 0 0 144 [(1, .int (nI p)), (3, .int (nI (qOp s))), (2, .int (nI d)), (0, .ref 121)] [] SH M2 := by
    intro M2 a2 s2 x hF2 hN2 g24 g3 hP2 hC2 he hSF2 hmn2 hde
    obtain ⟨v, hde⟩ := hde
    refine wp_aload_n dX9_goAlong_144 rfl ?_
    refine wp_iload_n dX9_goAlong_145 rfl ?_
    refine wp_cV1p dX9_goAlong_146 ml_X9_170 vX9_ends ⟨8, (RX9, TX9, 39), rfl, rfl, rfl⟩ (cX9_ends_ E (qOp s) tp a2 s2 M2 hP2 hC2 (by omega) he.1 he.2.1 he.2.2) (Nat.le_of_ble_eq_true rfl) (Nat.le_of_ble_eq_true rfl) (Nat.le_of_ble_eq_true rfl) (Nat.le_refl _) (Nat.le_refl _) (fun v sh1 M1 hq => ?_)
    obtain ⟨rfl, hF3, hN3, hq⟩ := hq
    rcases hq with ⟨rfl, hbd⟩ | ⟨rfl, k24, k3, a3, s3, hP3, hC3, hdn, hnx, hSF3, hmn3, w, hbo⟩
    · refine wp_if_eq (tgt := 156) dX9_goAlong_149 (by decide) (fun c => ?_) (fun c => absurd rfl c)
      refine wp_iconst (v := 0) dX9_goAlong_156 rfl ?_
      refine wp_istore dX9_goAlong_157 (Nat.le_of_ble_eq_true rfl) ?_
      refine wp_goto (tgt := 23) dX9_goAlong_159 (by decide) ?_
      exact wp_lv (go_bad E _ _ _ (hF2.tr hF3) hbd) (by repeat (first | exact trivial | refine ⟨rfl, ?_⟩))
    · refine wp_if_eq (tgt := 156) dX9_goAlong_149 (by decide) (fun c149 => absurd c149 (by decide)) (fun c149 => ?_)
      refine wp_iconst (v := 1) dX9_goAlong_152 rfl ?_
      refine wp_goto (tgt := 157) dX9_goAlong_153 (by decide) ?_
      refine wp_istore dX9_goAlong_157 (Nat.le_of_ble_eq_true rfl) ?_
      refine wp_goto (tgt := 23) dX9_goAlong_159 (by decide) ?_
      have hS := hSF2.tr hSF3
      obtain ⟨e1, e2, e3, e4, e5⟩ := hS
      have hne : ∀ j, j ≠ qOp s → qNd s3 j = qNd s j := fun j hj => by rw [e5 j (by rw [hcu1]; exact hj), hnd1]
      have hG3 : GI M M1 tp a3 s3 := by
        refine ⟨hF2.tr hF3, hP3, hC3, k24.trans g24, k3.trans (g3.trans (by rw [e3, hcn1])), fun j hj => ?_, ?_, Or.inr ⟨hdn, hnx, ?_⟩⟩
        · rw [e3, hcn1] at hj
          by_cases q : j = qOp s
          · subst q
            have h := hmn3 hmn2
            have : rCur s3 = qNd s3 (qOp s) := by unfold rCur; rw [e4, hcu1]
            rw [← this]; exact h
          · rw [hne j q]
            have ho := (hg.2.2.2.2.2 j hj).1
            exact mNode_nf (mNode_nf (hmn1 j hj) hN2 q ho) hN3 q ho
        · rw [e1, e2, hdp1, hop1]
          refine kch_congr _ _ (fun j hj => ?_) hp4
          rw [hne j (by omega)]
          exact ⟨rfl, fun h => h⟩
        · rw [e2, hop1, hne p (by omega)]; exact hp3
      have h := ih a3 s3 _ hG3 (by rw [e3, hcn1, e1, hdp1]; omega)
      rw [e1, e2, hdp1, hop1] at h
      exact wp_lv h (by repeat (first | exact trivial | refine ⟨rfl, ?_⟩))
  refine wp_aload_n dX9_goAlong_109 rfl ?_
  refine wp_dup dX9_goAlong_110 rfl ?_
  refine wp_getI dX9_goAlong_111 fl_X9_124 rfl rfl ?_
  refine wp_iconst (v := 1) dX9_goAlong_114 rfl ?_
  refine wp_iadd dX9_goAlong_115 ?_
  refine wp_putI dX9_goAlong_116 fl_X9_124 rfl rfl (fun _ _ _ h => by cases h; rfl) rfl rfl ?_
  rw [at_inc hP]
  refine wp_iinc dX9_goAlong_119 rfl (i_neg1 _) (Nat.le_of_ble_eq_true rfl) ?_
  rw [ede]
  refine wp_iload_n dX9_goAlong_122 rfl ?_
  refine wp_istore_n dX9_goAlong_123 (Nat.le_of_ble_eq_true rfl) ?_
  refine wp_aload_n dX9_goAlong_124 rfl ?_
  refine wp_getR dX9_goAlong_125 fl_X9_32 rfl rfl (hG 9) ?_
  refine wp_iload_n dX9_goAlong_128 rfl ?_
  refine wp_iaload dX9_goAlong_129 rfl hin ?_
  rw [hcl]
  rw [show aI (sI M1 121 23 (nI (a + 1))) 128 (qOp s) = nI p from har]
  refine wp_istore_n dX9_goAlong_130 (Nat.le_of_ble_eq_true rfl) ?_
  refine wp_aload_n dX9_goAlong_131 rfl ?_
  refine wp_iload_n dX9_goAlong_132 rfl ?_
  refine wp_bipush (v := 64) dX9_goAlong_133 (by decide) ?_
  refine wp_iconst (v := 1) dX9_goAlong_135 rfl ?_
  refine wp_bipush (v := 9) dX9_goAlong_136 (by decide) ?_
  refine wp_cV4p dX9_goAlong_138 ml_X9_150 vX9_figure ⟨8, (RX9, TX9, 39), rfl, rfl, rfl⟩ (cX9_figure_ E (qOp s) tp (a + 1) s1 _ hP1 hC1 (by omega) 64 1 9 14 (by decide) (by decide) (by decide) (fun _ _ => by rw [dln hst1]; rfl) (fun b => rfl) (nwh (show ¬ (14 = 0 ∨ dnSt 14) by decide))) (Nat.le_of_ble_eq_true rfl) (Nat.le_of_ble_eq_true rfl) (Nat.le_of_ble_eq_true rfl) (Nat.le_refl _) (Nat.le_refl _) (fun v sh1 M1 hq => ?_)
  obtain ⟨rfl, hF2, hN2, hq⟩ := hq
  rcases hq with ⟨rfl, hbd⟩ | ⟨rfl, g24, g3, a2, s2, hP2, hC2, hg2⟩
  · refine wp_if_eq (tgt := 156) dX9_goAlong_141 (by decide) (fun c => ?_) (fun c => absurd rfl c)
    refine wp_iconst (v := 0) dX9_goAlong_156 rfl ?_
    refine wp_istore dX9_goAlong_157 (Nat.le_of_ble_eq_true rfl) ?_
    refine wp_goto (tgt := 23) dX9_goAlong_159 (by decide) ?_
    exact wp_lv (go_bad E _ _ _ (hF1.tr hF2) hbd) (by repeat (first | exact trivial | refine ⟨rfl, ?_⟩))
  · refine wp_if_eq (tgt := 156) dX9_goAlong_141 (by decide) (fun c141 => absurd c141 (by decide)) (fun c141 => ?_)
    rcases hg2 with ⟨rfl, rfl, rfl, hn64⟩ | ⟨hst2, hSF2, hmn2, hde⟩
    · refine wp_lv (Jg _ (a + 1) s2 0 hF1 NF.rf h24 h3 hP1 hC1 ⟨by omega, by rw [dln hst1]; rfl, fun q q1 q2 q3 => ?_⟩ SF.rf (by rw [hcur1]; exact hmn1 _ hop) ⟨_, rfl⟩) (by repeat (first | exact trivial | refine ⟨rfl, ?_⟩))
      rw [dln hst1]
      show (if tp.getD (a + 1) 0 = 64 then some (rGo s2 14) else rTail s2 (tp.getD (a + 1) 0)) = none
      rw [if_neg (fun e => hn64 ⟨q, e⟩)]
      unfold rTail
      rw [if_neg q1, rEnd_no q2 q3]
    · exact wp_lv (Jg _ a2 s2 0 (hF1.tr hF2) hN2 (g24.trans h24) (g3.trans h3) hP2 hC2 (eOk_15 hst2) hSF2 (hmn2 (by rw [hcur1]; exact hmn1 _ hop)) hde) (by repeat (first | exact trivial | refine ⟨rfl, ?_⟩))
