/-! ===== the model reads: letters ===== -/
def wApp (ws : List (List Nat)) (w : List Nat) : List (List Nat) := if w = [] then ws else ws ++ [w]
theorem addB_w (ws : List (List Nat)) (w : List Nat) (b : Nat) : addB (wApp ws w) ws.length b = wApp ws (w ++ [b]) := by
  unfold wApp
  rw [if_neg (show ¬ w ++ [b] = [] by simp)]
  by_cases h : w = []
  · subst h; unfold addB; simp
  · rw [if_neg h]
    unfold addB
    rw [if_pos (by simp)]
    simp [List.getD_eq_getElem?_getD, List.set_append]
/-- the words of node k in the model's new rows -/
def mW (M : Mem) (k : Nat) (ws : List (List Nat)) : Prop := aI M 129 k = nI ws.length ∧ ∀ j, j < ws.length → aI M 130 (5 * k + j) = nI (ws.getD j []).length ∧ ∀ i, i < (ws.getD j []).length → aI M 131 (40 * k + 8 * j + i) = nI ((ws.getD j []).getD i 0)
theorem getD_app {α : Type} (l : List α) (x d : α) (i : Nat) : (l ++ [x]).getD i d = if i = l.length then x else l.getD i d := by
  simp only [List.getD_eq_getElem?_getD]
  by_cases e : i = l.length
  · subst e; simp
  · rw [if_neg e]
    by_cases q : i < l.length
    · rw [List.getElem?_append_left q]
    · rw [List.getElem?_eq_none (by simp; omega), List.getElem?_eq_none (by omega)]
abbrev gLet (M : Mem) (tp : List Nat) (k : Nat) (s : RS) (nx : Nat) (ws : List (List Nat)) : Mem → Nat → RS → Prop := fun M1 a1 s1 => qSt s1 = nx ∧ 0 < qSg s1 ∧ qWn s1 = ws.length ∧ SF s s1 ∧ (a1 < tp.length → ¬ isLt (tp.getD a1 0)) ∧ (∀ p, 123 ≤ p → p ≤ 128 → aI M1 p k = aI M p k) ∧ ∃ w, w ≠ [] ∧ w.length ≤ 8 ∧ (∀ b ∈ w, isLt b) ∧ rCur s1 = nsWo (rCur s) (ws ++ [w]) ∧ mW M1 k (ws ++ [w])
theorem pkm8 (j : Nat) : (8 : Int32) * nI j = nI (8 * j) := pk_mul 8 j
theorem rLet_6 {s : RS} {b : Nat} (h : qSt s = 6) (hb : isLt b) : dl s b = rLet s b 6 := by
  unfold dl; rw [h]
  show rQuo s b = _
  unfold rQuo
  rw [if_neg (by omega), if_neg (by omega)]
theorem rLet_11 {s : RS} {b : Nat} (h : qSt s = 11) (hb : isLt b) : dl s b = rLet s b 11 := by
  unfold dl; rw [h]
  show rSpan s b = _
  unfold rSpan
  rw [if_neg (by omega), if_neg (fun q => by have := q.2; split at this <;> omega)]
set_option maxRecDepth 100000 in
set_option maxHeartbeats 4000000 in
theorem cX9_letters_ (E : GE) (k : Nat) (tp : List Nat) (a : Nat) (s : RS) (M : Mem) (hP : Ps M tp a) (hC : Cn tp a s) (hk : k < 25) (u : RS) (nx : Nat) (ws : List (List Nat)) (hn : nx = 6 ∨ nx = 11) (hws : ws.length ≤ 4) (hw8 : ∀ j, j < ws.length → (ws.getD j []).length ≤ 8) (hM : mW M k ws) (hf1 : ∀ b, isLt b → dl s b = some (rGo (rSign u b) nx)) (hf2 : a < tp.length → ¬ isLt (tp.getD a 0) → dl s (tp.getD a 0) = none) (hf3 : ¬ rWhole s) (hu1 : rCur u = nsWo (rCur s) (wApp ws [])) (hu2 : qSg u = 0) (hu3 : qWn u = ws.length) (hu4 : wOk u) (hu5 : SF s u) : Sp E mX9_letters 1 0 0 [.ref 121, .int (nI k)] SH M (pM M tp k (gLet M tp k s nx ws)) := by
  refine sp_of vX9_letters.1 rfl (Nat.le_of_ble_eq_true rfl) ?_
  have hb := tp_lt hP.2.1
  have h240 := hP.2.1.2.1
  have hG := hP.1
  have hkin : vp_in (nI k) 25 := vp_in_nI hk (by decide)
  have hkcl : (nI k).toNatClampNeg = k := nI_clamp (by omega)
  have hwl := hM.1
  have hj : aI M 129 (nI k).toNatClampNeg = nI ws.length := by rw [hkcl]; exact hwl
  have loop : ∀ (r : Nat) (w : List Nat) (c v : RS) (M1 : Mem), w.length + r = 9 → Ps M1 tp (a + w.length) → Cn tp (a + w.length) c → mPF M M1 → NF k M M1 → fI M1 121 24 = fI M 121 24 → fI M1 121 3 = fI M 121 3 → (∀ p, 123 ≤ p → p ≤ 129 → aI M1 p k = aI M p k) → mW M1 k ws → (∀ i, i < w.length → aI M1 131 (40 * k + 8 * ws.length + i) = nI (w.getD i 0)) → (∀ b ∈ w, isLt b) → w.length ≤ 8 → rCur v = nsWo (rCur s) (wApp ws w) → qSg v = w.length → qWn v = ws.length → wOk v → SF s v → (w ≠ [] → c = v ∧ qSt v = nx) → (w = [] → c = s ∧ v = u) → Wp (xM E mX9_letters 1 0 0 SH.length (pM M tp k (gLet M tp k s nx ws))) 0 0 9 [(3, .int (nI w.length)), (2, .int (nI ws.length)), (0, .ref 121), (1, .int (nI k))] [] SH M1 := by
    intro r
    induction r with
    | zero => intro w c v M1 hr hP1 hC1 hF hN h24 h3 hp hmw hsg hlw h8; omega
    | succ r ih =>
      intro w c v M1 hr hP1 hC1 hF hN h24 h3 hp hmw hsg hlw h8 hcur hqs hqw hwo hSF hcv hcs
      have hG1 := hP1.1
      have hle := hP1.2.2.2
      have hix : (40 : Int32) * nI k + 8 * nI ws.length + nI w.length = nI (40 * k + 8 * ws.length + w.length) := by
        rw [pk40 (by omega), pkm8, nI_add, nI_add]
      have hnx : ∀ b, isLt b → w.length < 8 → dl c b = some (rGo (rSign v b) nx) := by
        intro b hbl h8'
        by_cases hw0 : w = []
        · obtain ⟨rfl, rfl⟩ := hcs hw0; exact hf1 b hbl
        · obtain ⟨rfl, hst⟩ := hcv hw0
          rcases hn with rfl | rfl
          · rw [rLet_6 hst hbl]; exact if_pos ⟨by omega, hbl⟩
          · rw [rLet_11 hst hbl]; exact if_pos ⟨by omega, hbl⟩
      have hwlen : 0 < w.length → w ≠ [] := fun q e => by rw [e] at q; exact absurd q (Nat.lt_irrefl 0)
      refine wp_aload_n dX9_letters_9 rfl ?_
      refine wp_cV0i dX9_letters_10 ml_X9_134 vX9_here ⟨8, (RX9, TX9, 39), rfl, rfl, rfl⟩ (cX9_hereN E M1 tp _ hP1) (Nat.le_of_ble_eq_true rfl) (Nat.le_of_ble_eq_true rfl) (Nat.le_of_ble_eq_true rfl) ?_
      refine wp_cS1i dX9_letters_13 ml_X9_138 sX9_isLetter (cX9_isLetter_ E _ _ _) (Nat.le_of_ble_eq_true rfl) (Nat.le_of_ble_eq_true rfl) (Nat.le_of_ble_eq_true rfl) ?_
      refine wp_if_eq (tgt := 61) dX9_letters_16 (by decide) (fun c16 => ?_) (fun c16 => ?_)
      · refine wp_iload_n dX9_letters_61 rfl ?_
        refine wp_if_eq (tgt := 75) dX9_letters_62 (by decide) (fun c62 => ?_) (fun c62 => ?_)
        · refine wp_aload_n dX9_letters_75 rfl ?_
          refine wp_cV0i dX9_letters_76 ml_X9_142 vX9_fails ⟨8, (RX9, TX9, 39), rfl, rfl, rfl⟩ (cX9_fails_ E _) (Nat.le_of_ble_eq_true rfl) (Nat.le_of_ble_eq_true rfl) (Nat.le_of_ble_eq_true rfl) ?_
          refine wp_ireturn dX9_letters_79 rfl rfl (Nat.zero_le _) (Nat.zero_le _) ?_
          have hw0 : w = [] := List.eq_nil_of_length_eq_zero (nI_e (b := 0) (by omega) (by decide) c62)
          obtain ⟨rfl, rfl⟩ := hcs hw0
          have hno := b2i_e0.mp c16
          rw [hw0] at hP1 hC1 hno
          exact pM_bad hF hN hP1 hC1 (fun q => hf2 q (fun h => hno ((hv_lt (hb _)).mpr ⟨q, h⟩))) (fun _ => hf3)
        · refine wp_aload_n dX9_letters_65 rfl ?_
          refine wp_cV0i dX9_letters_66 ml_X9_134 vX9_here ⟨8, (RX9, TX9, 39), rfl, rfl, rfl⟩ (cX9_hereN E M1 tp _ hP1) (Nat.le_of_ble_eq_true rfl) (Nat.le_of_ble_eq_true rfl) (Nat.le_of_ble_eq_true rfl) ?_
          refine wp_cS1i dX9_letters_69 ml_X9_138 sX9_isLetter (cX9_isLetter_ E _ _ _) (Nat.le_of_ble_eq_true rfl) (Nat.le_of_ble_eq_true rfl) (Nat.le_of_ble_eq_true rfl) ?_
          refine wp_if_eq (tgt := 80) dX9_letters_72 (by decide) (fun c72 => ?_) (fun c72 => ?_)
          · refine wp_aload_n dX9_letters_80 rfl ?_
            refine wp_getR dX9_letters_81 fl_X9_38 rfl rfl (hG1 11) ?_
            refine wp_iconst (v := 5) dX9_letters_84 rfl ?_
            refine wp_iload_n dX9_letters_85 rfl ?_
            refine wp_imul dX9_letters_86 ?_
            refine wp_iload_n dX9_letters_87 rfl ?_
            refine wp_iadd dX9_letters_88 ?_
            refine wp_iload_n dX9_letters_89 rfl ?_
            refine wp_iastore dX9_letters_90 rfl (by rw [pk5 (by omega), nI_add]; exact vp_in_nI (by omega) (by decide)) ?_
            refine wp_aload_n dX9_letters_91 rfl ?_
            refine wp_getR dX9_letters_92 fl_X9_35 rfl rfl (hG1 10) ?_
            refine wp_iload_n dX9_letters_95 rfl ?_
            refine wp_dup2 dX9_letters_96 rfl rfl ?_
            refine wp_iaload dX9_letters_97 rfl hkin ?_
            refine wp_iconst (v := 1) dX9_letters_98 rfl ?_
            refine wp_iadd dX9_letters_99 ?_
            refine wp_iastore dX9_letters_100 rfl hkin ?_
            refine wp_iconst (v := 1) dX9_letters_101 rfl ?_
            refine wp_ireturn dX9_letters_102 rfl rfl (Nat.zero_le _) (Nat.zero_le _) ?_
            have hw1 : w ≠ [] := fun e => c62 (by rw [e]; rfl)
            obtain ⟨rfl, hst⟩ := hcv hw1
            have hnl : a + w.length < tp.length → ¬ isLt (tp.getD (a + w.length) 0) := fun q h => (b2i_e0.mp c72) ((hv_lt (hb _)).mpr ⟨q, h⟩)
            have hwA : wApp ws w = ws ++ [w] := if_neg hw1
            rw [pk5 (by omega), nI_add, nI_clamp (by omega), hkcl]
            have e129 : aI (sA M1 130 (5 * k + ws.length) (nI w.length)) 129 k + 1 = nI (ws ++ [w]).length := by
              rw [aI_sA, if_neg (by omega), hp 129 (by decide) (by decide), hwl, nI_1]; simp
            rw [e129]
            have hF1 := (hF.sA (i := 5 * k + ws.length) (x := nI w.length) (p := 130) (by simp)).sA (i := k) (x := nI (ws ++ [w]).length) (p := 129) (by simp)
            refine ⟨rfl, hF1, (hN.sA (by unfold inK; omega)).sA (by unfold inK; omega), Or.inr ⟨rfl, h24, h3, a + w.length, c, hP.fr hF1 hP1.2.2.1 hle, hC1, hst, by rw [hqs]; exact List.length_pos_iff.mpr hw1, hqw, hSF, hnl, (fun p h1 h2 => by rw [aI_sA, if_neg (by omega), aI_sA, if_neg (by omega)]; exact hp p h1 (by omega)), w, hw1, h8, hlw, by rw [hcur, hwA], ?_⟩⟩
            refine ⟨by rw [aI_sA, if_pos ⟨rfl, rfl⟩], fun j hj1 => ?_⟩
            rw [getD_app]
            simp only [List.length_append, List.length_singleton] at hj1
            by_cases e : j = ws.length
            · rw [if_pos e]
              refine ⟨by rw [aI_sA, if_neg (by omega), aI_sA, if_pos ⟨rfl, by omega⟩], fun i hi => ?_⟩
              rw [aI_sA, if_neg (by omega), aI_sA, if_neg (by omega), e]; exact hsg i hi
            · rw [if_neg e]
              refine ⟨by rw [aI_sA, if_neg (by omega), aI_sA, if_neg (by omega)]; exact (hmw.2 j (by omega)).1, fun i hi => ?_⟩
              rw [aI_sA, if_neg (by omega), aI_sA, if_neg (by omega)]; exact (hmw.2 j (by omega)).2 i hi
          · refine wp_aload_n dX9_letters_75 rfl ?_
            refine wp_cV0i dX9_letters_76 ml_X9_142 vX9_fails ⟨8, (RX9, TX9, 39), rfl, rfl, rfl⟩ (cX9_fails_ E _) (Nat.le_of_ble_eq_true rfl) (Nat.le_of_ble_eq_true rfl) (Nat.le_of_ble_eq_true rfl) ?_
            refine wp_ireturn dX9_letters_79 rfl rfl (Nat.zero_le _) (Nat.zero_le _) ?_
            exact absurd (b2i_ne.mp c72) (b2i_e0.mp c16)
      · refine wp_iload_n dX9_letters_19 rfl ?_
        refine wp_bipush (v := 8) dX9_letters_20 (by decide) ?_
        refine wp_icmp_ge (tgt := 61) dX9_letters_22 (by decide) (fun c22 => ?_) (fun c22 => ?_)
        · refine wp_iload_n dX9_letters_61 rfl ?_
          refine wp_if_eq (tgt := 75) dX9_letters_62 (by decide) (fun c62 => ?_) (fun c62 => ?_)
          · refine wp_aload_n dX9_letters_75 rfl ?_
            refine wp_cV0i dX9_letters_76 ml_X9_142 vX9_fails ⟨8, (RX9, TX9, 39), rfl, rfl, rfl⟩ (cX9_fails_ E _) (Nat.le_of_ble_eq_true rfl) (Nat.le_of_ble_eq_true rfl) (Nat.le_of_ble_eq_true rfl) ?_
            refine wp_ireturn dX9_letters_79 rfl rfl (Nat.zero_le _) (Nat.zero_le _) ?_
            have hw0 : w = [] := List.eq_nil_of_length_eq_zero (nI_e (b := 0) (by omega) (by decide) c62)
            rw [hw0] at c22
            exact absurd c22 (by decide)
          · refine wp_aload_n dX9_letters_65 rfl ?_
            refine wp_cV0i dX9_letters_66 ml_X9_134 vX9_here ⟨8, (RX9, TX9, 39), rfl, rfl, rfl⟩ (cX9_hereN E M1 tp _ hP1) (Nat.le_of_ble_eq_true rfl) (Nat.le_of_ble_eq_true rfl) (Nat.le_of_ble_eq_true rfl) ?_
            refine wp_cS1i dX9_letters_69 ml_X9_138 sX9_isLetter (cX9_isLetter_ E _ _ _) (Nat.le_of_ble_eq_true rfl) (Nat.le_of_ble_eq_true rfl) (Nat.le_of_ble_eq_true rfl) ?_
            refine wp_if_eq (tgt := 80) dX9_letters_72 (by decide) (fun c72 => ?_) (fun c72 => ?_)
            · refine wp_aload_n dX9_letters_80 rfl ?_
              refine wp_getR dX9_letters_81 fl_X9_38 rfl rfl (hG1 11) ?_
              refine wp_iconst (v := 5) dX9_letters_84 rfl ?_
              refine wp_iload_n dX9_letters_85 rfl ?_
              refine wp_imul dX9_letters_86 ?_
              refine wp_iload_n dX9_letters_87 rfl ?_
              refine wp_iadd dX9_letters_88 ?_
              refine wp_iload_n dX9_letters_89 rfl ?_
              refine wp_iastore dX9_letters_90 rfl (by rw [pk5 (by omega), nI_add]; exact vp_in_nI (by omega) (by decide)) ?_
              refine wp_aload_n dX9_letters_91 rfl ?_
              refine wp_getR dX9_letters_92 fl_X9_35 rfl rfl (hG1 10) ?_
              refine wp_iload_n dX9_letters_95 rfl ?_
              refine wp_dup2 dX9_letters_96 rfl rfl ?_
              refine wp_iaload dX9_letters_97 rfl hkin ?_
              refine wp_iconst (v := 1) dX9_letters_98 rfl ?_
              refine wp_iadd dX9_letters_99 ?_
              refine wp_iastore dX9_letters_100 rfl hkin ?_
              refine wp_iconst (v := 1) dX9_letters_101 rfl ?_
              refine wp_ireturn dX9_letters_102 rfl rfl (Nat.zero_le _) (Nat.zero_le _) ?_
              have hw1 : w ≠ [] := fun e => c62 (by rw [e]; rfl)
              obtain ⟨rfl, hst⟩ := hcv hw1
              have hnl : a + w.length < tp.length → ¬ isLt (tp.getD (a + w.length) 0) := fun q h => (b2i_e0.mp c72) ((hv_lt (hb _)).mpr ⟨q, h⟩)
              have hwA : wApp ws w = ws ++ [w] := if_neg hw1
              rw [pk5 (by omega), nI_add, nI_clamp (by omega), hkcl]
              have e129 : aI (sA M1 130 (5 * k + ws.length) (nI w.length)) 129 k + 1 = nI (ws ++ [w]).length := by
                rw [aI_sA, if_neg (by omega), hp 129 (by decide) (by decide), hwl, nI_1]; simp
              rw [e129]
              have hF1 := (hF.sA (i := 5 * k + ws.length) (x := nI w.length) (p := 130) (by simp)).sA (i := k) (x := nI (ws ++ [w]).length) (p := 129) (by simp)
              refine ⟨rfl, hF1, (hN.sA (by unfold inK; omega)).sA (by unfold inK; omega), Or.inr ⟨rfl, h24, h3, a + w.length, c, hP.fr hF1 hP1.2.2.1 hle, hC1, hst, by rw [hqs]; exact List.length_pos_iff.mpr hw1, hqw, hSF, hnl, (fun p h1 h2 => by rw [aI_sA, if_neg (by omega), aI_sA, if_neg (by omega)]; exact hp p h1 (by omega)), w, hw1, h8, hlw, by rw [hcur, hwA], ?_⟩⟩
              refine ⟨by rw [aI_sA, if_pos ⟨rfl, rfl⟩], fun j hj1 => ?_⟩
              rw [getD_app]
              simp only [List.length_append, List.length_singleton] at hj1
              by_cases e : j = ws.length
              · rw [if_pos e]
                refine ⟨by rw [aI_sA, if_neg (by omega), aI_sA, if_pos ⟨rfl, by omega⟩], fun i hi => ?_⟩
                rw [aI_sA, if_neg (by omega), aI_sA, if_neg (by omega), e]; exact hsg i hi
              · rw [if_neg e]
                refine ⟨by rw [aI_sA, if_neg (by omega), aI_sA, if_neg (by omega)]; exact (hmw.2 j (by omega)).1, fun i hi => ?_⟩
                rw [aI_sA, if_neg (by omega), aI_sA, if_neg (by omega)]; exact (hmw.2 j (by omega)).2 i hi
            · refine wp_aload_n dX9_letters_75 rfl ?_
              refine wp_cV0i dX9_letters_76 ml_X9_142 vX9_fails ⟨8, (RX9, TX9, 39), rfl, rfl, rfl⟩ (cX9_fails_ E _) (Nat.le_of_ble_eq_true rfl) (Nat.le_of_ble_eq_true rfl) (Nat.le_of_ble_eq_true rfl) ?_
              refine wp_ireturn dX9_letters_79 rfl rfl (Nat.zero_le _) (Nat.zero_le _) ?_
              have hlt := (hv_lt (hb _)).mp (b2i_ne.mp c72)
              have h88 : w.length = 8 := by have := (nI_leI (a := 8) (by decide) (by omega)).mp c22; omega
              obtain ⟨rfl, hst⟩ := hcv (hwlen (by omega))
              refine pM_bad hF hN hP1 hC1 (fun _ => ?_) (fun q => absurd hlt.1 q)
              rcases hn with rfl | rfl
              · rw [rLet_6 hst hlt.2]; exact if_neg (by omega)
              · rw [rLet_11 hst hlt.2]; exact if_neg (by omega)
        · have h8i : w.length < 8 := Decidable.byContradiction fun q => c22 (nI_le (a := 8) (by omega) (by omega))
          refine wp_aload_n dX9_letters_25 rfl ?_
          refine wp_getR dX9_letters_26 fl_X9_41 rfl rfl (hG1 12) ?_
          refine wp_bipush (v := 40) dX9_letters_29 (by decide) ?_
          refine wp_iload_n dX9_letters_31 rfl ?_
          refine wp_imul dX9_letters_32 ?_
          refine wp_bipush (v := 8) dX9_letters_33 (by decide) ?_
          refine wp_iload_n dX9_letters_35 rfl ?_
          refine wp_imul dX9_letters_36 ?_
          refine wp_iadd dX9_letters_37 ?_
          refine wp_iload_n dX9_letters_38 rfl ?_
          refine wp_iadd dX9_letters_39 ?_
          refine wp_aload_n dX9_letters_40 rfl ?_
          refine wp_cV0i dX9_letters_41 ml_X9_134 vX9_here ⟨8, (RX9, TX9, 39), rfl, rfl, rfl⟩ (cX9_hereN E M1 tp _ hP1) (Nat.le_of_ble_eq_true rfl) (Nat.le_of_ble_eq_true rfl) (Nat.le_of_ble_eq_true rfl) ?_
          refine wp_iastore dX9_letters_44 rfl (by rw [hix]; exact vp_in_nI (by omega) (by decide)) ?_
          refine wp_iinc dX9_letters_45 rfl (i_inc _) (Nat.le_of_ble_eq_true rfl) ?_
          refine wp_aload_n dX9_letters_48 rfl ?_
          refine wp_dup dX9_letters_49 rfl ?_
          refine wp_getI dX9_letters_50 fl_X9_124 rfl rfl ?_
          refine wp_iconst (v := 1) dX9_letters_53 rfl ?_
          refine wp_iadd dX9_letters_54 ?_
          refine wp_putI dX9_letters_55 fl_X9_124 rfl rfl (fun _ _ _ h => by cases h; rfl) rfl rfl ?_
          refine wp_goto (tgt := 9) dX9_letters_58 (by decide) ?_
          have hlt := (hv_lt (hb _)).mp (b2i_ne.mp c16)
          have h8' : w.length < 8 := Decidable.byContradiction fun q => c22 (nI_le (a := 8) (by omega) (by omega))
          have hvx : hv tp (a + w.length) = nI (tp.getD (a + w.length) 0) := if_pos hlt.1
          rw [hix, nI_clamp (by omega), hvx]
          have e23 : fI (sA M1 131 (40 * k + 8 * ws.length + w.length) (nI (tp.getD (a + w.length) 0))) 121 23 + 1 = nI (a + w.length + 1) := at_inc hP1
          rw [e23]
          have hF1 := (hF.sA (i := 40 * k + 8 * ws.length + w.length) (x := nI (tp.getD (a + w.length) 0)) (p := 131) (by simp)).sI (p := 121) (f := 23) (x := nI (a + w.length + 1)) (by simp)
          have hC2 := Cn_step hC1 hlt.1 (hnx _ hlt.2 h8')
          have hlen1 : (w ++ [tp.getD (a + w.length) 0]).length = w.length + 1 := by simp
          have hwo1 : wOk (rSign v (tp.getD (a + w.length) 0)) := wOk_sign hwo (by omega)
          have hcur1 : rCur (rSign v (tp.getD (a + w.length) 0)) = nsWo (rCur s) (wApp ws (w ++ [tp.getD (a + w.length) 0])) := by
            rw [rCur_sign, hcur, hqw]
            show nsWo (rCur s) (addB (wApp ws w) ws.length _) = _
            rw [addB_w]
          rw [← hlen1]
          refine wp_lv (ih (w ++ [tp.getD (a + w.length) 0]) (rGo (rSign v (tp.getD (a + w.length) 0)) nx) (rGo (rSign v (tp.getD (a + w.length) 0)) nx) _ (by rw [hlen1]; omega) (by rw [hlen1]; exact hP.fr hF1 rfl hlt.1) (by rw [hlen1]; exact hC2) hF1 ((hN.sA (by unfold inK; omega)).sI) h24 h3 (fun p h1 h2 => ?_) ?_ (fun i hi => ?_) (fun b hbm => ?_) (by rw [hlen1]; omega) hcur1 ?_ hqw hwo1 (hSF.tr ((SF_sign _ _).tr (SF_go _ _))) (fun _ => ⟨rfl, rfl⟩) (fun e => absurd e (by simp))) (by repeat (first | exact trivial | refine ⟨rfl, ?_⟩))
          · rw [aI_sI, aI_sA, if_neg (by omega)]; exact hp p h1 h2
          · refine ⟨by rw [aI_sI, aI_sA, if_neg (by omega)]; exact hmw.1, fun j hj1 => ⟨by rw [aI_sI, aI_sA, if_neg (by omega)]; exact (hmw.2 j hj1).1, fun i hi => ?_⟩⟩
            have := hw8 j hj1
            rw [aI_sI, aI_sA, if_neg (by omega)]; exact (hmw.2 j hj1).2 i hi
          · rw [hlen1] at hi
            rw [getD_app, aI_sI, aI_sA]
            by_cases e : i = w.length
            · rw [if_pos ⟨rfl, by omega⟩, if_pos e]
            · rw [if_neg (by omega), if_neg e]; exact hsg i (by omega)
          · rcases List.mem_append.mp hbm with q | q
            · exact hlw b q
            · simp only [List.mem_singleton] at q; subst q; exact hlt.2
          · show qSg v + 1 = _
            rw [hqs, hlen1]
  refine wp_aload_n dX9_letters_0 rfl ?_
  refine wp_getR dX9_letters_1 fl_X9_35 rfl rfl (hG 10) ?_
  refine wp_iload_n dX9_letters_4 rfl ?_
  refine wp_iaload dX9_letters_5 rfl hkin ?_
  refine wp_istore_n dX9_letters_6 (Nat.le_of_ble_eq_true rfl) ?_
  rw [hj]
  refine wp_iconst (v := 0) dX9_letters_7 rfl ?_
  refine wp_istore_n dX9_letters_8 (Nat.le_of_ble_eq_true rfl) ?_
  exact wp_lv (loop 9 [] s u M rfl hP hC Fr.rf NF.rf rfl rfl (fun _ _ _ => rfl) hM (fun i hi => absurd hi (Nat.not_lt_zero i)) (fun b hb => nomatch hb) (by decide) hu1 hu2 hu3 hu4 hu5 (fun e => absurd rfl e) (fun _ => ⟨rfl, rfl⟩)) (by repeat (first | exact trivial | refine ⟨rfl, ?_⟩))
