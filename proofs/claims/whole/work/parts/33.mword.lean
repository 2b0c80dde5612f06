/-! ===== the model reads: words ===== -/
abbrev rCan0 (u : RS) (b : Nat) : Prop := (b = 40 ∧ qDep u < 5 ∧ qCn u + 1 ≤ 25) ∨ (b ≠ 40 ∧ (isSg b ∨ b = 34 ∨ b = 91 ∨ b = 123))
/-- u: the clause as it is when its core begins -/
def PC (s u : RS) : Prop := (∀ b, rCan0 u b → dl s b = some (rCore u b)) ∧ nCo (rCur u) = 0 ∧ nKi (rCur u) = 0 ∧ nWo (rCur u) = [] ∧ nDe (rCur u) = 0
def mPt (M : Mem) (k : Nat) (x : ND) : Prop := aI M 124 k = nMa x ∧ aI M 125 k = nBo x ∧ aI M 126 k = nFi x ∧ aI M 128 k = nAr x
/-- what ends() asks of the state that it begins in -/
abbrev eOk (tp : List Nat) (a : Nat) (s : RS) : Prop := (qSt s = 3 ∨ qSt s = 8 ∨ qSt s = 13 ∨ qSt s = 15) ∧ dl s 94 = some (rGo s 16) ∧ (a < tp.length → tp.getD a 0 ≠ 94 → tp.getD a 0 ≠ 32 → tp.getD a 0 ≠ 41 → dl s (tp.getD a 0) = none)
abbrev gCore (tp : List Nat) (k : Nat) (u : RS) : Mem → Nat → RS → Prop := fun M1 a1 s1 => eOk tp a1 s1 ∧ SF u s1 ∧ mNode 123 M1 k (rCur s1)
theorem rTail_no {s : RS} {b : Nat} (h0 : b ≠ 94) (h1 : b ≠ 32) (h2 : b ≠ 41) : rTail s b = none := by unfold rTail; rw [if_neg h0]; exact rEnd_no h1 h2
theorem eOk_15 {tp : List Nat} {a : Nat} {s : RS} (h : qSt s = 15) : eOk tp a s := by
  refine ⟨Or.inr (Or.inr (Or.inr h)), ?_, fun _ h0 h1 h2 => ?_⟩
  · unfold dl; rw [h]; rfl
  · unfold dl; rw [h]; exact rTail_no h0 h1 h2
theorem rCore_sg {u : RS} {b : Nat} (h : isSg b) : rCore u b = rSign (rWord u 0 3) b := by
  unfold rCore; rw [if_neg (by omega), if_neg (by omega), if_neg (by omega)]
theorem dl3 {s : RS} (h : qSt s = 3) (b : Nat) : dl s b = rIn s b := by unfold dl; rw [h]; rfl
abbrev allLt (w : List Nat) : Prop := ∀ b ∈ w, isLt b
set_option maxRecDepth 100000 in
set_option maxHeartbeats 4000000 in
theorem cX9_word_k (E : GE) (k : Nat) (tp : List Nat) (a : Nat) (s : RS) (M : Mem) (hP : Ps M tp a) (hC : Cn tp a s) (hk : k < 25) (u : RS) (hPC : PC s u) (hpt : mPt M k (rCur u)) (hfst : a < tp.length ∧ isSg (tp.getD a 0)) (hcol : a + 1 < tp.length → tp.getD (a + 1) 0 = 58 → ¬ (nFi (rCur u) = -1 ∧ 97 ≤ tp.getD a 0 ∧ tp.getD a 0 < 101)) : Sp E mX9_word 2 0 0 [.ref 121, .int (nI k)] SH M (pM M tp k (gCore tp k u)) := by
  refine sp_of vX9_word.1 rfl (Nat.le_of_ble_eq_true rfl) ?_
  have hb := tp_lt hP.2.1
  have h240 := hP.2.1.2.1
  have hG := hP.1
  have hkin : vp_in (nI k) 25 := vp_in_nI hk (by decide)
  have hkcl : (nI k).toNatClampNeg = k := nI_clamp (by omega)
  obtain ⟨hpc, hf0, hfk, hfw, hfd⟩ := hPC
  have J103 : ∀ (w : List Nat) (c v : RS) (al : Int32) (M1 : Mem), Ps M1 tp (a + w.length) → Cn tp (a + w.length) c → mPF M M1 → NF k M M1 → fI M1 121 24 = fI M 121 24 → fI M1 121 3 = fI M 121 3 → mPt M1 k (rCur u) → aI M1 123 k = 0 → aI M1 127 k = 0 → (∀ i, i < w.length → aI M1 131 (40 * k + i) = nI (w.getD i 0)) → w.length ≤ 8 → rCur v = nsWo (rCur u) (wApp [] w) → qSg v = w.length → wOk v → SF u v → al = b2i (qPl v = true) → (w ≠ [] → c = v ∧ qSt v = 3) → (w = [] → c = s ∧ v = rWord u 0 3) → (w ≠ [] → w.getD 0 0 = tp.getD a 0) → w ≠ [] → (a + w.length < tp.length → isSg (tp.getD (a + w.length) 0) → w.length = 8) → Wp (xM E mX9_word 2 0 0 SH.length (pM M tp k (gCore tp k u))) 0 0 103 [(3, .int (nI w.length)), (2, .int al), (0, .ref 121), (1, .int (nI k))] [] SH M1 := by
    intro w c v al M1 hP1 hC1 hF hN h24 h3 hpt h123 h127 hsg h8 hcur hqs hwo hSF hal hcv hcs hw0 hwn hex
    obtain ⟨rfl, hst⟩ := hcv hwn
    have hG1 := hP1.1
    have hle := hP1.2.2.2
    have hwp : 0 < w.length := List.length_pos_iff.mpr hwn
    have hwA : wApp [] w = [w] := if_neg hwn
    rw [hwA] at hcur
    have hix : ((5 : Int32) * nI k).toNatClampNeg = 5 * k := by rw [pk5 (by omega)]; exact nI_clamp (by omega)
    refine wp_aload_n dX9_word_103 rfl ?_
    refine wp_getR dX9_word_104 fl_X9_38 rfl rfl (hG1 11) ?_
    refine wp_iconst (v := 5) dX9_word_107 rfl ?_
    refine wp_iload_n dX9_word_108 rfl ?_
    refine wp_imul dX9_word_109 ?_
    refine wp_iload_n dX9_word_110 rfl ?_
    refine wp_iastore dX9_word_111 rfl (by rw [pk5 (by omega)]; exact vp_in_nI (by omega) (by decide)) ?_
    refine wp_aload_n dX9_word_112 rfl ?_
    refine wp_getR dX9_word_113 fl_X9_35 rfl rfl (hG1 10) ?_
    refine wp_iload_n dX9_word_116 rfl ?_
    refine wp_iconst (v := 1) dX9_word_117 rfl ?_
    refine wp_iastore dX9_word_118 rfl hkin ?_
    rw [hix, hkcl]
    obtain ⟨M2, hM2⟩ : ∃ M2, M2 = sA (sA M1 130 (5 * k) (nI w.length)) 129 k 1 := ⟨_, rfl⟩
    rw [← hM2]
    have hF2 : mPF M M2 := by rw [hM2]; exact (hF.sA (by simp)).sA (by simp)
    have hN2 : NF k M M2 := by rw [hM2]; exact (hN.sA (by unfold inK; omega)).sA (by unfold inK; omega)
    have hP2 : Ps M2 tp (a + w.length) := hP.fr hF2 (by rw [hM2]; exact hP1.2.2.1) hle
    have h24' : fI M2 121 24 = fI M 121 24 := by rw [hM2]; exact h24
    have h3' : fI M2 121 3 = fI M 121 3 := by rw [hM2]; exact h3
    have hmn : mNode 123 M2 k (rCur c) := by
      rw [hcur, hM2]
      refine ⟨?_, ?_, ?_, ?_, ?_, ?_, ?_, fun j hj => ?_⟩
      · rw [aI_sA, if_neg (by omega), aI_sA, if_neg (by omega), h123]; exact hf0.symm
      · rw [aI_sA, if_neg (by omega), aI_sA, if_neg (by omega)]; exact hpt.1
      · rw [aI_sA, if_neg (by omega), aI_sA, if_neg (by omega)]; exact hpt.2.1
      · rw [aI_sA, if_neg (by omega), aI_sA, if_neg (by omega)]; exact hpt.2.2.1
      · rw [aI_sA, if_neg (by omega), aI_sA, if_neg (by omega), h127]; exact hfd.symm
      · rw [aI_sA, if_neg (by omega), aI_sA, if_neg (by omega)]; exact hpt.2.2.2
      · rw [aI_sA, if_pos ⟨rfl, rfl⟩]
        have : nCo (nsWo (rCur u) [w]) = 0 := hf0
        rw [this, if_neg (by decide)]; rfl
      · have hj : j < 1 := hj
        have hj : j = 0 := by omega
        subst hj
        refine ⟨by rw [aI_sA, if_neg (by omega), aI_sA, if_pos ⟨rfl, rfl⟩]; rfl, fun i hi => ?_⟩
        rw [aI_sA, if_neg (by omega), aI_sA, if_neg (by omega)]
        exact hsg i hi
    have hbad : ∀ (h1 : a + w.length < tp.length → dl c (tp.getD (a + w.length) 0) = none) (h2 : a + w.length < tp.length), pM M tp k (gCore tp k u) (some (.int 0)) SH (sI M2 121 24 1) := fun h1 h2 => pM_bad hF2 hN2 hP2 hC1 h1 (fun q => absurd h2 q)
    have hsgn : a + w.length < tp.length → isSg (tp.getD (a + w.length) 0) → dl c (tp.getD (a + w.length) 0) = none := fun q1 q2 => by
      rw [dl3 hst]; unfold rIn; rw [if_pos q2, if_neg (by have := hex q1 q2; omega)]
    have hd1 : (∃ y : Int32, ¬ y = 0 ∧ al = y) ∨ ¬ hv tp (a + w.length) = 126 → a + w.length < tp.length → tp.getD (a + w.length) 0 = 126 → dl c 126 = some (rGo c 4) := fun hor q1 q2 => by
      have hpl : qPl c = true := by
        rcases hor with ⟨y, hy, e⟩ | hne
        · rw [hal] at e; rw [← e] at hy; exact b2i_ne.mp hy
        · exact absurd ((hv_is (c := 126) (hb _) (by decide)).mpr ⟨q1, q2⟩) hne
      rw [dl3 hst]; unfold rIn; rw [if_neg (by decide), if_neg (by decide), if_pos rfl, if_pos hpl]
    have hfin : (a + w.length < tp.length → ¬ isSg (tp.getD (a + w.length) 0)) → ¬ (a + w.length < tp.length ∧ tp.getD (a + w.length) 0 = 126) → eOk tp (a + w.length) c := fun hns hn126 => by
      refine ⟨Or.inl hst, by rw [dl3 hst]; rfl, fun q h0 h1 h2 => ?_⟩
      rw [dl3 hst]
      unfold rIn
      rw [if_neg (hns q)]
      by_cases e58 : tp.getD (a + w.length) 0 = 58
      · rw [if_pos e58, if_neg (fun hfl => ?_)]
        have hl1 : w.length = 1 := by rw [← hqs]; exact hfl.1
        have hfs : rFst c = tp.getD a 0 := by
          unfold rFst
          rw [hcur]
          show (([w] : List (List Nat)).getD 0 []).getD 0 0 = _
          exact hw0 hwn
        have hfi : nFi (rCur u) = -1 := by have := hfl.2.1; rw [hcur] at this; exact this
        rw [hl1] at q e58
        exact hcol q e58 ⟨hfi, by rw [← hfs]; exact hfl.2.2.1, by rw [← hfs]; exact hfl.2.2.2⟩
      · rw [if_neg e58, if_neg (fun e => hn126 ⟨q, e⟩)]
        exact rTail_no h0 h1 h2
    have J165 : ((∃ y : Int32, ¬ y = 0 ∧ al = y) ∨ ¬ hv tp (a + w.length) = 126) → (a + w.length < tp.length → ¬ isSg (tp.getD (a + w.length) 0)) → Wp (xM E mX9_word 2 0 0 SH.length (pM M tp k (gCore tp k u))) 0 0 165 [(3, .int (nI w.length)), (2, .int al), (0, .ref 121), (1, .int (nI k))] [] SH M2 := by
      intro hor hns
      refine wp_aload_n dX9_word_165 rfl ?_
      refine wp_iload_n dX9_word_166 rfl ?_
      refine wp_bipush (v := 126) dX9_word_167 (by decide) ?_
      refine wp_iconst (v := 0) dX9_word_169 rfl ?_
      refine wp_iconst (v := 2) dX9_word_170 rfl ?_
      refine wp_cV4p dX9_word_171 ml_X9_150 vX9_figure ⟨8, (RX9, TX9, 39), rfl, rfl, rfl⟩ (cX9_figure_ E k tp (a + w.length) c _ hP2 hC1 hk 126 0 2 4 (by decide) (by decide) (by decide) (hd1 hor) (fun b => rfl) (nwh (show ¬ (4 = 0 ∨ dnSt 4) by decide))) (Nat.le_of_ble_eq_true rfl) (Nat.le_of_ble_eq_true rfl) (Nat.le_of_ble_eq_true rfl) (Nat.le_refl _) (Nat.le_refl _) (fun v sh1 M1 hq => ?_)
      obtain ⟨rfl, hF3, hN3, hq⟩ := hq
      rcases hq with ⟨rfl, hbd⟩ | ⟨rfl, g24, g3, a1, s1, hP3, hC3, hq⟩
      · refine wp_ireturn dX9_word_174 rfl rfl (Nat.zero_le _) (Nat.zero_le _) ?_
        exact ⟨rfl, hF2.tr hF3, hN2.tr hN3, Or.inl ⟨rfl, hbd⟩⟩
      · refine wp_ireturn dX9_word_174 rfl rfl (Nat.zero_le _) (Nat.zero_le _) ?_
        refine ⟨rfl, hF2.tr hF3, hN2.tr hN3, Or.inr ⟨rfl, g24.trans h24', g3.trans h3', a1, s1, hP3, hC3, ?_⟩⟩
        rcases hq with ⟨rfl, rfl, rfl, hn126⟩ | ⟨h15, hsf, hm, -⟩
        · exact ⟨hfin hns hn126, hSF, hmn⟩
        · exact ⟨eOk_15 h15, hSF.tr hsf, hm hmn⟩
    refine wp_aload_n dX9_word_119 rfl ?_
    refine wp_cV0i dX9_word_120 ml_X9_134 vX9_here ⟨8, (RX9, TX9, 39), rfl, rfl, rfl⟩ (cX9_hereN E M2 tp _ hP2) (Nat.le_of_ble_eq_true rfl) (Nat.le_of_ble_eq_true rfl) (Nat.le_of_ble_eq_true rfl) ?_
    refine wp_cS1i dX9_word_123 ml_X9_138 sX9_isLetter (cX9_isLetter_ E _ _ _) (Nat.le_of_ble_eq_true rfl) (Nat.le_of_ble_eq_true rfl) (Nat.le_of_ble_eq_true rfl) ?_
    refine wp_if_ne (tgt := 160) dX9_word_126 (by decide) (fun c126 => ?_) (fun c126 => ?_)
    · refine wp_aload_n dX9_word_160 rfl ?_
      refine wp_cV0i dX9_word_161 ml_X9_142 vX9_fails ⟨8, (RX9, TX9, 39), rfl, rfl, rfl⟩ (cX9_fails_ E M2) (Nat.le_of_ble_eq_true rfl) (Nat.le_of_ble_eq_true rfl) (Nat.le_of_ble_eq_true rfl) ?_
      refine wp_ireturn dX9_word_164 rfl rfl (Nat.zero_le _) (Nat.zero_le _) ?_
      have q := (hv_lt (hb _)).mp (b2i_ne.mp c126)
      exact hbad (fun q1 => hsgn q1 (Or.inl q.2)) q.1
    · refine wp_aload_n dX9_word_129 rfl ?_
      refine wp_cV0i dX9_word_130 ml_X9_134 vX9_here ⟨8, (RX9, TX9, 39), rfl, rfl, rfl⟩ (cX9_hereN E M2 tp _ hP2) (Nat.le_of_ble_eq_true rfl) (Nat.le_of_ble_eq_true rfl) (Nat.le_of_ble_eq_true rfl) ?_
      refine wp_bipush (v := 63) dX9_word_133 (by decide) ?_
      refine wp_icmp_eq (tgt := 160) dX9_word_135 (by decide) (fun c135 => ?_) (fun c135 => ?_)
      · refine wp_aload_n dX9_word_160 rfl ?_
        refine wp_cV0i dX9_word_161 ml_X9_142 vX9_fails ⟨8, (RX9, TX9, 39), rfl, rfl, rfl⟩ (cX9_fails_ E M2) (Nat.le_of_ble_eq_true rfl) (Nat.le_of_ble_eq_true rfl) (Nat.le_of_ble_eq_true rfl) ?_
        refine wp_ireturn dX9_word_164 rfl rfl (Nat.zero_le _) (Nat.zero_le _) ?_
        have q := (hv_is (c := 63) (hb _) (by decide)).mp c135
        exact hbad (fun q1 => hsgn q1 (Or.inr (Or.inl q.2))) q.1
      · refine wp_aload_n dX9_word_138 rfl ?_
        refine wp_cV0i dX9_word_139 ml_X9_134 vX9_here ⟨8, (RX9, TX9, 39), rfl, rfl, rfl⟩ (cX9_hereN E M2 tp _ hP2) (Nat.le_of_ble_eq_true rfl) (Nat.le_of_ble_eq_true rfl) (Nat.le_of_ble_eq_true rfl) ?_
        refine wp_bipush (v := 42) dX9_word_142 (by decide) ?_
        refine wp_icmp_eq (tgt := 160) dX9_word_144 (by decide) (fun c144 => ?_) (fun c144 => ?_)
        · refine wp_aload_n dX9_word_160 rfl ?_
          refine wp_cV0i dX9_word_161 ml_X9_142 vX9_fails ⟨8, (RX9, TX9, 39), rfl, rfl, rfl⟩ (cX9_fails_ E M2) (Nat.le_of_ble_eq_true rfl) (Nat.le_of_ble_eq_true rfl) (Nat.le_of_ble_eq_true rfl) ?_
          refine wp_ireturn dX9_word_164 rfl rfl (Nat.zero_le _) (Nat.zero_le _) ?_
          have q := (hv_is (c := 42) (hb _) (by decide)).mp c144
          exact hbad (fun q1 => hsgn q1 (Or.inr (Or.inr q.2))) q.1
        · refine wp_iload_n dX9_word_147 rfl ?_
          refine wp_if_ne (tgt := 165) dX9_word_148 (by decide) (fun c148 => ?_) (fun c148 => ?_)
          · have hns : a + w.length < tp.length → ¬ isSg (tp.getD (a + w.length) 0) := fun q h => by
              rcases h with h | h | h
              · exact c126 |> fun c => (b2i_e0.mp c) ((hv_lt (hb _)).mpr ⟨q, h⟩)
              · exact c135 ((hv_is (c := 63) (hb _) (by decide)).mpr ⟨q, h⟩)
              · exact c144 ((hv_is (c := 42) (hb _) (by decide)).mpr ⟨q, h⟩)
            exact J165 (Or.inl ⟨al, c148, rfl⟩) hns
          · refine wp_aload_n dX9_word_151 rfl ?_
            refine wp_cV0i dX9_word_152 ml_X9_134 vX9_here ⟨8, (RX9, TX9, 39), rfl, rfl, rfl⟩ (cX9_hereN E M2 tp _ hP2) (Nat.le_of_ble_eq_true rfl) (Nat.le_of_ble_eq_true rfl) (Nat.le_of_ble_eq_true rfl) ?_
            refine wp_bipush (v := 126) dX9_word_155 (by decide) ?_
            refine wp_icmp_ne (tgt := 165) dX9_word_157 (by decide) (fun c157 => ?_) (fun c157 => ?_)
            · have hns : a + w.length < tp.length → ¬ isSg (tp.getD (a + w.length) 0) := fun q h => by
                rcases h with h | h | h
                · exact c126 |> fun c => (b2i_e0.mp c) ((hv_lt (hb _)).mpr ⟨q, h⟩)
                · exact c135 ((hv_is (c := 63) (hb _) (by decide)).mpr ⟨q, h⟩)
                · exact c144 ((hv_is (c := 42) (hb _) (by decide)).mpr ⟨q, h⟩)
              exact J165 (Or.inr c157) hns
            · refine wp_aload_n dX9_word_160 rfl ?_
              refine wp_cV0i dX9_word_161 ml_X9_142 vX9_fails ⟨8, (RX9, TX9, 39), rfl, rfl, rfl⟩ (cX9_fails_ E M2) (Nat.le_of_ble_eq_true rfl) (Nat.le_of_ble_eq_true rfl) (Nat.le_of_ble_eq_true rfl) ?_
              refine wp_ireturn dX9_word_164 rfl rfl (Nat.zero_le _) (Nat.zero_le _) ?_
              have q := (hv_is (c := 126) (hb _) (by decide)).mp c157
              refine hbad (fun q1 => ?_) q.1
              rw [q.2, dl3 hst]; unfold rIn; rw [if_neg (by decide), if_neg (by decide), if_pos rfl, if_neg (by rw [hal] at c148; exact b2i_e0.mp c148)]
  have loop : ∀ (r : Nat) (w : List Nat) (c v : RS) (al : Int32) (M1 : Mem), w.length + r = 9 → Ps M1 tp (a + w.length) → Cn tp (a + w.length) c → mPF M M1 → NF k M M1 → fI M1 121 24 = fI M 121 24 → fI M1 121 3 = fI M 121 3 → mPt M1 k (rCur u) → aI M1 123 k = 0 → aI M1 127 k = 0 → (∀ i, i < w.length → aI M1 131 (40 * k + i) = nI (w.getD i 0)) → w.length ≤ 8 → rCur v = nsWo (rCur u) (wApp [] w) → qSg v = w.length → wOk v → SF u v → al = b2i (qPl v = true) → (w ≠ [] → c = v ∧ qSt v = 3) → (w = [] → c = s ∧ v = rWord u 0 3) → (w ≠ [] → w.getD 0 0 = tp.getD a 0) → Wp (xM E mX9_word 2 0 0 SH.length (pM M tp k (gCore tp k u))) 0 0 18 [(3, .int (nI w.length)), (2, .int al), (0, .ref 121), (1, .int (nI k))] [] SH M1 := by
    intro r
    induction r with
    | zero => intro w c v al M1 hr hP1 hC1 hF hN h24 h3 hpt h123 h127 hsg h8; omega
    | succ r ih =>
      intro w c v al M1 hr hP1 hC1 hF hN h24 h3 hpt h123 h127 hsg h8 hcur hqs hwo hSF hal hcv hcs hw0
      have hG1 := hP1.1
      have hle := hP1.2.2.2
      have hal01 : al = 0 ∨ al = 1 := by rw [hal]; unfold b2i; split; exact Or.inr rfl; exact Or.inl rfl
      have hix : (40 : Int32) * nI k + nI w.length = nI (40 * k + w.length) := by rw [pk40 (by omega), nI_add]
      have hnx : ∀ b, isSg b → w.length < 8 → dl c b = some (rSign v b) ∧ qSt (rSign v b) = 3 := by
        intro b hbs h8'
        by_cases hw1 : w = []
        · obtain ⟨rfl, rfl⟩ := hcs hw1
          exact ⟨(hpc b (Or.inr ⟨by omega, Or.inl hbs⟩)).trans (congrArg some (rCore_sg hbs)), rfl⟩
        · obtain ⟨rfl, hst⟩ := hcv hw1
          refine ⟨?_, hst⟩
          rw [dl3 hst]; unfold rIn; rw [if_pos hbs, if_pos (by omega)]
      have hvx : a + w.length < tp.length → hv tp (a + w.length) = nI (tp.getD (a + w.length) 0) := fun q => if_pos q
      have J71 : ∀ x : Int32, a + w.length < tp.length → isSg (tp.getD (a + w.length) 0) → w.length < 8 → x = b2i (qPl (rSign v (tp.getD (a + w.length) 0)) = true) → Wp (xM E mX9_word 2 0 0 SH.length (pM M tp k (gCore tp k u))) 0 0 71 [(3, .int (nI w.length)), (2, .int al), (0, .ref 121), (1, .int (nI k))] [.int x] SH M1 := by
        intro x hlt hsgb h8' hx
        obtain ⟨hd, hst3⟩ := hnx _ hsgb h8'
        refine wp_istore_n dX9_word_71 (Nat.le_of_ble_eq_true rfl) ?_
        refine wp_aload_n dX9_word_72 rfl ?_
        refine wp_getR dX9_word_73 fl_X9_41 rfl rfl (hG1 12) ?_
        refine wp_bipush (v := 40) dX9_word_76 (by decide) ?_
        refine wp_iload_n dX9_word_78 rfl ?_
        refine wp_imul dX9_word_79 ?_
        refine wp_iload_n dX9_word_80 rfl ?_
        refine wp_iadd dX9_word_81 ?_
        refine wp_aload_n dX9_word_82 rfl ?_
        refine wp_cV0i dX9_word_83 ml_X9_134 vX9_here ⟨8, (RX9, TX9, 39), rfl, rfl, rfl⟩ (cX9_hereN E M1 tp _ hP1) (Nat.le_of_ble_eq_true rfl) (Nat.le_of_ble_eq_true rfl) (Nat.le_of_ble_eq_true rfl) ?_
        refine wp_iastore dX9_word_86 rfl (by rw [hix]; exact vp_in_nI (by omega) (by decide)) ?_
        refine wp_iinc dX9_word_87 rfl (i_inc _) (Nat.le_of_ble_eq_true rfl) ?_
        refine wp_aload_n dX9_word_90 rfl ?_
        refine wp_dup dX9_word_91 rfl ?_
        refine wp_getI dX9_word_92 fl_X9_124 rfl rfl ?_
        refine wp_iconst (v := 1) dX9_word_95 rfl ?_
        refine wp_iadd dX9_word_96 ?_
        refine wp_putI dX9_word_97 fl_X9_124 rfl rfl (fun _ _ _ h => by cases h; rfl) rfl rfl ?_
        refine wp_goto (tgt := 18) dX9_word_100 (by decide) ?_
        rw [hix, nI_clamp (by omega), hvx hlt]
        have e23 : fI (sA M1 131 (40 * k + w.length) (nI (tp.getD (a + w.length) 0))) 121 23 + 1 = nI (a + w.length + 1) := at_inc hP1
        rw [e23]
        have hF1 := (hF.sA (i := 40 * k + w.length) (x := nI (tp.getD (a + w.length) 0)) (p := 131) (by simp)).sI (p := 121) (f := 23) (x := nI (a + w.length + 1)) (by simp)
        have hC2 := Cn_step hC1 hlt hd
        have hlen1 : (w ++ [tp.getD (a + w.length) 0]).length = w.length + 1 := by simp
        have hqw : qWn v = 0 := by
          by_cases hw1 : w = []
          · obtain ⟨-, rfl⟩ := hcs hw1; rfl
          · have h5 := hwo.2.2.2.2 (by rw [hqs]; exact List.length_pos_iff.mpr hw1)
            rw [hcur] at h5
            have : (wApp [] w).length = 1 := by unfold wApp; rw [if_neg hw1]; rfl
            have h5 : qWn v + 1 = (wApp [] w).length := h5
            omega
        have hcur1 : rCur (rSign v (tp.getD (a + w.length) 0)) = nsWo (rCur u) (wApp [] (w ++ [tp.getD (a + w.length) 0])) := by
          rw [rCur_sign, hcur, hqw]
          show nsWo (rCur u) (addB (wApp [] w) ([] : List (List Nat)).length _) = _
          rw [addB_w]
        rw [← hlen1]
        refine wp_lv (ih (w ++ [tp.getD (a + w.length) 0]) (rSign v (tp.getD (a + w.length) 0)) (rSign v (tp.getD (a + w.length) 0)) x _ (by rw [hlen1]; omega) (by rw [hlen1]; exact hP.fr hF1 rfl hlt) (by rw [hlen1]; exact hC2) hF1 ((hN.sA (by unfold inK; omega)).sI) h24 h3 ⟨?_, ?_, ?_, ?_⟩ ?_ ?_ (fun i hi => ?_) (by rw [hlen1]; omega) hcur1 (by rw [hlen1]; exact congrArg (· + 1) hqs) (wOk_sign hwo (by omega)) (hSF.tr (SF_sign _ _)) hx (fun _ => ⟨rfl, hst3⟩) (fun e => absurd e (by simp)) (fun _ => ?_)) (by repeat (first | exact trivial | refine ⟨rfl, ?_⟩))
        · rw [aI_sI, aI_sA, if_neg (by omega)]; exact hpt.1
        · rw [aI_sI, aI_sA, if_neg (by omega)]; exact hpt.2.1
        · rw [aI_sI, aI_sA, if_neg (by omega)]; exact hpt.2.2.1
        · rw [aI_sI, aI_sA, if_neg (by omega)]; exact hpt.2.2.2
        · rw [aI_sI, aI_sA, if_neg (by omega)]; exact h123
        · rw [aI_sI, aI_sA, if_neg (by omega)]; exact h127
        · rw [hlen1] at hi
          rw [getD_app, aI_sI, aI_sA]
          by_cases e : i = w.length
          · rw [if_pos ⟨rfl, by omega⟩, if_pos e]
          · rw [if_neg (by omega), if_neg e]; exact hsg i (by omega)
        · rw [getD_app]
          by_cases hw1 : w = []
          · subst hw1; rfl
          · rw [if_neg (fun e => hw1 (List.eq_nil_of_length_eq_zero e.symm))]; exact hw0 hw1
      have J52 : a + w.length < tp.length → isSg (tp.getD (a + w.length) 0) → w.length < 8 → Wp (xM E mX9_word 2 0 0 SH.length (pM M tp k (gCore tp k u))) 0 0 52 [(3, .int (nI w.length)), (2, .int al), (0, .ref 121), (1, .int (nI k))] [] SH M1 := by
        intro hlt hsgb h8'
        have hpe : qPl (rSign v (tp.getD (a + w.length) 0)) = (qPl v && decide (isLt (tp.getD (a + w.length) 0))) := rfl
        refine wp_iload_n dX9_word_52 rfl ?_
        refine wp_if_eq (tgt := 70) dX9_word_53 (by decide) (fun c53 => ?_) (fun c53 => ?_)
        · refine wp_iconst (v := 0) dX9_word_70 rfl ?_
          rw [hal] at c53
          refine J71 _ hlt hsgb h8' (b2i_f (fun h => ?_)).symm
          rw [hpe, Bool.and_eq_true] at h
          exact b2i_e0.mp c53 h.1
        · refine wp_aload_n dX9_word_56 rfl ?_
          refine wp_cV0i dX9_word_57 ml_X9_134 vX9_here ⟨8, (RX9, TX9, 39), rfl, rfl, rfl⟩ (cX9_hereN E M1 tp _ hP1) (Nat.le_of_ble_eq_true rfl) (Nat.le_of_ble_eq_true rfl) (Nat.le_of_ble_eq_true rfl) ?_
          refine wp_cS1i dX9_word_60 ml_X9_138 sX9_isLetter (cX9_isLetter_ E _ _ _) (Nat.le_of_ble_eq_true rfl) (Nat.le_of_ble_eq_true rfl) (Nat.le_of_ble_eq_true rfl) ?_
          refine wp_if_eq (tgt := 70) dX9_word_63 (by decide) (fun c63 => ?_) (fun c63 => ?_)
          · refine wp_iconst (v := 0) dX9_word_70 rfl ?_
            refine J71 _ hlt hsgb h8' (b2i_f (fun h => ?_)).symm
            rw [hpe, Bool.and_eq_true, decide_eq_true_iff] at h
            exact b2i_e0.mp c63 ((hv_lt (hb _)).mpr ⟨hlt, h.2⟩)
          · refine wp_iconst (v := 1) dX9_word_66 rfl ?_
            refine wp_goto (tgt := 71) dX9_word_67 (by decide) ?_
            rw [hal] at c53
            refine J71 _ hlt hsgb h8' (b2i_t ?_).symm
            rw [hpe, Bool.and_eq_true, decide_eq_true_iff]
            exact ⟨b2i_ne.mp c53, ((hv_lt (hb _)).mp (b2i_ne.mp c63)).2⟩
      have hwne : ¬ w = [] ∨ (a < tp.length ∧ isSg (tp.getD a 0)) := Or.inr hfst
      refine wp_iload_n dX9_word_18 rfl ?_
      refine wp_bipush (v := 8) dX9_word_19 (by decide) ?_
      refine wp_icmp_ge (tgt := 103) dX9_word_21 (by decide) (fun c21 => ?_) (fun c21 => ?_)
      · have h88 : w.length = 8 := by have := (nI_leI (a := 8) (by decide) (by omega)).mp c21; omega
        exact J103 w c v al M1 hP1 hC1 hF hN h24 h3 hpt h123 h127 hsg h8 hcur hqs hwo hSF hal hcv hcs hw0 (fun e => by rw [e] at h88; exact absurd h88 (by decide)) (fun _ _ => h88)
      · refine wp_aload_n dX9_word_24 rfl ?_
        refine wp_cV0i dX9_word_25 ml_X9_134 vX9_here ⟨8, (RX9, TX9, 39), rfl, rfl, rfl⟩ (cX9_hereN E M1 tp _ hP1) (Nat.le_of_ble_eq_true rfl) (Nat.le_of_ble_eq_true rfl) (Nat.le_of_ble_eq_true rfl) ?_
        refine wp_cS1i dX9_word_28 ml_X9_138 sX9_isLetter (cX9_isLetter_ E _ _ _) (Nat.le_of_ble_eq_true rfl) (Nat.le_of_ble_eq_true rfl) (Nat.le_of_ble_eq_true rfl) ?_
        refine wp_if_ne (tgt := 52) dX9_word_31 (by decide) (fun c31 => ?_) (fun c31 => ?_)
        · have q := (hv_lt (hb _)).mp (b2i_ne.mp c31)
          exact J52 q.1 (Or.inl q.2) (Decidable.byContradiction fun q => c21 (nI_le (a := 8) (by omega) (by omega)))
        · refine wp_aload_n dX9_word_34 rfl ?_
          refine wp_cV0i dX9_word_35 ml_X9_134 vX9_here ⟨8, (RX9, TX9, 39), rfl, rfl, rfl⟩ (cX9_hereN E M1 tp _ hP1) (Nat.le_of_ble_eq_true rfl) (Nat.le_of_ble_eq_true rfl) (Nat.le_of_ble_eq_true rfl) ?_
          refine wp_bipush (v := 63) dX9_word_38 (by decide) ?_
          refine wp_icmp_eq (tgt := 52) dX9_word_40 (by decide) (fun c40 => ?_) (fun c40 => ?_)
          · have q := (hv_is (c := 63) (hb _) (by decide)).mp c40
            exact J52 q.1 (Or.inr (Or.inl q.2)) (Decidable.byContradiction fun q => c21 (nI_le (a := 8) (by omega) (by omega)))
          · refine wp_aload_n dX9_word_43 rfl ?_
            refine wp_cV0i dX9_word_44 ml_X9_134 vX9_here ⟨8, (RX9, TX9, 39), rfl, rfl, rfl⟩ (cX9_hereN E M1 tp _ hP1) (Nat.le_of_ble_eq_true rfl) (Nat.le_of_ble_eq_true rfl) (Nat.le_of_ble_eq_true rfl) ?_
            refine wp_bipush (v := 42) dX9_word_47 (by decide) ?_
            refine wp_icmp_ne (tgt := 103) dX9_word_49 (by decide) (fun c49 => ?_) (fun c49 => ?_)
            · have hns : ¬ (a + w.length < tp.length ∧ isSg (tp.getD (a + w.length) 0)) := fun h => by
                rcases h.2 with q | q | q
                · exact (b2i_e0.mp c31) ((hv_lt (hb _)).mpr ⟨h.1, q⟩)
                · exact c40 ((hv_is (c := 63) (hb _) (by decide)).mpr ⟨h.1, q⟩)
                · exact c49 ((hv_is (c := 42) (hb _) (by decide)).mpr ⟨h.1, q⟩)
              exact J103 w c v al M1 hP1 hC1 hF hN h24 h3 hpt h123 h127 hsg h8 hcur hqs hwo hSF hal hcv hcs hw0 (fun e => hns (by rw [e]; exact hfst)) (fun h1 h2 => absurd ⟨h1, h2⟩ hns)
            · have q := (hv_is (c := 42) (hb _) (by decide)).mp c49
              exact J52 q.1 (Or.inr (Or.inr q.2)) (Decidable.byContradiction fun q => c21 (nI_le (a := 8) (by omega) (by omega)))
  refine wp_aload_n dX9_word_0 rfl ?_
  refine wp_getR dX9_word_1 fl_X9_17 rfl rfl (hG 4) ?_
  refine wp_iload_n dX9_word_4 rfl ?_
  refine wp_iconst (v := 0) dX9_word_5 rfl ?_
  refine wp_iastore dX9_word_6 rfl hkin ?_
  refine wp_aload_n dX9_word_7 rfl ?_
  refine wp_getR dX9_word_8 fl_X9_29 rfl rfl (hG 8) ?_
  refine wp_iload_n dX9_word_11 rfl ?_
  refine wp_iconst (v := 0) dX9_word_12 rfl ?_
  refine wp_iastore dX9_word_13 rfl hkin ?_
  refine wp_iconst (v := 1) dX9_word_14 rfl ?_
  refine wp_istore_n dX9_word_15 (Nat.le_of_ble_eq_true rfl) ?_
  refine wp_iconst (v := 0) dX9_word_16 rfl ?_
  refine wp_istore_n dX9_word_17 (Nat.le_of_ble_eq_true rfl) ?_
  rw [hkcl]
  have hF1 : mPF M (sA (sA M 123 k 0) 127 k 0) := (Fr.rf.sA (by simp)).sA (by simp)
  refine wp_lv (loop 9 [] s (rWord u 0 3) 1 _ rfl (hP.fr hF1 hP.2.2.1 hP.2.2.2) hC hF1 ((NF.rf.sA (by unfold inK; omega)).sA (by unfold inK; omega)) rfl rfl ⟨?_, ?_, ?_, ?_⟩ ?_ ?_ (fun i hi => absurd hi (Nat.not_lt_zero i)) (by decide) ?_ rfl (wOk_word 0 3 (by decide) (by rw [hfw]; rfl)) (SF_word _ _ _) rfl (fun e => absurd rfl e) (fun _ => ⟨rfl, rfl⟩) (fun e => absurd rfl e)) (by repeat (first | exact trivial | refine ⟨rfl, ?_⟩))
  · rw [aI_sA, if_neg (by omega), aI_sA, if_neg (by omega)]; exact hpt.1
  · rw [aI_sA, if_neg (by omega), aI_sA, if_neg (by omega)]; exact hpt.2.1
  · rw [aI_sA, if_neg (by omega), aI_sA, if_neg (by omega)]; exact hpt.2.2.1
  · rw [aI_sA, if_neg (by omega), aI_sA, if_neg (by omega)]; exact hpt.2.2.2
  · rw [aI_sA, if_neg (by omega), aI_sA, if_pos ⟨rfl, rfl⟩]
  · rw [aI_sA, if_pos ⟨rfl, rfl⟩]
  · show rCur u = nsWo (rCur u) []
    rw [← hfw]; rfl
