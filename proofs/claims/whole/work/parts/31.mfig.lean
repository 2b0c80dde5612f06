/-! ===== the model reads: figures, ends, letters ===== -/
theorem at_inc {M : Mem} {tp : List Nat} {a : Nat} (h : Ps M tp a) : fI M 121 23 + 1 = nI (a + 1) := by rw [h.2.2.1, nI_1]
def SF (s s1 : RS) : Prop := qDep s1 = qDep s ∧ qOp s1 = qOp s ∧ qCn s1 = qCn s ∧ qCu s1 = qCu s ∧ ∀ j, j ≠ qCu s → qNd s1 j = qNd s j
theorem SF.rf {s : RS} : SF s s := ⟨rfl, rfl, rfl, rfl, fun _ _ => rfl⟩
theorem SF.tr {s s1 s2 : RS} (h : SF s s1) (k : SF s1 s2) : SF s s2 := ⟨k.1.trans h.1, k.2.1.trans h.2.1, k.2.2.1.trans h.2.2.1, k.2.2.2.1.trans h.2.2.2.1, fun j hj => (k.2.2.2.2 j (by rw [h.2.2.2.1]; exact hj)).trans (h.2.2.2.2 j hj)⟩
theorem SF_go (s : RS) (n : Nat) : SF s (rGo s n) := ⟨rfl, rfl, rfl, rfl, fun _ _ => rfl⟩
theorem SF_nd (s : RS) (x : ND) : SF s (rNd s x) := ⟨rfl, rfl, rfl, rfl, fun j hj => va_up_ne _ _ hj⟩
theorem SF_word (s : RS) (n nx : Nat) : SF s (rWord s n nx) := ⟨rfl, rfl, rfl, rfl, fun _ _ => rfl⟩
theorem SF_sign (s : RS) (b : Nat) : SF s (rSign s b) := ⟨rfl, rfl, rfl, rfl, fun j hj => va_up_ne _ _ hj⟩
theorem mN_de {M : Mem} {k : Nat} {x : ND} {v : Int32} (h : mNode 123 M k x) : mNode 123 (sA M 127 k v) k (nsDe x v) := by
  obtain ⟨e0, e1, e2, e3, e4, e5, e6, e7⟩ := h
  refine ⟨?_, ?_, ?_, ?_, ?_, ?_, ?_, fun j hj => ⟨?_, fun i hi => ?_⟩⟩
  · rw [aI_sA, if_neg (by omega)]; exact e0
  · rw [aI_sA, if_neg (by omega)]; exact e1
  · rw [aI_sA, if_neg (by omega)]; exact e2
  · rw [aI_sA, if_neg (by omega)]; exact e3
  · rw [aI_sA, if_pos ⟨rfl, rfl⟩]; rfl
  · rw [aI_sA, if_neg (by omega)]; exact e5
  · rw [aI_sA, if_neg (by omega)]; exact e6
  · rw [aI_sA, if_neg (by omega)]; exact (e7 j hj).1
  · rw [aI_sA, if_neg (by omega)]; exact (e7 j hj).2 i hi
theorem mN_bo {M : Mem} {k : Nat} {x : ND} {v : Int32} (h : mNode 123 M k x) : mNode 123 (sA M 125 k v) k (nsBo x v) := by
  obtain ⟨e0, e1, e2, e3, e4, e5, e6, e7⟩ := h
  refine ⟨?_, ?_, ?_, ?_, ?_, ?_, ?_, fun j hj => ⟨?_, fun i hi => ?_⟩⟩
  · rw [aI_sA, if_neg (by omega)]; exact e0
  · rw [aI_sA, if_neg (by omega)]; exact e1
  · rw [aI_sA, if_pos ⟨rfl, rfl⟩]; rfl
  · rw [aI_sA, if_neg (by omega)]; exact e3
  · rw [aI_sA, if_neg (by omega)]; exact e4
  · rw [aI_sA, if_neg (by omega)]; exact e5
  · rw [aI_sA, if_neg (by omega)]; exact e6
  · rw [aI_sA, if_neg (by omega)]; exact (e7 j hj).1
  · rw [aI_sA, if_neg (by omega)]; exact (e7 j hj).2 i hi
/-- what the reading methods answer: wrong, or on to a state further on -/
def pM (M : Mem) (tp : List Nat) (k : Nat) (G : Mem → Nat → RS → Prop) : PT := fun v sh1 M1 => sh1 = SH ∧ mPF M M1 ∧ NF k M M1 ∧ ((v = some (.int 0) ∧ Bad M1 tp) ∨ (v = some (.int 1) ∧ fI M1 121 24 = fI M 121 24 ∧ fI M1 121 3 = fI M 121 3 ∧ ∃ a1 s1, Ps M1 tp a1 ∧ Cn tp a1 s1 ∧ G M1 a1 s1))
theorem pM_bad {M M1 : Mem} {tp : List Nat} {k a : Nat} {s : RS} {G : Mem → Nat → RS → Prop} (hF : mPF M M1) (hN : NF k M M1) (hP : Ps M1 tp a) (h : Cn tp a s) (h1 : a < tp.length → dl s (tp.getD a 0) = none) (h2 : ¬ a < tp.length → ¬ rWhole s) : pM M tp k G (some (.int 0)) SH (sI M1 121 24 1) :=
  ⟨rfl, hF.sI (by simp), hN, Or.inl ⟨rfl, Bad_of hP h h1 h2⟩⟩
set_option maxRecDepth 100000 in
set_option maxHeartbeats 4000000 in
theorem cX9_figure_ (E : GE) (k : Nat) (tp : List Nat) (a : Nat) (s : RS) (M : Mem) (hP : Ps M tp a) (hC : Cn tp a s) (hk : k < 25) (c lo hi n1 : Nat) (hc : c < 256) (hlo : lo ≤ 9) (hhi : hi ≤ 9) (hd1 : a < tp.length → tp.getD a 0 = c → dl s c = some (rGo s n1)) (hd2 : ∀ b, dl (rGo s n1) b = rDet (rGo s n1) b (48 + lo) (48 + hi)) (hd3 : ¬ rWhole (rGo s n1)) : Sp E mX9_figure 1 0 0 [.ref 121, .int (nI k), .int (nI c), .int (nI lo), .int (nI hi)] SH M (pM M tp k (fun M1 a1 s1 => (M1 = M ∧ a1 = a ∧ s1 = s ∧ ¬ (a < tp.length ∧ tp.getD a 0 = c)) ∨ (qSt s1 = 15 ∧ SF s s1 ∧ (mNode 123 M k (rCur s) → mNode 123 M1 k (rCur s1)) ∧ ∃ v, rCur s1 = nsDe (rCur s) v))) := by
  refine sp_of vX9_figure.1 rfl (Nat.le_of_ble_eq_true rfl) ?_
  have hb := tp_lt hP.2.1
  have h240 := hP.2.1.2.1
  have hG := hP.1
  have hkin : vp_in (nI k) 25 := vp_in_nI hk (by decide)
  have hkcl : (nI k).toNatClampNeg = k := nI_clamp (by omega)
  refine wp_aload_n dX9_figure_0 rfl ?_
  refine wp_cV0i dX9_figure_1 ml_X9_134 vX9_here ⟨8, (RX9, TX9, 39), rfl, rfl, rfl⟩ (cX9_hereN E M tp a hP) (Nat.le_of_ble_eq_true rfl) (Nat.le_of_ble_eq_true rfl) (Nat.le_of_ble_eq_true rfl) ?_
  refine wp_iload_n dX9_figure_4 rfl ?_
  refine wp_icmp_eq (tgt := 10) dX9_figure_5 (by decide) (fun c5 => ?_) (fun c5 => ?_)
  · have h1 := (hv_is (hb a) hc).mp c5
    have hP1 := Ps_at hP h1.1
    have hC1 := Cn_step hC h1.1 (by rw [h1.2]; exact hd1 h1.1 h1.2)
    have hF1 : mPF M (sI M 121 23 (nI (a + 1))) := Fr.rf.sI (by simp)
    refine wp_aload_n dX9_figure_10 rfl ?_
    refine wp_dup dX9_figure_11 rfl ?_
    refine wp_getI dX9_figure_12 fl_X9_124 rfl rfl ?_
    refine wp_iconst (v := 1) dX9_figure_15 rfl ?_
    refine wp_iadd dX9_figure_16 ?_
    refine wp_putI dX9_figure_17 fl_X9_124 rfl rfl (fun _ _ _ h => by cases h; rfl) rfl rfl ?_
    rw [at_inc hP]
    refine wp_aload_n dX9_figure_20 rfl ?_
    refine wp_cV0i dX9_figure_21 ml_X9_134 vX9_here ⟨8, (RX9, TX9, 39), rfl, rfl, rfl⟩ (cX9_hereN E _ tp (a + 1) hP1) (Nat.le_of_ble_eq_true rfl) (Nat.le_of_ble_eq_true rfl) (Nat.le_of_ble_eq_true rfl) ?_
    refine wp_iload_n dX9_figure_24 rfl ?_
    refine wp_iload dX9_figure_25 rfl ?_
    refine wp_cS3i dX9_figure_27 ml_X9_146 sX9_isFigure (cX9_isFigure_ E _ _ _ _ _) (Nat.le_of_ble_eq_true rfl) (Nat.le_of_ble_eq_true rfl) (Nat.le_of_ble_eq_true rfl) ?_
    refine wp_if_ne (tgt := 38) dX9_figure_30 (by decide) (fun c30 => ?_) (fun c30 => ?_)
    · refine wp_aload_n dX9_figure_38 rfl ?_
      refine wp_getR dX9_figure_39 fl_X9_29 rfl rfl (hG 8) ?_
      refine wp_iload_n dX9_figure_42 rfl ?_
      refine wp_aload_n dX9_figure_43 rfl ?_
      refine wp_cV0i dX9_figure_44 ml_X9_134 vX9_here ⟨8, (RX9, TX9, 39), rfl, rfl, rfl⟩ (cX9_hereN E _ tp (a + 1) hP1) (Nat.le_of_ble_eq_true rfl) (Nat.le_of_ble_eq_true rfl) (Nat.le_of_ble_eq_true rfl) ?_
      refine wp_bipush (v := 48) dX9_figure_47 (by decide) ?_
      refine wp_isub dX9_figure_49 ?_
      refine wp_iastore dX9_figure_50 rfl hkin ?_
      refine wp_aload_n dX9_figure_51 rfl ?_
      refine wp_dup dX9_figure_52 rfl ?_
      refine wp_getI dX9_figure_53 fl_X9_124 rfl rfl ?_
      refine wp_iconst (v := 1) dX9_figure_56 rfl ?_
      refine wp_iadd dX9_figure_57 ?_
      refine wp_putI dX9_figure_58 fl_X9_124 rfl rfl (fun _ _ _ h => by cases h; rfl) rfl rfl ?_
      refine wp_iconst (v := 1) dX9_figure_61 rfl ?_
      refine wp_ireturn dX9_figure_62 rfl rfl (Nat.zero_le _) (Nat.zero_le _) ?_
      have h2 := (hv_fg (hb (a + 1)) hlo hhi).mp (b2i_ne.mp c30)
      have hC2 := Cn_step (s1 := rGo (rNd (rGo s n1) (nsDe (rCur (rGo s n1)) (nI (tp.getD (a + 1) 0) - 48))) 15) hC1 h2.1 (by rw [hd2]; exact if_pos h2.2)
      have hvx : hv tp (a + 1) = nI (tp.getD (a + 1) 0) := if_pos h2.1
      rw [hkcl, hvx]
      have e23 : fI (sA (sI M 121 23 (nI (a + 1))) 127 k (nI (tp.getD (a + 1) 0) - 48)) 121 23 + 1 = nI (a + 1 + 1) := nI_1 (a + 1)
      rw [e23]
      have hF2 := (hF1.sA (i := k) (x := nI (tp.getD (a + 1) 0) - 48) (p := 127) (by simp)).sI (p := 121) (f := 23) (x := nI (a + 1 + 1)) (by simp)
      have hcur : rCur (rGo (rNd (rGo s n1) (nsDe (rCur (rGo s n1)) (nI (tp.getD (a + 1) 0) - 48))) 15) = nsDe (rCur s) (nI (tp.getD (a + 1) 0) - 48) := rCur_nd (rGo s n1) _
      refine ⟨rfl, hF2, (NF.rf.sA (by unfold inK; omega)).sI, Or.inr ⟨rfl, rfl, rfl, a + 1 + 1, _, hP.fr hF2 rfl h2.1, hC2, Or.inr ⟨rfl, ((SF_go s n1).tr (SF_nd _ _)).tr (SF_go _ _), fun hx => ?_, _, hcur⟩⟩⟩
      rw [hcur]
      exact mN_de (M := sI M 121 23 (nI (a + 1))) hx
    · refine wp_aload_n dX9_figure_33 rfl ?_
      refine wp_cV0i dX9_figure_34 ml_X9_142 vX9_fails ⟨8, (RX9, TX9, 39), rfl, rfl, rfl⟩ (cX9_fails_ E _) (Nat.le_of_ble_eq_true rfl) (Nat.le_of_ble_eq_true rfl) (Nat.le_of_ble_eq_true rfl) ?_
      refine wp_ireturn dX9_figure_37 rfl rfl (Nat.zero_le _) (Nat.zero_le _) ?_
      refine pM_bad hF1 NF.rf hP1 hC1 (fun q => ?_) (fun _ => hd3)
      rw [hd2]
      unfold rDet
      rw [if_neg (fun h => b2i_e0.mp c30 ((hv_fg (hb _) hlo hhi).mpr ⟨q, h⟩))]
  · refine wp_iconst (v := 1) dX9_figure_8 rfl ?_
    refine wp_ireturn dX9_figure_9 rfl rfl (Nat.zero_le _) (Nat.zero_le _) ?_
    exact ⟨rfl, Fr.rf, NF.rf, Or.inr ⟨rfl, rfl, rfl, a, s, hP, hC, Or.inl ⟨rfl, rfl, rfl, fun h => c5 ((hv_is (hb a) hc).mpr h)⟩⟩⟩
abbrev dnSt (n : Nat) : Prop := n = 3 ∨ n = 8 ∨ n = 13 ∨ n = 15 ∨ n = 17 ∨ n = 18
abbrev gEnds (M : Mem) (tp : List Nat) (k : Nat) (s : RS) : Mem → Nat → RS → Prop := fun M1 a1 s1 => dnSt (qSt s1) ∧ (a1 < tp.length → tp.getD a1 0 = 32 ∨ tp.getD a1 0 = 41) ∧ SF s s1 ∧ (mNode 123 M k (rCur s) → mNode 123 M1 k (rCur s1)) ∧ ∃ v, rCur s1 = nsBo (rCur s) v
theorem nwh {s : RS} (h : ¬ (qSt s = 0 ∨ dnSt (qSt s))) : ¬ rWhole s := fun q => h (by rcases q.2 with ⟨e, -⟩ | e; exact Or.inl e; exact Or.inr e)
theorem rEnd_no {s : RS} {b : Nat} (h1 : b ≠ 32) (h2 : b ≠ 41) : rEnd s b = none := by unfold rEnd; rw [if_neg h1, if_neg h2]
theorem nsBo_self (x : ND) : nsBo x (nBo x) = x := rfl
set_option maxRecDepth 100000 in
set_option maxHeartbeats 4000000 in
theorem cX9_ends_ (E : GE) (k : Nat) (tp : List Nat) (a : Nat) (s : RS) (M : Mem) (hP : Ps M tp a) (hC : Cn tp a s) (hk : k < 25) (hst : qSt s = 3 ∨ qSt s = 8 ∨ qSt s = 13 ∨ qSt s = 15) (h94 : dl s 94 = some (rGo s 16)) (hno : a < tp.length → tp.getD a 0 ≠ 94 → tp.getD a 0 ≠ 32 → tp.getD a 0 ≠ 41 → dl s (tp.getD a 0) = none) : Sp E mX9_ends 1 0 0 [.ref 121, .int (nI k)] SH M (pM M tp k (gEnds M tp k s)) := by
  refine sp_of vX9_ends.1 rfl (Nat.le_of_ble_eq_true rfl) ?_
  have hb := tp_lt hP.2.1
  have h240 := hP.2.1.2.1
  have hG := hP.1
  have hkin : vp_in (nI k) 25 := vp_in_nI hk (by decide)
  have hkcl : (nI k).toNatClampNeg = k := nI_clamp (by omega)
  have J : ∀ (a1 : Nat) (s1 : RS) (M1 : Mem), mPF M M1 → NF k M M1 → fI M1 121 24 = fI M 121 24 → fI M1 121 3 = fI M 121 3 → Ps M1 tp a1 → Cn tp a1 s1 → dnSt (qSt s1) → (a1 < tp.length → tp.getD a1 0 ≠ 32 → tp.getD a1 0 ≠ 41 → dl s1 (tp.getD a1 0) = none) → SF s s1 → (mNode 123 M k (rCur s) → mNode 123 M1 k (rCur s1)) → (∃ v, rCur s1 = nsBo (rCur s) v) → Wp (xM E mX9_ends 1 0 0 SH.length (pM M tp k (gEnds M tp k s))) 0 0 106 [(0, .ref 121), (1, .int (nI k))] [] SH M1 := by
    intro a1 s1 M1 hF hN h24 h3 hP1 hC1 hdn hno1 hSF hmn hv
    refine wp_aload_n dX9_ends_106 rfl ?_
    refine wp_cV0i dX9_ends_107 ml_X9_134 vX9_here ⟨8, (RX9, TX9, 39), rfl, rfl, rfl⟩ (cX9_hereN E M1 tp a1 hP1) (Nat.le_of_ble_eq_true rfl) (Nat.le_of_ble_eq_true rfl) (Nat.le_of_ble_eq_true rfl) ?_
    refine wp_bipush (v := 32) dX9_ends_110 (by decide) ?_
    refine wp_icmp_eq (tgt := 139) dX9_ends_112 (by decide) (fun c112 => ?_) (fun c112 => ?_)
    · refine wp_iconst (v := 1) dX9_ends_139 rfl ?_
      refine wp_goto (tgt := 144) dX9_ends_140 (by decide) ?_
      refine wp_ireturn dX9_ends_144 rfl rfl (Nat.zero_le _) (Nat.zero_le _) ?_
      first
        | exact ⟨rfl, hF, hN, Or.inr ⟨rfl, h24, h3, a1, s1, hP1, hC1, hdn, (fun q => by
            first
              | exact Or.inl ((hv_is (hb a1) (by decide)).mp c112).2
              | exact Or.inr ((hv_is (hb a1) (by decide)).mp c121).2
              | exact absurd q ((hv_no (hb a1)).mp c129)), hSF, hmn, hv⟩⟩
        | exact pM_bad hF hN hP1 hC1 (fun q => hno1 q (fun e => c112 ((hv_is (hb a1) (by decide)).mpr ⟨q, e⟩)) (fun e => c121 ((hv_is (hb a1) (by decide)).mpr ⟨q, e⟩))) (fun q => absurd ((hv_no (hb a1)).mpr q) c129)
    · refine wp_aload_n dX9_ends_115 rfl ?_
      refine wp_cV0i dX9_ends_116 ml_X9_134 vX9_here ⟨8, (RX9, TX9, 39), rfl, rfl, rfl⟩ (cX9_hereN E M1 tp a1 hP1) (Nat.le_of_ble_eq_true rfl) (Nat.le_of_ble_eq_true rfl) (Nat.le_of_ble_eq_true rfl) ?_
      refine wp_bipush (v := 41) dX9_ends_119 (by decide) ?_
      refine wp_icmp_eq (tgt := 139) dX9_ends_121 (by decide) (fun c121 => ?_) (fun c121 => ?_)
      · refine wp_iconst (v := 1) dX9_ends_139 rfl ?_
        refine wp_goto (tgt := 144) dX9_ends_140 (by decide) ?_
        refine wp_ireturn dX9_ends_144 rfl rfl (Nat.zero_le _) (Nat.zero_le _) ?_
        first
          | exact ⟨rfl, hF, hN, Or.inr ⟨rfl, h24, h3, a1, s1, hP1, hC1, hdn, (fun q => by
              first
                | exact Or.inl ((hv_is (hb a1) (by decide)).mp c112).2
                | exact Or.inr ((hv_is (hb a1) (by decide)).mp c121).2
                | exact absurd q ((hv_no (hb a1)).mp c129)), hSF, hmn, hv⟩⟩
          | exact pM_bad hF hN hP1 hC1 (fun q => hno1 q (fun e => c112 ((hv_is (hb a1) (by decide)).mpr ⟨q, e⟩)) (fun e => c121 ((hv_is (hb a1) (by decide)).mpr ⟨q, e⟩))) (fun q => absurd ((hv_no (hb a1)).mpr q) c129)
      · refine wp_aload_n dX9_ends_124 rfl ?_
        refine wp_cV0i dX9_ends_125 ml_X9_134 vX9_here ⟨8, (RX9, TX9, 39), rfl, rfl, rfl⟩ (cX9_hereN E M1 tp a1 hP1) (Nat.le_of_ble_eq_true rfl) (Nat.le_of_ble_eq_true rfl) (Nat.le_of_ble_eq_true rfl) ?_
        refine wp_iconst (v := (-1)) dX9_ends_128 rfl ?_
        refine wp_icmp_eq (tgt := 139) dX9_ends_129 (by decide) (fun c129 => ?_) (fun c129 => ?_)
        · refine wp_iconst (v := 1) dX9_ends_139 rfl ?_
          refine wp_goto (tgt := 144) dX9_ends_140 (by decide) ?_
          refine wp_ireturn dX9_ends_144 rfl rfl (Nat.zero_le _) (Nat.zero_le _) ?_
          first
            | exact ⟨rfl, hF, hN, Or.inr ⟨rfl, h24, h3, a1, s1, hP1, hC1, hdn, (fun q => by
                first
                  | exact Or.inl ((hv_is (hb a1) (by decide)).mp c112).2
                  | exact Or.inr ((hv_is (hb a1) (by decide)).mp c121).2
                  | exact absurd q ((hv_no (hb a1)).mp c129)), hSF, hmn, hv⟩⟩
            | exact pM_bad hF hN hP1 hC1 (fun q => hno1 q (fun e => c112 ((hv_is (hb a1) (by decide)).mpr ⟨q, e⟩)) (fun e => c121 ((hv_is (hb a1) (by decide)).mpr ⟨q, e⟩))) (fun q => absurd ((hv_no (hb a1)).mpr q) c129)
        · refine wp_aload_n dX9_ends_132 rfl ?_
          refine wp_cV0i dX9_ends_133 ml_X9_142 vX9_fails ⟨8, (RX9, TX9, 39), rfl, rfl, rfl⟩ (cX9_fails_ E M1) (Nat.le_of_ble_eq_true rfl) (Nat.le_of_ble_eq_true rfl) (Nat.le_of_ble_eq_true rfl) ?_
          refine wp_if_eq (tgt := 143) dX9_ends_136 (by decide) (fun c136 => ?_) (fun c136 => absurd rfl c136)
          refine wp_iconst (v := 0) dX9_ends_143 rfl ?_
          refine wp_ireturn dX9_ends_144 rfl rfl (Nat.zero_le _) (Nat.zero_le _) ?_
          first
            | exact ⟨rfl, hF, hN, Or.inr ⟨rfl, h24, h3, a1, s1, hP1, hC1, hdn, (fun q => by
                first
                  | exact Or.inl ((hv_is (hb a1) (by decide)).mp c112).2
                  | exact Or.inr ((hv_is (hb a1) (by decide)).mp c121).2
                  | exact absurd q ((hv_no (hb a1)).mp c129)), hSF, hmn, hv⟩⟩
            | exact pM_bad hF hN hP1 hC1 (fun q => hno1 q (fun e => c112 ((hv_is (hb a1) (by decide)).mpr ⟨q, e⟩)) (fun e => c121 ((hv_is (hb a1) (by decide)).mpr ⟨q, e⟩))) (fun q => absurd ((hv_no (hb a1)).mpr q) c129)
  refine wp_aload_n dX9_ends_0 rfl ?_
  refine wp_cV0i dX9_ends_1 ml_X9_134 vX9_here ⟨8, (RX9, TX9, 39), rfl, rfl, rfl⟩ (cX9_hereN E M tp a hP) (Nat.le_of_ble_eq_true rfl) (Nat.le_of_ble_eq_true rfl) (Nat.le_of_ble_eq_true rfl) ?_
  refine wp_bipush (v := 94) dX9_ends_4 (by decide) ?_
  refine wp_icmp_ne (tgt := 106) dX9_ends_6 (by decide) (fun c6 => ?_) (fun c6 => ?_)
  · exact wp_lv (J a s M Fr.rf NF.rf rfl rfl hP hC (by omega) (fun q h1 h2 => hno q (fun e => c6 ((hv_is (hb a) (by decide)).mpr ⟨q, e⟩)) h1 h2) SF.rf (fun h => h) ⟨_, (nsBo_self _).symm⟩) (by repeat (first | exact trivial | refine ⟨rfl, ?_⟩))
  · have h1 := (hv_is (c := 94) (hb a) (by decide)).mp c6
    have hP1 := Ps_at hP h1.1
    have hC1 : Cn tp (a + 1) (rGo s 16) := Cn_step hC h1.1 (by rw [h1.2]; exact h94)
    have hF1 : mPF M (sI M 121 23 (nI (a + 1))) := Fr.rf.sI (by simp)
    refine wp_aload_n dX9_ends_9 rfl ?_
    refine wp_dup dX9_ends_10 rfl ?_
    refine wp_getI dX9_ends_11 fl_X9_124 rfl rfl ?_
    refine wp_iconst (v := 1) dX9_ends_14 rfl ?_
    refine wp_iadd dX9_ends_15 ?_
    refine wp_putI dX9_ends_16 fl_X9_124 rfl rfl (fun _ _ _ h => by cases h; rfl) rfl rfl ?_
    rw [at_inc hP]
    refine wp_aload_n dX9_ends_19 rfl ?_
    refine wp_cV0i dX9_ends_20 ml_X9_134 vX9_here ⟨8, (RX9, TX9, 39), rfl, rfl, rfl⟩ (cX9_hereN E _ tp (a + 1) hP1) (Nat.le_of_ble_eq_true rfl) (Nat.le_of_ble_eq_true rfl) (Nat.le_of_ble_eq_true rfl) ?_
    refine wp_iconst (v := 0) dX9_ends_23 rfl ?_
    refine wp_bipush (v := 9) dX9_ends_24 (by decide) ?_
    refine wp_cS3i dX9_ends_26 ml_X9_146 sX9_isFigure (cX9_isFigure_ E _ _ _ _ _) (Nat.le_of_ble_eq_true rfl) (Nat.le_of_ble_eq_true rfl) (Nat.le_of_ble_eq_true rfl) ?_
    refine wp_if_ne (tgt := 37) dX9_ends_29 (by decide) (fun c29 => ?_) (fun c29 => ?_)
    · have h2 := (hv_fg (lo := 0) (hi := 9) (hb (a + 1)) (by decide) (by decide)).mp (b2i_ne.mp c29)
      have hvx : hv tp (a + 1) = nI (tp.getD (a + 1) 0) := if_pos h2.1
      have hC2 : Cn tp (a + 2) (rBoo (rGo s 16) (nI (tp.getD (a + 1) 0) - 48) 17) := Cn_step hC1 h2.1 (if_pos h2.2)
      have hcur2 : rCur (rBoo (rGo s 16) (nI (tp.getD (a + 1) 0) - 48) 17) = nsBo (rCur s) (nI (tp.getD (a + 1) 0) - 48) := rCur_nd (rGo s 16) _
      refine wp_aload_n dX9_ends_37 rfl ?_
      refine wp_getR dX9_ends_38 fl_X9_23 rfl rfl (hG 6) ?_
      refine wp_iload_n dX9_ends_41 rfl ?_
      refine wp_aload_n dX9_ends_42 rfl ?_
      refine wp_cV0i dX9_ends_43 ml_X9_134 vX9_here ⟨8, (RX9, TX9, 39), rfl, rfl, rfl⟩ (cX9_hereN E _ tp (a + 1) hP1) (Nat.le_of_ble_eq_true rfl) (Nat.le_of_ble_eq_true rfl) (Nat.le_of_ble_eq_true rfl) ?_
      refine wp_bipush (v := 48) dX9_ends_46 (by decide) ?_
      refine wp_isub dX9_ends_48 ?_
      refine wp_iastore dX9_ends_49 rfl hkin ?_
      refine wp_aload_n dX9_ends_50 rfl ?_
      refine wp_dup dX9_ends_51 rfl ?_
      refine wp_getI dX9_ends_52 fl_X9_124 rfl rfl ?_
      refine wp_iconst (v := 1) dX9_ends_55 rfl ?_
      refine wp_iadd dX9_ends_56 ?_
      refine wp_putI dX9_ends_57 fl_X9_124 rfl rfl (fun _ _ _ h => by cases h; rfl) rfl rfl ?_
      have e23 : fI (sA (sI M 121 23 (nI (a + 1))) 125 k (nI (tp.getD (a + 1) 0) - 48)) 121 23 + 1 = nI (a + 2) := nI_1 (a + 1)
      rw [hkcl, hvx, e23]
      have hF2 := (hF1.sA (i := k) (x := nI (tp.getD (a + 1) 0) - 48) (p := 125) (by simp)).sI (p := 121) (f := 23) (x := nI (a + 2)) (by simp)
      have hN2 : NF k M (sI (sA (sI M 121 23 (nI (a + 1))) 125 k (nI (tp.getD (a + 1) 0) - 48)) 121 23 (nI (a + 2))) := (NF.rf.sA (by unfold inK; omega)).sI
      have hP2 := hP.fr hF2 rfl h2.1
      have hm2 : mNode 123 M k (rCur s) → mNode 123 (sI (sA (sI M 121 23 (nI (a + 1))) 125 k (nI (tp.getD (a + 1) 0) - 48)) 121 23 (nI (a + 2))) k (rCur (rBoo (rGo s 16) (nI (tp.getD (a + 1) 0) - 48) 17)) := fun hx => by rw [hcur2]; exact mN_bo (M := sI M 121 23 (nI (a + 1))) hx
      have hS2 : SF s (rBoo (rGo s 16) (nI (tp.getD (a + 1) 0) - 48) 17) := ((SF_go s 16).tr (SF_nd _ _)).tr (SF_go _ _)
      refine wp_aload_n dX9_ends_60 rfl ?_
      refine wp_cV0i dX9_ends_61 ml_X9_134 vX9_here ⟨8, (RX9, TX9, 39), rfl, rfl, rfl⟩ (cX9_hereN E _ tp (a + 2) hP2) (Nat.le_of_ble_eq_true rfl) (Nat.le_of_ble_eq_true rfl) (Nat.le_of_ble_eq_true rfl) ?_
      refine wp_iconst (v := 0) dX9_ends_64 rfl ?_
      refine wp_bipush (v := 9) dX9_ends_65 (by decide) ?_
      refine wp_cS3i dX9_ends_67 ml_X9_146 sX9_isFigure (cX9_isFigure_ E _ _ _ _ _) (Nat.le_of_ble_eq_true rfl) (Nat.le_of_ble_eq_true rfl) (Nat.le_of_ble_eq_true rfl) ?_
      refine wp_if_eq (tgt := 106) dX9_ends_70 (by decide) (fun c70 => ?_) (fun c70 => ?_)
      · exact wp_lv (J (a + 2) _ _ hF2 hN2 rfl rfl hP2 hC2 (Or.inr (Or.inr (Or.inr (Or.inr (Or.inl rfl))))) (fun q h1 h2' => (if_neg (fun h => b2i_e0.mp c70 ((hv_fg (lo := 0) (hi := 9) (hb _) (by decide) (by decide)).mpr ⟨q, h⟩))).trans (rEnd_no h1 h2')) hS2 hm2 ⟨_, hcur2⟩) (by repeat (first | exact trivial | refine ⟨rfl, ?_⟩))
      · refine wp_aload_n dX9_ends_73 rfl ?_
        refine wp_getR dX9_ends_74 fl_X9_23 rfl rfl (hG 6) ?_
        refine wp_iload_n dX9_ends_77 rfl ?_
        refine wp_bipush (v := 10) dX9_ends_78 (by decide) ?_
        refine wp_aload_n dX9_ends_80 rfl ?_
        refine wp_getR dX9_ends_81 fl_X9_23 rfl rfl (hG 6) ?_
        refine wp_iload_n dX9_ends_84 rfl ?_
        refine wp_iaload dX9_ends_85 rfl hkin ?_
        refine wp_imul dX9_ends_86 ?_
        refine wp_aload_n dX9_ends_87 rfl ?_
        refine wp_cV0i dX9_ends_88 ml_X9_134 vX9_here ⟨8, (RX9, TX9, 39), rfl, rfl, rfl⟩ (cX9_hereN E _ tp (a + 2) hP2) (Nat.le_of_ble_eq_true rfl) (Nat.le_of_ble_eq_true rfl) (Nat.le_of_ble_eq_true rfl) ?_
        refine wp_iadd dX9_ends_91 ?_
        refine wp_bipush (v := 48) dX9_ends_92 (by decide) ?_
        refine wp_isub dX9_ends_94 ?_
        refine wp_iastore dX9_ends_95 rfl hkin ?_
        refine wp_aload_n dX9_ends_96 rfl ?_
        refine wp_dup dX9_ends_97 rfl ?_
        refine wp_getI dX9_ends_98 fl_X9_124 rfl rfl ?_
        refine wp_iconst (v := 1) dX9_ends_101 rfl ?_
        refine wp_iadd dX9_ends_102 ?_
        refine wp_putI dX9_ends_103 fl_X9_124 rfl rfl (fun _ _ _ h => by cases h; rfl) rfl rfl ?_
        have h3 := (hv_fg (lo := 0) (hi := 9) (hb (a + 2)) (by decide) (by decide)).mp (b2i_ne.mp c70)
        have hvy : hv tp (a + 2) = nI (tp.getD (a + 2) 0) := if_pos h3.1
        obtain ⟨bo, hbo⟩ : ∃ bo : Int32, bo = 10 * (nI (tp.getD (a + 1) 0) - 48) + nI (tp.getD (a + 2) 0) - 48 := ⟨_, rfl⟩
        have e125 : aI (sI (sA (sI M 121 23 (nI (a + 1))) 125 k (nI (tp.getD (a + 1) 0) - 48)) 121 23 (nI (a + 2))) 125 k = nI (tp.getD (a + 1) 0) - 48 := by simp only [aI_sI, aI_sA]; simp
        rw [hkcl, hvy, e125, ← hbo]
        have hbo2 : nBo (rCur (rBoo (rGo s 16) (nI (tp.getD (a + 1) 0) - 48) 17)) = nI (tp.getD (a + 1) 0) - 48 := congrArg nBo hcur2
        have hC3 : Cn tp (a + 3) (rBoo (rBoo (rGo s 16) (nI (tp.getD (a + 1) 0) - 48) 17) bo 18) := Cn_step hC2 h3.1 ((if_pos h3.2).trans (by rw [hbo2, hbo]))
        have e23 : fI (sA (sI (sA (sI M 121 23 (nI (a + 1))) 125 k (nI (tp.getD (a + 1) 0) - 48)) 121 23 (nI (a + 2))) 125 k bo) 121 23 + 1 = nI (a + 3) := nI_1 (a + 2)
        rw [e23]
        have hF3 := (hF2.sA (i := k) (x := bo) (p := 125) (by simp)).sI (p := 121) (f := 23) (x := nI (a + 3)) (by simp)
        have hcur3 : rCur (rBoo (rBoo (rGo s 16) (nI (tp.getD (a + 1) 0) - 48) 17) bo 18) = nsBo (rCur s) bo := (rCur_nd (rBoo (rGo s 16) (nI (tp.getD (a + 1) 0) - 48) 17) _).trans (by rw [hcur2]; rfl)
        refine wp_lv (J (a + 3) _ _ hF3 ((hN2.sA (by unfold inK; omega)).sI) rfl rfl (hP.fr hF3 rfl h3.1) hC3 (Or.inr (Or.inr (Or.inr (Or.inr (Or.inr rfl))))) (fun q h1 h2' => rEnd_no h1 h2') (hS2.tr ((SF_nd _ _).tr (SF_go _ _))) (fun hx => ?_) ⟨_, hcur3⟩) (by repeat (first | exact trivial | refine ⟨rfl, ?_⟩))
        rw [hcur3]
        have := mN_bo (v := bo) (hm2 hx)
        rw [hcur2] at this
        exact this
    · refine wp_aload_n dX9_ends_32 rfl ?_
      refine wp_cV0i dX9_ends_33 ml_X9_142 vX9_fails ⟨8, (RX9, TX9, 39), rfl, rfl, rfl⟩ (cX9_fails_ E _) (Nat.le_of_ble_eq_true rfl) (Nat.le_of_ble_eq_true rfl) (Nat.le_of_ble_eq_true rfl) ?_
      refine wp_ireturn dX9_ends_36 rfl rfl (Nat.zero_le _) (Nat.zero_le _) ?_
      refine pM_bad hF1 NF.rf hP1 hC1 (fun q => ?_) (fun _ => nwh (show ¬ (16 = 0 ∨ dnSt 16) by decide))
      exact if_neg (fun h => b2i_e0.mp c29 ((hv_fg (lo := 0) (hi := 9) (hb _) (by decide) (by decide)).mpr ⟨q, h⟩))
