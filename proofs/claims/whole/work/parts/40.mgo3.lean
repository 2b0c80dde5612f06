/-! ===== the model reads: goAlong whole ===== -/
theorem mN_0 {M : Mem} {g : Int32} (hg : g = -1) : mNode 123 (mNew M 0 g) 0 nd0 := by
  obtain ⟨n123, n124, n125, n126, n127, n128, n129⟩ := mNew_at (M := M) (k := 0) (g := g)
  exact ⟨n123, n124, n125, n126, n127, n128.trans hg, n129, fun j hj => absurd hj (Nat.not_lt_zero j)⟩
theorem no_node {tp : List Nat} {a : Nat} {s : RS} (hst : qSt s = 0) (h1 : tp.getD a 0 ≠ 32) (h2 : tp.getD a 0 ≠ 41) (h : qCn s = 25 ∨ ¬ (tp.getD a 0 = 43 ∨ tp.getD a 0 = 45 ∨ tp.getD a 0 = 34 ∨ tp.getD a 0 = 91 ∨ tp.getD a 0 = 123 ∨ tp.getD a 0 = 40 ∨ isSg (tp.getD a 0))) : dl s (tp.getD a 0) = none := by
  generalize tp.getD a 0 = b at *
  by_cases e : b = 43 ∨ b = 45
  · rw [dln hst]
    show rGap s b = _
    unfold rGap
    rw [if_neg h1, if_neg h2, if_pos e, if_neg (by omega)]
  · rw [dln hst]
    show rGap s b = _
    unfold rGap
    rw [if_neg h1, if_neg h2, if_neg e, if_neg]
    intro q
    rcases q with q | q
    · omega
    · omega
set_option maxRecDepth 100000 in
set_option maxHeartbeats 4000000 in
theorem go_loop (E : GE) (M : Mem) (tp : List Nat) : ∀ (n a : Nat) (s : RS) (M1 : Mem), GI M M1 tp a s → 2 * (25 - qCn s) + qDep s < n → Wp (XGo E M tp) 0 0 23 [(0, .ref 121), (1, .int (nI (qOp s))), (2, .int (nI (qDep s)))] [] SH M1 := by
  intro n
  induction n with
  | zero => intro a s M1 _ h; exact absurd h (Nat.not_lt_zero _)
  | succ n ih =>
    have J30 : ∀ (r a : Nat) (s : RS) (M1 : Mem), GI M M1 tp a s → 2 * (25 - qCn s) + qDep s < n + 1 → tp.length - a < r → Wp (XGo E M tp) 0 0 30 [(0, .ref 121), (1, .int (nI (qOp s))), (2, .int (nI (qDep s)))] [] SH M1 := by
      intro r
      induction r with
      | zero => intro a s M1 _ _ h; exact absurd h (Nat.not_lt_zero _)
      | succ r ihr =>
        intro a s M1 hI hn hr
        have hI0 := hI
        obtain ⟨hF, hP, hC, h24, h3, hmn, hkc, hhd⟩ := hI0
        have hG := hP.1
        have hT := hP.2.1
        have hb := tp_lt hT
        have h240 := hT.2.1
        have hg := hC.2.1
        have hop := hg.2.1
        have h25 := hg.2.2.1
        have hd5 := hg.1
        have hin : vp_in (nI (qOp s)) 25 := vp_in_nI (by omega) (by decide)
        have hcl : (nI (qOp s)).toNatClampNeg = qOp s := nI_clamp (by omega)
        have hco : nCo (qNd s (qOp s)) = 3 := chn_core hg.2.2.2.2.1 hg.2.2.2.1
        have e0 : aI M1 129 0 = nI (nKi (qNd s 0)) := mN_ct (hmn 0 (by omega)) hg.2.2.2.2.1
        have eo : aI M1 129 (qOp s) = nI (nKi (qNd s (qOp s))) := mN_ct (hmn _ hop) hco
        have b0 := (hg.2.2.2.2.2 0 (by omega)).2
        have bo := (hg.2.2.2.2.2 _ hop).2
        have J162 : a < tp.length → tp.getD a 0 ≠ 32 → tp.getD a 0 ≠ 41 → Wp (XGo E M tp) 0 0 162 [(0, .ref 121), (1, .int (nI (qOp s))), (2, .int (nI (qDep s)))] [] SH M1 := by
          intro hl hn32 hn41
          have hst := hd_0 hhd hl hn32 hn41
          have hret : (qCn s = 25 ∨ ¬ (tp.getD a 0 = 43 ∨ tp.getD a 0 = 45 ∨ tp.getD a 0 = 34 ∨ tp.getD a 0 = 91 ∨ tp.getD a 0 = 123 ∨ tp.getD a 0 = 40 ∨ isSg (tp.getD a 0))) → pGo M tp (some (.int (fI M1 121 23))) SH M1 := fun h =>
            ⟨rfl, hF, Or.inl ⟨a, hP.2.2.2, Cn_bad hC hP.2.2.2 (fun _ => no_node hst hn32 hn41 h) (fun q => absurd hl q), by rw [hP.2.2.1]⟩⟩
          have J249 : ∀ y : Int32, (y = 0 → ¬ (tp.getD a 0 = 43 ∨ tp.getD a 0 = 45 ∨ tp.getD a 0 = 34 ∨ tp.getD a 0 = 91 ∨ tp.getD a 0 = 123 ∨ tp.getD a 0 = 40 ∨ isSg (tp.getD a 0))) → Wp (XGo E M tp) 0 0 249 [(0, .ref 121), (1, .int (nI (qOp s))), (2, .int (nI (qDep s)))] [.int y] SH M1 := by
            intro y hy
            refine wp_istore_n dX9_goAlong_249 (Nat.le_of_ble_eq_true rfl) ?_
            refine wp_aload_n dX9_goAlong_250 rfl ?_
            refine wp_getI dX9_goAlong_251 fl_X9_131 rfl rfl ?_
            refine wp_bipush (v := 25) dX9_goAlong_254 (by decide) ?_
            refine wp_icmp_eq (tgt := 263) dX9_goAlong_256 (by decide) (fun c256 => ?_) (fun c256 => ?_)
            · refine wp_aload_n dX9_goAlong_263 rfl ?_
              refine wp_getI dX9_goAlong_264 fl_X9_124 rfl rfl ?_
              refine wp_ireturn dX9_goAlong_267 rfl rfl (Nat.zero_le _) (Nat.zero_le _) ?_
              exact hret (Or.inl (nI_e (by omega) (by decide) (by rw [← h3]; exact c256)))
            · refine wp_iload_n dX9_goAlong_259 rfl ?_
              refine wp_if_ne (tgt := 268) dX9_goAlong_260 (by decide) (fun c260 => ?_) (fun c260 => ?_)
              · have hcn : qCn s < 25 := by
                  by_cases e : qCn s = 25
                  · exact absurd (by rw [h3, e]; rfl) c256
                  · omega
                exact wp_lv (go_node E hI hst hcn ⟨hl, hn32, hn41⟩ (fun a s1 M1 h1 h2 => ih a s1 M1 h1 (by omega))) (by repeat (first | exact trivial | refine ⟨rfl, ?_⟩))
              · refine wp_aload_n dX9_goAlong_263 rfl ?_
                refine wp_getI dX9_goAlong_264 fl_X9_124 rfl rfl ?_
                refine wp_ireturn dX9_goAlong_267 rfl rfl (Nat.zero_le _) (Nat.zero_le _) ?_
                exact hret (Or.inr (hy c260))
          have J244 : Wp (XGo E M tp) 0 0 244 [(0, .ref 121), (1, .int (nI (qOp s))), (2, .int (nI (qDep s)))] [] SH M1 := by
            refine wp_iconst (v := 1) dX9_goAlong_244 rfl ?_
            refine wp_goto (tgt := 249) dX9_goAlong_245 (by decide) ?_
            exact wp_lv (J249 1 (fun e => absurd e (by decide))) (by repeat (first | exact trivial | refine ⟨rfl, ?_⟩))
          refine wp_aload_n dX9_goAlong_162 rfl ?_
          refine wp_cV0i dX9_goAlong_163 ml_X9_134 vX9_here ⟨8, (RX9, TX9, 39), rfl, rfl, rfl⟩ (cX9_hereN E M1 tp a hP) (Nat.le_of_ble_eq_true rfl) (Nat.le_of_ble_eq_true rfl) (Nat.le_of_ble_eq_true rfl) ?_
          refine wp_bipush (v := 43) dX9_goAlong_166 (by decide) ?_
          refine wp_icmp_eq (tgt := 244) dX9_goAlong_168 (by decide) (fun c168 => ?_) (fun c168 => ?_)
          · exact J244
          · refine wp_aload_n dX9_goAlong_171 rfl ?_
            refine wp_cV0i dX9_goAlong_172 ml_X9_134 vX9_here ⟨8, (RX9, TX9, 39), rfl, rfl, rfl⟩ (cX9_hereN E M1 tp a hP) (Nat.le_of_ble_eq_true rfl) (Nat.le_of_ble_eq_true rfl) (Nat.le_of_ble_eq_true rfl) ?_
            refine wp_bipush (v := 45) dX9_goAlong_175 (by decide) ?_
            refine wp_icmp_eq (tgt := 244) dX9_goAlong_177 (by decide) (fun c177 => ?_) (fun c177 => ?_)
            · exact J244
            · refine wp_aload_n dX9_goAlong_180 rfl ?_
              refine wp_cV0i dX9_goAlong_181 ml_X9_134 vX9_here ⟨8, (RX9, TX9, 39), rfl, rfl, rfl⟩ (cX9_hereN E M1 tp a hP) (Nat.le_of_ble_eq_true rfl) (Nat.le_of_ble_eq_true rfl) (Nat.le_of_ble_eq_true rfl) ?_
              refine wp_bipush (v := 34) dX9_goAlong_184 (by decide) ?_
              refine wp_icmp_eq (tgt := 244) dX9_goAlong_186 (by decide) (fun c186 => ?_) (fun c186 => ?_)
              · exact J244
              · refine wp_aload_n dX9_goAlong_189 rfl ?_
                refine wp_cV0i dX9_goAlong_190 ml_X9_134 vX9_here ⟨8, (RX9, TX9, 39), rfl, rfl, rfl⟩ (cX9_hereN E M1 tp a hP) (Nat.le_of_ble_eq_true rfl) (Nat.le_of_ble_eq_true rfl) (Nat.le_of_ble_eq_true rfl) ?_
                refine wp_bipush (v := 91) dX9_goAlong_193 (by decide) ?_
                refine wp_icmp_eq (tgt := 244) dX9_goAlong_195 (by decide) (fun c195 => ?_) (fun c195 => ?_)
                · exact J244
                · refine wp_aload_n dX9_goAlong_198 rfl ?_
                  refine wp_cV0i dX9_goAlong_199 ml_X9_134 vX9_here ⟨8, (RX9, TX9, 39), rfl, rfl, rfl⟩ (cX9_hereN E M1 tp a hP) (Nat.le_of_ble_eq_true rfl) (Nat.le_of_ble_eq_true rfl) (Nat.le_of_ble_eq_true rfl) ?_
                  refine wp_bipush (v := 123) dX9_goAlong_202 (by decide) ?_
                  refine wp_icmp_eq (tgt := 244) dX9_goAlong_204 (by decide) (fun c204 => ?_) (fun c204 => ?_)
                  · exact J244
                  · refine wp_aload_n dX9_goAlong_207 rfl ?_
                    refine wp_cV0i dX9_goAlong_208 ml_X9_134 vX9_here ⟨8, (RX9, TX9, 39), rfl, rfl, rfl⟩ (cX9_hereN E M1 tp a hP) (Nat.le_of_ble_eq_true rfl) (Nat.le_of_ble_eq_true rfl) (Nat.le_of_ble_eq_true rfl) ?_
                    refine wp_bipush (v := 40) dX9_goAlong_211 (by decide) ?_
                    refine wp_icmp_eq (tgt := 244) dX9_goAlong_213 (by decide) (fun c213 => ?_) (fun c213 => ?_)
                    · exact J244
                    · refine wp_aload_n dX9_goAlong_216 rfl ?_
                      refine wp_cV0i dX9_goAlong_217 ml_X9_134 vX9_here ⟨8, (RX9, TX9, 39), rfl, rfl, rfl⟩ (cX9_hereN E M1 tp a hP) (Nat.le_of_ble_eq_true rfl) (Nat.le_of_ble_eq_true rfl) (Nat.le_of_ble_eq_true rfl) ?_
                      refine wp_bipush (v := 63) dX9_goAlong_220 (by decide) ?_
                      refine wp_icmp_eq (tgt := 244) dX9_goAlong_222 (by decide) (fun c222 => ?_) (fun c222 => ?_)
                      · exact J244
                      · refine wp_aload_n dX9_goAlong_225 rfl ?_
                        refine wp_cV0i dX9_goAlong_226 ml_X9_134 vX9_here ⟨8, (RX9, TX9, 39), rfl, rfl, rfl⟩ (cX9_hereN E M1 tp a hP) (Nat.le_of_ble_eq_true rfl) (Nat.le_of_ble_eq_true rfl) (Nat.le_of_ble_eq_true rfl) ?_
                        refine wp_bipush (v := 42) dX9_goAlong_229 (by decide) ?_
                        refine wp_icmp_eq (tgt := 244) dX9_goAlong_231 (by decide) (fun c231 => ?_) (fun c231 => ?_)
                        · exact J244
                        · refine wp_aload_n dX9_goAlong_234 rfl ?_
                          refine wp_cV0i dX9_goAlong_235 ml_X9_134 vX9_here ⟨8, (RX9, TX9, 39), rfl, rfl, rfl⟩ (cX9_hereN E M1 tp a hP) (Nat.le_of_ble_eq_true rfl) (Nat.le_of_ble_eq_true rfl) (Nat.le_of_ble_eq_true rfl) ?_
                          refine wp_cS1i dX9_goAlong_238 ml_X9_138 sX9_isLetter (cX9_isLetter_ E _ _ _) (Nat.le_of_ble_eq_true rfl) (Nat.le_of_ble_eq_true rfl) (Nat.le_of_ble_eq_true rfl) ?_
                          refine wp_if_eq (tgt := 248) dX9_goAlong_241 (by decide) (fun c241 => ?_) (fun c241 => ?_)
                          · refine wp_iconst (v := 0) dX9_goAlong_248 rfl ?_
                            refine wp_lv (J249 0 (fun _ h => ?_)) (by repeat (first | exact trivial | refine ⟨rfl, ?_⟩))
                            rcases h with h | h | h | h | h | h | h | h | h
                            · exact c168 ((hv_is (hb a) (by decide)).mpr ⟨hl, h⟩)
                            · exact c177 ((hv_is (hb a) (by decide)).mpr ⟨hl, h⟩)
                            · exact c186 ((hv_is (hb a) (by decide)).mpr ⟨hl, h⟩)
                            · exact c195 ((hv_is (hb a) (by decide)).mpr ⟨hl, h⟩)
                            · exact c204 ((hv_is (hb a) (by decide)).mpr ⟨hl, h⟩)
                            · exact c213 ((hv_is (hb a) (by decide)).mpr ⟨hl, h⟩)
                            · exact b2i_e0.mp c241 ((hv_lt (hb a)).mpr ⟨hl, h⟩)
                            · exact c222 ((hv_is (hb a) (by decide)).mpr ⟨hl, h⟩)
                            · exact c231 ((hv_is (hb a) (by decide)).mpr ⟨hl, h⟩)
                          · exact J244
        refine wp_aload_n dX9_goAlong_30 rfl ?_
        refine wp_cV0i dX9_goAlong_31 ml_X9_134 vX9_here ⟨8, (RX9, TX9, 39), rfl, rfl, rfl⟩ (cX9_hereN E M1 tp a hP) (Nat.le_of_ble_eq_true rfl) (Nat.le_of_ble_eq_true rfl) (Nat.le_of_ble_eq_true rfl) ?_
        refine wp_bipush (v := 32) dX9_goAlong_34 (by decide) ?_
        refine wp_icmp_ne (tgt := 52) dX9_goAlong_36 (by decide) (fun c36 => ?_) (fun c36 => ?_)
        · refine wp_aload_n dX9_goAlong_52 rfl ?_
          refine wp_cV0i dX9_goAlong_53 ml_X9_134 vX9_here ⟨8, (RX9, TX9, 39), rfl, rfl, rfl⟩ (cX9_hereN E M1 tp a hP) (Nat.le_of_ble_eq_true rfl) (Nat.le_of_ble_eq_true rfl) (Nat.le_of_ble_eq_true rfl) ?_
          refine wp_iconst (v := (-1)) dX9_goAlong_56 rfl ?_
          refine wp_icmp_ne (tgt := 82) dX9_goAlong_57 (by decide) (fun c57 => ?_) (fun c57 => ?_)
          · refine wp_aload_n dX9_goAlong_82 rfl ?_
            refine wp_cV0i dX9_goAlong_83 ml_X9_134 vX9_here ⟨8, (RX9, TX9, 39), rfl, rfl, rfl⟩ (cX9_hereN E M1 tp a hP) (Nat.le_of_ble_eq_true rfl) (Nat.le_of_ble_eq_true rfl) (Nat.le_of_ble_eq_true rfl) ?_
            refine wp_bipush (v := 41) dX9_goAlong_86 (by decide) ?_
            refine wp_icmp_ne (tgt := 162) dX9_goAlong_88 (by decide) (fun c88 => ?_) (fun c88 => ?_)
            · have hl : a < tp.length := Decidable.byContradiction fun h => c57 ((hv_no (hb a)).mpr h)
              exact J162 hl (fun e => c36 ((hv_is (hb a) (by decide)).mpr ⟨hl, e⟩)) (fun e => c88 ((hv_is (hb a) (by decide)).mpr ⟨hl, e⟩))
            · refine wp_iload_n dX9_goAlong_91 rfl ?_
              refine wp_if_eq (tgt := 104) dX9_goAlong_92 (by decide) (fun c92 => ?_) (fun c92 => ?_)
              · refine wp_aload_n dX9_goAlong_104 rfl ?_
                refine wp_getI dX9_goAlong_105 fl_X9_124 rfl rfl ?_
                refine wp_ireturn dX9_goAlong_108 rfl rfl (Nat.zero_le _) (Nat.zero_le _) ?_
                have h41 := (hv_is (c := 41) (hb a) (by decide)).mp c88
                have hd0 : qDep s = 0 := nI_e (by omega) (by decide) c92
                exact ⟨rfl, hF, Or.inl ⟨a, hP.2.2.2, Cn_bad hC hP.2.2.2 (fun _ => by rw [h41.2]; exact dl_cln hhd (Or.inl hd0)) (fun q => absurd h41.1 q), by rw [hP.2.2.1]⟩⟩
              · refine wp_aload_n dX9_goAlong_95 rfl ?_
                refine wp_getR dX9_goAlong_96 fl_X9_35 rfl rfl (hG 10) ?_
                refine wp_iload_n dX9_goAlong_99 rfl ?_
                refine wp_iaload dX9_goAlong_100 rfl hin ?_
                refine wp_if_ne (tgt := 109) dX9_goAlong_101 (by decide) (fun c101 => ?_) (fun c101 => ?_)
                · have h41 := (hv_is (c := 41) (hb a) (by decide)).mp c88
                  rw [hcl, eo] at c101
                  exact go_close E hI h41 (fun e => c92 (by rw [e]; rfl)) (Nat.pos_of_ne_zero fun e => c101 (by rw [e]; rfl)) (fun a s1 M1 h1 h2 => ih a s1 M1 h1 (by omega))
                · refine wp_aload_n dX9_goAlong_104 rfl ?_
                  refine wp_getI dX9_goAlong_105 fl_X9_124 rfl rfl ?_
                  refine wp_ireturn dX9_goAlong_108 rfl rfl (Nat.zero_le _) (Nat.zero_le _) ?_
                  have h41 := (hv_is (c := 41) (hb a) (by decide)).mp c88
                  rw [hcl, eo] at c101
                  have hk0 : nKi (qNd s (qOp s)) = 0 := nI_e (by omega) (by decide) c101
                  exact ⟨rfl, hF, Or.inl ⟨a, hP.2.2.2, Cn_bad hC hP.2.2.2 (fun _ => by rw [h41.2]; exact dl_cln hhd (Or.inr hk0)) (fun q => absurd h41.1 q), by rw [hP.2.2.1]⟩⟩
          · refine wp_iload_n dX9_goAlong_60 rfl ?_
            refine wp_if_gt (tgt := 73) dX9_goAlong_61 (by decide) (fun c61 => ?_) (fun c61 => ?_)
            · refine wp_aload_n dX9_goAlong_73 rfl ?_
              refine wp_getI dX9_goAlong_74 fl_X9_121 rfl rfl ?_
              refine wp_goto (tgt := 81) dX9_goAlong_77 (by decide) ?_
              refine wp_ireturn dX9_goAlong_81 rfl rfl (Nat.zero_le _) (Nat.zero_le _) ?_
              have hend := Cn_end hC ((hv_no (hb a)).mp c57) hP.2.2.2
              have hlen : a = tp.length := by have := (hv_no (hb a)).mp c57; have := hP.2.2.2; omega
              refine ⟨rfl, hF, Or.inl ⟨a, hP.2.2.2, ?_, by rw [hT.1, hlen]⟩⟩
              rw [hend, if_neg]
              intro w
              have := ((wh_iff hhd hg).mp w).1
              rw [this] at c61
              exact absurd c61 (by decide)
            · refine wp_aload_n dX9_goAlong_64 rfl ?_
              refine wp_getR dX9_goAlong_65 fl_X9_35 rfl rfl (hG 10) ?_
              refine wp_iconst (v := 0) dX9_goAlong_68 rfl ?_
              refine wp_iaload dX9_goAlong_69 rfl (vp_in_nI (n := 0) (N := 25) (by decide) (by decide)) ?_
              refine wp_if_ne (tgt := 80) dX9_goAlong_70 (by decide) (fun c70 => ?_) (fun c70 => ?_)
              · refine wp_iconst (v := (-1)) dX9_goAlong_80 rfl ?_
                refine wp_ireturn dX9_goAlong_81 rfl rfl (Nat.zero_le _) (Nat.zero_le _) ?_
                have hend := Cn_end hC ((hv_no (hb a)).mp c57) hP.2.2.2
                have hlen : a = tp.length := by have := (hv_no (hb a)).mp c57; have := hP.2.2.2; omega
                rw [show (0 : Int32).toNatClampNeg = 0 from rfl, e0] at c70
                have hd0 : qDep s = 0 := Decidable.byContradiction fun e => c61 (by rw [Int32.lt_iff_toInt_lt, nI_toInt (by omega)]; show (0 : Int) < _; omega)
                have hk0 : 0 < nKi (qNd s 0) := Nat.pos_of_ne_zero fun e => c70 (by rw [e]; rfl)
                refine ⟨rfl, hF, Or.inr ⟨a, s, ?_, hC.2, rfl, h3, hmn⟩⟩
                rw [hend, if_pos ((wh_iff hhd hg).mpr ⟨hd0, hk0⟩)]
              · refine wp_aload_n dX9_goAlong_73 rfl ?_
                refine wp_getI dX9_goAlong_74 fl_X9_121 rfl rfl ?_
                refine wp_goto (tgt := 81) dX9_goAlong_77 (by decide) ?_
                refine wp_ireturn dX9_goAlong_81 rfl rfl (Nat.zero_le _) (Nat.zero_le _) ?_
                have hend := Cn_end hC ((hv_no (hb a)).mp c57) hP.2.2.2
                have hlen : a = tp.length := by have := (hv_no (hb a)).mp c57; have := hP.2.2.2; omega
                rw [show (0 : Int32).toNatClampNeg = 0 from rfl, e0] at c70
                have hk0 : nKi (qNd s 0) = 0 := nI_e (by omega) (by decide) c70
                refine ⟨rfl, hF, Or.inl ⟨a, hP.2.2.2, ?_, by rw [hT.1, hlen]⟩⟩
                rw [hend, if_neg]
                intro w
                have := ((wh_iff hhd hg).mp w).2
                omega
        · refine wp_aload_n dX9_goAlong_39 rfl ?_
          refine wp_dup dX9_goAlong_40 rfl ?_
          refine wp_getI dX9_goAlong_41 fl_X9_124 rfl rfl ?_
          refine wp_iconst (v := 1) dX9_goAlong_44 rfl ?_
          refine wp_iadd dX9_goAlong_45 ?_
          refine wp_putI dX9_goAlong_46 fl_X9_124 rfl rfl (fun _ _ _ h => by cases h; rfl) rfl rfl ?_
          refine wp_goto (tgt := 30) dX9_goAlong_49 (by decide) ?_
          have q := (hv_is (c := 32) (hb a) (by decide)).mp c36
          rw [at_inc hP]
          refine ihr (a + 1) (rGo s 0) _ ⟨hF.sI (by simp), Ps_at hP q.1, Cn_step hC q.1 (by rw [q.2]; exact dl_sp hhd), h24, h3, hmn, hkc, Or.inl rfl⟩ hn (by omega)
    intro a s M1 hI hn
    have h24 := hI.2.2.2.1
    refine wp_aload_n dX9_goAlong_23 rfl ?_
    refine wp_getI dX9_goAlong_24 fl_X9_127 rfl rfl ?_
    refine wp_if_ne (tgt := 335) dX9_goAlong_27 (by decide) (fun c27 => absurd h24 c27) (fun c27 => ?_)
    exact J30 _ a s M1 hI hn (Nat.lt_succ_self _)
set_option maxRecDepth 100000 in
set_option maxHeartbeats 4000000 in
theorem cX9_goAlong_ (E : GE) (tp : List Nat) (M : Mem) (hG : rmG M) (hT : rmT M tp) : Sp E mX9_goAlong 4 0 0 [.ref 121] SH M (pGo M tp) := by
  refine sp_of vX9_goAlong.1 rfl (Nat.le_of_ble_eq_true rfl) ?_
  obtain ⟨M0, hM0⟩ : ∃ M0, M0 = sI (sI (sI M 121 23 0) 121 24 0) 121 3 0 := ⟨_, rfl⟩
  have hF0 : mPF M M0 := by rw [hM0]; exact ((Fr.rf.sI (by simp)).sI (by simp)).sI (by simp)
  have hG0 : rmG M0 := hG.fr hF0
  have h30 : fI M0 121 3 = nI 0 := by rw [hM0]; rfl
  have h240 : fI M0 121 24 = 0 := by rw [hM0]; rfl
  have h230 : fI M0 121 23 = nI 0 := by rw [hM0]; rfl
  obtain ⟨hF1, hN1⟩ := mNew_F (M := M0) (k := 0) (g := -1)
  have hT1 : rmT (mNew M0 0 (-1)) tp := hT.fr (hF0.tr hF1) (by decide) (by decide)
  have hI : GI M (mNew M0 0 (-1)) tp 0 r0 := ⟨hF0.tr hF1, ⟨hG0.fr hF1, hT1, h230, Nat.zero_le _⟩, ⟨rfl, aOk_r0⟩, h240, rfl, fun j hj => by
    have : j = 0 := by have : j < 1 := hj; omega
    rw [this]; exact mN_0 rfl, trivial, Or.inl rfl⟩
  refine wp_aload_n dX9_goAlong_0 rfl ?_
  refine wp_iconst (v := 0) dX9_goAlong_1 rfl ?_
  refine wp_putI dX9_goAlong_2 fl_X9_124 rfl rfl (fun _ _ _ h => by cases h; rfl) rfl rfl ?_
  refine wp_aload_n dX9_goAlong_5 rfl ?_
  refine wp_iconst (v := 0) dX9_goAlong_6 rfl ?_
  refine wp_putI dX9_goAlong_7 fl_X9_127 rfl rfl (fun _ _ _ h => by cases h; rfl) rfl rfl ?_
  refine wp_aload_n dX9_goAlong_10 rfl ?_
  refine wp_iconst (v := 0) dX9_goAlong_11 rfl ?_
  refine wp_putI dX9_goAlong_12 fl_X9_131 rfl rfl (fun _ _ _ h => by cases h; rfl) rfl rfl ?_
  rw [← hM0]
  refine wp_aload_n dX9_goAlong_15 rfl ?_
  refine wp_iconst (v := (-1)) dX9_goAlong_16 rfl ?_
  refine wp_cV1i dX9_goAlong_17 ml_X9_173 vX9_newNode ⟨8, (RX9, TX9, 39), rfl, rfl, rfl⟩ (cX9_newNode_ E 0 (-1) M0 hG0 (by decide) h30) (Nat.le_of_ble_eq_true rfl) (Nat.le_of_ble_eq_true rfl) (Nat.le_of_ble_eq_true rfl) ?_
  refine wp_istore_n dX9_goAlong_20 (Nat.le_of_ble_eq_true rfl) ?_
  refine wp_iconst (v := 0) dX9_goAlong_21 rfl ?_
  refine wp_istore_n dX9_goAlong_22 (Nat.le_of_ble_eq_true rfl) ?_
  exact wp_lv (go_loop E M tp _ 0 r0 _ hI (Nat.lt_succ_self _)) (by repeat (first | exact trivial | refine ⟨rfl, ?_⟩))
