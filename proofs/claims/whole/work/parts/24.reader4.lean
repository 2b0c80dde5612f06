/-! ===== the reader: cores, gaps ===== -/
theorem room_i {n k : Nat} (hn : n ≤ 25) (hk : k ≤ 5) : (¬ (25 : Int32) < nI n + nI k) ↔ n + k ≤ 25 := by
  rw [nI_add, show (25 : Int32) = nI 25 from rfl, nI_ltI (by decide) (by omega)]
  omega
set_option maxRecDepth 100000 in
set_option maxHeartbeats 4000000 in
theorem cX4_canBeginCore_ (E : GE) (T : Nat) (s : RS) (M : Mem) (hR : RR M T s) (hd5 : qDep s ≤ 5) (b nw : Nat) (hb : b < 256) (hnw : nw ≤ 2) : Sp E mX4_canBeginCore 2 0 0 [.ref 56, .int (nI b), .int (nI nw)] SH M (RV (some (.int (b2i (rCan s b nw)))) SH M) := by
  refine sp_of vX4_canBeginCore.1 rfl (Nat.le_of_ble_eq_true rfl) ?_
  have hT := hR.2.1
  have h25 := hR.2.2.2.2.2.2.2.1
  have hcn : fI M T 1 = nI (qCn s) := hR.2.2.2.2.2.2.1
  refine wp_iload_n dX4_canBeginCore_0 rfl ?_
  refine wp_bipush (v := 40) dX4_canBeginCore_1 (by decide) ?_
  refine wp_icmp_ne (tgt := 33) dX4_canBeginCore_3 (by decide) (fun c3 => ?_) (fun c3 => ?_)
  · refine wp_aload_n dX4_canBeginCore_33 rfl ?_
    refine wp_getR dX4_canBeginCore_34 fl_X4_12 rfl rfl hR.1 ?_
    refine wp_iload_n dX4_canBeginCore_37 rfl ?_
    refine wp_cV1i dX4_canBeginCore_38 ml_X4_110 vX7_hasRoom (isO_T hT) (cX7_hasRoom_ E T _ M hT hR.2.2.1) (Nat.le_of_ble_eq_true rfl) (Nat.le_of_ble_eq_true rfl) (Nat.le_of_ble_eq_true rfl) ?_
    refine wp_if_eq (tgt := 73) dX4_canBeginCore_41 (by decide) (fun c41 => ?_) (fun c41 => ?_)
    · refine wp_iconst (v := 0) dX4_canBeginCore_73 rfl ?_
      refine wp_ireturn dX4_canBeginCore_74 rfl rfl (Nat.zero_le _) (Nat.zero_le _) ?_
      have e : b ≠ 40 := fun e => c3 (by rw [e]; rfl)
      refine ⟨?_, rfl, rfl⟩
      congr 2
      rw [hcn] at c41
      first
        | (have c41 := b2i_e0.mp c41
           exact (b2i_f (fun h => by rcases h with h | h; exact e h.1; exact c41 ((room_i h25 (by omega)).mpr h.2.1))).symm)
        | (have c41 := b2i_ne.mp c41
           refine (b2i_t (Or.inr ⟨e, (room_i h25 (by omega)).mp c41, ?_⟩)).symm
           first
             | exact Or.inl ((isSg_i hb).mp (b2i_ne.mp c48))
             | exact Or.inr (Or.inl ((nIb hb (by decide)).mp c54))
             | exact Or.inr (Or.inr (Or.inl ((nIb hb (by decide)).mp c60)))
             | exact Or.inr (Or.inr (Or.inr ((nIb hb (by decide)).mp c66))))
        | (refine (b2i_f (fun h => ?_)).symm
           rcases h with h | ⟨-, -, h | h | h | h⟩
           · exact e h.1
           · exact b2i_e0.mp c48 ((isSg_i hb).mpr h)
           · exact c54 (by rw [h]; rfl)
           · exact c60 (by rw [h]; rfl)
           · exact c66 (by rw [h]; rfl))
    · refine wp_iload_n dX4_canBeginCore_44 rfl ?_
      refine wp_cS1i dX4_canBeginCore_45 ml_X4_117 sX2_isSign (cX2_isSign_ E _ _ _) (Nat.le_of_ble_eq_true rfl) (Nat.le_of_ble_eq_true rfl) (Nat.le_of_ble_eq_true rfl) ?_
      refine wp_if_ne (tgt := 69) dX4_canBeginCore_48 (by decide) (fun c48 => ?_) (fun c48 => ?_)
      · refine wp_iconst (v := 1) dX4_canBeginCore_69 rfl ?_
        refine wp_goto (tgt := 74) dX4_canBeginCore_70 (by decide) ?_
        refine wp_ireturn dX4_canBeginCore_74 rfl rfl (Nat.zero_le _) (Nat.zero_le _) ?_
        have e : b ≠ 40 := fun e => c3 (by rw [e]; rfl)
        refine ⟨?_, rfl, rfl⟩
        congr 2
        rw [hcn] at c41
        first
          | (have c41 := b2i_e0.mp c41
             exact (b2i_f (fun h => by rcases h with h | h; exact e h.1; exact c41 ((room_i h25 (by omega)).mpr h.2.1))).symm)
          | (have c41 := b2i_ne.mp c41
             refine (b2i_t (Or.inr ⟨e, (room_i h25 (by omega)).mp c41, ?_⟩)).symm
             first
               | exact Or.inl ((isSg_i hb).mp (b2i_ne.mp c48))
               | exact Or.inr (Or.inl ((nIb hb (by decide)).mp c54))
               | exact Or.inr (Or.inr (Or.inl ((nIb hb (by decide)).mp c60)))
               | exact Or.inr (Or.inr (Or.inr ((nIb hb (by decide)).mp c66))))
          | (refine (b2i_f (fun h => ?_)).symm
             rcases h with h | ⟨-, -, h | h | h | h⟩
             · exact e h.1
             · exact b2i_e0.mp c48 ((isSg_i hb).mpr h)
             · exact c54 (by rw [h]; rfl)
             · exact c60 (by rw [h]; rfl)
             · exact c66 (by rw [h]; rfl))
      · refine wp_iload_n dX4_canBeginCore_51 rfl ?_
        refine wp_bipush (v := 34) dX4_canBeginCore_52 (by decide) ?_
        refine wp_icmp_eq (tgt := 69) dX4_canBeginCore_54 (by decide) (fun c54 => ?_) (fun c54 => ?_)
        · refine wp_iconst (v := 1) dX4_canBeginCore_69 rfl ?_
          refine wp_goto (tgt := 74) dX4_canBeginCore_70 (by decide) ?_
          refine wp_ireturn dX4_canBeginCore_74 rfl rfl (Nat.zero_le _) (Nat.zero_le _) ?_
          have e : b ≠ 40 := fun e => c3 (by rw [e]; rfl)
          refine ⟨?_, rfl, rfl⟩
          congr 2
          rw [hcn] at c41
          first
            | (have c41 := b2i_e0.mp c41
               exact (b2i_f (fun h => by rcases h with h | h; exact e h.1; exact c41 ((room_i h25 (by omega)).mpr h.2.1))).symm)
            | (have c41 := b2i_ne.mp c41
               refine (b2i_t (Or.inr ⟨e, (room_i h25 (by omega)).mp c41, ?_⟩)).symm
               first
                 | exact Or.inl ((isSg_i hb).mp (b2i_ne.mp c48))
                 | exact Or.inr (Or.inl ((nIb hb (by decide)).mp c54))
                 | exact Or.inr (Or.inr (Or.inl ((nIb hb (by decide)).mp c60)))
                 | exact Or.inr (Or.inr (Or.inr ((nIb hb (by decide)).mp c66))))
            | (refine (b2i_f (fun h => ?_)).symm
               rcases h with h | ⟨-, -, h | h | h | h⟩
               · exact e h.1
               · exact b2i_e0.mp c48 ((isSg_i hb).mpr h)
               · exact c54 (by rw [h]; rfl)
               · exact c60 (by rw [h]; rfl)
               · exact c66 (by rw [h]; rfl))
        · refine wp_iload_n dX4_canBeginCore_57 rfl ?_
          refine wp_bipush (v := 91) dX4_canBeginCore_58 (by decide) ?_
          refine wp_icmp_eq (tgt := 69) dX4_canBeginCore_60 (by decide) (fun c60 => ?_) (fun c60 => ?_)
          · refine wp_iconst (v := 1) dX4_canBeginCore_69 rfl ?_
            refine wp_goto (tgt := 74) dX4_canBeginCore_70 (by decide) ?_
            refine wp_ireturn dX4_canBeginCore_74 rfl rfl (Nat.zero_le _) (Nat.zero_le _) ?_
            have e : b ≠ 40 := fun e => c3 (by rw [e]; rfl)
            refine ⟨?_, rfl, rfl⟩
            congr 2
            rw [hcn] at c41
            first
              | (have c41 := b2i_e0.mp c41
                 exact (b2i_f (fun h => by rcases h with h | h; exact e h.1; exact c41 ((room_i h25 (by omega)).mpr h.2.1))).symm)
              | (have c41 := b2i_ne.mp c41
                 refine (b2i_t (Or.inr ⟨e, (room_i h25 (by omega)).mp c41, ?_⟩)).symm
                 first
                   | exact Or.inl ((isSg_i hb).mp (b2i_ne.mp c48))
                   | exact Or.inr (Or.inl ((nIb hb (by decide)).mp c54))
                   | exact Or.inr (Or.inr (Or.inl ((nIb hb (by decide)).mp c60)))
                   | exact Or.inr (Or.inr (Or.inr ((nIb hb (by decide)).mp c66))))
              | (refine (b2i_f (fun h => ?_)).symm
                 rcases h with h | ⟨-, -, h | h | h | h⟩
                 · exact e h.1
                 · exact b2i_e0.mp c48 ((isSg_i hb).mpr h)
                 · exact c54 (by rw [h]; rfl)
                 · exact c60 (by rw [h]; rfl)
                 · exact c66 (by rw [h]; rfl))
          · refine wp_iload_n dX4_canBeginCore_63 rfl ?_
            refine wp_bipush (v := 123) dX4_canBeginCore_64 (by decide) ?_
            refine wp_icmp_ne (tgt := 73) dX4_canBeginCore_66 (by decide) (fun c66 => ?_) (fun c66 => ?_)
            · refine wp_iconst (v := 0) dX4_canBeginCore_73 rfl ?_
              refine wp_ireturn dX4_canBeginCore_74 rfl rfl (Nat.zero_le _) (Nat.zero_le _) ?_
              have e : b ≠ 40 := fun e => c3 (by rw [e]; rfl)
              refine ⟨?_, rfl, rfl⟩
              congr 2
              rw [hcn] at c41
              first
                | (have c41 := b2i_e0.mp c41
                   exact (b2i_f (fun h => by rcases h with h | h; exact e h.1; exact c41 ((room_i h25 (by omega)).mpr h.2.1))).symm)
                | (have c41 := b2i_ne.mp c41
                   refine (b2i_t (Or.inr ⟨e, (room_i h25 (by omega)).mp c41, ?_⟩)).symm
                   first
                     | exact Or.inl ((isSg_i hb).mp (b2i_ne.mp c48))
                     | exact Or.inr (Or.inl ((nIb hb (by decide)).mp c54))
                     | exact Or.inr (Or.inr (Or.inl ((nIb hb (by decide)).mp c60)))
                     | exact Or.inr (Or.inr (Or.inr ((nIb hb (by decide)).mp c66))))
                | (refine (b2i_f (fun h => ?_)).symm
                   rcases h with h | ⟨-, -, h | h | h | h⟩
                   · exact e h.1
                   · exact b2i_e0.mp c48 ((isSg_i hb).mpr h)
                   · exact c54 (by rw [h]; rfl)
                   · exact c60 (by rw [h]; rfl)
                   · exact c66 (by rw [h]; rfl))
            · refine wp_iconst (v := 1) dX4_canBeginCore_69 rfl ?_
              refine wp_goto (tgt := 74) dX4_canBeginCore_70 (by decide) ?_
              refine wp_ireturn dX4_canBeginCore_74 rfl rfl (Nat.zero_le _) (Nat.zero_le _) ?_
              have e : b ≠ 40 := fun e => c3 (by rw [e]; rfl)
              refine ⟨?_, rfl, rfl⟩
              congr 2
              rw [hcn] at c41
              first
                | (have c41 := b2i_e0.mp c41
                   exact (b2i_f (fun h => by rcases h with h | h; exact e h.1; exact c41 ((room_i h25 (by omega)).mpr h.2.1))).symm)
                | (have c41 := b2i_ne.mp c41
                   refine (b2i_t (Or.inr ⟨e, (room_i h25 (by omega)).mp c41, ?_⟩)).symm
                   first
                     | exact Or.inl ((isSg_i hb).mp (b2i_ne.mp c48))
                     | exact Or.inr (Or.inl ((nIb hb (by decide)).mp c54))
                     | exact Or.inr (Or.inr (Or.inl ((nIb hb (by decide)).mp c60)))
                     | exact Or.inr (Or.inr (Or.inr ((nIb hb (by decide)).mp c66))))
                | (refine (b2i_f (fun h => ?_)).symm
                   rcases h with h | ⟨-, -, h | h | h | h⟩
                   · exact e h.1
                   · exact b2i_e0.mp c48 ((isSg_i hb).mpr h)
                   · exact c54 (by rw [h]; rfl)
                   · exact c60 (by rw [h]; rfl)
                   · exact c66 (by rw [h]; rfl))
  · refine wp_aload_n dX4_canBeginCore_6 rfl ?_
    refine wp_getI dX4_canBeginCore_7 fl_X4_22 rfl rfl ?_
    refine wp_iconst (v := 5) dX4_canBeginCore_10 rfl ?_
    refine wp_icmp_ge (tgt := 31) dX4_canBeginCore_11 (by decide) (fun c11 => ?_) (fun c11 => ?_)
    · refine wp_iconst (v := 0) dX4_canBeginCore_31 rfl ?_
      refine wp_ireturn dX4_canBeginCore_32 rfl rfl (Nat.zero_le _) (Nat.zero_le _) ?_
      have e : b = 40 := (nIb hb (by decide)).mp c3
      refine ⟨?_, rfl, rfl⟩
      congr 2
      rw [hR.2.2.2.2.1] at c11
      first
        | exact (b2i_f (fun h => by rcases h with h | h; exact nI_ge (b := 5) h.2.1 (by decide) c11; exact h.1 e)).symm
        | (rw [hcn, nI_1] at c24
           have c24 := b2i_e0.mp c24
           exact (b2i_f (fun h => by rcases h with h | h; exact c24 ((room_i h25 (by omega)).mpr h.2.2); exact h.1 e)).symm)
        | (rw [hcn, nI_1] at c24
           have c24 := b2i_ne.mp c24
           exact (b2i_t (Or.inl ⟨e, Decidable.byContradiction fun q => c11 (nI_le (a := 5) (by omega) (by omega)), (room_i h25 (by omega)).mp c24⟩)).symm)
    · refine wp_aload_n dX4_canBeginCore_14 rfl ?_
      refine wp_getR dX4_canBeginCore_15 fl_X4_12 rfl rfl hR.1 ?_
      refine wp_iload_n dX4_canBeginCore_18 rfl ?_
      refine wp_iconst (v := 1) dX4_canBeginCore_19 rfl ?_
      refine wp_iadd dX4_canBeginCore_20 ?_
      refine wp_cV1i dX4_canBeginCore_21 ml_X4_110 vX7_hasRoom (isO_T hT) (cX7_hasRoom_ E T _ M hT hR.2.2.1) (Nat.le_of_ble_eq_true rfl) (Nat.le_of_ble_eq_true rfl) (Nat.le_of_ble_eq_true rfl) ?_
      refine wp_if_eq (tgt := 31) dX4_canBeginCore_24 (by decide) (fun c24 => ?_) (fun c24 => ?_)
      · refine wp_iconst (v := 0) dX4_canBeginCore_31 rfl ?_
        refine wp_ireturn dX4_canBeginCore_32 rfl rfl (Nat.zero_le _) (Nat.zero_le _) ?_
        have e : b = 40 := (nIb hb (by decide)).mp c3
        refine ⟨?_, rfl, rfl⟩
        congr 2
        rw [hR.2.2.2.2.1] at c11
        first
          | exact (b2i_f (fun h => by rcases h with h | h; exact nI_ge (b := 5) h.2.1 (by decide) c11; exact h.1 e)).symm
          | (rw [hcn, nI_1] at c24
             have c24 := b2i_e0.mp c24
             exact (b2i_f (fun h => by rcases h with h | h; exact c24 ((room_i h25 (by omega)).mpr h.2.2); exact h.1 e)).symm)
          | (rw [hcn, nI_1] at c24
             have c24 := b2i_ne.mp c24
             exact (b2i_t (Or.inl ⟨e, Decidable.byContradiction fun q => c11 (nI_le (a := 5) (by omega) (by omega)), (room_i h25 (by omega)).mp c24⟩)).symm)
      · refine wp_iconst (v := 1) dX4_canBeginCore_27 rfl ?_
        refine wp_goto (tgt := 32) dX4_canBeginCore_28 (by decide) ?_
        refine wp_ireturn dX4_canBeginCore_32 rfl rfl (Nat.zero_le _) (Nat.zero_le _) ?_
        have e : b = 40 := (nIb hb (by decide)).mp c3
        refine ⟨?_, rfl, rfl⟩
        congr 2
        rw [hR.2.2.2.2.1] at c11
        first
          | exact (b2i_f (fun h => by rcases h with h | h; exact nI_ge (b := 5) h.2.1 (by decide) c11; exact h.1 e)).symm
          | (rw [hcn, nI_1] at c24
             have c24 := b2i_e0.mp c24
             exact (b2i_f (fun h => by rcases h with h | h; exact c24 ((room_i h25 (by omega)).mpr h.2.2); exact h.1 e)).symm)
          | (rw [hcn, nI_1] at c24
             have c24 := b2i_ne.mp c24
             exact (b2i_t (Or.inl ⟨e, Decidable.byContradiction fun q => c11 (nI_le (a := 5) (by omega) (by omega)), (room_i h25 (by omega)).mp c24⟩)).symm)
theorem cN_co {M : Mem} {p : Nat} {x : ND} {c v : Int32} (h : cNode M p x) (h0 : nCo x = 0) (hk : nKi x = 0) (hw : nWo x = []) (hc : c ≠ 0) : cNode (sI (sI M p 0 c) p 4 v) p (nsDe (nsCo x c) v) := by
  obtain ⟨a0, a1, a2, a3, a4, a5, a6, a7⟩ := h
  have hz : nSz (nsDe (nsCo x c) v) = nSz x := by
    unfold nSz
    rw [if_neg (show ¬ nCo (nsDe (nsCo x c) v) = 0 from hc), if_pos h0]
    have e1 : nKi (nsDe (nsCo x c) v) = 0 := hk
    have e2 : nWo (nsDe (nsCo x c) v) = [] := hw
    have e3 : nWd x 0 = [] := by unfold nWd; rw [hw]; rfl
    rw [e1, e2, e3]
    split <;> rfl
  refine ⟨?_, ?_, ?_, ?_, ?_, ?_, ?_, a7⟩
  · simp only [fI_sI]; simp; rfl
  · simp only [fI_sI]; simp; exact a1
  · simp only [fI_sI]; simp; exact a2
  · simp only [fI_sI]; simp; exact a3
  · simp only [fI_sI]; simp; rfl
  · simp only [fI_sI]; simp; rw [hz]; exact a5
  · simp only [fI_sI]; simp; exact a6
theorem cN_co1 {M : Mem} {p : Nat} {x : ND} {c : Int32} (h : cNode M p x) (h0 : nCo x = 0) (hk : nKi x = 0) (hw : nWo x = []) (hc : c ≠ 0) : cNode (sI M p 0 c) p (nsCo x c) := by
  obtain ⟨a0, a1, a2, a3, a4, a5, a6, a7⟩ := h
  have hz : nSz (nsCo x c) = nSz x := by
    unfold nSz
    rw [if_neg (show ¬ nCo (nsCo x c) = 0 from hc), if_pos h0]
    have e1 : nKi (nsCo x c) = 0 := hk
    have e2 : nWo (nsCo x c) = [] := hw
    have e3 : nWd x 0 = [] := by unfold nWd; rw [hw]; rfl
    rw [e1, e2, e3]
    split <;> rfl
  refine ⟨?_, ?_, ?_, ?_, ?_, ?_, ?_, a7⟩
  · simp only [fI_sI]; simp; rfl
  · simp only [fI_sI]; simp; exact a1
  · simp only [fI_sI]; simp; exact a2
  · simp only [fI_sI]; simp; exact a3
  · simp only [fI_sI]; simp; exact a4
  · simp only [fI_sI]; simp; rw [hz]; exact a5
  · simp only [fI_sI]; simp; exact a6
/-- two fields of the clause at hand -/
theorem RR_f2 {M : Mem} {T f g : Nat} {s : RS} {v w : Int32} {x : ND} (h : RR M T s) (hc : qCu s < qCn s) (hx : cNode (sI (sI M (T + 2 + 2 * qCu s) f v) (T + 2 + 2 * qCu s) g w) (T + 2 + 2 * qCu s) x) : RR (sI (sI M (T + 2 + 2 * qCu s) f v) (T + 2 + 2 * qCu s) g w) T (rNd s x) := by
  obtain ⟨a, b, c, d, e, k, i⟩ := h
  have h25 := i.2.1
  have hne := Tne (k := qCu s) b (by omega)
  refine ⟨a, b, c, ?_, ?_, ?_, ?_⟩
  · simp only [fI_sI]; rw [if_neg (fun q => hne.2.1 q.1.symm), if_neg (fun q => hne.2.1 q.1.symm)]; exact d
  · simp only [fI_sI]; rw [if_neg (fun q => hne.2.1 q.1.symm), if_neg (fun q => hne.2.1 q.1.symm)]; exact e
  · simp only [fI_sI]; rw [if_neg (fun q => hne.2.1 q.1.symm), if_neg (fun q => hne.2.1 q.1.symm)]; exact k
  · exact cTree_upd i hc (by simp only [fI_sI]; rw [if_neg (by omega), if_neg (by omega)]) (fun k hk hkc => ⟨fun f => by simp only [fI_sI]; rw [if_neg (by omega), if_neg (by omega)], fun i => rfl⟩) hx
set_option maxRecDepth 100000 in
set_option maxHeartbeats 4000000 in
theorem cX4_openGroup_ (E : GE) (T : Nat) (s : RS) (M : Mem) (hR : RR M T s) (hC : RRc M T s) (hcu : qCu s < qCn s) (hf0 : nCo (rCur s) = 0) (hfk : nKi (rCur s) = 0) (hfw : nWo (rCur s) = []) (hd5 : qDep s < 5) : Sp E mX4_openGroup 1 0 0 [.ref 56] SH M (pO T M (some (rOpen s))) := by
  refine sp_of vX4_openGroup.1 rfl (Nat.le_of_ble_eq_true rfl) ?_
  have hT := hR.2.1
  have h25 := hR.2.2.2.2.2.2.2.1
  have hc := isC_tree (k := qCu s) hT (by omega)
  have h7 := hR.2.2.1.2.2 (qCu s) (by omega)
  have hc4 : fR M 56 4 = some (T + 2 + 2 * qCu s) := hC
  have hne := Tne (k := qCu s) hT (by omega)
  refine wp_aload_n dX4_openGroup_0 rfl ?_
  refine wp_getR dX4_openGroup_1 fl_X4_31 rfl rfl hc4 ?_
  refine wp_iconst (v := 3) dX4_openGroup_4 rfl ?_
  refine wp_putI dX4_openGroup_5 fl_X4_125 hc.1 rfl (fun _ _ _ h => by cases h; rfl) rfl rfl ?_
  refine wp_aload_n dX4_openGroup_8 rfl ?_
  refine wp_getR dX4_openGroup_9 fl_X4_31 rfl rfl hc4 ?_
  refine wp_iconst (v := (-1)) dX4_openGroup_12 rfl ?_
  refine wp_putI dX4_openGroup_13 fl_X4_128 hc.1 rfl (fun _ _ _ h => by cases h; rfl) rfl rfl ?_
  refine wp_aload_n dX4_openGroup_16 rfl ?_
  refine wp_aload_n dX4_openGroup_17 rfl ?_
  refine wp_getR dX4_openGroup_18 fl_X4_12 rfl rfl hR.1 ?_
  refine wp_getI dX4_openGroup_21 fl_X4_134 (sh_T hT).1 rfl ?_
  refine wp_iconst (v := 1) dX4_openGroup_24 rfl ?_
  refine wp_isub dX4_openGroup_25 ?_
  refine wp_putI dX4_openGroup_26 fl_X4_25 rfl rfl (fun _ _ _ h => by cases h; rfl) rfl rfl ?_
  refine wp_aload_n dX4_openGroup_29 rfl ?_
  refine wp_dup dX4_openGroup_30 rfl ?_
  refine wp_getI dX4_openGroup_31 fl_X4_22 rfl rfl ?_
  refine wp_iconst (v := 1) dX4_openGroup_34 rfl ?_
  refine wp_iadd dX4_openGroup_35 ?_
  refine wp_putI dX4_openGroup_36 fl_X4_22 rfl rfl (fun _ _ _ h => by cases h; rfl) rfl rfl ?_
  refine wp_aload_n dX4_openGroup_39 rfl ?_
  refine wp_iconst (v := 0) dX4_openGroup_40 rfl ?_
  refine wp_cV1i dX4_openGroup_41 ml_X4_82 vX4_goTo ⟨3, (RX4, TX4, 8), rfl, rfl, rfl⟩ (cX4_goTo_ E _ _) (Nat.le_of_ble_eq_true rfl) (Nat.le_of_ble_eq_true rfl) (Nat.le_of_ble_eq_true rfl) ?_
  refine wp_ireturn dX4_openGroup_44 rfl rfl (Nat.zero_le _) (Nat.zero_le _) ?_
  have hR2 := RR_f2 (f := 0) (g := 4) (v := 3) (w := -1) hR hcu (cN_co (cN_of hR hcu) hf0 hfk hfw (by decide))
  obtain ⟨a, b, c, d, e, k, i⟩ := hR2
  have hpos : 0 < qCn s := by omega
  refine pO_yes (s1 := rOpen s) rfl (((((FrT.rf.sI (Or.inr ⟨by omega, by omega⟩)).sI (Or.inr ⟨by omega, by omega⟩)).sI (Or.inl rfl)).sI (Or.inl rfl)).sI (Or.inl rfl)) ⟨⟨a, b, c, rfl, ?_, ?_, cTree_56 hT (cTree_56 hT (cTree_56 hT i))⟩, fun h => absurd rfl h, fun h => absurd h (show ¬ wdSt 0 by decide)⟩
  · have e : fI (sI (sI M (T + 2 + 2 * qCu s) 0 3) (T + 2 + 2 * qCu s) 4 (-1)) 56 2 = nI (qDep s) := e
    show fI (sI (sI M (T + 2 + 2 * qCu s) 0 3) (T + 2 + 2 * qCu s) 4 (-1)) 56 2 + 1 = nI (qDep s + 1)
    rw [e, nI_1]
  · have i1 : fI (sI (sI M (T + 2 + 2 * qCu s) 0 3) (T + 2 + 2 * qCu s) 4 (-1)) T 1 = nI (qCn s) := i.1
    show fI (sI (sI M (T + 2 + 2 * qCu s) 0 3) (T + 2 + 2 * qCu s) 4 (-1)) T 1 - 1 = nI (qCn s - 1)
    rw [i1, show qCn s = (qCn s - 1) + 1 by omega, nI_pred]
    rfl
