/-! ===== the law: its frame, its script, its end ===== -/
def lQ (_ : Array Value) (s : State) (o : Outcome) (t : State) : Prop := o = .returned (some (.int 1)) ∧ Framed s o t [] 603072 7262314
def lZ (below : List Frame) (a : Array Value) (s : State) : State → Prop := fun t => ∃ o, t.status = .running ∧ Ended t below o ∧ lQ a s o t
theorem nar1 : narrow .boolean (.int 1) = .int 1 := by decide
/-- the law's own end, with 1 on the stack -/
theorem lw_end {p : Program} {l : Launch} {e : Env} {R : Room} {s : State} {m : MethodId} {args : Array Value} {below : List Frame} {meth : Method} {c : Code} (hx : p.tables.exec = Jvm.exec) (hb : c.code = code) (hr : meth.sig.returnType = ret) (hlocks : meth.locks = false) {pc : Nat} {H : Heap} {ls : Array Slot} {locs : List Loc} {kc ks : Nat} (hloc : ∀ z ∈ locs, s.heap.size ≤ z.base) (hkc : kc ≤ 603072) (hks : ks ≤ 7262314) (hdg : decode code pc = .ok (.ireturn, 1)) : W p l e R s m args below meth c H locs kc ks (lZ below args s) (F0 m pc ls [.int 1]) := by
  intro T hT X0
  have X := stand_widen (Stand.forget (locs := []) (extra := locs) X0 hloc) hkc hks
  obtain ⟨fs, hret, hrun, hended, hW, hframe⟩ := X.leave (v := some (.int 1)) (hlocks := hlocks) (fun h => by rw [hr] at h; cases h)
  have hmeth' : T.vm.method? m = some meth := X.method'
  refine ⟨T.setFrames fs, ?_, .returned (some (.int 1)), hrun, hended, rfl, ⟨_, rfl⟩, hW, hframe⟩
  jvm_step X.here [X.here.top, hx, hb, hdg, hmeth', hr, ret, nar1]
  (try refine ⟨rfl, ?_⟩); (try refine ⟨rfl, ?_⟩)
  first | (intro acts; rw [hret _ acts rfl rfl rfl]) | rw [hret _ _ rfl rfl rfl]
  exact Steps.refl _
/-- the script's place -/
abbrev scP : Nat := 1000000
def SC (E : GE) (L : Nat) (xs : Nat → Int32) (s : State) (ad0 : Nat → Nat) : Prop := va_X (ad0 scP) L xs s s.heap ∧ ad0 scP < s.heap.size ∧ s.heap.size = E.2.2.2
abbrev mL_law : MM := (yL_law, RL, cL_law, 8, some .boolean)
abbrev xLaw (E : GE) (L : Nat) (xs : Nat → Int32) : MX := (E, mL_law, 12, 603072, 7262314, 0, [], fun below args s ad0 t => SC E L xs s ad0 → lZ below args s t)
section LAWI
variable {E : GE} {L : Nat} {xs : Nat → Int32} {kc ks pc : Nat} {lv : LV} {st : List Value} {sh : List Sh} {M : Mem}
theorem wp_sld {i : Nat} (hd : decode cL_law pc = .ok (.iaload, 1)) (hi : i < L) (hL : L ≤ 2560) (k : Wp (xLaw E L xs) kc ks (pc + 1) lv (.int (xs i) :: st) sh M) : Wp (xLaw E L xs) kc ks pc lv (.int (nI i) :: .ref scP :: st) sh M := by
  intro p e R s m args below meth c H locs ad0 ad ls C D
  by_cases h : SC E L xs s ad0
  · obtain ⟨hX, hlt, hB⟩ := h
    obtain ⟨hl, hw, hS, ov, os, ha, hn⟩ := id D
    have ea : ad scP = ad0 scP := ha scP (Or.inr (Nat.le_refl _))
    have hin : vp_in (nI i) L := vp_in_nI hi (by omega)
    have kk := k p e R s m args below meth c H locs ad0 ad ls C ⟨hl, hw, hS, ov, oks_i (oks_t2 os), ha, hn⟩
    have ec : (nI i).toNatClampNeg = i := nI_clamp (by omega)
    have hA : ¬ inA E.2.2.2 (ad0 scP) := fun z => by have z : E.2.2.2 ≤ ad0 scP := z; omega
    have := va_sld (i := nI i) (rest := st.map (cv ad)) (ls := ls) (l := E.1) (e := e) (R := R) (m := m) (args := args) (below := below) (meth := meth) (cells := kc) (slots := ks) (Q := (xLaw E L xs).2.2.2.2.2.2.2 below args s ad0) C.1.1 C.1.2.1 hX hlt hA hS hin hd (by rw [ec]; exact kk)
    rw [← ea] at this
    exact this
  · intro T hT X0
    exact ⟨_, Steps.refl _, fun z => absurd z h⟩
theorem wp_slen (hd : decode cL_law pc = .ok (.arraylength, 1)) (k : Wp (xLaw E L xs) kc ks (pc + 1) lv (.int (nI L) :: st) sh M) : Wp (xLaw E L xs) kc ks pc lv (.ref scP :: st) sh M := by
  intro p e R s m args below meth c H locs ad0 ad ls C D
  by_cases h : SC E L xs s ad0
  · obtain ⟨hX, hlt, hB⟩ := h
    obtain ⟨hl, hw, hS, ov, os, ha, hn⟩ := id D
    have ea : ad scP = ad0 scP := ha scP (Or.inr (Nat.le_refl _))
    have kk := k p e R s m args below meth c H locs ad0 ad ls C ⟨hl, hw, hS, ov, oks_i (oks_t os), ha, hn⟩
    have hA : ¬ inA E.2.2.2 (ad0 scP) := fun z => by have z : E.2.2.2 ≤ ad0 scP := z; omega
    have := va_slen (rest := st.map (cv ad)) (ls := ls) (l := E.1) (e := e) (R := R) (m := m) (args := args) (below := below) (meth := meth) (cells := kc) (slots := ks) (Q := (xLaw E L xs).2.2.2.2.2.2.2 below args s ad0) C.1.1 C.1.2.1 hX hlt hA hS hd kk
    rw [← ea] at this
    exact this
  · intro T hT X0
    exact ⟨_, Steps.refl _, fun z => absurd z h⟩
theorem wp_lawret (hd : decode cL_law pc = .ok (.ireturn, 1)) (hkc : kc ≤ 603072) (hks : ks ≤ 7262314) : Wp (xLaw E L xs) kc ks pc lv [.int 1] sh M := by
  intro p e R s m args below meth c H locs ad0 ad ls C D
  by_cases h : SC E L xs s ad0
  · obtain ⟨hX, hlt, hB⟩ := id h
    have hloc : ∀ z ∈ locs, s.heap.size ≤ z.base := fun z hz => by rw [hB]; exact D.2.2.1.2.2 z hz
    intro T hT X0
    obtain ⟨t, a, b⟩ := lw_end (ls := ls) C.1.1 C.1.2.1 C.2.2.1 C.2.1 hloc hkc hks hd T hT X0
    exact ⟨t, a, fun _ => b⟩
  · intro T hT X0
    exact ⟨_, Steps.refl _, fun z => absurd z h⟩
end LAWI
theorem and15 (x : Int32) : ∃ n, n < 16 ∧ x &&& 15 = nI n := by
  refine ⟨(x.toBitVec &&& 15#32).toNat, ?_, ?_⟩
  · rw [BitVec.toNat_and]
    exact Nat.lt_of_le_of_lt Nat.and_le_right (by decide)
  · apply Int32.toBitVec_inj.mp
    show _ = (Int32.ofNat _).toBitVec
    rw [Int32.toBitVec_ofNat', BitVec.ofNat_toNat]
    simp
theorem len5 {L i : Nat} (hL : L ≤ 2560) (hi : i ≤ 3000) : nI L - 5 < nI i ↔ L < i + 5 := by
  rw [show (5 : Int32) = nI 5 from rfl, nI_subI, Int32.lt_iff_toInt_lt, nI_toInt (by omega), Int32.toInt_ofInt, Int.bmod_def]
  simp only [show Int32.size = 4294967296 from rfl]
  split <;> omega
/-- what holds between two calls -/
def Inv (M : Mem) : Prop := ∃ (tp gn : List Nat) (q : QQ) (o : Option (List Nat)) (dc : Nat → List (List Nat)), RC M tp gn q o dc ∧ RM M tp gn q o dc ∧ QOk q ∧ dcOk dc
theorem dcOk_wd {dc : Nat → List (List Nat)} (h : dcOk dc) (hl : ∀ r, r < 32 → (dc r).length ≤ 12) (d f : Int32) (w : Int64) : dcOk (wdD dc d f w) := by
  unfold wdD
  split
  · next hdf =>
    split
    · next hp =>
      split
      · intro r hr p hp1
        by_cases e : r = rowD d f
        · subst e
          rw [va_up_self] at hp1 ⊢
          rw [getD_app]
          by_cases c : p = (dc (rowD d f)).length
          · rw [if_pos c]
            have hlen : (wl w).length = nb w := by unfold wl; exact feedB_len _ _
            have h8 := nb_le w
            refine ⟨⟨by rw [hlen]; exact h8, fun b hb => ?_⟩, fun e => ?_⟩
            · obtain ⟨i, hi, rfl⟩ := List.getElem_of_mem hb
              rw [hlen] at hi
              have e1 : (wl w)[i]'(by rw [hlen]; exact hi) = (wl w).getD i 0 := by rw [List.getD_eq_getElem?_getD, List.getElem?_eq_getElem (by rw [hlen]; exact hi)]; rfl
              rw [e1]
              unfold wl
              rw [feedB_at _ _ _ hi]
              have := hp.2 (nb w - 1 - i) (by omega)
              omega
            · rw [e] at hlen
              have hlen : 0 = nb w := hlen
              have := hp.1
              omega
          · rw [if_neg c]
            rw [List.length_append] at hp1
            have hp1 : p < (dc (rowD d f)).length + 1 := hp1
            exact h _ hr p (by omega)
        · rw [va_up_ne _ _ e] at hp1 ⊢
          exact h r hr p hp1
      · exact h
    · exact h
  · exact h
theorem dcOk_cl {dc : Nat → List (List Nat)} (h : dcOk dc) (d : Int32) : dcOk (clD dc d) := by
  unfold clD
  split
  · intro r hr p hp
    by_cases e : r / 4 = d.toNatClampNeg
    · simp only [e, if_true] at hp
      exact absurd hp (Nat.not_lt_zero p)
    · simp only [e, if_false] at hp ⊢
      exact h r hr p hp
  · exact h
