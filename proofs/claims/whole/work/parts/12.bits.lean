/-! ===== bytes of a long ===== -/
def bv (w : Int64) (k : Nat) : Nat := w.toBitVec.toNat / 2 ^ (8 * k) % 256
theorem bv_lt (w : Int64) (k : Nat) : bv w k < 256 := Nat.mod_lt _ (by decide)
theorem sh63 : ∀ k, k < 8 → ((8 * nI k).toInt64 &&& 63) = lN (8 * k) := by decide +kernel
theorem sh63u : ∀ k, k < 8 → ((8 * nI k).toInt64.toUInt64 &&& Int64.toUInt64 63) = UInt64.ofNat (8 * k) := by decide +kernel
theorem sm63 : ∀ k, k < 8 → ((lN (8 * k)).toBitVec.smod 64).toNat = 8 * k := by decide +kernel
theorem i32bv (x : Int64) : x.toInt32.toBitVec = x.toBitVec.setWidth 32 := by
  rw [Int64.toBitVec_toInt32]
  exact BitVec.signExtend_eq_setWidth_of_le _ (by decide)
theorem low8_s (w : Int64) (k : Nat) (hk : k < 8) : (w >>> ((8 * nI k).toInt64 &&& 63)).toInt32 &&& 255 = nI (bv w k) := by
  rw [pk_and _ 8 (by decide), sh63 k hk]
  congr 1
  unfold bv
  have e : (w >>> lN (8 * k)).toBitVec = w.toBitVec.sshiftRight (8 * k) := by
    show (w.toBitVec.sshiftRight' ((lN (8 * k)).toBitVec.smod 64)) = _
    rw [BitVec.sshiftRight', sm63 k hk]
  rw [i32bv, e, BitVec.toNat_setWidth]
  have h2 : ∀ a : BitVec 64, a.toNat % 2 ^ 32 % 2 ^ 8 = (a.setWidth 8).toNat := fun a => by rw [BitVec.toNat_setWidth]; omega
  rw [h2]
  have h3 : w.toBitVec.toNat / 2 ^ (8 * k) % 256 = ((w.toBitVec >>> (8 * k)).setWidth 8).toNat := by
    rw [BitVec.toNat_setWidth, BitVec.toNat_ushiftRight, Nat.shiftRight_eq_div_pow]
  rw [h3]
  congr 1
  apply BitVec.eq_of_getLsbD_eq
  intro i hi
  simp only [BitVec.getLsbD_setWidth, BitVec.getLsbD_sshiftRight, BitVec.getLsbD_ushiftRight, hi, decide_true, Bool.true_and]
  have : 8 * k + i < 64 := by omega
  simp [this]
  omega
theorem low8_u (w : Int64) (k : Nat) (hk : k < 8) : (w.toUInt64 >>> ((8 * nI k).toInt64.toUInt64 &&& Int64.toUInt64 63)).toInt64.toInt32 &&& 255 = nI (bv w k) := by
  rw [pk_and _ 8 (by decide), sh63u k hk]
  congr 1
  unfold bv
  have e : (w.toUInt64 >>> UInt64.ofNat (8 * k)).toInt64.toBitVec = w.toBitVec >>> (8 * k) := by
    show w.toBitVec >>> ((UInt64.ofNat (8 * k)).toBitVec % 64) = _
    have : ((UInt64.ofNat (8 * k)).toBitVec % 64).toNat = 8 * k := by
      rw [BitVec.toNat_umod]
      show (8 * k) % 2 ^ 64 % 64 = 8 * k
      omega
    rw [BitVec.ushiftRight_eq', this]
  rw [i32bv, e, BitVec.toNat_setWidth, BitVec.toNat_ushiftRight, Nat.shiftRight_eq_div_pow]
  omega
theorem bp_b (x : Int32) : x.toInt8.toInt32 &&& 255 = x &&& 255 := by
  apply Int32.toBitVec_inj.mp
  rw [Int32.toBitVec_and, Int32.toBitVec_and, Int8.toBitVec_toInt32, Int32.toBitVec_toInt8]
  apply BitVec.eq_of_getLsbD_eq
  intro i hi
  rw [BitVec.getLsbD_and, BitVec.getLsbD_and]
  have hm : ∀ i < 32, 8 ≤ i → (255 : Int32).toBitVec.getLsbD i = false := by decide
  rcases Nat.lt_or_ge i 8 with z | z
  · rw [BitVec.getLsbD_signExtend, BitVec.getLsbD_signExtend, if_pos z, if_pos hi]
    simp only [z, hi, decide_true, Bool.true_and]
  · rw [hm i hi z]; simp
