/-! FEED: a byte of a long -/
theorem mod_and_ (z : Int64) : (z &&& 255).toInt32 = nI (z.toBitVec.toNat % 2 ^ 8) := by
  apply Int32.toBitVec_inj.mp
  apply BitVec.eq_of_toNat_eq
  rw [pk_tn (by omega)]
  rw [Int64.toBitVec_toInt32, BitVec.signExtend_eq_setWidth_of_le _ (by omega), Int64.toBitVec_and, BitVec.toNat_setWidth, BitVec.toNat_and, show (255 : Int64).toBitVec.toNat = 2 ^ 8 - 1 from by decide, Nat.and_two_pow_sub_one_eq_mod]
  omega
theorem low8_ (V : Int32) : V.toInt8.toInt32 &&& 255 = nI (V.toBitVec.toNat % 2 ^ 8) := by
  rw [pk_and _ 8 (by decide)]
  congr 1
  have e : V.toInt8.toInt32.toInt8 = V.toInt8 := by simp
  have e2 := congrArg (fun z => z.toBitVec.toNat) e
  have e3 : ∀ z : Int32, z.toInt8.toBitVec.toNat = z.toBitVec.toNat % 2 ^ 8 := fun z => by
    rw [Int32.toBitVec_toInt8, BitVec.signExtend_eq_setWidth_of_le _ (by omega), BitVec.toNat_setWidth]
  simp only [e3] at e2
  exact e2
theorem ssh_ (X : BitVec 64) (s : Nat) (hs : s ≤ 56) : (X.sshiftRight s).toNat % 2 ^ 8 = X.toNat / 2 ^ s % 2 ^ 8 := by
  apply Nat.eq_of_testBit_eq
  intro i
  rw [Nat.testBit_mod_two_pow, Nat.testBit_mod_two_pow, Nat.testBit_div_two_pow]
  by_cases hi : i < 8
  · rw [BitVec.testBit_toNat, BitVec.testBit_toNat, BitVec.getLsbD_sshiftRight]
    rw [if_pos (by omega), decide_eq_false (show ¬ 64 ≤ i by omega), Nat.add_comm]
    simp
  · rw [decide_eq_false hi]
    rfl
theorem byte_ (x : Int64) {k : Nat} (hk : k < 8) : ((((x.toUInt64 >>> (((8 : Int32) * nI k).toInt64.toUInt64 &&& Int64.toUInt64 63)).toInt64).toInt32).toInt8.toInt32).toInt8.toInt32 &&& 255 = ((x >>> (((8 : Int32) * nI k).toInt64 &&& 63)) &&& (255 : Int64)).toInt32 := by
  have e0 : ∀ V : Int32, (V.toInt8.toInt32).toInt8.toInt32 = V.toInt8.toInt32 := fun V => by simp
  rw [e0, low8_, mod_and_]
  congr 1
  have h1 : ∀ q : Fin 8, ((((8 : Int32) * nI q.val).toInt64.toUInt64 &&& Int64.toUInt64 63).toBitVec % 64).toNat = 8 * q.val := by decide +kernel
  have h2 : ∀ q : Fin 8, ((((8 : Int32) * nI q.val).toInt64 &&& 63).toBitVec.smod 64).toNat = 8 * q.val := by decide +kernel
  have h1 := h1 ⟨k, hk⟩
  have h2 := h2 ⟨k, hk⟩
  have a1 : (x >>> (((8 : Int32) * nI k).toInt64 &&& 63)).toBitVec.toNat % 2 ^ 8 = x.toBitVec.toNat / 2 ^ (8 * k) % 2 ^ 8 := by
    show (x.toBitVec.sshiftRight ((((8 : Int32) * nI k).toInt64 &&& 63).toBitVec.smod 64).toNat).toNat % 2 ^ 8 = _
    rw [h2, ssh_ _ _ (by omega)]
  have a2 : ((x.toUInt64 >>> (((8 : Int32) * nI k).toInt64.toUInt64 &&& Int64.toUInt64 63)).toInt64).toInt32.toBitVec.toNat = x.toBitVec.toNat / 2 ^ (8 * k) % 2 ^ 32 := by
    rw [Int64.toBitVec_toInt32, BitVec.signExtend_eq_setWidth_of_le _ (by omega), BitVec.toNat_setWidth, UInt64.toBitVec_toInt64, UInt64.toBitVec_shiftRight]
    show (x.toBitVec >>> ((((8 : Int32) * nI k).toInt64.toUInt64 &&& Int64.toUInt64 63).toBitVec % 64).toNat).toNat % 2 ^ 32 = _
    rw [h1, BitVec.toNat_ushiftRight, Nat.shiftRight_eq_div_pow]
  rw [a1, a2]
  omega
