theorem bv_by (y : BitVec 64) (c : Nat) (hc : c ≤ 56) : ((y >>> c).setWidth 32 &&& 255#32) = ((y.sshiftRight c) &&& 255#64).setWidth 32 := by
  apply BitVec.eq_of_getLsbD_eq
  intro j hj
  rw [BitVec.getLsbD_and, BitVec.getLsbD_setWidth, BitVec.getLsbD_ushiftRight]
  rw [BitVec.getLsbD_setWidth, BitVec.getLsbD_and, BitVec.getLsbD_sshiftRight]
  by_cases h8 : j < 8
  · have h1 : c + j < 64 := by omega
    have h2 : ¬ 64 ≤ j := by omega
    have e : (255#32).getLsbD j = (255#64).getLsbD j := by
      rw [BitVec.getLsbD_ofNat, BitVec.getLsbD_ofNat]; simp [hj]; omega
    rw [e]
    simp [hj, h1, h2]
  · have e1 : (255#32).getLsbD j = false := by
      rw [BitVec.getLsbD_ofNat, show 255 = 2 ^ 8 - 1 from rfl, Nat.testBit_two_pow_sub_one]; simp [h8]
    have e2 : (255#64).getLsbD j = false := by
      rw [BitVec.getLsbD_ofNat, show 255 = 2 ^ 8 - 1 from rfl, Nat.testBit_two_pow_sub_one]; simp [h8]
    rw [e1, e2]; simp
theorem f_shu (i : Nat) (hi : i < 8) : ((((8 : Int32) * nt i).toInt64.toUInt64 &&& Int64.toUInt64 63)) = UInt64.ofNat (8 * i) := by
  have : ∀ i : Fin 8, ((((8 : Int32) * nt i.val).toInt64.toUInt64 &&& Int64.toUInt64 63)) = UInt64.ofNat (8 * i.val) := by decide +kernel
  exact this ⟨i, hi⟩
theorem f_shs (i : Nat) (hi : i < 8) : ((((8 : Int32) * nt i).toInt64 &&& 63)) = mt (8 * i) := by
  have : ∀ i : Fin 8, ((((8 : Int32) * nt i.val).toInt64 &&& 63)) = mt (8 * i.val) := by decide +kernel
  exact this ⟨i, hi⟩
theorem f_val (y : Int64) (i : Nat) (hi : i < 8) : (((y.toUInt64 >>> (((8 : Int32) * nt i).toInt64.toUInt64 &&& Int64.toUInt64 63)).toInt64).toInt32) &&& 255 = ((y >>> (((8 : Int32) * nt i).toInt64 &&& 63)) &&& (255 : Int64)).toInt32 := by
  rw [f_shu i hi, f_shs i hi]
  apply Int32.toBitVec.inj
  have := bv_by y.toBitVec (8 * i) (by omega)
  rw [Int32.toBitVec_and, Int64.toBitVec_toInt32, Int64.toBitVec_toInt32, Int64.toBitVec_and, Int64.toBitVec_shiftRight, sh_m6 (by omega), BitVec.sshiftRight_eq', BitVec.toNat_ofNat, Nat.mod_eq_of_lt (by omega)]
  rw [BitVec.signExtend_eq_setWidth_of_le _ (by decide), BitVec.signExtend_eq_setWidth_of_le _ (by decide)]
  refine Eq.trans ?_ this
  congr 1
  congr 1
  change (UInt64.toBitVec (y.toUInt64 >>> UInt64.ofNat (8 * i))) = _
  rw [UInt64.toBitVec_shiftRight]
  apply BitVec.eq_of_toNat_eq
  have : (UInt64.ofNat (8 * i)).toBitVec % 64 = BitVec.ofNat 64 (8 * i) := by
    apply BitVec.eq_of_toNat_eq
    simp [BitVec.toNat_umod]; omega
  rw [this]
  simp
  rw [Nat.mod_eq_of_lt (by omega)]
theorem isB_and (x : Int32) : isB (x &&& 255) := by
  refine ⟨(x &&& 255).toBitVec.toNat, ?_, ?_⟩
  · rw [Int32.toBitVec_and, BitVec.toNat_and]
    exact Nat.lt_of_le_of_lt Nat.and_le_right (by decide)
  · apply Int32.toBitVec.inj; rw [nt_bv]; simp
theorem isB_255 {x : Int32} (h : isB x) : x &&& 255 = x := by
  obtain ⟨c, hc, rfl⟩ := h
  rw [lit, a255, Nat.mod_eq_of_lt hc]
