/-! THE NUMBER drawn is below n -/
theorem us32_eq (x : Int64) : us32 x = lN (x.toBitVec.toNat / 2 ^ 32) := by
  have hlt := x.toBitVec.isLt
  have h : (us32 x).toBitVec = x.toBitVec >>> 32 := by
    unfold us32
    rw [show ((32 : Int32).toInt64.toUInt64 &&& Int64.toUInt64 63) = (32 : UInt64) from by decide]
    show x.toBitVec >>> ((32 : UInt64).toBitVec % 64).toNat = _
    rw [show ((32 : UInt64).toBitVec % 64).toNat = 32 from by decide]
  apply Int64.toBitVec_inj.mp
  apply BitVec.eq_of_toNat_eq
  rw [h, BitVec.toNat_ushiftRight, Nat.shiftRight_eq_div_pow]
  show _ = (BitVec.ofNat 64 (x.toBitVec.toNat / 2 ^ 32)).toNat
  rw [BitVec.toNat_ofNat, Nat.mod_eq_of_lt (by omega)]
theorem lN_bv {y : Nat} (h : y < 2 ^ 64) : (lN y).toBitVec.toNat = y := by
  show (BitVec.ofNat 64 y).toNat = y
  rw [BitVec.toNat_ofNat, Nat.mod_eq_of_lt h]
theorem outD_lt {s : Int64} {n : Nat} (h0 : 0 < n) (hn : n < 2 ^ 31) : ∃ j : Nat, j < n ∧ outD s (nI n) = nI j := by
  have hlt := s.toBitVec.isLt
  obtain ⟨u, hu⟩ : ∃ u, u = s.toBitVec.toNat / 2 ^ 32 := ⟨_, rfl⟩
  have hu32 : u < 2 ^ 32 := by omega
  have hm : u * n < 2 ^ 32 * n := Nat.mul_lt_mul_of_pos_right hu32 h0
  have hm2 : 2 ^ 32 * n ≤ 2 ^ 32 * 2 ^ 31 := Nat.mul_le_mul (Nat.le_refl _) (by omega)
  refine ⟨u * n / 2 ^ 32, ?_, ?_⟩
  · rw [Nat.div_lt_iff_lt_mul (by omega)]; omega
  · unfold outD
    rw [us32_eq s, ← hu, nI_l hn, lN_mul, us32_eq, lN_bv (by omega), lN_i]
theorem rem_lt {b i : Nat} (h : i < b) : i + 1 ≤ b := h
