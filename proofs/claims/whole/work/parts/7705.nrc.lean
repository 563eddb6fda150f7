/-! chars -/
theorem u2i (u : UInt32) : u.toInt32 = nI u.toNat := by
  apply Int32.toBitVec_inj.mp
  show u.toBitVec = BitVec.ofNat 32 u.toBitVec.toNat
  exact BitVec.eq_of_toNat_eq (by rw [BitVec.toNat_ofNat]; exact (Nat.mod_eq_of_lt u.toBitVec.isLt).symm)
theorem nrcN {x : Nat} (h : x < 65536) : nrc (nI x) = nI x := by
  have e : (nI x).toUInt32.toNat = x := by
    show (BitVec.ofNat 32 x).toNat = x
    rw [BitVec.toNat_ofNat]
    exact Nat.mod_eq_of_lt (by omega)
  show (nI x).toUInt32.toUInt16.toUInt32.toInt32 = nI x
  rw [u2i, UInt16.toNat_toUInt32, UInt32.toNat_toUInt16, e]
  congr 1
  exact Nat.mod_eq_of_lt h
theorem i2cN (x : Int32) : ∃ k, k < 65536 ∧ i2c x = nI k := by
  refine ⟨(x.toUInt32 % 65536).toNat, ?_, u2i _⟩
  rw [UInt32.toNat_mod]
  exact Nat.mod_lt _ (by decide)
