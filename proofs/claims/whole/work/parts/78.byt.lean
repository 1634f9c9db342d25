section Byt
theorem z_bvn {n : Nat} (h : n < 2147483648) : (zI (n : Int)).toBitVec = BitVec.ofNat 32 n := by
  unfold zI
  rw [Int32.toBitVec_ofInt]
  rfl
theorem z_bvs (n k : Nat) (hk : k < 32) (h : n < 2147483648) : BitVec.ofNat 32 n >>> (BitVec.ofNat 32 k) &&& (BitVec.ofNat 32 255) = BitVec.ofNat 32 (n / 2 ^ k % 256) := by
  apply BitVec.eq_of_toNat_eq
  rw [BitVec.ushiftRight_eq', BitVec.toNat_and, BitVec.toNat_ushiftRight, BitVec.toNat_ofNat, BitVec.toNat_ofNat, BitVec.toNat_ofNat, BitVec.toNat_ofNat, Nat.shiftRight_eq_div_pow, Nat.mod_eq_of_lt (show n < 2 ^ 32 by omega), Nat.mod_eq_of_lt (show k < 2 ^ 32 by omega), Nat.mod_eq_of_lt (show 255 < 2 ^ 32 by omega), Nat.and_two_pow_sub_one_eq_mod _ 8, Nat.mod_eq_of_lt (show n / 2 ^ k % 256 < 2 ^ 32 by omega)]
theorem z_ush {x : Int} (h : 0 ≤ x ∧ x < 2147483648) {k : Nat} (hk : k = 0 ∨ k = 8 ∨ k = 16 ∨ k = 24) : ushr (zI x) (zI (k : Int)) &&& zI 255 = zI (x / 2 ^ k % 256) := by
  obtain ⟨n, rfl⟩ : ∃ n : Nat, x = n := ⟨x.toNat, by omega⟩
  have e : ((n : Int) / 2 ^ k % 256) = ((n / 2 ^ k % 256 : Nat) : Int) := by
    rw [Int.natCast_emod, Int.natCast_ediv]
    rfl
  have hn : n < 2147483648 := by omega
  rw [e]
  apply Int32.toBitVec.inj
  rw [z_bvn (by omega), Int32.toBitVec_and]
  unfold ushr
  simp only [Int32.toBitVec_and, UInt32.toBitVec_toInt32, UInt32.toBitVec_shiftRight, Int32.toBitVec_toUInt32, z_bvn hn]
  rw [show ((((zI (k : Int)).toUInt32 &&& Int32.toUInt32 31).toBitVec % 32 : BitVec 32) = BitVec.ofNat 32 k) by rcases hk with e | e | e | e <;> subst e <;> decide, show (zI 255).toBitVec = BitVec.ofNat 32 255 by decide]
  exact z_bvs n k (by omega) hn
end Byt
