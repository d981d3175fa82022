/-! ===== bits of long numbers ===== -/
theorem lb_of (a : Int) : (Int64.ofInt a).toBitVec = BitVec.ofInt 64 a := rfl
theorem lb_nat {a : Int} (h : 0 ≤ a ∧ a < 9223372036854775808) : (BitVec.ofInt 64 a).toNat = a.toNat := by
  rw [BitVec.toNat_ofInt]
  have e : ((2 ^ 64 : Nat) : Int) = 18446744073709551616 := by decide
  rw [e]
  omega
theorem lb_int {x : BitVec 64} {a : Int} (h : 0 ≤ a ∧ a < 9223372036854775808) (e : x.toNat = a.toNat) : x.toInt = a := by
  rw [BitVec.toInt_eq_toNat_of_lt, e]
  · omega
  · rw [e]
    have : (2 : Nat) ^ 64 = 18446744073709551616 := by decide
    omega
theorem lb_shr {a : Int} (h : 0 ≤ a ∧ a < 9223372036854775808) {s : Int} (n : Nat) (hs : ((Int32.ofInt s).toInt64 &&& 63).toBitVec.smod 64 = BitVec.ofNat 64 n) (hn : n < 64) : am_lshr a s = a / 2 ^ n := by
  unfold am_lshr
  have e : (BitVec.ofInt 64 a).toInt = a := lb_int h (lb_nat h)
  rw [← Int64.toInt_toBitVec, Int64.toBitVec_shiftRight, hs, lb_of]
  rw [BitVec.sshiftRight', BitVec.toNat_ofNat, Nat.mod_eq_of_lt (by omega), BitVec.toInt_sshiftRight, e, Int.shiftRight_eq_div_pow]
  rfl
theorem lb_shl {a : Int} {s : Int} (n : Nat) (hs : ((Int32.ofInt s).toInt64 &&& 63).toBitVec.smod 64 = BitVec.ofNat 64 n) (hn : n < 64) (h : 0 ≤ a) (h2 : a * 2 ^ n < 9223372036854775808) : am_lshl a s = a * 2 ^ n := by
  unfold am_lshl
  have hp : (1 : Int) ≤ 2 ^ n := Int.pow_pos (by omega)
  have h3 : a * 1 ≤ a * 2 ^ n := Int.mul_le_mul_of_nonneg_left hp h
  have h4 : 0 ≤ a * 2 ^ n := Int.mul_nonneg h (by omega)
  rw [← Int64.toInt_toBitVec, Int64.toBitVec_shiftLeft, hs, lb_of]
  refine lb_int ⟨h4, h2⟩ ?_
  rw [BitVec.shiftLeft_eq', BitVec.toNat_shiftLeft, BitVec.toNat_ofNat, Nat.mod_eq_of_lt (a := n) (by omega), lb_nat ⟨h, by omega⟩, Nat.shiftLeft_eq]
  have e : ((a.toNat * 2 ^ n : Nat) : Int) = a * 2 ^ n := by
    rw [Int.natCast_mul, show ((a.toNat : Nat) : Int) = a by omega, Int.natCast_pow]
    rfl
  have : (2 : Nat) ^ 64 = 18446744073709551616 := by decide
  rw [this]
  generalize a.toNat * 2 ^ n = z at *
  omega
theorem nat_or {A b n : Nat} (h : b < 2 ^ n) (hA : 2 ^ n ∣ A) : A ||| b = A + b := by
  obtain ⟨c, rfl⟩ := hA
  have := Nat.shiftLeft_add_eq_or_of_lt h c
  rw [Nat.shiftLeft_eq, Nat.mul_comm c] at this
  exact this.symm
theorem lb_or {a b : Int} (n : Nat) (ha : 0 ≤ a ∧ a < 4611686018427387904) (hb : 0 ≤ b ∧ b < 4611686018427387904) (h : b.toNat < 2 ^ n) (hd : 2 ^ n ∣ a.toNat) : am_lor a b = a + b := by
  unfold am_lor
  rw [← Int64.toInt_toBitVec, Int64.toBitVec_or, lb_of, lb_of]
  refine lb_int (by omega) ?_
  rw [BitVec.toNat_or, lb_nat (by omega), lb_nat (by omega), nat_or h hd]
  omega
theorem bt_msk (a M : Int) (n : Nat) (hM : (M % ((2 ^ 32 : Nat) : Int)).toNat = 2 ^ n - 1) (hn : n ≤ 30) : am_and a M = (((a % 4294967296).toNat % 2 ^ n : Nat) : Int) := by
  unfold am_and
  rw [← Int32.toInt_toBitVec, Int32.toBitVec_and, bt_of, bt_of]
  have h : ((BitVec.ofInt 32 a) &&& (BitVec.ofInt 32 M)).toNat = (a % 4294967296).toNat % 2 ^ n := by
    rw [BitVec.toNat_and, BitVec.toNat_ofInt, BitVec.toNat_ofInt, hM, Nat.and_two_pow_sub_one_eq_mod]
    rfl
  have hp : 2 ^ n ≤ 2 ^ 30 := Nat.pow_le_pow_right (by decide) hn
  have hq : (a % 4294967296).toNat % 2 ^ n < 2 ^ n := Nat.mod_lt _ (Nat.pow_pos (by decide))
  rw [BitVec.toInt_eq_toNat_of_lt, h]
  rw [h]
  have e : (2 : Nat) ^ 30 = 1073741824 := by decide
  have e2 : (2 : Nat) ^ 32 = 4294967296 := by decide
  omega
theorem bt_m16 (a : Int) : am_and a 65535 = a % 65536 := by
  rw [bt_msk a 65535 16 (by decide) (by decide)]
  omega
theorem bt_m20 (a : Int) : am_and a 1048575 = a % 1048576 := by
  rw [bt_msk a 1048575 20 (by decide) (by decide)]
  omega
theorem bt_m4 (a : Int) : am_and a 15 = a % 16 := by
  rw [bt_msk a 15 4 (by decide) (by decide)]
  omega
/-- a part in one number -/
def pkF (kd v g c : Int) : Int := kd * 1099511627776 + v * 16777216 + g * 16 + c
