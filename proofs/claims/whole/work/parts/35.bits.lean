/-! ===== bits ===== -/
theorem bt_of (a : Int) : (Int32.ofInt a).toBitVec = BitVec.ofInt 32 a := rfl
theorem bt_and (a : Int) : am_and a 255 = a % 256 := by
  unfold am_and
  rw [← Int32.toInt_toBitVec, Int32.toBitVec_and, bt_of, bt_of]
  have h : ((BitVec.ofInt 32 a) &&& (BitVec.ofInt 32 255)).toNat = (a % 256).toNat := by
    rw [BitVec.toNat_and, BitVec.toNat_ofInt, BitVec.toNat_ofInt, show ((255 : Int) % ((2 ^ 32 : Nat) : Int)).toNat = 2 ^ 8 - 1 by decide, Nat.and_two_pow_sub_one_eq_mod]
    have e : ((2 ^ 32 : Nat) : Int) = 4294967296 := by decide
    rw [e]
    omega
  rw [BitVec.toInt_eq_toNat_of_lt, h]
  · omega
  · rw [h]; omega
theorem bt_rng {a : Int} (h : -2147483648 ≤ a ∧ a < 2147483648) : (BitVec.ofInt 32 a).toInt = a := by
  rw [BitVec.toInt_ofInt]
  exact Int.bmod_eq_of_le (by omega) (by omega)
theorem bt_shr {a : Int} (h : -2147483648 ≤ a ∧ a < 2147483648) {s : Int} (n : Nat) (hs : (Int32.ofInt s &&& 31).toBitVec.smod 32 = BitVec.ofNat 32 n) (hn : n < 32) : am_shr a s = a / 2 ^ n := by
  unfold am_shr
  rw [← Int32.toInt_toBitVec, Int32.toBitVec_shiftRight, hs, bt_of]
  rw [BitVec.sshiftRight', BitVec.toNat_ofNat, Nat.mod_eq_of_lt (by omega), BitVec.toInt_sshiftRight, bt_rng h, Int.shiftRight_eq_div_pow]
  rfl
theorem bt_un {a : Int} {s : Int} (n : Nat) (hs : ((Int32.ofInt s).toUInt32 &&& Int32.toUInt32 31).toNat % 32 = n) : am_ushr a s = Int.bmod (((a % 4294967296).toNat / 2 ^ n : Nat) : Int) 4294967296 := by
  unfold am_ushr
  have e1 : (Int32.ofInt a).toUInt32.toNat = (a % 4294967296).toNat := by
    show (BitVec.ofInt 32 a).toNat = _
    rw [BitVec.toNat_ofInt]
    rfl
  rw [← Int32.toInt_toBitVec]
  show BitVec.toInt ((Int32.ofInt a).toUInt32 >>> ((Int32.ofInt s).toUInt32 &&& Int32.toUInt32 31)).toBitVec = _
  rw [BitVec.toInt_eq_toNat_bmod]
  show Int.bmod ((((Int32.ofInt a).toUInt32 >>> ((Int32.ofInt s).toUInt32 &&& Int32.toUInt32 31)).toNat : Nat) : Int) _ = _
  rw [UInt32.toNat_shiftRight, hs, e1, Nat.shiftRight_eq_div_pow]
theorem bt_bm (x : Int) : Int.bmod x 4294967296 % 256 = x % 256 := by
  unfold Int.bmod
  have e : ((4294967296 : Nat) : Int) = 4294967296 := rfl
  simp only [e]
  split <;> omega
theorem bt_u24 (a : Int) : am_ushr a 24 % 256 = a / 16777216 % 256 := by
  rw [bt_un 24 (by decide), bt_bm]
  omega
theorem bt_u16 (a : Int) : am_ushr a 16 % 256 = a / 65536 % 256 := by
  rw [bt_un 16 (by decide), bt_bm]
  omega
theorem bt_u8 (a : Int) : am_ushr a 8 % 256 = a / 256 % 256 := by
  rw [bt_un 8 (by decide), bt_bm]
  omega
theorem bt_s24 {a : Int} (h : -2147483648 ≤ a ∧ a < 2147483648) : am_shr a 24 = a / 16777216 := bt_shr h 24 (by decide) (by decide)
theorem bt_s16 {a : Int} (h : -2147483648 ≤ a ∧ a < 2147483648) : am_shr a 16 = a / 65536 := bt_shr h 16 (by decide) (by decide)
theorem bt_s8 {a : Int} (h : -2147483648 ≤ a ∧ a < 2147483648) : am_shr a 8 = a / 256 := bt_shr h 8 (by decide) (by decide)
theorem bt_s0 {a : Int} (h : -2147483648 ≤ a ∧ a < 2147483648) : am_shr a 0 = a := by
  rw [bt_shr h 0 (by decide) (by decide)]
  omega
theorem bt_w8 (a : Int) : w8 a % 256 = a % 256 := by unfold w8; omega
/-- the byte q of a word, q = 0 the highest -/
def byF (w : Int) (q : Nat) : Int := if q = 0 then w / 16777216 % 256 else if q = 1 then w / 65536 % 256 else if q = 2 then w / 256 % 256 else w % 256
