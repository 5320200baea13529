/-! letters packed: shifts and ors as sums -/
theorem zbvn {n : Nat} (h : n < 4294967296) : (Int32.ofInt (n : Int)).toBitVec.toNat = n := by
  show (BitVec.ofInt 32 (n : Int)).toNat = n
  rw [BitVec.toNat_ofInt]
  have : ((2 ^ 32 : Nat) : Int) = 4294967296 := by decide
  rw [this]
  omega
theorem zor_add {i u v : Nat} (hv : v < 2 ^ i) (ht : 2 ^ i * u + v < 2147483648) : Int32.ofInt ((2 ^ i * u : Nat) : Int) ||| Int32.ofInt (v : Int) = Int32.ofInt ((2 ^ i * u + v : Nat) : Int) := by
  apply Int32.toBitVec_inj.mp
  apply BitVec.eq_of_toNat_eq
  rw [Int32.toBitVec_or, BitVec.toNat_or, zbvn (by omega), zbvn (by omega), zbvn (by omega), Nat.two_pow_add_eq_or_of_lt hv]
theorem zor_add2 {i u v : Nat} (hv : v < 2 ^ i) (ht : 2 ^ i * u + v < 2147483648) : Int32.ofInt (v : Int) ||| Int32.ofInt ((2 ^ i * u : Nat) : Int) = Int32.ofInt ((2 ^ i * u + v : Nat) : Int) := by
  rw [Int32.or_comm]
  exact zor_add hv ht
theorem zshl_of {x k : Int32} {n i : Nat} (hx : x = Int32.ofInt (n : Int)) (hk : (k.toBitVec.smod 32).toNat = i) (ht : n * 2 ^ i < 2147483648) : x <<< k = Int32.ofInt ((n * 2 ^ i : Nat) : Int) := by
  have h2 : 1 ≤ 2 ^ i := Nat.one_le_two_pow
  have hn : n < 4294967296 := by
    have : n * 1 ≤ n * 2 ^ i := Nat.mul_le_mul_left n h2
    omega
  apply Int32.toBitVec_inj.mp
  apply BitVec.eq_of_toNat_eq
  rw [Int32.toBitVec_shiftLeft, zbvn (by omega), hx]
  show ((Int32.ofInt (n : Int)).toBitVec <<< (k.toBitVec.smod 32).toNat).toNat = _
  rw [hk, BitVec.toNat_shiftLeft, zbvn hn, Nat.shiftLeft_eq]
  exact Nat.mod_eq_of_lt (by omega)
theorem zand31 {n : Nat} (h : 96 ≤ n) (h2 : n < 128) : Int32.ofInt (n : Int) &&& Int32.ofInt 31 = Int32.ofInt ((n - 96 : Nat) : Int) := by
  apply Int32.toBitVec_inj.mp
  apply BitVec.eq_of_toNat_eq
  rw [Int32.toBitVec_and, BitVec.toNat_and, zbvn (by omega), zbvn (by omega)]
  have e : (Int32.ofInt 31).toBitVec.toNat = 2 ^ 5 - 1 := by decide
  rw [e, Nat.and_two_pow_sub_one_eq_mod]
  omega
