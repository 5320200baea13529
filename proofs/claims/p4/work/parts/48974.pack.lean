/-! a name packed, five bits a letter -/
def zpkA (T : Nat → Int32) (b : Nat) : Nat → Nat → Nat → Nat
  | 0, _, w => w
  | d + 1, k, w => zpkA T b d (k + 1) (32 * w + (if k < b then (T k).toInt.toNat - 96 else 0))
section ZTK5
variable {Lx : Nat} {xs : Nat → Int32} {hp : List zhE} {e : Nat → Nat} {S : Nat → Nat → Int32} {a b : Nat}
theorem zt_packA (he : zeI e hp zDM.length) (ha : a < 1000) (hb : b < 1000) (hT : ∀ q, a ≤ q → q < b → 97 ≤ (S 1 q).toInt ∧ (S 1 q).toInt ≤ 122) : ∀ (d n k w c s : Nat), d ≤ 6 → k + d = a + 6 → (w + 1) * 32 ^ d ≤ 1073741824 → zPn Lx xs n 169 (5, [(4, .int (Int32.ofInt (k : Int))), (3, .int (Int32.ofInt (w : Int))), (0, .ref (e 0)), (1, .int (Int32.ofInt (a : Int))), (2, .int (Int32.ofInt (b : Int)))], [], zHS e zDM S hp, c, s) (fun rv hp1 => rv = some (.int (Int32.ofInt (zpkA (S 1) b d k w : Nat))) ∧ hp1 = zHS e zDM S hp) := by
  have e6 : (Int32.ofInt (a : Int) + Int32.ofInt 6).toInt = a + 6 := by
    rw [← Int32.ofInt_add]
    exact zRt ⟨by omega, by omega⟩
  have eb : (Int32.ofInt (b : Int)).toInt = b := zRt ⟨by omega, by omega⟩
  intro d
  induction d with
  | zero =>
    intro n k w c s hd hk hw
    have ek : (Int32.ofInt (k : Int)).toInt = k := zRt ⟨by omega, by omega⟩
    iterate 2 refine zp0 (by rfl) rfl rfl ?_
    refine zq_bip (by rfl) (by decide) ?_
    refine zp0 (by rfl) rfl rfl ?_
    refine zy_icmp (by rfl) (by rfl) (fun h1 => ?_) (fun h1 => ?_)
    · refine zp0 (by rfl) rfl rfl ?_
      refine zp_retI (by rfl) ?_
      exact ⟨rfl, rfl⟩
    · exfalso
      simp only [zcf, e6, ek, eb] at h1
      omega
  | succ d ih =>
    intro n k w c s hd hk hw
    have ek : (Int32.ofInt (k : Int)).toInt = k := zRt ⟨by omega, by omega⟩
    have p1 : 1 ≤ 32 ^ d := Nat.one_le_pow _ _ (by decide)
    have hw2 : 32 * (w + 1) * 32 ^ d ≤ 1073741824 := by
      rw [Nat.pow_succ, Nat.mul_comm (32 ^ d) 32, ← Nat.mul_assoc, Nat.mul_comm (w + 1) 32] at hw
      exact hw
    have hw3 : 32 * (w + 1) ≤ 1073741824 := Nat.le_trans (Nat.le_mul_of_pos_right _ p1) hw2
    have esh : Int32.ofInt (w : Int) <<< (Int32.ofInt 5 &&& 31) = Int32.ofInt ((2 ^ 5 * w : Nat) : Int) := by
      rw [zshl_of (n := w) (i := 5) rfl (by decide) (by omega), Nat.mul_comm]
    have fin : ∀ v : Nat, v < 32 → (if k < b then (S 1 k).toInt.toNat - 96 else 0) = v → ∀ c s, zPn Lx xs n 169 (5, [(4, .int (Int32.ofInt (k : Int) + Int32.ofInt 1)), (3, .int (Int32.ofInt (w : Int) <<< (Int32.ofInt 5 &&& 31) ||| Int32.ofInt (v : Int))), (0, .ref (e 0)), (1, .int (Int32.ofInt (a : Int))), (2, .int (Int32.ofInt (b : Int)))], [], zHS e zDM S hp, c, s) (fun rv hp1 => rv = some (.int (Int32.ofInt (zpkA (S 1) b (d + 1) k w : Nat))) ∧ hp1 = zHS e zDM S hp) := by
      intro v hv hvv c s
      have h1 := ih n (k + 1) (32 * w + v) c s (by omega) (by omega) (Nat.le_trans (Nat.mul_le_mul_right _ (by omega)) hw2)
      rw [esh, zor_add (by omega) (by omega), zof_up]
      have h2 : zpkA (S 1) b (d + 1) k w = zpkA (S 1) b d (k + 1) (32 * w + v) := by
        show zpkA (S 1) b d (k + 1) (32 * w + (if k < b then (S 1 k).toInt.toNat - 96 else 0)) = _
        rw [hvv]
      rw [h2]
      exact h1
    iterate 2 refine zp0 (by rfl) rfl rfl ?_
    refine zq_bip (by rfl) (by decide) ?_
    refine zp0 (by rfl) rfl rfl ?_
    refine zy_icmp (by rfl) (by rfl) (fun h1 => ?_) (fun h1 => ?_)
    · refine zp0 (by rfl) rfl rfl ?_
      refine zp_retI (by rfl) ?_
      exfalso
      simp only [zcf, e6, ek, eb] at h1
      omega
    · iterate 5 refine zp0 (by rfl) rfl rfl ?_
      refine zy_icmp (by rfl) (by rfl) (fun h2 => ?_) (fun h2 => ?_)
      · iterate 5 refine zp0 (by rfl) rfl rfl ?_
        simp only [zcf, e6, ek, eb] at h1 h2
        exact fin 0 (by decide) (if_neg (by omega)) _ _
      · refine zp0 (by rfl) rfl rfl ?_
        refine zy_ref (r := 1) he (by rfl) (by rfl) (by rfl) (by rfl) ?_
        refine zp0 (by rfl) rfl rfl ?_
        refine zy_ald he (by rfl) (by rfl) (fun u3 w3 => ?_)
        refine zq_bip (by rfl) (by decide) ?_
        iterate 6 refine zp0 (by rfl) rfl rfl ?_
        simp only [zcf, e6, ek, eb] at h1 h2
        have hc := hT k (by omega) (by omega)
        have en : (Int32.ofInt (k : Int)).toNatClampNeg = k := zof_cl (by omega)
        have ev : S 1 (Int32.ofInt (k : Int)).toNatClampNeg - Int32.ofInt 96 = Int32.ofInt (((S 1 k).toInt.toNat - 96 : Nat) : Int) := by
          rw [en, ← Int32.ofInt_toInt (S 1 k), ← Int32.ofInt_sub, Int32.ofInt_toInt]
          congr 1
          omega
        have h9 := fin ((S 1 k).toInt.toNat - 96) (by omega) (if_pos (by omega)) c s
        rw [← ev] at h9
        exact h9
theorem zt_packed (he : zeI e hp zDM.length) (n : Nat) (ha : a < 1000) (hb : b < 1000) (hT : ∀ q, a ≤ q → q < b → 97 ≤ (S 1 q).toInt ∧ (S 1 q).toInt ≤ 122) : zPn Lx xs n 169 (0, lv_args 0 [.ref (e 0), .int (Int32.ofInt (a : Int)), .int (Int32.ofInt (b : Int))], [], zHS e zDM S hp, 0, 0) (fun rv hp1 => rv = some (.int (Int32.ofInt (zpkA (S 1) b 6 a 0 : Nat))) ∧ hp1 = zHS e zDM S hp) := by
  iterate 4 refine zp0 (by rfl) rfl rfl ?_
  exact zt_packA he ha hb hT 6 n a 0 0 0 (by decide) rfl (by decide)
end ZTK5
