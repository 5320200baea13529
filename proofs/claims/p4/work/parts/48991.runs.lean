/-! the class's scanner: blanks, words, numbers -/
section ZCL2
variable {Lx : Nat} {xs : Nat → Int32} {hp : List zhE} {e : Nat → Nat} {Q : ZP} {m x1 x3 x4 : Nat}
/-- the scanner at a place of a text -/
def zCP (m a : Nat) (C : Nat → Nat → Int32) : Prop := C 1 6 = Int32.ofInt (m : Int) ∧ C 1 7 = Int32.ofInt (a : Int) ∧ a ≤ m ∧ m ≤ 600
theorem zCP_x {m a : Nat} {C : Nat → Nat → Int32} (h : zCP m a C) : (C 1 6).toInt = m ∧ (C 1 7).toInt = a ∧ (C 1 7).toNatClampNeg = a := by
  obtain ⟨h1, h2, h3, h4⟩ := h
  rw [h1, h2]
  exact ⟨zof_ix (by omega), zof_ix (by omega), zof_cl (by omega)⟩
theorem zCP_up {m a : Nat} {C : Nat → Nat → Int32} (h : zCP m a C) (ha : a < m) : zCP m (a + 1) (zuS C 1 7 (C 1 7 + Int32.ofInt 1)) := by
  obtain ⟨h1, h2, h3, h4⟩ := h
  refine ⟨?_, ?_, ha, h4⟩
  · rw [zuS_off (Or.inr (by decide))]
    exact h1
  · rw [zuS_at, h2, zof_up]
theorem zc_sgn (he : zeI e hp (zDC x1 6 x3 x4).length) {n : Nat} {C : Nat → Nat → Int32} {a : Nat} (h : zCP m a C) : zPn Lx xs n 64 (0, lv_args 0 [.ref (e 1), .int (C 1 7)], [], zHS e (zDC x1 6 x3 x4) C hp, 0, 0) (fun rv hp1 => rv = some (.int (zcsg C m a)) ∧ hp1 = zHS e (zDC x1 6 x3 x4) C hp) := by
  rw [h.2.1]
  exact zc_sign he a h.1 h.2.2.2 (by have := h.2.2; omega)
theorem zcsg_in {C : Nat → Nat → Int32} {a : Nat} (h : a < m) : zcsg C m a = zTc C a := if_pos h
theorem zc_skip (he : zeI e hp (zDC x1 6 x3 x4).length) : ∀ (n : Nat) (C : Nat → Nat → Int32) (a c s : Nat), zCP m a C → zPn Lx xs n 65 (0, [(0, .ref (e 1))], [], zHS e (zDC x1 6 x3 x4) C hp, c, s) (fun rv hp1 => rv = none ∧ hp1 = zHS e (zDC x1 6 x3 x4) (zuS C 1 7 (Int32.ofInt (zend (fun q => zcb1 (zTc C q)) m a : Nat))) hp) := by
  intro n
  induction n using Nat.strongRecOn with
  | _ n ih =>
  intro C a c s hS
  obtain ⟨y1, y2, y3⟩ := zCP_x hS
  refine zp0 (by rfl) rfl rfl ?_
  refine zy_get (b := 7) he (by rfl) (by rfl) (by rfl) (by rfl) ?_
  refine zp0 (by rfl) rfl rfl ?_
  refine zy_get (b := 6) he (by rfl) (by rfl) (by rfl) (by rfl) ?_
  refine zy_icmp (by rfl) (by rfl) (fun h1 => ?_) (fun h1 => ?_)
  · refine zp_retV (by rfl) ?_
    have hz : zend (fun q => zcb1 (zTc C q)) m a = a := zend_no (Or.inl (by simp only [zcf, y1, y2] at h1; omega))
    rw [hz, ← hS.2.1, zuS_id rfl]
    exact ⟨rfl, rfl⟩
  · iterate 2 refine zp0 (by rfl) rfl rfl ?_
    refine zy_get (b := 7) he (by rfl) (by rfl) (by rfl) (by rfl) ?_
    refine zy_v1e (by rfl) (zc_sgn he hS) ?_
    refine zq_bip (by rfl) (by decide) ?_
    refine zy_icmpC (by rfl) (by rfl) ⟨by decide, by decide⟩ (fun h2 => ?_) (fun h2 => ?_)
    · iterate 2 refine zp0 (by rfl) rfl rfl ?_
      refine zy_get (b := 7) he (by rfl) (by rfl) (by rfl) (by rfl) ?_
      iterate 2 refine zp0 (by rfl) rfl rfl ?_
      refine zy_put (b := 7) he (by rfl) (by rfl) (by rfl) ?_
      refine zp0l (by rfl) rfl rfl (fun m1 hm1 => ?_)
      simp only [zcf, y1, y2] at h1
      rw [zcsg_in (by omega)] at h2
      have hz : zend (fun q => zcb1 (zuS C 1 7 (C 1 7 + Int32.ofInt 1) 5 q &&& Int32.ofInt 255)) m (a + 1) = zend (fun q => zcb1 (zTc C q)) m a := by
        rw [zend_up (a := a) (by omega) (by simp only [zcb1, Bool.or_eq_true, decide_eq_true_eq]; simp only [zcf] at h2; omega)]
        rfl
      have h9 := fun c s => ih m1 hm1 _ (a + 1) c s (zCP_up hS (by omega))
      simp only [zuS_same, zTc] at h9
      rw [hz] at h9
      exact h9 _ _
    · iterate 2 refine zp0 (by rfl) rfl rfl ?_
      refine zy_get (b := 7) he (by rfl) (by rfl) (by rfl) (by rfl) ?_
      refine zy_v1e (by rfl) (zc_sgn he hS) ?_
      refine zq_bip (by rfl) (by decide) ?_
      refine zy_icmpC (by rfl) (by rfl) ⟨by decide, by decide⟩ (fun h3 => ?_) (fun h3 => ?_)
      · refine zp_retV (by rfl) ?_
        simp only [zcf, y1, y2] at h1
        rw [zcsg_in (by omega)] at h2 h3
        have hz : zend (fun q => zcb1 (zTc C q)) m a = a := zend_no (Or.inr (by
          simp only [zcb1, Bool.or_eq_false_iff, decide_eq_false_iff_not]
          simp only [zcf] at h2 h3
          omega))
        rw [hz, ← hS.2.1, zuS_id rfl]
        exact ⟨rfl, rfl⟩
      · iterate 2 refine zp0 (by rfl) rfl rfl ?_
        refine zy_get (b := 7) he (by rfl) (by rfl) (by rfl) (by rfl) ?_
        iterate 2 refine zp0 (by rfl) rfl rfl ?_
        refine zy_put (b := 7) he (by rfl) (by rfl) (by rfl) ?_
        refine zp0l (by rfl) rfl rfl (fun m1 hm1 => ?_)
        simp only [zcf, y1, y2] at h1
        rw [zcsg_in (by omega)] at h2 h3
        have hz : zend (fun q => zcb1 (zuS C 1 7 (C 1 7 + Int32.ofInt 1) 5 q &&& Int32.ofInt 255)) m (a + 1) = zend (fun q => zcb1 (zTc C q)) m a := by
          rw [zend_up (a := a) (by omega) (by simp only [zcb1, Bool.or_eq_true, decide_eq_true_eq]; simp only [zcf] at h2 h3; omega)]
          rfl
        have h9 := fun c s => ih m1 hm1 _ (a + 1) c s (zCP_up hS (by omega))
        simp only [zuS_same, zTc] at h9
        rw [hz] at h9
        exact h9 _ _
/-- the first letters of a word, packed -/
def zpu (T : Nat → Int32) (a : Nat) : Nat → Nat
  | 0 => 0
  | i + 1 => 32 * zpu T a i + ((T (a + i)).toInt.toNat - 96)
def zpv (T : Nat → Int32) (a i : Nat) : Nat := zpu T a (min i 6) * 32 ^ (6 - min i 6)
theorem zpu_lt {T : Nat → Int32} {a : Nat} : ∀ (i : Nat), (∀ j, j < i → (T (a + j)).toInt ≤ 122) → zpu T a i < 32 ^ i
  | 0, _ => by
    show 0 < 1
    decide
  | i + 1, h => by
    have h1 := zpu_lt i (fun j hj => h j (by omega))
    have h2 := h i (by omega)
    show 32 * zpu T a i + _ < 32 ^ (i + 1)
    rw [Nat.pow_succ]
    omega
theorem zpv_six {T : Nat → Int32} {a i : Nat} (h : 6 ≤ i) : zpv T a (i + 1) = zpv T a i := by
  unfold zpv
  rw [Nat.min_eq_right h, Nat.min_eq_right (by omega : 6 ≤ i + 1)]
theorem zsh25 : ∀ i : Nat, i < 6 → (((Int32.ofInt 25 - Int32.ofInt 5 * Int32.ofInt (i : Int)) &&& 31).toBitVec.smod 32).toNat = 25 - 5 * i := by decide
theorem z32p (j : Nat) : 32 ^ j = 2 ^ (5 * j) := by
  rw [show (32 : Nat) = 2 ^ 5 from rfl, ← Nat.pow_mul]
theorem zpv_or {T : Nat → Int32} {a i : Nat} {x : Int32} (hi : i < 6) (hx : x = T (a + i)) (hT : ∀ j, j ≤ i → 97 ≤ (T (a + j)).toInt ∧ (T (a + j)).toInt ≤ 122) : Int32.ofInt (zpv T a i : Int) ||| (x &&& Int32.ofInt 31) <<< ((Int32.ofInt 25 - Int32.ofInt 5 * Int32.ofInt (i : Int)) &&& 31) = Int32.ofInt (zpv T a (i + 1) : Int) := by
  have h1 := zpu_lt (T := T) (a := a) i (fun j hj => (hT j (by omega)).2)
  have h2 := hT i (Nat.le_refl i)
  have h3 : x &&& Int32.ofInt 31 = Int32.ofInt (((T (a + i)).toInt.toNat - 96 : Nat) : Int) := by
    have e : T (a + i) = Int32.ofInt (((T (a + i)).toInt.toNat : Nat) : Int) := by
      rw [Int.toNat_of_nonneg (by omega), Int32.ofInt_toInt]
    have hN : (T (a + i)).toInt.toNat < 128 ∧ 96 ≤ (T (a + i)).toInt.toNat := by omega
    rw [hx]
    generalize (T (a + i)).toInt.toNat = N at e hN
    rw [e, zand31 hN.2 hN.1]
  generalize hu : zpu T a i = u at h1
  generalize hv : (T (a + i)).toInt.toNat - 96 = v at h3
  have hv2 : v < 32 := by omega
  have e0 : zpv T a i = 2 ^ (30 - 5 * i) * u := by
    unfold zpv
    rw [Nat.min_eq_left (by omega), hu, z32p, Nat.mul_comm, show 5 * (6 - i) = 30 - 5 * i by omega]
  have e1 : zpv T a (i + 1) = 2 ^ (30 - 5 * i) * u + v * 2 ^ (25 - 5 * i) := by
    unfold zpv
    rw [Nat.min_eq_left (by omega : i + 1 ≤ 6)]
    show (32 * zpu T a i + ((T (a + i)).toInt.toNat - 96)) * 32 ^ (6 - (i + 1)) = _
    rw [hu, hv, z32p, show 5 * (6 - (i + 1)) = 25 - 5 * i by omega, Nat.add_mul, show 30 - 5 * i = 5 + (25 - 5 * i) by omega, Nat.pow_add]
    congr 1
    rw [show (2 : Nat) ^ 5 = 32 from rfl, Nat.mul_assoc, Nat.mul_assoc, Nat.mul_comm u]
  have b0 : 2 ^ (30 - 5 * i) * 32 ^ i = 1073741824 := by
    rw [z32p, ← Nat.pow_add, show 30 - 5 * i + 5 * i = 30 by omega]
  have b1 : 2 ^ (30 - 5 * i) = 32 * 2 ^ (25 - 5 * i) := by
    rw [show 30 - 5 * i = 5 + (25 - 5 * i) by omega, Nat.pow_add]
  have b2 : v * 2 ^ (25 - 5 * i) < 2 ^ (30 - 5 * i) := by
    rw [b1]
    exact Nat.mul_lt_mul_of_pos_right hv2 (Nat.two_pow_pos _)
  have b3 : 2 ^ (30 - 5 * i) * u + 2 ^ (30 - 5 * i) ≤ 1073741824 := by
    rw [← b0, ← Nat.mul_succ]
    exact Nat.mul_le_mul_left _ h1
  rw [h3, zshl_of (n := v) (i := 25 - 5 * i) rfl (zsh25 i hi) (by omega), e0, e1, zor_add b2 (by omega)]
theorem zc_word (he : zeI e hp (zDC x1 6 x3 x4).length) : ∀ (n : Nat) (C : Nat → Nat → Int32) (a i c s : Nat), zCP m (a + i) C → C 1 10 = Int32.ofInt (zpv (zTc C) a i : Int) → (∀ j, j < i → zcs1 (zTc C (a + j)) = true) → zPn Lx xs n 67 (2, [(1, .int (Int32.ofInt (i : Int))), (0, .ref (e 1))], [], zHS e (zDC x1 6 x3 x4) C hp, c, s) (fun rv hp1 => rv = none ∧ hp1 = zHS e (zDC x1 6 x3 x4) (zuS (zuS (zuS C 1 10 (Int32.ofInt (zpv (zTc C) a (zend (fun q => zcs1 (zTc C q)) m (a + i) - a) : Int))) 1 7 (Int32.ofInt (zend (fun q => zcs1 (zTc C q)) m (a + i) : Nat))) 1 8 (if 6 < zend (fun q => zcs1 (zTc C q)) m (a + i) - a then Int32.ofInt 4 else Int32.ofInt 1)) hp) := by
  intro n
  induction n using Nat.strongRecOn with
  | _ n ih =>
  intro C a i c s hS hv hL
  obtain ⟨y1, y2, y3⟩ := zCP_x hS
  have y4 : (Int32.ofInt (i : Int)).toInt = i := zof_ix (by have := hS.2.2; omega)
  have hfin : zend (fun q => zcs1 (zTc C q)) m (a + i) = a + i → ∀ z : Int32, (if 6 < i then z = Int32.ofInt 4 else z = Int32.ofInt 1) → zuS C 1 8 z = zuS (zuS (zuS C 1 10 (Int32.ofInt (zpv (zTc C) a (zend (fun q => zcs1 (zTc C q)) m (a + i) - a) : Int))) 1 7 (Int32.ofInt (zend (fun q => zcs1 (zTc C q)) m (a + i) : Nat))) 1 8 (if 6 < zend (fun q => zcs1 (zTc C q)) m (a + i) - a then Int32.ofInt 4 else Int32.ofInt 1) := by
    intro hz z hzz
    rw [hz, show a + i - a = i by omega, ← hv, zuS_id (S := C) (i := 1) (b := 10) rfl, zuS_id (S := C) (i := 1) (b := 7) hS.2.1]
    congr 1
    split
    · rename_i g
      rw [if_pos g] at hzz
      exact hzz
    · rename_i g
      rw [if_neg g] at hzz
      exact hzz
  have hup : ∀ m1, m1 < n → a + i < m → zcs1 (zTc C (a + i)) = true → ∀ (z : Int32), z = Int32.ofInt (zpv (zTc C) a (i + 1) : Int) → ∀ c s, zPn Lx xs m1 67 (2, [(1, .int (Int32.ofInt (i : Int) + Int32.ofInt 1)), (0, .ref (e 1))], [], zHS e (zDC x1 6 x3 x4) (zuS (zuS C 1 10 z) 1 7 (zuS C 1 10 z 1 7 + Int32.ofInt 1)) hp, c, s) (fun rv hp1 => rv = none ∧ hp1 = zHS e (zDC x1 6 x3 x4) (zuS (zuS (zuS C 1 10 (Int32.ofInt (zpv (zTc C) a (zend (fun q => zcs1 (zTc C q)) m (a + i) - a) : Int))) 1 7 (Int32.ofInt (zend (fun q => zcs1 (zTc C q)) m (a + i) : Nat))) 1 8 (if 6 < zend (fun q => zcs1 (zTc C q)) m (a + i) - a then Int32.ofInt 4 else Int32.ofInt 1)) hp) := by
    intro m1 hm1 g1 g2 z hz c s
    have hP : zCP m (a + i) (zuS C 1 10 z) := ⟨hS.1, hS.2.1, hS.2.2⟩
    have h9 := ih m1 hm1 _ a (i + 1) c s (zCP_up hP g1) (by rw [zuS_off (Or.inr (by decide)), zuS_at]; exact hz) (fun j hj => by
      by_cases g : j = i
      · rw [g]
        exact g2
      · exact hL j (by omega))
    have hzz := zend_up (p := fun q => zcs1 (zTc C q)) g1 g2
    have hT : zTc (zuS (zuS C 1 10 z) 1 7 (zuS C 1 10 z 1 7 + Int32.ofInt 1)) = zTc C := rfl
    rw [hT, show a + (i + 1) = a + i + 1 by omega, ← hzz] at h9
    have hst : ∀ (u v w y z : Int32), zuS (zuS (zuS (zuS (zuS C 1 10 u) 1 7 v) 1 10 w) 1 7 y) 1 8 z = zuS (zuS (zuS C 1 10 w) 1 7 y) 1 8 z := by
      intro u v w y z
      congr 1
      funext q p
      unfold zuS va_up
      by_cases hq : q = 1
      · subst hq
        by_cases h7 : p = 7
        · simp [h7]
        · by_cases h9 : p = 10
          · simp [h9]
          · simp [h7, h9]
      · simp [hq]
    rw [hst] at h9
    rw [zof_up]
    exact h9
  refine zp0 (by rfl) rfl rfl ?_
  refine zy_get (b := 7) he (by rfl) (by rfl) (by rfl) (by rfl) ?_
  refine zp0 (by rfl) rfl rfl ?_
  refine zy_get (b := 6) he (by rfl) (by rfl) (by rfl) (by rfl) ?_
  refine zy_icmp (by rfl) (by rfl) (fun h1 => ?_) (fun h1 => ?_)
  · iterate 2 refine zp0 (by rfl) rfl rfl ?_
    refine zq_bip (by rfl) (by decide) ?_
    refine zy_icmpC (by rfl) (by rfl) ⟨by decide, by decide⟩ (fun h2 => ?_) (fun h2 => ?_)
    · refine zp0 (by rfl) rfl rfl ?_
      refine zy_put (b := 8) he (by rfl) (by rfl) (by rfl) ?_
      refine zp_retV (by rfl) ?_
      simp only [zcf, y1, y2] at h1
      have hz : zend (fun q => zcs1 (zTc C q)) m (a + i) = a + i := zend_no (Or.inl (by omega))
      simp only [zcf, y4] at h2
      refine ⟨rfl, congrArg (fun q => zHS e (zDC x1 6 x3 x4) q hp) (hfin hz _ ?_)⟩
      rw [if_neg (by omega)]
    · iterate 2 refine zp0 (by rfl) rfl rfl ?_
      refine zy_put (b := 8) he (by rfl) (by rfl) (by rfl) ?_
      refine zp_retV (by rfl) ?_
      simp only [zcf, y1, y2] at h1
      have hz : zend (fun q => zcs1 (zTc C q)) m (a + i) = a + i := zend_no (Or.inl (by omega))
      simp only [zcf, y4] at h2
      refine ⟨rfl, congrArg (fun q => zHS e (zDC x1 6 x3 x4) q hp) (hfin hz _ ?_)⟩
      rw [if_pos (by omega)]
  · iterate 2 refine zp0 (by rfl) rfl rfl ?_
    refine zy_get (b := 7) he (by rfl) (by rfl) (by rfl) (by rfl) ?_
    refine zy_v1e (by rfl) (zc_sgn he hS) ?_
    refine zy_s1e (by rfl) (by rfl) (zc_isLetter _) ?_
    refine zy_if (by rfl) (by rfl) (fun h3 => ?_) (fun h3 => ?_)
    · iterate 2 refine zp0 (by rfl) rfl rfl ?_
      refine zq_bip (by rfl) (by decide) ?_
      refine zy_icmpC (by rfl) (by rfl) ⟨by decide, by decide⟩ (fun h4 => ?_) (fun h4 => ?_)
      · refine zp0 (by rfl) rfl rfl ?_
        refine zy_put (b := 8) he (by rfl) (by rfl) (by rfl) ?_
        refine zp_retV (by rfl) ?_
        simp only [zcf, y1, y2] at h1
        have g2 := zite0 h3
        rw [zcsg_in (by omega)] at g2
        have hz : zend (fun q => zcs1 (zTc C q)) m (a + i) = a + i := zend_no (Or.inr (Bool.eq_false_iff.mpr g2))
        simp only [zcf, y4] at h4
        refine ⟨rfl, congrArg (fun q => zHS e (zDC x1 6 x3 x4) q hp) (hfin hz _ ?_)⟩
        rw [if_neg (by omega)]
      · iterate 2 refine zp0 (by rfl) rfl rfl ?_
        refine zy_put (b := 8) he (by rfl) (by rfl) (by rfl) ?_
        refine zp_retV (by rfl) ?_
        simp only [zcf, y1, y2] at h1
        have g2 := zite0 h3
        rw [zcsg_in (by omega)] at g2
        have hz : zend (fun q => zcs1 (zTc C q)) m (a + i) = a + i := zend_no (Or.inr (Bool.eq_false_iff.mpr g2))
        simp only [zcf, y4] at h4
        refine ⟨rfl, congrArg (fun q => zHS e (zDC x1 6 x3 x4) q hp) (hfin hz _ ?_)⟩
        rw [if_pos (by omega)]
    · refine zp0 (by rfl) rfl rfl ?_
      refine zq_bip (by rfl) (by decide) ?_
      refine zy_icmpC (by rfl) (by rfl) ⟨by decide, by decide⟩ (fun h5 => ?_) (fun h5 => ?_)
      · iterate 3 refine zp0 (by rfl) rfl rfl ?_
        refine zy_get (b := 7) he (by rfl) (by rfl) (by rfl) (by rfl) ?_
        iterate 2 refine zp0 (by rfl) rfl rfl ?_
        refine zy_put (b := 7) he (by rfl) (by rfl) (by rfl) ?_
        simp only [zcf, y1, y2] at h1
        have g2 := zite1 h3
        rw [zcsg_in (by omega)] at g2
        simp only [zcf, y4] at h5
        refine zp0l (by rfl) rfl rfl (fun m1 hm1 => ?_)
        have h9 := hup m1 hm1 (by omega) g2 (C 1 10) (by rw [hv, zpv_six (by omega)])
        rw [zuS_id (S := C) (i := 1) (b := 10) rfl] at h9
        exact h9 _ _
      · iterate 2 refine zp0 (by rfl) rfl rfl ?_
        refine zy_get (b := 10) he (by rfl) (by rfl) (by rfl) (by rfl) ?_
        iterate 2 refine zp0 (by rfl) rfl rfl ?_
        refine zy_get (b := 7) he (by rfl) (by rfl) (by rfl) (by rfl) ?_
        refine zy_v1e (by rfl) (zc_sgn he hS) ?_
        refine zq_bip (by rfl) (by decide) ?_
        refine zp0 (by rfl) rfl rfl ?_
        refine zq_bip (by rfl) (by decide) ?_
        iterate 6 refine zp0 (by rfl) rfl rfl ?_
        refine zy_put (b := 10) he (by rfl) (by rfl) (by rfl) ?_
        iterate 3 refine zp0 (by rfl) rfl rfl ?_
        refine zy_get (b := 7) he (by rfl) (by rfl) (by rfl) (by rfl) ?_
        iterate 2 refine zp0 (by rfl) rfl rfl ?_
        refine zy_put (b := 7) he (by rfl) (by rfl) (by rfl) ?_
        simp only [zcf, y1, y2] at h1
        have g2 := zite1 h3
        rw [zcsg_in (by omega)] at g2
        simp only [zcf, y4] at h5
        refine zp0l (by rfl) rfl rfl (fun m1 hm1 => ?_)
        exact hup m1 hm1 (by omega) g2 _ (by
          rw [hv, zcsg_in (by omega)]
          exact zpv_or (by omega) rfl (fun j hj => by
            have h8 : zcs1 (zTc C (a + j)) = true := by
              by_cases g : j = i
              · rw [g]
                exact g2
              · exact hL j (by omega)
            simp only [zcs1, Bool.and_eq_true, decide_eq_true_eq] at h8
            exact h8)) _ _
/-- a number's digits, as the class counts them -/
def zcdA (T : Nat → Int32) : Nat → Nat → Int → Int
  | 0, _, w => w
  | d + 1, a, w => zcdA T d (a + 1) (if 10 * w + (T a).toInt - 48 ≤ 100000 then 10 * w + (T a).toInt - 48 else 100000)
theorem zc_number (he : zeI e hp (zDC x1 6 x3 x4).length) : ∀ (n : Nat) (C : Nat → Nat → Int32) (a c s : Nat) (w : Int), zCP m a C → C 1 10 = Int32.ofInt w → 0 ≤ w → w ≤ 100000 → zPn Lx xs n 68 (0, [(0, .ref (e 1))], [], zHS e (zDC x1 6 x3 x4) C hp, c, s) (fun rv hp1 => rv = none ∧ hp1 = zHS e (zDC x1 6 x3 x4) (zuS (zuS (zuS C 1 10 (Int32.ofInt (zcdA (zTc C) (zend (fun q => zcd1 (zTc C q)) m a - a) a w))) 1 7 (Int32.ofInt (zend (fun q => zcd1 (zTc C q)) m a : Nat))) 1 8 (Int32.ofInt 2)) hp) := by
  intro n
  induction n using Nat.strongRecOn with
  | _ n ih =>
  intro C a c s w hS hv w0 w1
  obtain ⟨y1, y2, y3⟩ := zCP_x hS
  have hfin : zend (fun q => zcd1 (zTc C q)) m a = a → zuS C 1 8 (Int32.ofInt 2) = zuS (zuS (zuS C 1 10 (Int32.ofInt (zcdA (zTc C) (zend (fun q => zcd1 (zTc C q)) m a - a) a w))) 1 7 (Int32.ofInt (zend (fun q => zcd1 (zTc C q)) m a : Nat))) 1 8 (Int32.ofInt 2) := by
    intro hz
    rw [hz, Nat.sub_self]
    show _ = zuS (zuS (zuS C 1 10 (Int32.ofInt w)) 1 7 (Int32.ofInt (a : Int))) 1 8 (Int32.ofInt 2)
    rw [← hv, zuS_id (S := C) (i := 1) (b := 10) rfl, zuS_id (S := C) (i := 1) (b := 7) hS.2.1]
  have k1 : (Int32.ofInt 100000).toInt = 100000 := by decide
  have hnew : zcd1 (zTc C a) = true → (if (C 1 10 * Int32.ofInt 10 + zTc C a - Int32.ofInt 48).toInt ≤ (Int32.ofInt 100000).toInt then C 1 10 * Int32.ofInt 10 + zTc C a - Int32.ofInt 48 else Int32.ofInt 100000) = Int32.ofInt (if 10 * w + (zTc C a).toInt - 48 ≤ 100000 then 10 * w + (zTc C a).toInt - 48 else 100000) := by
    intro g
    simp only [zcd1, Bool.and_eq_true, decide_eq_true_eq] at g
    have e1 : C 1 10 * Int32.ofInt 10 + zTc C a - Int32.ofInt 48 = Int32.ofInt (10 * w + (zTc C a).toInt - 48) := by
      rw [hv, ← Int32.ofInt_mul, ← Int32.ofInt_toInt (zTc C a), ← Int32.ofInt_add, ← Int32.ofInt_sub, Int32.ofInt_toInt, Int.mul_comm]
    have e2 : (Int32.ofInt (10 * w + (zTc C a).toInt - 48)).toInt = 10 * w + (zTc C a).toInt - 48 := zRt ⟨by omega, by omega⟩
    rw [e1, e2, k1]
    split <;> rfl
  refine zp0 (by rfl) rfl rfl ?_
  refine zy_get (b := 7) he (by rfl) (by rfl) (by rfl) (by rfl) ?_
  refine zp0 (by rfl) rfl rfl ?_
  refine zy_get (b := 6) he (by rfl) (by rfl) (by rfl) (by rfl) ?_
  refine zy_icmp (by rfl) (by rfl) (fun h1 => ?_) (fun h1 => ?_)
  · iterate 2 refine zp0 (by rfl) rfl rfl ?_
    refine zy_put (b := 8) he (by rfl) (by rfl) (by rfl) ?_
    refine zp_retV (by rfl) ?_
    simp only [zcf, y1, y2] at h1
    have hz : zend (fun q => zcd1 (zTc C q)) m a = a := zend_no (Or.inl (by omega))
    refine ⟨rfl, ?_⟩
    rw [← hfin hz]
  · iterate 2 refine zp0 (by rfl) rfl rfl ?_
    refine zy_get (b := 7) he (by rfl) (by rfl) (by rfl) (by rfl) ?_
    refine zy_v1e (by rfl) (zc_sgn he hS) ?_
    refine zy_s1e (by rfl) (by rfl) (zc_isDigit _) ?_
    refine zy_if (by rfl) (by rfl) (fun h2 => ?_) (fun h2 => ?_)
    · iterate 2 refine zp0 (by rfl) rfl rfl ?_
      refine zy_put (b := 8) he (by rfl) (by rfl) (by rfl) ?_
      refine zp_retV (by rfl) ?_
      simp only [zcf, y1, y2] at h1
      have g2 := zite0 h2
      rw [zcsg_in (by omega)] at g2
      have hz : zend (fun q => zcd1 (zTc C q)) m a = a := zend_no (Or.inr (Bool.eq_false_iff.mpr g2))
      refine ⟨rfl, ?_⟩
      rw [← hfin hz]
    · iterate 2 refine zp0 (by rfl) rfl rfl ?_
      refine zy_get (b := 10) he (by rfl) (by rfl) (by rfl) (by rfl) ?_
      refine zq_bip (by rfl) (by decide) ?_
      iterate 3 refine zp0 (by rfl) rfl rfl ?_
      refine zy_get (b := 7) he (by rfl) (by rfl) (by rfl) (by rfl) ?_
      refine zy_v1e (by rfl) (zc_sgn he hS) ?_
      refine zp0 (by rfl) rfl rfl ?_
      refine zq_bip (by rfl) (by decide) ?_
      iterate 2 refine zp0 (by rfl) rfl rfl ?_
      refine zy_s2e (by rfl) (by rfl) (zc_min _ _) ?_
      refine zy_put (b := 10) he (by rfl) (by rfl) (by rfl) ?_
      iterate 2 refine zp0 (by rfl) rfl rfl ?_
      refine zy_get (b := 7) he (by rfl) (by rfl) (by rfl) (by rfl) ?_
      iterate 2 refine zp0 (by rfl) rfl rfl ?_
      refine zy_put (b := 7) he (by rfl) (by rfl) (by rfl) ?_
      simp only [zcf, y1, y2] at h1
      have g2 := zite1 h2
      rw [zcsg_in (by omega)] at g2
      refine zp0l (by rfl) rfl rfl (fun m1 hm1 => ?_)
      have hn := hnew g2
      rw [zcsg_in (by omega), hn]
      have g3 := g2
      simp only [zcd1, Bool.and_eq_true, decide_eq_true_eq] at g3
      generalize hw9 : (if 10 * w + (zTc C a).toInt - 48 ≤ 100000 then 10 * w + (zTc C a).toInt - 48 else 100000) = w9
      have hP : zCP m a (zuS C 1 10 (Int32.ofInt w9)) := ⟨hS.1, hS.2.1, hS.2.2⟩
      have h9 := fun c s => ih m1 hm1 _ (a + 1) c s w9 (zCP_up hP (by omega)) (by rw [zuS_off (Or.inr (by decide)), zuS_at]) (by rw [← hw9]; split <;> omega) (by rw [← hw9]; split <;> omega)
      have hzz := zend_up (p := fun q => zcd1 (zTc C q)) (m := m) (a := a) (by omega) g2
      have hle := (zend_le (p := fun q => zcd1 (zTc C q)) (m := m) (m - (a + 1)) (a + 1) (by omega)).1
      have hT : zTc (zuS (zuS C 1 10 (Int32.ofInt w9)) 1 7 (zuS C 1 10 (Int32.ofInt w9) 1 7 + Int32.ofInt 1)) = zTc C := rfl
      simp only [hT, ← hzz] at h9
      rw [← hzz] at hle
      have hd : zcdA (zTc C) (zend (fun q => zcd1 (zTc C q)) m a - a) a w = zcdA (zTc C) (zend (fun q => zcd1 (zTc C q)) m a - (a + 1)) (a + 1) w9 := by
        rw [show zend (fun q => zcd1 (zTc C q)) m a - a = (zend (fun q => zcd1 (zTc C q)) m a - (a + 1)) + 1 by omega, ← hw9]
        rfl
      rw [hd]
      have hst : ∀ (u v w y z : Int32), zuS (zuS (zuS (zuS (zuS C 1 10 u) 1 7 v) 1 10 w) 1 7 y) 1 8 z = zuS (zuS (zuS C 1 10 w) 1 7 y) 1 8 z := by
        intro u v w y z
        congr 1
        funext q p
        unfold zuS va_up
        by_cases hq : q = 1
        · subst hq
          by_cases h7 : p = 7
          · simp [h7]
          · by_cases h9 : p = 10
            · simp [h9]
            · simp [h7, h9]
        · simp [hq]
      simp only [hst] at h9
      exact h9 _ _
end ZCL2
