/-! the class that reads: its cells (reader, scanner, kinds, places, values, tape, told, nine rows, wish, code, its reader, waiting) -/
def zDC (x1 x2 x3 x4 : Nat) : List zDe := [.inl (4, [2, 19, x1, 0, 0, 0, 0], 7), .inl (5, [3, 4, 5, 0, 0, x2, 0, 0, 0, 0, 0], 11), .inr (0, 601), .inr (0, 601), .inr (0, 601), .inr (2, 600), .inl (8, [8, 9, 10, 11, 12, 13, 14, 15, 16, 0, 0, 0, 0, 17], 14), .inr (0, 9), .inr (0, 9), .inr (0, 9), .inr (0, 9), .inr (0, 9), .inr (0, 9), .inr (0, 9), .inr (0, 9), .inr (0, 9), .inl (9, [18, 21, 22, 0], 4), .inr (0, 64), .inl (10, [x3, 20, 0, 0, 0, x4], 6), .inr (0, 72)]
section ZCL
variable {Lx : Nat} {xs : Nat → Int32} {n : Nat} {hp : List zhE} {e : Nat → Nat} {C : Nat → Nat → Int32} {x1 x3 x4 m : Nat}
theorem zc_min (x y : Int32) {hp : List zhE} : zPn Lx xs n 274 (0, lv_args 0 [.int x, .int y], [], hp, 0, 0) (fun rv hp1 => rv = some (.int (if x.toInt ≤ y.toInt then x else y)) ∧ hp1 = hp) := by
  iterate 2 refine zp0 (by rfl) rfl rfl ?_
  refine zy_icmp (by rfl) (by rfl) (fun h1 => ?_) (fun h1 => ?_)
  · refine zp0 (by rfl) rfl rfl ?_
    refine zp_retI (by rfl) ?_
    refine ⟨?_, rfl⟩
    simp only [zcf] at h1
    split
    all_goals first | rfl | (exfalso; omega)
  · iterate 2 refine zp0 (by rfl) rfl rfl ?_
    refine zp_retI (by rfl) ?_
    refine ⟨?_, rfl⟩
    simp only [zcf] at h1
    split
    all_goals first | rfl | (exfalso; omega)
theorem zc_isLetter (x : Int32) {hp : List zhE} : zPn Lx xs n 71 (0, lv_args 0 [.int x], [], hp, 0, 0) (fun rv hp1 => rv = some (.int (if zcs1 x = true then 1 else 0)) ∧ hp1 = hp) := by
  have k1 : (Int32.ofInt 97).toInt = 97 := by decide
  have k2 : (Int32.ofInt 122).toInt = 122 := by decide
  refine zp0 (by rfl) rfl rfl ?_
  refine zq_bip (by rfl) (by decide) ?_
  refine zy_icmpC (by rfl) (by rfl) ⟨by decide, by decide⟩ (fun h1 => ?_) (fun h1 => ?_)
  · refine zp0 (by rfl) rfl rfl ?_
    refine zp_retI (by rfl) ?_
    refine ⟨?_, rfl⟩
    simp only [zcf, k1, k2] at h1
    simp only [zcs1, zcd1, Bool.and_eq_true, decide_eq_true_eq]
    split
    all_goals first | rfl | (exfalso; omega)
  · refine zp0 (by rfl) rfl rfl ?_
    refine zq_bip (by rfl) (by decide) ?_
    refine zy_icmpC (by rfl) (by rfl) ⟨by decide, by decide⟩ (fun h2 => ?_) (fun h2 => ?_)
    · refine zp0 (by rfl) rfl rfl ?_
      refine zp_retI (by rfl) ?_
      refine ⟨?_, rfl⟩
      simp only [zcf, k1, k2] at h1 h2
      simp only [zcs1, zcd1, Bool.and_eq_true, decide_eq_true_eq]
      split
      all_goals first | rfl | (exfalso; omega)
    · iterate 2 refine zp0 (by rfl) rfl rfl ?_
      refine zp_retI (by rfl) ?_
      refine ⟨?_, rfl⟩
      simp only [zcf, k1, k2] at h1 h2
      simp only [zcs1, zcd1, Bool.and_eq_true, decide_eq_true_eq]
      split
      all_goals first | rfl | (exfalso; omega)
theorem zc_isDigit (x : Int32) {hp : List zhE} : zPn Lx xs n 72 (0, lv_args 0 [.int x], [], hp, 0, 0) (fun rv hp1 => rv = some (.int (if zcd1 x = true then 1 else 0)) ∧ hp1 = hp) := by
  have k1 : (Int32.ofInt 48).toInt = 48 := by decide
  have k2 : (Int32.ofInt 57).toInt = 57 := by decide
  refine zp0 (by rfl) rfl rfl ?_
  refine zq_bip (by rfl) (by decide) ?_
  refine zy_icmpC (by rfl) (by rfl) ⟨by decide, by decide⟩ (fun h1 => ?_) (fun h1 => ?_)
  · refine zp0 (by rfl) rfl rfl ?_
    refine zp_retI (by rfl) ?_
    refine ⟨?_, rfl⟩
    simp only [zcf, k1, k2] at h1
    simp only [zcs1, zcd1, Bool.and_eq_true, decide_eq_true_eq]
    split
    all_goals first | rfl | (exfalso; omega)
  · refine zp0 (by rfl) rfl rfl ?_
    refine zq_bip (by rfl) (by decide) ?_
    refine zy_icmpC (by rfl) (by rfl) ⟨by decide, by decide⟩ (fun h2 => ?_) (fun h2 => ?_)
    · refine zp0 (by rfl) rfl rfl ?_
      refine zp_retI (by rfl) ?_
      refine ⟨?_, rfl⟩
      simp only [zcf, k1, k2] at h1 h2
      simp only [zcs1, zcd1, Bool.and_eq_true, decide_eq_true_eq]
      split
      all_goals first | rfl | (exfalso; omega)
    · iterate 2 refine zp0 (by rfl) rfl rfl ?_
      refine zp_retI (by rfl) ?_
      refine ⟨?_, rfl⟩
      simp only [zcf, k1, k2] at h1 h2
      simp only [zcs1, zcd1, Bool.and_eq_true, decide_eq_true_eq]
      split
      all_goals first | rfl | (exfalso; omega)
/-- the class's tape, as the letters' numbers -/
def zTc (C : Nat → Nat → Int32) : Nat → Int32 := fun q => C 5 q &&& Int32.ofInt 255
def zcsg (C : Nat → Nat → Int32) (m a : Nat) : Int32 := if a < m then zTc C a else Int32.ofInt 0
theorem zc_sign (he : zeI e hp (zDC x1 6 x3 x4).length) (a : Nat) (hm : C 1 6 = Int32.ofInt (m : Int)) (h6 : m ≤ 600) (ha : a ≤ 600) : zPn Lx xs n 64 (0, lv_args 0 [.ref (e 1), .int (Int32.ofInt (a : Int))], [], zHS e (zDC x1 6 x3 x4) C hp, 0, 0) (fun rv hp1 => rv = some (.int (zcsg C m a)) ∧ hp1 = zHS e (zDC x1 6 x3 x4) C hp) := by
  have k1 : (C 1 6).toInt = m := by rw [hm]; exact zof_ix (by omega)
  have k2 : (Int32.ofInt (a : Int)).toInt = a := zof_ix (by omega)
  have k3 : (Int32.ofInt (a : Int)).toNatClampNeg = a := zof_cl (by omega)
  have k4 : (Int32.ofInt (600 : Nat)).toInt = 600 := by decide
  refine zp0 (by rfl) rfl rfl ?_
  refine zy_ref (r := 5) he (by rfl) (by rfl) (by rfl) (by rfl) ?_
  iterate 2 refine zp0 (by rfl) rfl rfl ?_
  refine zy_if (by rfl) (by rfl) (fun h1 => ?_) (fun h1 => ?_)
  · refine zp0 (by rfl) rfl rfl ?_
    refine zp_retI (by rfl) ?_
    refine ⟨?_, rfl⟩
    simp only [zcf, k1, k2, k4] at h1
    unfold zcsg
    split
    all_goals first | rfl | (exfalso; omega) | (rw [k3]; rfl)
  · iterate 2 refine zp0 (by rfl) rfl rfl ?_
    refine zy_get (b := 6) he (by rfl) (by rfl) (by rfl) (by rfl) ?_
    refine zy_icmp (by rfl) (by rfl) (fun h2 => ?_) (fun h2 => ?_)
    · refine zp0 (by rfl) rfl rfl ?_
      refine zp_retI (by rfl) ?_
      refine ⟨?_, rfl⟩
      simp only [zcf, k1, k2, k4] at h1 h2
      unfold zcsg
      split
      all_goals first | rfl | (exfalso; omega) | (rw [k3]; rfl)
    · iterate 2 refine zp0 (by rfl) rfl rfl ?_
      refine zy_ref (r := 5) he (by rfl) (by rfl) (by rfl) (by rfl) ?_
      refine zy_len he (by rfl) (by rfl) ?_
      refine zy_icmp (by rfl) (by rfl) (fun h3 => ?_) (fun h3 => ?_)
      · refine zp0 (by rfl) rfl rfl ?_
        refine zp_retI (by rfl) ?_
        refine ⟨?_, rfl⟩
        simp only [zcf, k1, k2, k4] at h1 h2 h3
        unfold zcsg
        split
        all_goals first | rfl | (exfalso; omega) | (rw [k3]; rfl)
      · refine zp0 (by rfl) rfl rfl ?_
        refine zy_ref (r := 5) he (by rfl) (by rfl) (by rfl) (by rfl) ?_
        refine zp0 (by rfl) rfl rfl ?_
        refine zy_aldB he (by rfl) (by rfl) (fun u4 w4 => ?_)
        refine zq_sip (by rfl) (by decide) ?_
        iterate 2 refine zp0 (by rfl) rfl rfl ?_
        refine zp_retI (by rfl) ?_
        refine ⟨?_, rfl⟩
        simp only [zcf, k1, k2, k4] at h1 h2 h3
        unfold zcsg
        split
        all_goals first | rfl | (exfalso; omega) | (rw [k3]; rfl)
theorem zc_isWord (he : zeI e hp (zDC x1 6 x3 x4).length) (x : Int32) : zPn Lx xs n 73 (0, lv_args 0 [.ref (e 1), .int x], [], zHS e (zDC x1 6 x3 x4) C hp, 0, 0) (fun rv hp1 => rv = some (.int (if (C 1 8).toInt = 1 ∧ (C 1 10).toInt = x.toInt then 1 else 0)) ∧ hp1 = zHS e (zDC x1 6 x3 x4) C hp) := by
  have k1 : (Int32.ofInt 1).toInt = 1 := by decide
  refine zp0 (by rfl) rfl rfl ?_
  refine zy_get (b := 8) he (by rfl) (by rfl) (by rfl) (by rfl) ?_
  refine zp0 (by rfl) rfl rfl ?_
  refine zy_icmpC (by rfl) (by rfl) ⟨by decide, by decide⟩ (fun h1 => ?_) (fun h1 => ?_)
  · refine zp0 (by rfl) rfl rfl ?_
    refine zp_retI (by rfl) ?_
    refine ⟨?_, rfl⟩
    simp only [zcf, k1] at h1
    split
    all_goals first | rfl | (exfalso; omega)
  · refine zp0 (by rfl) rfl rfl ?_
    refine zy_get (b := 10) he (by rfl) (by rfl) (by rfl) (by rfl) ?_
    refine zp0 (by rfl) rfl rfl ?_
    refine zy_icmp (by rfl) (by rfl) (fun h2 => ?_) (fun h2 => ?_)
    · refine zp0 (by rfl) rfl rfl ?_
      refine zp_retI (by rfl) ?_
      refine ⟨?_, rfl⟩
      simp only [zcf, k1] at h1 h2
      split
      all_goals first | rfl | (exfalso; omega)
    · iterate 2 refine zp0 (by rfl) rfl rfl ?_
      refine zp_retI (by rfl) ?_
      refine ⟨?_, rfl⟩
      simp only [zcf, k1] at h1 h2
      split
      all_goals first | rfl | (exfalso; omega)
theorem zc_isSign (he : zeI e hp (zDC x1 6 x3 x4).length) (x : Int32) : zPn Lx xs n 74 (0, lv_args 0 [.ref (e 1), .int x], [], zHS e (zDC x1 6 x3 x4) C hp, 0, 0) (fun rv hp1 => rv = some (.int (if (C 1 8).toInt = 3 ∧ (C 1 10).toInt = x.toInt then 1 else 0)) ∧ hp1 = zHS e (zDC x1 6 x3 x4) C hp) := by
  have k1 : (Int32.ofInt 3).toInt = 3 := by decide
  refine zp0 (by rfl) rfl rfl ?_
  refine zy_get (b := 8) he (by rfl) (by rfl) (by rfl) (by rfl) ?_
  refine zp0 (by rfl) rfl rfl ?_
  refine zy_icmpC (by rfl) (by rfl) ⟨by decide, by decide⟩ (fun h1 => ?_) (fun h1 => ?_)
  · refine zp0 (by rfl) rfl rfl ?_
    refine zp_retI (by rfl) ?_
    refine ⟨?_, rfl⟩
    simp only [zcf, k1] at h1
    split
    all_goals first | rfl | (exfalso; omega)
  · refine zp0 (by rfl) rfl rfl ?_
    refine zy_get (b := 10) he (by rfl) (by rfl) (by rfl) (by rfl) ?_
    refine zp0 (by rfl) rfl rfl ?_
    refine zy_icmp (by rfl) (by rfl) (fun h2 => ?_) (fun h2 => ?_)
    · refine zp0 (by rfl) rfl rfl ?_
      refine zp_retI (by rfl) ?_
      refine ⟨?_, rfl⟩
      simp only [zcf, k1] at h1 h2
      split
      all_goals first | rfl | (exfalso; omega)
    · iterate 2 refine zp0 (by rfl) rfl rfl ?_
      refine zp_retI (by rfl) ?_
      refine ⟨?_, rfl⟩
      simp only [zcf, k1] at h1 h2
      split
      all_goals first | rfl | (exfalso; omega)
end ZCL
