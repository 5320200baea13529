/-! the class's reader of E: its small methods -/
section ZCL5
variable {Lx : Nat} {xs : Nat → Int32} {n : Nat} {hp : List zhE} {e : Nat → Nat} {C : Nat → Nat → Int32} {x1 x2 x3 x4 m : Nat}
theorem zc_cut (he : zeI e hp (zDC x1 x2 x3 x4).length) (hm : m ≤ 600) : zPn Lx xs n 62 (0, lv_args 0 [.ref (e 1), .ref (e 5), .int (Int32.ofInt (m : Int))], [], zHS e (zDC x1 x2 x3 x4) C hp, 0, 0) (fun rv hp1 => rv = none ∧ ∃ C' k, hp1 = zHS e (zDC x1 6 x3 x4) C' hp ∧ zScn m k 0 C' ∧ zTc C' = zTc C ∧ (∀ q, q ≠ 1 → q ≠ 2 → q ≠ 3 → q ≠ 4 → C' q = C q)) := by
  have he6 : zeI e hp (zDC x1 6 x3 x4).length := he
  have ex : (Int32.ofInt (m : Int)).toInt = m := zof_ix (by omega)
  have e6 : (Int32.ofInt 600).toInt = 600 := by decide
  have hmin : (if (Int32.ofInt (m : Int)).toInt ≤ (if (Int32.ofInt ((600 : Nat) : Int)).toInt ≤ (Int32.ofInt 600).toInt then Int32.ofInt ((600 : Nat) : Int) else Int32.ofInt 600).toInt then Int32.ofInt (m : Int) else (if (Int32.ofInt ((600 : Nat) : Int)).toInt ≤ (Int32.ofInt 600).toInt then Int32.ofInt ((600 : Nat) : Int) else Int32.ofInt 600)) = Int32.ofInt (m : Int) := by
    have h1 : (if (Int32.ofInt ((600 : Nat) : Int)).toInt ≤ (Int32.ofInt 600).toInt then Int32.ofInt ((600 : Nat) : Int) else Int32.ofInt 600) = Int32.ofInt 600 := by decide
    rw [h1, ex, e6, if_pos (by omega)]
  iterate 2 refine zp0 (by rfl) rfl rfl ?_
  refine zy_putR (r := 5) (D' := zDC x1 6 x3 x4) he (by rfl) (by rfl) (by rfl) (by rfl) rfl ?_
  iterate 5 refine zp0 (by rfl) rfl rfl ?_
  refine zy_len he6 (by rfl) (by rfl) ?_
  refine zq_sip (by rfl) (by decide) ?_
  refine zy_s2e (by rfl) (by rfl) (zc_min _ _) ?_
  refine zy_s2e (by rfl) (by rfl) (zc_min _ _) ?_
  rw [hmin]
  refine zy_put (b := 6) he6 (by rfl) (by rfl) (by rfl) ?_
  iterate 2 refine zp0 (by rfl) rfl rfl ?_
  refine zy_put (b := 7) he6 (by rfl) (by rfl) (by rfl) ?_
  iterate 2 refine zp0 (by rfl) rfl rfl ?_
  refine zy_put (b := 3) he6 (by rfl) (by rfl) (by rfl) ?_
  refine zp0 (by rfl) rfl rfl ?_
  have hP : zCP m 0 (zuS (zuS (zuS C 1 6 (Int32.ofInt (m : Int))) 1 7 (Int32.ofInt 0)) 1 3 (Int32.ofInt 0)) := ⟨rfl, rfl, Nat.zero_le m, hm⟩
  have hsk := zc_skip (Lx := Lx) (xs := xs) (x1 := x1) (x3 := x3) (x4 := x4) (hp := hp) he6 n _ 0 0 0 hP
  have hcut : zCut (zTc C) m 0 C (zuS (zuS (zuS (zuS C 1 6 (Int32.ofInt (m : Int))) 1 7 (Int32.ofInt 0)) 1 3 (Int32.ofInt 0)) 1 7 (Int32.ofInt (zend (fun q => zcb1 (zTc C q)) m 0 : Nat))) := by
    refine ⟨rfl, fun i hi => absurd hi (Nat.not_lt_zero i), rfl, ⟨rfl, rfl, zpl_le (T := zTc C) 0, hm⟩, Nat.zero_le _, fun j hj => absurd hj (Nat.not_lt_zero j), fun q q1 q2 q3 q4 => ?_⟩
    rw [zuS_ne q1, zuS_ne q1, zuS_ne q1, zuS_ne q1]
  refine zy_v0n (by rfl) (hsk) ?_
  refine (zc_cutA he6 (zTc C) C 0 _ _ n _ 0 _ _ ?_)
  exact hcut
theorem zc_isTold (he : zeI e hp (zDC x1 x2 x3 x4).length)  : zPn Lx xs n 99 (0, lv_args 0 [.ref (e 16)], [], zHS e (zDC x1 x2 x3 x4) C hp, 0, 0) (fun rv hp1 => rv = some (.int (if 0 < (C 16 3).toInt then 1 else 0)) ∧ hp1 = zHS e (zDC x1 x2 x3 x4) C hp) := by
  refine zp0 (by rfl) rfl rfl ?_
  refine zy_get (b := 3) he (by rfl) (by rfl) (by rfl) (by rfl) ?_
  refine zy_if (by rfl) (by rfl) (fun h1 => ?_) (fun h1 => ?_)
  · refine zp0 (by rfl) rfl rfl ?_
    refine zp_retI (by rfl) ?_
    refine ⟨?_, rfl⟩
    simp only [zcf] at h1
    split
    all_goals first | rfl | (exfalso; omega)
  · iterate 2 refine zp0 (by rfl) rfl rfl ?_
    refine zp_retI (by rfl) ?_
    refine ⟨?_, rfl⟩
    simp only [zcf] at h1
    split
    all_goals first | rfl | (exfalso; omega)
def zcput (C : Nat → Nat → Int32) (x : Int32) : Nat → Nat → Int32 := if (C 16 3).toInt < 64 then zuS (zuS C 17 (C 16 3).toNatClampNeg x) 16 3 (C 16 3 + Int32.ofInt 1) else C
theorem zc_put (he : zeI e hp (zDC x1 x2 x3 x4).length) (x : Int32) : zPn Lx xs n 100 (0, lv_args 0 [.ref (e 16), .int x], [], zHS e (zDC x1 x2 x3 x4) C hp, 0, 0) (fun rv hp1 => rv = none ∧ hp1 = zHS e (zDC x1 x2 x3 x4) (zcput C x) hp) := by
  refine zp0 (by rfl) rfl rfl ?_
  refine zy_get (b := 3) he (by rfl) (by rfl) (by rfl) (by rfl) ?_
  refine zq_bip (by rfl) (by decide) ?_
  refine zy_icmpC (by rfl) (by rfl) ⟨by decide, by decide⟩ (fun h1 => ?_) (fun h1 => ?_)
  · refine zp_retV (by rfl) ?_
    simp only [zcf] at h1
    have hz : zcput C x = C := if_neg (by omega)
    rw [hz]
    exact ⟨rfl, rfl⟩
  · refine zp0 (by rfl) rfl rfl ?_
    refine zy_ref (r := 17) he (by rfl) (by rfl) (by rfl) (by rfl) ?_
    refine zp0 (by rfl) rfl rfl ?_
    refine zy_get (b := 3) he (by rfl) (by rfl) (by rfl) (by rfl) ?_
    refine zp0 (by rfl) rfl rfl ?_
    refine zy_ast he (by rfl) (by rfl) (fun u2 w2 => ?_)
    iterate 2 refine zp0 (by rfl) rfl rfl ?_
    refine zy_get (b := 3) he (by rfl) (by rfl) (by rfl) (by rfl) ?_
    iterate 2 refine zp0 (by rfl) rfl rfl ?_
    refine zy_put (b := 3) he (by rfl) (by rfl) (by rfl) ?_
    refine zp_retV (by rfl) ?_
    simp only [zcf] at h1
    have hz : zcput C x = zuS (zuS C 17 (C 16 3).toNatClampNeg x) 16 3 (C 16 3 + Int32.ofInt 1) := if_pos (by omega)
    rw [hz]
    exact ⟨rfl, rfl⟩
def zstr (x : Int) : Int := if -3 ≤ x then -x else if -9 ≤ x then 4 else if -11 ≤ x then 5 else 6
theorem zc_str (x : Int32) {hp : List zhE} : zPn Lx xs n 101 (0, lv_args 0 [.int x], [], hp, 0, 0) (fun rv hp1 => rv = some (.int (Int32.ofInt (zstr x.toInt))) ∧ hp1 = hp) := by
  have hneg : -x = Int32.ofInt (-x.toInt) := by rw [Int32.ofInt_neg, Int32.ofInt_toInt]
  refine zp0 (by rfl) rfl rfl ?_
  refine zq_bip (by rfl) (by decide) ?_
  refine zy_icmpC (by rfl) (by rfl) ⟨by decide, by decide⟩ (fun h1 => ?_) (fun h1 => ?_)
  · refine zp0 (by rfl) rfl rfl ?_
    refine zq_bip (by rfl) (by decide) ?_
    refine zy_icmpC (by rfl) (by rfl) ⟨by decide, by decide⟩ (fun h2 => ?_) (fun h2 => ?_)
    · refine zp0 (by rfl) rfl rfl ?_
      refine zq_bip (by rfl) (by decide) ?_
      refine zy_icmpC (by rfl) (by rfl) ⟨by decide, by decide⟩ (fun h3 => ?_) (fun h3 => ?_)
      · refine zq_bip (by rfl) (by decide) ?_
        refine zp_retI (by rfl) ?_
        simp only [zcf] at h1 h2 h3
        have hz : zstr x.toInt = 6 := by
          unfold zstr
          rw [if_neg (by omega), if_neg (by omega), if_neg (by omega)]
        rw [hz]
        exact ⟨rfl, rfl⟩
      · iterate 2 refine zp0 (by rfl) rfl rfl ?_
        refine zp_retI (by rfl) ?_
        simp only [zcf] at h1 h2 h3
        have hz : zstr x.toInt = 5 := by
          unfold zstr
          rw [if_neg (by omega), if_neg (by omega), if_pos (by omega)]
        rw [hz]
        exact ⟨rfl, rfl⟩
    · refine zp0 (by rfl) rfl rfl ?_
      refine zp_retI (by rfl) ?_
      simp only [zcf] at h1 h2
      have hz : zstr x.toInt = 4 := by
        unfold zstr
        rw [if_neg (by omega), if_pos (by omega)]
      rw [hz]
      exact ⟨rfl, rfl⟩
  · iterate 2 refine zp0 (by rfl) rfl rfl ?_
    refine zp_retI (by rfl) ?_
    simp only [zcf] at h1
    have hz : zstr x.toInt = -x.toInt := by
      unfold zstr
      rw [if_pos (by omega)]
    rw [hz, ← hneg]
    exact ⟨rfl, rfl⟩
theorem zc_count (he : zeI e hp (zDC x1 x2 x3 x4).length)  : zPn Lx xs n 109 (0, lv_args 0 [.ref (e 18)], [], zHS e (zDC x1 x2 x3 x4) C hp, 0, 0) (fun rv hp1 => rv = some (.int (if 64 < (C 18 4 + Int32.ofInt 1).toInt then Int32.ofInt 2 else Int32.ofInt 0)) ∧ hp1 = zHS e (zDC x1 x2 x3 x4) (zuS C 18 4 (C 18 4 + Int32.ofInt 1)) hp) := by
  iterate 2 refine zp0 (by rfl) rfl rfl ?_
  refine zy_get (b := 4) he (by rfl) (by rfl) (by rfl) (by rfl) ?_
  iterate 2 refine zp0 (by rfl) rfl rfl ?_
  refine zy_put (b := 4) he (by rfl) (by rfl) (by rfl) ?_
  refine zp0 (by rfl) rfl rfl ?_
  refine zy_get (b := 4) he (by rfl) (by rfl) (by rfl) (by rfl) ?_
  refine zq_bip (by rfl) (by decide) ?_
  refine zy_icmpC (by rfl) (by rfl) ⟨by decide, by decide⟩ (fun h1 => ?_) (fun h1 => ?_)
  · refine zp0 (by rfl) rfl rfl ?_
    refine zp_retI (by rfl) ?_
    simp +decide only [↓reduceIte, zcf, zuS, va_up] at h1
    refine ⟨?_, rfl⟩
    split
    all_goals first | rfl | (exfalso; omega)
  · iterate 2 refine zp0 (by rfl) rfl rfl ?_
    refine zp_retI (by rfl) ?_
    simp +decide only [↓reduceIte, zcf, zuS, va_up] at h1
    refine ⟨?_, rfl⟩
    split
    all_goals first | rfl | (exfalso; omega)
/-- the last sign that waits: 0, if none does -/
def zlast (C : Nat → Nat → Int32) (d : Nat) : Int32 := if 0 < d then C 19 (d - 1) else Int32.ofInt 0

theorem zc_last (he : zeI e hp (zDC x1 x2 x3 x4).length) {d : Nat} (hd : C 18 2 = Int32.ofInt (d : Int)) (h72 : d ≤ 72)  : zPn Lx xs n 115 (0, lv_args 0 [.ref (e 18)], [], zHS e (zDC x1 x2 x3 x4) C hp, 0, 0) (fun rv hp1 => rv = some (.int (zlast C d)) ∧ hp1 = zHS e (zDC x1 x2 x3 x4) C hp) := by
  have y1 : (C 18 2).toInt = d := by rw [hd]; exact zof_ix (by omega)
  have y2 : (Int32.ofInt ((72 : Nat) : Int)).toInt = 72 := by decide
  refine zp0 (by rfl) rfl rfl ?_
  refine zy_get (b := 2) he (by rfl) (by rfl) (by rfl) (by rfl) ?_
  refine zy_if (by rfl) (by rfl) (fun h1 => ?_) (fun h1 => ?_)
  · refine zp0 (by rfl) rfl rfl ?_
    refine zp_retI (by rfl) ?_
    simp only [zcf, y1] at h1
    have hz : zlast C d = Int32.ofInt 0 := if_neg (by omega)
    rw [hz]
    exact ⟨rfl, rfl⟩
  · refine zp0 (by rfl) rfl rfl ?_
    refine zy_get (b := 2) he (by rfl) (by rfl) (by rfl) (by rfl) ?_
    refine zp0 (by rfl) rfl rfl ?_
    refine zy_ref (r := 19) he (by rfl) (by rfl) (by rfl) (by rfl) ?_
    refine zy_len he (by rfl) (by rfl) ?_
    refine zy_icmp (by rfl) (by rfl) (fun h2 => ?_) (fun h2 => ?_)
    · refine zp0 (by rfl) rfl rfl ?_
      refine zp_retI (by rfl) ?_
      exfalso
      simp only [zcf, y1, y2] at h1 h2
      omega
    · refine zp0 (by rfl) rfl rfl ?_
      refine zy_ref (r := 19) he (by rfl) (by rfl) (by rfl) (by rfl) ?_
      refine zp0 (by rfl) rfl rfl ?_
      refine zy_get (b := 2) he (by rfl) (by rfl) (by rfl) (by rfl) ?_
      iterate 2 refine zp0 (by rfl) rfl rfl ?_
      refine zy_ald he (by rfl) (by rfl) (fun u3 w3 => ?_)
      refine zp0 (by rfl) rfl rfl ?_
      refine zp_retI (by rfl) ?_
      simp only [zcf, y1] at h1
      have hz : zlast C d = C 19 (C 18 2 - Int32.ofInt 1).toNatClampNeg := by
        rw [hd, zof_dn (by omega) (by omega), zof_cl (by omega)]
        exact if_pos (by omega)
      rw [hz]
      exact ⟨rfl, rfl⟩
theorem zc_mayDeny (he : zeI e hp (zDC x1 x2 x3 x4).length) {d : Nat} (hd : C 18 2 = Int32.ofInt (d : Int)) (h72 : d ≤ 72)  : zPn Lx xs n 110 (0, lv_args 0 [.ref (e 18)], [], zHS e (zDC x1 x2 x3 x4) C hp, 0, 0) (fun rv hp1 => rv = some (.int (if d = 0 ∨ (zlast C d).toInt = 0 ∨ (zlast C d).toInt = -2 ∨ (zlast C d).toInt = -1 ∨ (zlast C d).toInt = -3 then 1 else 0)) ∧ hp1 = zHS e (zDC x1 x2 x3 x4) C hp) := by
  have y1 : (C 18 2).toInt = d := by rw [hd]; exact zof_ix (by omega)
  have y2 : (Int32.ofInt ((72 : Nat) : Int)).toInt = 72 := by decide
  refine zp0 (by rfl) rfl rfl ?_
  refine zy_v0e (by rfl) (zc_last he hd h72) ?_
  iterate 2 refine zp0 (by rfl) rfl rfl ?_
  refine zy_get (b := 2) he (by rfl) (by rfl) (by rfl) (by rfl) ?_
  refine zy_if (by rfl) (by rfl) (fun h1 => ?_) (fun h1 => ?_)
  · iterate 2 refine zp0 (by rfl) rfl rfl ?_
    refine zp_retI (by rfl) ?_
    refine ⟨?_, rfl⟩
    simp only [zcf, y1] at h1
    split
    all_goals first | rfl | (exfalso; omega)
  · refine zp0 (by rfl) rfl rfl ?_
    refine zy_if (by rfl) (by rfl) (fun h2 => ?_) (fun h2 => ?_)
    · iterate 2 refine zp0 (by rfl) rfl rfl ?_
      refine zp_retI (by rfl) ?_
      refine ⟨?_, rfl⟩
      simp only [zcf, y1] at h1 h2
      split
      all_goals first | rfl | (exfalso; omega)
    · refine zp0 (by rfl) rfl rfl ?_
      refine zq_bip (by rfl) (by decide) ?_
      refine zy_icmpC (by rfl) (by rfl) ⟨by decide, by decide⟩ (fun h3 => ?_) (fun h3 => ?_)
      · iterate 2 refine zp0 (by rfl) rfl rfl ?_
        refine zp_retI (by rfl) ?_
        refine ⟨?_, rfl⟩
        simp only [zcf, y1] at h1 h2 h3
        split
        all_goals first | rfl | (exfalso; omega)
      · iterate 2 refine zp0 (by rfl) rfl rfl ?_
        refine zy_icmpC (by rfl) (by rfl) ⟨by decide, by decide⟩ (fun h4 => ?_) (fun h4 => ?_)
        · iterate 2 refine zp0 (by rfl) rfl rfl ?_
          refine zp_retI (by rfl) ?_
          refine ⟨?_, rfl⟩
          simp only [zcf, y1] at h1 h2 h3 h4
          split
          all_goals first | rfl | (exfalso; omega)
        · refine zp0 (by rfl) rfl rfl ?_
          refine zq_bip (by rfl) (by decide) ?_
          refine zy_icmpC (by rfl) (by rfl) ⟨by decide, by decide⟩ (fun h5 => ?_) (fun h5 => ?_)
          · refine zp0 (by rfl) rfl rfl ?_
            refine zp_retI (by rfl) ?_
            refine ⟨?_, rfl⟩
            simp only [zcf, y1] at h1 h2 h3 h4 h5
            split
            all_goals first | rfl | (exfalso; omega)
          · iterate 2 refine zp0 (by rfl) rfl rfl ?_
            refine zp_retI (by rfl) ?_
            refine ⟨?_, rfl⟩
            simp only [zcf, y1] at h1 h2 h3 h4 h5
            split
            all_goals first | rfl | (exfalso; omega)
def zcaw (C : Nat → Nat → Int32) (d : Nat) (x : Int32) : Nat → Nat → Int32 := if d < 72 then zuS (zuS C 19 d x) 18 2 (Int32.ofInt ((d + 1 : Nat) : Int)) else C
theorem zc_await (he : zeI e hp (zDC x1 x2 x3 x4).length) {d : Nat} (hd : C 18 2 = Int32.ofInt (d : Int)) (h72 : d ≤ 72) (x : Int32) : zPn Lx xs n 116 (0, lv_args 0 [.ref (e 18), .int x], [], zHS e (zDC x1 x2 x3 x4) C hp, 0, 0) (fun rv hp1 => rv = none ∧ hp1 = zHS e (zDC x1 x2 x3 x4) (zcaw C d x) hp) := by
  have y1 : (C 18 2).toInt = d := by rw [hd]; exact zof_ix (by omega)
  have y2 : (Int32.ofInt ((72 : Nat) : Int)).toInt = 72 := by decide
  refine zp0 (by rfl) rfl rfl ?_
  refine zy_get (b := 2) he (by rfl) (by rfl) (by rfl) (by rfl) ?_
  refine zp0 (by rfl) rfl rfl ?_
  refine zy_ref (r := 19) he (by rfl) (by rfl) (by rfl) (by rfl) ?_
  refine zy_len he (by rfl) (by rfl) ?_
  refine zy_icmp (by rfl) (by rfl) (fun h1 => ?_) (fun h1 => ?_)
  · refine zp_retV (by rfl) ?_
    simp only [zcf, y1, y2] at h1
    have hz : zcaw C d x = C := if_neg (by omega)
    rw [hz]
    exact ⟨rfl, rfl⟩
  · refine zp0 (by rfl) rfl rfl ?_
    refine zy_ref (r := 19) he (by rfl) (by rfl) (by rfl) (by rfl) ?_
    refine zp0 (by rfl) rfl rfl ?_
    refine zy_get (b := 2) he (by rfl) (by rfl) (by rfl) (by rfl) ?_
    refine zp0 (by rfl) rfl rfl ?_
    refine zy_ast he (by rfl) (by rfl) (fun u2 w2 => ?_)
    iterate 2 refine zp0 (by rfl) rfl rfl ?_
    refine zy_get (b := 2) he (by rfl) (by rfl) (by rfl) (by rfl) ?_
    iterate 2 refine zp0 (by rfl) rfl rfl ?_
    refine zy_put (b := 2) he (by rfl) (by rfl) (by rfl) ?_
    refine zp_retV (by rfl) ?_
    simp only [zcf, y1, y2] at h1
    have hz : zcaw C d x = zuS (zuS C 19 (C 18 2).toNatClampNeg x) 18 2 (C 18 2 + Int32.ofInt 1) := by
      rw [hd, zof_cl (by omega), zof_up]
      exact if_pos (by omega)
    rw [hz]
    exact ⟨rfl, rfl⟩
end ZCL5
