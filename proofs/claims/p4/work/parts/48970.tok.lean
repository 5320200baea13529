/-! the model that reads: its cells; its small methods, as functions of the store -/
def zMtab : List Nat := [2, 0, 0, 3, 0, 0, 0, 0, 0, 0, 0, 0, 0, 0, 0, 0, 0, 0, 0, 0, 4, 5, 6, 7, 8, 9, 10, 11, 12, 13, 14, 15, 16, 17, 18, 0, 0, 0, 0, 0, 0, 0, 0, 0, 0, 19, 20, 21, 0, 22, 23, 24, 0, 0, 0, 25, 26, 27, 28, 29, 30, 31, 0, 0, 32, 33, 0, 0, 34, 0, 35]
def zDM : List zDe := [.inl (12, zMtab, 71), .inr (0, 600), .inr (0, 91), .inr (0, 20), .inr (0, 20), .inr (0, 20), .inr (0, 20), .inr (0, 20), .inr (0, 20), .inr (0, 20), .inr (0, 20), .inr (0, 20), .inr (0, 20), .inr (0, 128), .inr (0, 128), .inr (0, 128), .inr (0, 96), .inr (0, 96)]
section ZTK
variable {Lx : Nat} {xs : Nat → Int32} {n : Nat} {hp : List zhE} {e : Nat → Nat} {S : Nat → Nat → Int32}
/-- a letter, a digit, a blank at a place within a text -/
abbrev zisS (S : Nat → Nat → Int32) (q : Int32) : Prop := q.toInt < (S 0 6).toInt ∧ 97 ≤ (S 1 q.toNatClampNeg).toInt ∧ (S 1 q.toNatClampNeg).toInt ≤ 122
abbrev zisD (S : Nat → Nat → Int32) (q : Int32) : Prop := q.toInt < (S 0 6).toInt ∧ 48 ≤ (S 1 q.toNatClampNeg).toInt ∧ (S 1 q.toNatClampNeg).toInt ≤ 57
abbrev zisB (S : Nat → Nat → Int32) (q : Int32) : Prop := q.toInt < (S 0 6).toInt ∧ ((S 1 q.toNatClampNeg).toInt = 10 ∨ (S 1 q.toNatClampNeg).toInt = 32)
theorem zt_isSmall (he : zeI e hp zDM.length) (q : Int32) : zPn Lx xs n 165 (0, lv_args 0 [.ref (e 0), .int q], [], zHS e zDM S hp, 0, 0) (fun rv hp1 => rv = some (.int (if zisS S q then 1 else 0)) ∧ hp1 = zHS e zDM S hp) := by
  iterate 2 refine zp0 (by rfl) rfl rfl ?_
  refine zy_get (b := 6) he (by rfl) (by rfl) (by rfl) (by rfl) ?_
  refine zy_icmp (by rfl) (by rfl) (fun h1 => ?_) (fun h1 => ?_)
  · refine zp0 (by rfl) rfl rfl ?_
    refine zp_retI (by rfl) ?_
    refine ⟨?_, rfl⟩
    simp only [zcf] at h1
    simp only [zisS]
    split
    all_goals first | rfl | (exfalso; omega)
  · refine zp0 (by rfl) rfl rfl ?_
    refine zy_ref (r := 1) he (by rfl) (by rfl) (by rfl) (by rfl) ?_
    refine zp0 (by rfl) rfl rfl ?_
    refine zy_ald he (by rfl) (by rfl) (fun u2 w2 => ?_)
    refine zq_bip (by rfl) (by decide) ?_
    refine zy_icmpC (by rfl) (by rfl) ⟨by decide, by decide⟩ (fun h3 => ?_) (fun h3 => ?_)
    · refine zp0 (by rfl) rfl rfl ?_
      refine zp_retI (by rfl) ?_
      refine ⟨?_, rfl⟩
      simp only [zcf] at h1 h3
      simp only [zisS]
      split
      all_goals first | rfl | (exfalso; omega)
    · refine zp0 (by rfl) rfl rfl ?_
      refine zy_ref (r := 1) he (by rfl) (by rfl) (by rfl) (by rfl) ?_
      refine zp0 (by rfl) rfl rfl ?_
      refine zy_ald he (by rfl) (by rfl) (fun u4 w4 => ?_)
      refine zq_bip (by rfl) (by decide) ?_
      refine zy_icmpC (by rfl) (by rfl) ⟨by decide, by decide⟩ (fun h5 => ?_) (fun h5 => ?_)
      · refine zp0 (by rfl) rfl rfl ?_
        refine zp_retI (by rfl) ?_
        refine ⟨?_, rfl⟩
        simp only [zcf] at h1 h3 h5
        simp only [zisS]
        split
        all_goals first | rfl | (exfalso; omega)
      · iterate 2 refine zp0 (by rfl) rfl rfl ?_
        refine zp_retI (by rfl) ?_
        refine ⟨?_, rfl⟩
        simp only [zcf] at h1 h3 h5
        simp only [zisS]
        split
        all_goals first | rfl | (exfalso; omega)
theorem zt_isDigit (he : zeI e hp zDM.length) (q : Int32) : zPn Lx xs n 166 (0, lv_args 0 [.ref (e 0), .int q], [], zHS e zDM S hp, 0, 0) (fun rv hp1 => rv = some (.int (if zisD S q then 1 else 0)) ∧ hp1 = zHS e zDM S hp) := by
  iterate 2 refine zp0 (by rfl) rfl rfl ?_
  refine zy_get (b := 6) he (by rfl) (by rfl) (by rfl) (by rfl) ?_
  refine zy_icmp (by rfl) (by rfl) (fun h1 => ?_) (fun h1 => ?_)
  · refine zp0 (by rfl) rfl rfl ?_
    refine zp_retI (by rfl) ?_
    refine ⟨?_, rfl⟩
    simp only [zcf] at h1
    simp only [zisD]
    split
    all_goals first | rfl | (exfalso; omega)
  · refine zp0 (by rfl) rfl rfl ?_
    refine zy_ref (r := 1) he (by rfl) (by rfl) (by rfl) (by rfl) ?_
    refine zp0 (by rfl) rfl rfl ?_
    refine zy_ald he (by rfl) (by rfl) (fun u2 w2 => ?_)
    refine zq_bip (by rfl) (by decide) ?_
    refine zy_icmpC (by rfl) (by rfl) ⟨by decide, by decide⟩ (fun h3 => ?_) (fun h3 => ?_)
    · refine zp0 (by rfl) rfl rfl ?_
      refine zp_retI (by rfl) ?_
      refine ⟨?_, rfl⟩
      simp only [zcf] at h1 h3
      simp only [zisD]
      split
      all_goals first | rfl | (exfalso; omega)
    · refine zp0 (by rfl) rfl rfl ?_
      refine zy_ref (r := 1) he (by rfl) (by rfl) (by rfl) (by rfl) ?_
      refine zp0 (by rfl) rfl rfl ?_
      refine zy_ald he (by rfl) (by rfl) (fun u4 w4 => ?_)
      refine zq_bip (by rfl) (by decide) ?_
      refine zy_icmpC (by rfl) (by rfl) ⟨by decide, by decide⟩ (fun h5 => ?_) (fun h5 => ?_)
      · refine zp0 (by rfl) rfl rfl ?_
        refine zp_retI (by rfl) ?_
        refine ⟨?_, rfl⟩
        simp only [zcf] at h1 h3 h5
        simp only [zisD]
        split
        all_goals first | rfl | (exfalso; omega)
      · iterate 2 refine zp0 (by rfl) rfl rfl ?_
        refine zp_retI (by rfl) ?_
        refine ⟨?_, rfl⟩
        simp only [zcf] at h1 h3 h5
        simp only [zisD]
        split
        all_goals first | rfl | (exfalso; omega)
def zwrong (S : Nat → Nat → Int32) (w : Int32) : Nat → Nat → Int32 := zuS (zuS S 0 4 w) 0 5 (S 0 10)
theorem zt_wrong (he : zeI e hp zDM.length) (w : Int32) : zPn Lx xs n 163 (0, lv_args 0 [.ref (e 0), .int w], [], zHS e zDM S hp, 0, 0) (fun rv hp1 => rv = some (.int 0) ∧ hp1 = zHS e zDM (zwrong S w) hp) := by
  iterate 2 refine zp0 (by rfl) rfl rfl ?_
  refine zy_put (b := 4) he (by rfl) (by rfl) (by rfl) ?_
  iterate 2 refine zp0 (by rfl) rfl rfl ?_
  refine zy_get (b := 10) he (by rfl) (by rfl) (by rfl) (by rfl) ?_
  refine zy_put (b := 5) he (by rfl) (by rfl) (by rfl) ?_
  refine zp0 (by rfl) rfl rfl ?_
  refine zp_retI (by rfl) ?_
  exact ⟨rfl, rfl⟩
end ZTK
