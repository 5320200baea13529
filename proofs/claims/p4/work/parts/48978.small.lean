/-! the model that reads: its small methods -/
section ZTK9
variable {Lx : Nat} {xs : Nat → Int32} {n : Nat} {hp : List zhE} {e : Nat → Nat} {S : Nat → Nat → Int32} {m : Nat}
theorem zt_token (he : zeI e hp zDM.length) (n : Nat) (S : Nat → Nat → Int32) (a : Nat) (hS : zPos m a S) (hs : zspell (S 2) 0 zWds) : zPn Lx xs n 167 (0, lv_args 0 [.ref (e 0)], [], zHS e zDM S hp, 0, 0) (fun rv hp1 => rv = none ∧ ∃ S', hp1 = zHS e zDM S' hp ∧ zTok2 S S' m (zend (fun q => zcb1 (S 1 q)) m a)) := by
  have h := zend_le (p := fun q => zcb1 (S 1 q)) (m := m) (m - a) a (by have := hS.2.2; omega)
  exact zt_skip he n S a hS (zt_tok2 he n S _ hS.1 h.2 hS.2.2.2 hs)
theorem zt_isIn {x y z : Int32} {hp2 : List zhE} : zPn Lx xs n 160 (0, lv_args 0 [.int x, .int y, .int z], [], hp2, 0, 0) (fun rv hp1 => rv = some (.int (if y.toInt ≤ x.toInt ∧ x.toInt ≤ z.toInt then 1 else 0)) ∧ hp1 = hp2) := by
  iterate 2 refine zp0 (by rfl) rfl rfl ?_
  refine zy_icmp (by rfl) (by rfl) (fun h1 => ?_) (fun h1 => ?_)
  · refine zp0 (by rfl) rfl rfl ?_
    refine zp_retI (by rfl) ?_
    refine ⟨?_, rfl⟩
    simp +decide only [↓reduceIte, zcf, zuS, va_up] at h1
    split
    all_goals first | rfl | (exfalso; omega)
  · iterate 2 refine zp0 (by rfl) rfl rfl ?_
    refine zy_icmp (by rfl) (by rfl) (fun h2 => ?_) (fun h2 => ?_)
    · refine zp0 (by rfl) rfl rfl ?_
      refine zp_retI (by rfl) ?_
      refine ⟨?_, rfl⟩
      simp +decide only [↓reduceIte, zcf, zuS, va_up] at h1 h2
      split
      all_goals first | rfl | (exfalso; omega)
    · iterate 2 refine zp0 (by rfl) rfl rfl ?_
      refine zp_retI (by rfl) ?_
      refine ⟨?_, rfl⟩
      simp +decide only [↓reduceIte, zcf, zuS, va_up] at h1 h2
      split
      all_goals first | rfl | (exfalso; omega)
theorem zt_isKey (he : zeI e hp zDM.length) (x : Int32) : zPn Lx xs n 170 (0, lv_args 0 [.ref (e 0), .int x], [], zHS e zDM S hp, 0, 0) (fun rv hp1 => rv = some (.int (if (S 0 8).toInt = 1 ∧ (S 0 9).toInt = x.toInt then 1 else 0)) ∧ hp1 = zHS e zDM S hp) := by
  refine zp0 (by rfl) rfl rfl ?_
  refine zy_get (b := 8) he (by rfl) (by rfl) (by rfl) (by rfl) ?_
  refine zp0 (by rfl) rfl rfl ?_
  refine zy_icmpC (by rfl) (by rfl) ⟨by decide, by decide⟩ (fun h1 => ?_) (fun h1 => ?_)
  · refine zp0 (by rfl) rfl rfl ?_
    refine zp_retI (by rfl) ?_
    refine ⟨?_, rfl⟩
    simp +decide only [↓reduceIte, zcf, zuS, va_up] at h1
    split
    all_goals first | rfl | (exfalso; omega)
  · refine zp0 (by rfl) rfl rfl ?_
    refine zy_get (b := 9) he (by rfl) (by rfl) (by rfl) (by rfl) ?_
    refine zp0 (by rfl) rfl rfl ?_
    refine zy_icmp (by rfl) (by rfl) (fun h2 => ?_) (fun h2 => ?_)
    · refine zp0 (by rfl) rfl rfl ?_
      refine zp_retI (by rfl) ?_
      refine ⟨?_, rfl⟩
      simp +decide only [↓reduceIte, zcf, zuS, va_up] at h1 h2
      split
      all_goals first | rfl | (exfalso; omega)
    · iterate 2 refine zp0 (by rfl) rfl rfl ?_
      refine zp_retI (by rfl) ?_
      refine ⟨?_, rfl⟩
      simp +decide only [↓reduceIte, zcf, zuS, va_up] at h1 h2
      split
      all_goals first | rfl | (exfalso; omega)
theorem zt_isSign (he : zeI e hp zDM.length) (x : Int32) : zPn Lx xs n 171 (0, lv_args 0 [.ref (e 0), .int x], [], zHS e zDM S hp, 0, 0) (fun rv hp1 => rv = some (.int (if (S 0 8).toInt = 4 ∧ (S 0 9).toInt = x.toInt then 1 else 0)) ∧ hp1 = zHS e zDM S hp) := by
  refine zp0 (by rfl) rfl rfl ?_
  refine zy_get (b := 8) he (by rfl) (by rfl) (by rfl) (by rfl) ?_
  refine zp0 (by rfl) rfl rfl ?_
  refine zy_icmpC (by rfl) (by rfl) ⟨by decide, by decide⟩ (fun h1 => ?_) (fun h1 => ?_)
  · refine zp0 (by rfl) rfl rfl ?_
    refine zp_retI (by rfl) ?_
    refine ⟨?_, rfl⟩
    simp +decide only [↓reduceIte, zcf, zuS, va_up] at h1
    split
    all_goals first | rfl | (exfalso; omega)
  · refine zp0 (by rfl) rfl rfl ?_
    refine zy_get (b := 9) he (by rfl) (by rfl) (by rfl) (by rfl) ?_
    refine zp0 (by rfl) rfl rfl ?_
    refine zy_icmp (by rfl) (by rfl) (fun h2 => ?_) (fun h2 => ?_)
    · refine zp0 (by rfl) rfl rfl ?_
      refine zp_retI (by rfl) ?_
      refine ⟨?_, rfl⟩
      simp +decide only [↓reduceIte, zcf, zuS, va_up] at h1 h2
      split
      all_goals first | rfl | (exfalso; omega)
    · iterate 2 refine zp0 (by rfl) rfl rfl ?_
      refine zp_retI (by rfl) ?_
      refine ⟨?_, rfl⟩
      simp +decide only [↓reduceIte, zcf, zuS, va_up] at h1 h2
      split
      all_goals first | rfl | (exfalso; omega)
theorem zt_hasWord (he : zeI e hp zDM.length) : zPn Lx xs n 177 (0, lv_args 0 [.ref (e 0)], [], zHS e zDM S hp, 0, 0) (fun rv hp1 => rv = some (.int (if (S 0 8).toInt = 1 ∧ 3 ≤ (S 0 9).toInt ∧ (S 0 9).toInt ≤ 6 then S 0 9 - Int32.ofInt 3 else Int32.ofInt (-1))) ∧ hp1 = zHS e zDM S hp) := by
  refine zp0 (by rfl) rfl rfl ?_
  refine zy_get (b := 8) he (by rfl) (by rfl) (by rfl) (by rfl) ?_
  refine zp0 (by rfl) rfl rfl ?_
  refine zy_icmpC (by rfl) (by rfl) ⟨by decide, by decide⟩ (fun h1 => ?_) (fun h1 => ?_)
  · refine zp0 (by rfl) rfl rfl ?_
    refine zp_retI (by rfl) ?_
    refine ⟨?_, rfl⟩
    simp +decide only [↓reduceIte, zcf, zuS, va_up] at h1
    split
    all_goals first | rfl | (exfalso; omega)
  · refine zp0 (by rfl) rfl rfl ?_
    refine zy_get (b := 9) he (by rfl) (by rfl) (by rfl) (by rfl) ?_
    refine zp0 (by rfl) rfl rfl ?_
    refine zy_icmpC (by rfl) (by rfl) ⟨by decide, by decide⟩ (fun h2 => ?_) (fun h2 => ?_)
    · refine zp0 (by rfl) rfl rfl ?_
      refine zp_retI (by rfl) ?_
      refine ⟨?_, rfl⟩
      simp +decide only [↓reduceIte, zcf, zuS, va_up] at h1 h2
      split
      all_goals first | rfl | (exfalso; omega)
    · refine zp0 (by rfl) rfl rfl ?_
      refine zy_get (b := 9) he (by rfl) (by rfl) (by rfl) (by rfl) ?_
      refine zq_bip (by rfl) (by decide) ?_
      refine zy_icmpC (by rfl) (by rfl) ⟨by decide, by decide⟩ (fun h3 => ?_) (fun h3 => ?_)
      · refine zp0 (by rfl) rfl rfl ?_
        refine zp_retI (by rfl) ?_
        refine ⟨?_, rfl⟩
        simp +decide only [↓reduceIte, zcf, zuS, va_up] at h1 h2 h3
        split
        all_goals first | rfl | (exfalso; omega)
      · refine zp0 (by rfl) rfl rfl ?_
        refine zy_get (b := 9) he (by rfl) (by rfl) (by rfl) (by rfl) ?_
        iterate 3 refine zp0 (by rfl) rfl rfl ?_
        refine zp_retI (by rfl) ?_
        refine ⟨?_, rfl⟩
        simp +decide only [↓reduceIte, zcf, zuS, va_up] at h1 h2 h3
        split
        all_goals first | rfl | (exfalso; omega)
theorem zt_nameMet (he : zeI e hp zDM.length) : zPn Lx xs n 191 (0, lv_args 0 [.ref (e 0)], [], zHS e zDM S hp, 0, 0) (fun rv hp1 => rv = some (.int (if (S 0 8).toInt = 1 ∧ 10 ≤ (S 0 9).toInt then S 0 9 - Int32.ofInt 10 else if (S 0 8).toInt = 1 ∧ (S 0 9).toInt = 6 then Int32.ofInt 7 else Int32.ofInt (-1))) ∧ hp1 = zHS e zDM S hp) := by
  refine zp0 (by rfl) rfl rfl ?_
  refine zy_get (b := 8) he (by rfl) (by rfl) (by rfl) (by rfl) ?_
  refine zp0 (by rfl) rfl rfl ?_
  refine zy_icmpC (by rfl) (by rfl) ⟨by decide, by decide⟩ (fun h1 => ?_) (fun h1 => ?_)
  · refine zp0 (by rfl) rfl rfl ?_
    refine zy_get (b := 9) he (by rfl) (by rfl) (by rfl) (by rfl) ?_
    refine zq_bip (by rfl) (by decide) ?_
    refine zy_icmpC (by rfl) (by rfl) ⟨by decide, by decide⟩ (fun h2 => ?_) (fun h2 => ?_)
    · refine zp0 (by rfl) rfl rfl ?_
      refine zy_get (b := 9) he (by rfl) (by rfl) (by rfl) (by rfl) ?_
      refine zq_bip (by rfl) (by decide) ?_
      refine zy_icmpC (by rfl) (by rfl) ⟨by decide, by decide⟩ (fun h3 => ?_) (fun h3 => ?_)
      · refine zp0 (by rfl) rfl rfl ?_
        refine zp_retI (by rfl) ?_
        refine ⟨?_, rfl⟩
        simp +decide only [↓reduceIte, zcf, zuS, va_up] at h1 h2 h3
        (repeat' split)
        all_goals first | rfl | (exfalso; omega)
      · refine zq_bip (by rfl) (by decide) ?_
        refine zp0 (by rfl) rfl rfl ?_
        refine zp_retI (by rfl) ?_
        refine ⟨?_, rfl⟩
        simp +decide only [↓reduceIte, zcf, zuS, va_up] at h1 h2 h3
        (repeat' split)
        all_goals first | rfl | (exfalso; omega)
    · refine zp0 (by rfl) rfl rfl ?_
      refine zy_get (b := 9) he (by rfl) (by rfl) (by rfl) (by rfl) ?_
      refine zq_bip (by rfl) (by decide) ?_
      iterate 2 refine zp0 (by rfl) rfl rfl ?_
      refine zp_retI (by rfl) ?_
      refine ⟨?_, rfl⟩
      simp +decide only [↓reduceIte, zcf, zuS, va_up] at h1 h2
      (repeat' split)
      all_goals first | rfl | (exfalso; omega)
  · iterate 2 refine zp0 (by rfl) rfl rfl ?_
    refine zp_retI (by rfl) ?_
    refine ⟨?_, rfl⟩
    simp +decide only [↓reduceIte, zcf, zuS, va_up] at h1
    (repeat' split)
    all_goals first | rfl | (exfalso; omega)
def zrank (x : Int) : Int := if 13 ≤ x then 6 else if 11 ≤ x then 5 else if 5 ≤ x then 4 else if x = 2 then 3 else if x = 3 then 2 else if x = 4 then 1 else 0
theorem zt_rank {x : Int32} {hp2 : List zhE} : zPn Lx xs n 185 (0, lv_args 0 [.int x], [], hp2, 0, 0) (fun rv hp1 => rv = some (.int (Int32.ofInt (zrank x.toInt))) ∧ hp1 = hp2) := by
  refine zp0 (by rfl) rfl rfl ?_
  refine zq_bip (by rfl) (by decide) ?_
  refine zy_icmpC (by rfl) (by rfl) ⟨by decide, by decide⟩ (fun h1 => ?_) (fun h1 => ?_)
  · refine zp0 (by rfl) rfl rfl ?_
    refine zq_bip (by rfl) (by decide) ?_
    refine zy_icmpC (by rfl) (by rfl) ⟨by decide, by decide⟩ (fun h2 => ?_) (fun h2 => ?_)
    · iterate 2 refine zp0 (by rfl) rfl rfl ?_
      refine zy_icmpC (by rfl) (by rfl) ⟨by decide, by decide⟩ (fun h3 => ?_) (fun h3 => ?_)
      · iterate 2 refine zp0 (by rfl) rfl rfl ?_
        refine zy_icmpC (by rfl) (by rfl) ⟨by decide, by decide⟩ (fun h4 => ?_) (fun h4 => ?_)
        · iterate 2 refine zp0 (by rfl) rfl rfl ?_
          refine zy_icmpC (by rfl) (by rfl) ⟨by decide, by decide⟩ (fun h5 => ?_) (fun h5 => ?_)
          · iterate 2 refine zp0 (by rfl) rfl rfl ?_
            refine zy_icmpC (by rfl) (by rfl) ⟨by decide, by decide⟩ (fun h6 => ?_) (fun h6 => ?_)
            · refine zp0 (by rfl) rfl rfl ?_
              refine zp_retI (by rfl) ?_
              refine ⟨?_, rfl⟩
              simp +decide only [↓reduceIte, zcf, zuS, va_up] at h1 h2 h3 h4 h5 h6
              unfold zrank
              (repeat' split)
              all_goals first | rfl | (exfalso; omega)
            · iterate 2 refine zp0 (by rfl) rfl rfl ?_
              refine zp_retI (by rfl) ?_
              refine ⟨?_, rfl⟩
              simp +decide only [↓reduceIte, zcf, zuS, va_up] at h1 h2 h3 h4 h5 h6
              unfold zrank
              (repeat' split)
              all_goals first | rfl | (exfalso; omega)
          · iterate 2 refine zp0 (by rfl) rfl rfl ?_
            refine zp_retI (by rfl) ?_
            refine ⟨?_, rfl⟩
            simp +decide only [↓reduceIte, zcf, zuS, va_up] at h1 h2 h3 h4 h5
            unfold zrank
            (repeat' split)
            all_goals first | rfl | (exfalso; omega)
        · iterate 2 refine zp0 (by rfl) rfl rfl ?_
          refine zp_retI (by rfl) ?_
          refine ⟨?_, rfl⟩
          simp +decide only [↓reduceIte, zcf, zuS, va_up] at h1 h2 h3 h4
          unfold zrank
          (repeat' split)
          all_goals first | rfl | (exfalso; omega)
      · iterate 2 refine zp0 (by rfl) rfl rfl ?_
        refine zp_retI (by rfl) ?_
        refine ⟨?_, rfl⟩
        simp +decide only [↓reduceIte, zcf, zuS, va_up] at h1 h2 h3
        unfold zrank
        (repeat' split)
        all_goals first | rfl | (exfalso; omega)
    · iterate 2 refine zp0 (by rfl) rfl rfl ?_
      refine zp_retI (by rfl) ?_
      refine ⟨?_, rfl⟩
      simp +decide only [↓reduceIte, zcf, zuS, va_up] at h1 h2
      unfold zrank
      (repeat' split)
      all_goals first | rfl | (exfalso; omega)
  · refine zq_bip (by rfl) (by decide) ?_
    refine zp0 (by rfl) rfl rfl ?_
    refine zp_retI (by rfl) ?_
    refine ⟨?_, rfl⟩
    simp +decide only [↓reduceIte, zcf, zuS, va_up] at h1
    unfold zrank
    (repeat' split)
    all_goals first | rfl | (exfalso; omega)
theorem zt_isCounted (he : zeI e hp zDM.length) : zPn Lx xs n 189 (0, lv_args 0 [.ref (e 0)], [], zHS e zDM S hp, 0, 0) (fun rv hp1 => rv = some (.int (if (S 0 38).toInt = 64 then 0 else 1)) ∧ hp1 = zHS e zDM (if (S 0 38).toInt = 64 then zwrong S (Int32.ofInt 2) else zuS S 0 38 (S 0 38 + Int32.ofInt 1)) hp) := by
  refine zp0 (by rfl) rfl rfl ?_
  refine zy_get (b := 38) he (by rfl) (by rfl) (by rfl) (by rfl) ?_
  refine zq_bip (by rfl) (by decide) ?_
  refine zy_icmpC (by rfl) (by rfl) ⟨by decide, by decide⟩ (fun h1 => ?_) (fun h1 => ?_)
  · iterate 2 refine zp0 (by rfl) rfl rfl ?_
    refine zy_get (b := 38) he (by rfl) (by rfl) (by rfl) (by rfl) ?_
    iterate 2 refine zp0 (by rfl) rfl rfl ?_
    refine zy_put (b := 38) he (by rfl) (by rfl) (by rfl) ?_
    refine zp0 (by rfl) rfl rfl ?_
    refine zp_retI (by rfl) ?_
    simp only [zcf] at h1
    have g := h1
    first | rw [if_pos g, if_pos g] | rw [if_neg g, if_neg g] | rw [if_pos (Classical.not_not.mp g), if_pos (Classical.not_not.mp g)]
    exact ⟨rfl, rfl⟩
  · iterate 2 refine zp0 (by rfl) rfl rfl ?_
    refine zy_v1e (by rfl) (zt_wrong he _) ?_
    refine zp_retI (by rfl) ?_
    simp only [zcf] at h1
    have g := h1
    first | rw [if_pos g, if_pos g] | rw [if_neg g, if_neg g] | rw [if_pos (Classical.not_not.mp g), if_pos (Classical.not_not.mp g)]
    exact ⟨rfl, rfl⟩
theorem zt_waitsFor (he : zeI e hp zDM.length) (x : Int32) : zPn Lx xs n 190 (0, lv_args 0 [.ref (e 0), .int x], [], zHS e zDM S hp, 0, 0) (fun rv hp1 => rv = none ∧ hp1 = zHS e zDM (zuS (zuS S 16 (S 0 35).toNatClampNeg x) 0 35 (S 0 35 + Int32.ofInt 1)) hp ∧ 0 ≤ (S 0 35).toInt ∧ (S 0 35).toInt < 96) := by
  refine zp0 (by rfl) rfl rfl ?_
  refine zy_ref (r := 16) he (by rfl) (by rfl) (by rfl) (by rfl) ?_
  refine zp0 (by rfl) rfl rfl ?_
  refine zy_get (b := 35) he (by rfl) (by rfl) (by rfl) (by rfl) ?_
  refine zp0 (by rfl) rfl rfl ?_
  refine zy_ast he (by rfl) (by rfl) (fun u1 w1 => ?_)
  iterate 2 refine zp0 (by rfl) rfl rfl ?_
  refine zy_get (b := 35) he (by rfl) (by rfl) (by rfl) (by rfl) ?_
  iterate 2 refine zp0 (by rfl) rfl rfl ?_
  refine zy_put (b := 35) he (by rfl) (by rfl) (by rfl) ?_
  refine zp_retV (by rfl) ?_
  exact ⟨rfl, rfl, u1, w1⟩
theorem zt_dropHeld (he : zeI e hp zDM.length) : zPn Lx xs n 187 (0, lv_args 0 [.ref (e 0)], [], zHS e zDM S hp, 0, 0) (fun rv hp1 => rv = some (.int (S 17 (S 0 36 - Int32.ofInt 1).toNatClampNeg)) ∧ hp1 = zHS e zDM (zuS S 0 36 (S 0 36 - Int32.ofInt 1)) hp) := by
  iterate 2 refine zp0 (by rfl) rfl rfl ?_
  refine zy_get (b := 36) he (by rfl) (by rfl) (by rfl) (by rfl) ?_
  iterate 2 refine zp0 (by rfl) rfl rfl ?_
  refine zy_put (b := 36) he (by rfl) (by rfl) (by rfl) ?_
  refine zp0 (by rfl) rfl rfl ?_
  refine zy_ref (r := 17) he (by rfl) (by rfl) (by rfl) (by rfl) ?_
  refine zp0 (by rfl) rfl rfl ?_
  refine zy_get (b := 36) he (by rfl) (by rfl) (by rfl) (by rfl) ?_
  refine zy_ald he (by rfl) (by rfl) (fun u1 w1 => ?_)
  refine zp_retI (by rfl) ?_
  exact ⟨rfl, rfl⟩
def zgrown (S : Nat → Nat → Int32) (x y z : Int32) : Nat → Nat → Int32 := zuS (zuS (zuS (zuS (zuS (zuS S 13 (Int32.ofInt 64 + S 0 17).toNatClampNeg x) 14 (Int32.ofInt 64 + S 0 17).toNatClampNeg y) 15 (Int32.ofInt 64 + S 0 17).toNatClampNeg z) 17 (S 0 36).toNatClampNeg (S 0 17)) 0 36 (S 0 36 + Int32.ofInt 1)) 0 17 (S 0 17 + Int32.ofInt 1)
theorem zt_grown (he : zeI e hp zDM.length) (x y z : Int32) : zPn Lx xs n 186 (0, lv_args 0 [.ref (e 0), .int x, .int y, .int z], [], zHS e zDM S hp, 0, 0) (fun rv hp1 => rv = none ∧ hp1 = zHS e zDM (zgrown S x y z) hp) := by
  refine zp0 (by rfl) rfl rfl ?_
  refine zy_ref (r := 13) he (by rfl) (by rfl) (by rfl) (by rfl) ?_
  refine zq_bip (by rfl) (by decide) ?_
  refine zp0 (by rfl) rfl rfl ?_
  refine zy_get (b := 17) he (by rfl) (by rfl) (by rfl) (by rfl) ?_
  iterate 2 refine zp0 (by rfl) rfl rfl ?_
  refine zy_ast he (by rfl) (by rfl) (fun u1 w1 => ?_)
  refine zp0 (by rfl) rfl rfl ?_
  refine zy_ref (r := 14) he (by rfl) (by rfl) (by rfl) (by rfl) ?_
  refine zq_bip (by rfl) (by decide) ?_
  refine zp0 (by rfl) rfl rfl ?_
  refine zy_get (b := 17) he (by rfl) (by rfl) (by rfl) (by rfl) ?_
  iterate 2 refine zp0 (by rfl) rfl rfl ?_
  refine zy_ast he (by rfl) (by rfl) (fun u2 w2 => ?_)
  refine zp0 (by rfl) rfl rfl ?_
  refine zy_ref (r := 15) he (by rfl) (by rfl) (by rfl) (by rfl) ?_
  refine zq_bip (by rfl) (by decide) ?_
  refine zp0 (by rfl) rfl rfl ?_
  refine zy_get (b := 17) he (by rfl) (by rfl) (by rfl) (by rfl) ?_
  iterate 2 refine zp0 (by rfl) rfl rfl ?_
  refine zy_ast he (by rfl) (by rfl) (fun u3 w3 => ?_)
  refine zp0 (by rfl) rfl rfl ?_
  refine zy_ref (r := 17) he (by rfl) (by rfl) (by rfl) (by rfl) ?_
  refine zp0 (by rfl) rfl rfl ?_
  refine zy_get (b := 36) he (by rfl) (by rfl) (by rfl) (by rfl) ?_
  refine zp0 (by rfl) rfl rfl ?_
  refine zy_get (b := 17) he (by rfl) (by rfl) (by rfl) (by rfl) ?_
  refine zy_ast he (by rfl) (by rfl) (fun u4 w4 => ?_)
  iterate 2 refine zp0 (by rfl) rfl rfl ?_
  refine zy_get (b := 36) he (by rfl) (by rfl) (by rfl) (by rfl) ?_
  iterate 2 refine zp0 (by rfl) rfl rfl ?_
  refine zy_put (b := 36) he (by rfl) (by rfl) (by rfl) ?_
  iterate 2 refine zp0 (by rfl) rfl rfl ?_
  refine zy_get (b := 17) he (by rfl) (by rfl) (by rfl) (by rfl) ?_
  iterate 2 refine zp0 (by rfl) rfl rfl ?_
  refine zy_put (b := 17) he (by rfl) (by rfl) (by rfl) ?_
  refine zp_retV (by rfl) ?_
  exact ⟨rfl, rfl⟩
/-- a number wanted -/
def zNum (S S' : Nat → Nat → Int32) (m a : Nat) (lo hi r : Int32) : Prop := if (S 0 8).toInt ≠ 3 then r = 0 ∧ S' = zwrong S (Int32.ofInt 1) else if lo.toInt ≤ (S 0 9).toInt ∧ (S 0 9).toInt ≤ hi.toInt then r = Int32.ofInt 1 ∧ zTok2 (zuS S 0 11 (S 0 9)) S' m (zend (fun q => zcb1 (S 1 q)) m a) else r = 0 ∧ S' = zwrong S (Int32.ofInt 2)
theorem zt_number (he : zeI e hp zDM.length) (lo hi : Int32) (a : Nat) (hS : zPos m a S) (hs : zspell (S 2) 0 zWds) : zPn Lx xs n 172 (0, lv_args 0 [.ref (e 0), .int lo, .int hi], [], zHS e zDM S hp, 0, 0) (fun rv hp1 => ∃ r S', rv = some (.int r) ∧ hp1 = zHS e zDM S' hp ∧ zNum S S' m a lo hi r) := by
  refine zp0 (by rfl) rfl rfl ?_
  refine zy_get (b := 8) he (by rfl) (by rfl) (by rfl) (by rfl) ?_
  refine zp0 (by rfl) rfl rfl ?_
  refine zy_icmpC (by rfl) (by rfl) ⟨by decide, by decide⟩ (fun h1 => ?_) (fun h1 => ?_)
  · refine zp0 (by rfl) rfl rfl ?_
    refine zy_get (b := 9) he (by rfl) (by rfl) (by rfl) (by rfl) ?_
    iterate 2 refine zp0 (by rfl) rfl rfl ?_
    refine zy_s3e (by rfl) (by rfl) (zt_isIn) ?_
    refine zy_if (by rfl) (by rfl) (fun h2 => ?_) (fun h2 => ?_)
    · iterate 2 refine zp0 (by rfl) rfl rfl ?_
      refine zy_get (b := 9) he (by rfl) (by rfl) (by rfl) (by rfl) ?_
      refine zy_put (b := 11) he (by rfl) (by rfl) (by rfl) ?_
      refine zp0 (by rfl) rfl rfl ?_
      refine zy_v0 (by rfl) (zt_token he n _ a ⟨hS.1, hS.2.1, hS.2.2⟩ hs) ?_
      intro rv hp1 hq
      obtain ⟨r1, S2, r2, hT⟩ := hq
      rw [r1, r2]
      refine zp0 (by rfl) rfl rfl ?_
      refine zp_retI (by rfl) ?_
      have g := zite2 h2
      refine ⟨Int32.ofInt 1, _, rfl, rfl, ?_⟩
      unfold zNum
      rw [if_neg (by simp only [zcf] at h1; omega), if_pos g]
      exact ⟨rfl, hT⟩
    · iterate 2 refine zp0 (by rfl) rfl rfl ?_
      refine zy_v1e (by rfl) (zt_wrong he _) ?_
      refine zp_retI (by rfl) ?_
      have g := zite3 h2
      refine ⟨0, _, rfl, rfl, ?_⟩
      unfold zNum
      rw [if_neg (by simp only [zcf] at h1; omega), if_neg g]
      exact ⟨rfl, rfl⟩
  · iterate 2 refine zp0 (by rfl) rfl rfl ?_
    refine zy_v1e (by rfl) (zt_wrong he _) ?_
    refine zp_retI (by rfl) ?_
    refine ⟨0, _, rfl, rfl, ?_⟩
    unfold zNum
    rw [if_pos (show (S 0 8).toInt ≠ 3 from h1)]
    exact ⟨rfl, rfl⟩
end ZTK9
