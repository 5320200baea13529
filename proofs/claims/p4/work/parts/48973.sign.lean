/-! the model's signs -/
def zsgN (x y : Int) (a : Nat) : Nat := if (x = 60 ∧ (y = 61 ∨ y = 62)) ∨ (x = 62 ∧ y = 61) then a + 1 + 1 else a + 1
def zsgK (x : Int) : Int := if x = 60 ∨ x = 61 ∨ x = 62 then 5 else if x = 59 ∨ x = 40 ∨ x = 41 ∨ x = 43 ∨ x = 45 ∨ x = 42 ∨ x = 47 then 4 else 6
def zsgW (x y : Int) : Int := if x = 61 then 2 else if x = 60 then (if y = 61 then 1 else if y = 62 then 3 else 0) else if x = 62 then (if y = 61 then 4 else 5) else x
theorem z1i : (Int32.ofInt 1).toInt = 1 := by decide
theorem z0i : (Int32.ofInt 0).toInt = 0 := by decide
/-- the sign behind, 0 at the end -/
def zthen (S : Nat → Nat → Int32) (m a : Nat) : Int := if a + 1 < m then (S 1 (a + 1)).toInt else 0
def zSgn (S S' : Nat → Nat → Int32) (m a : Nat) : Prop := (∀ q, q ≠ 0 → S' q = S q) ∧ (∀ b, b ≠ 7 → b ≠ 8 → b ≠ 9 → S' 0 b = S 0 b) ∧ S' 0 7 = Int32.ofInt (zsgN (S 1 a).toInt (zthen S m a) a : Nat) ∧ S' 0 8 = Int32.ofInt (zsgK (S 1 a).toInt) ∧ S' 0 9 = Int32.ofInt (zsgW (S 1 a).toInt (zthen S m a))
section ZTK4
variable {Lx : Nat} {xs : Nat → Int32} {hp : List zhE} {e : Nat → Nat} {m : Nat}
theorem zt_sign (he : zeI e hp zDM.length) (n : Nat) (S : Nat → Nat → Int32) (a : Nat) (hS : zPos m a S) (ha : a < m) : zPn Lx xs n 168 (0, lv_args 0 [.ref (e 0)], [], zHS e zDM S hp, 0, 0) (fun rv hp1 => rv = none ∧ ∃ S', hp1 = zHS e zDM S' hp ∧ zSgn S S' m a) := by
  obtain ⟨x1, x2, x3⟩ := zPos_x hS
  have x4 : (S 0 7 + Int32.ofInt 1).toInt = (a : Int) + 1 := by
    rw [hS.2.1, zof_up, zof_ix (by have := hS.2.2; omega)]
    omega
  have x5 : (S 0 7 + Int32.ofInt 1).toNatClampNeg = a + 1 := by
    rw [zb_cl, x4]
    omega
  have x6 : S 0 7 + Int32.ofInt 1 = Int32.ofInt ((a + 1 : Nat) : Int) := by rw [hS.2.1, zof_up]
  have x7 : Int32.ofInt ((a + 1 : Nat) : Int) + Int32.ofInt 1 = Int32.ofInt ((a + 1 + 1 : Nat) : Int) := zof_up (a + 1)
  have x8 := zRt (a := (S 1 a).toInt) ⟨Int32.le_toInt _, by have := Int32.toInt_lt (S 1 a); omega⟩
  have x9 : Int32.ofInt (S 1 a).toInt = S 1 a := Int32.ofInt_toInt _
  iterate 2 refine zp0 (by rfl) rfl rfl ?_
  refine zy_ref (r := 1) he (by rfl) (by rfl) (by rfl) (by rfl) ?_
  refine zp0 (by rfl) rfl rfl ?_
  refine zy_get (b := 7) he (by rfl) (by rfl) (by rfl) (by rfl) ?_
  refine zy_ald he (by rfl) (by rfl) (fun u1 w1 => ?_)
  refine zy_put (b := 9) he (by rfl) (by rfl) (by rfl) ?_
  iterate 2 refine zp0 (by rfl) rfl rfl ?_
  refine zy_get (b := 7) he (by rfl) (by rfl) (by rfl) (by rfl) ?_
  iterate 2 refine zp0 (by rfl) rfl rfl ?_
  refine zy_put (b := 7) he (by rfl) (by rfl) (by rfl) ?_
  refine zp0 (by rfl) rfl rfl ?_
  refine zy_get (b := 9) he (by rfl) (by rfl) (by rfl) (by rfl) ?_
  refine zq_bip (by rfl) (by decide) ?_
  refine zy_icmpC (by rfl) (by rfl) ⟨by decide, by decide⟩ (fun h2 => ?_) (fun h2 => ?_)
  · refine zp0 (by rfl) rfl rfl ?_
    refine zy_get (b := 7) he (by rfl) (by rfl) (by rfl) (by rfl) ?_
    refine zp0 (by rfl) rfl rfl ?_
    refine zy_get (b := 6) he (by rfl) (by rfl) (by rfl) (by rfl) ?_
    refine zy_icmp (by rfl) (by rfl) (fun h3 => ?_) (fun h3 => ?_)
    · iterate 3 refine zp0 (by rfl) rfl rfl ?_
      refine zy_get (b := 9) he (by rfl) (by rfl) (by rfl) (by rfl) ?_
      refine zq_bip (by rfl) (by decide) ?_
      refine zy_icmpC (by rfl) (by rfl) ⟨by decide, by decide⟩ (fun h4 => ?_) (fun h4 => ?_)
      · exfalso
        simp +decide only [↓reduceIte, zcf, zuS, va_up, z1i, z0i, x1, x3, x4, x5] at h2 h3 h4
        try omega
      · refine zp0 (by rfl) rfl rfl ?_
        refine zq_bip (by rfl) (by decide) ?_
        refine zy_icmpC (by rfl) (by rfl) ⟨by decide, by decide⟩ (fun h5 => ?_) (fun h5 => ?_)
        · iterate 3 refine zp0 (by rfl) rfl rfl ?_
          refine zy_get (b := 9) he (by rfl) (by rfl) (by rfl) (by rfl) ?_
          refine zq_bip (by rfl) (by decide) ?_
          refine zy_icmpC (by rfl) (by rfl) ⟨by decide, by decide⟩ (fun h6 => ?_) (fun h6 => ?_)
          · exfalso
            simp +decide only [↓reduceIte, zcf, zuS, va_up, z1i, z0i, x1, x3, x4, x5] at h2 h3 h4 h5 h6
            try omega
          · refine zp0 (by rfl) rfl rfl ?_
            refine zq_bip (by rfl) (by decide) ?_
            refine zy_icmpC (by rfl) (by rfl) ⟨by decide, by decide⟩ (fun h7 => ?_) (fun h7 => ?_)
            · iterate 3 refine zp0 (by rfl) rfl rfl ?_
              refine zy_if (by rfl) (by rfl) (fun h8 => ?_) (fun h8 => ?_)
              · exfalso
                simp +decide only [↓reduceIte, zcf, zuS, va_up, z1i, z0i, x1, x3, x4, x5] at h2 h3 h4 h5 h6 h7 h8
                try omega
              · refine zp0 (by rfl) rfl rfl ?_
                refine zy_if (by rfl) (by rfl) (fun h9 => ?_) (fun h9 => ?_)
                · iterate 2 refine zp0 (by rfl) rfl rfl ?_
                  refine zy_put (b := 8) he (by rfl) (by rfl) (by rfl) ?_
                  iterate 2 refine zp0 (by rfl) rfl rfl ?_
                  refine zy_get (b := 9) he (by rfl) (by rfl) (by rfl) (by rfl) ?_
                  refine zq_bip (by rfl) (by decide) ?_
                  refine zy_icmpC (by rfl) (by rfl) ⟨by decide, by decide⟩ (fun h10 => ?_) (fun h10 => ?_)
                  · refine zp0 (by rfl) rfl rfl ?_
                    refine zy_get (b := 9) he (by rfl) (by rfl) (by rfl) (by rfl) ?_
                    refine zq_bip (by rfl) (by decide) ?_
                    refine zy_icmpC (by rfl) (by rfl) ⟨by decide, by decide⟩ (fun h11 => ?_) (fun h11 => ?_)
                    · exfalso
                      simp +decide only [↓reduceIte, zcf, zuS, va_up, z1i, z0i, x1, x3, x4, x5] at h2 h3 h4 h5 h6 h7 h8 h9 h10 h11
                      try omega
                    · refine zp0 (by rfl) rfl rfl ?_
                      refine zy_if (by rfl) (by rfl) (fun h12 => ?_) (fun h12 => ?_)
                      · refine zp0 (by rfl) rfl rfl ?_
                        refine zy_if (by rfl) (by rfl) (fun h13 => ?_) (fun h13 => ?_)
                        · iterate 2 refine zp0 (by rfl) rfl rfl ?_
                          refine zy_put (b := 9) he (by rfl) (by rfl) (by rfl) ?_
                          refine zp0 (by rfl) rfl rfl ?_
                          refine zp_retV (by rfl) ?_
                          refine ⟨rfl, _, rfl, ?_⟩
                          simp +decide only [zcf, zuS, va_up, ↓reduceIte, z1i, z0i, x1, x3, x4, x5] at h2 h3 h4 h5 h6 h7 h8 h9 h10 h11 h12 h13
                          refine ⟨fun q hq => ?_, fun b b7 b8 b9 => ?_, ?_, ?_, ?_⟩
                          · funext p
                            simp [zuS, va_up, hq]
                          · simp [zuS, va_up, b7, b8, b9]
                          · simp +decide only [zuS, va_up, ↓reduceIte, x3, x6, x7, zsgN, zthen]
                            (repeat' split) <;> first | rfl | (exfalso; omega)
                          · simp +decide only [zuS, va_up, ↓reduceIte, x3, x6, x7, zsgK, zthen]
                            (repeat' split) <;> first | rfl | (exfalso; omega)
                          · simp +decide only [zuS, va_up, ↓reduceIte, x3, x6, x7, zsgW, zthen]
                            (repeat' split) <;> first | rfl | exact x9.symm | (exfalso; omega)
                        · exfalso
                          simp +decide only [↓reduceIte, zcf, zuS, va_up, z1i, z0i, x1, x3, x4, x5] at h2 h3 h4 h5 h6 h7 h8 h9 h10 h11 h12 h13
                          try omega
                      · exfalso
                        simp +decide only [↓reduceIte, zcf, zuS, va_up, z1i, z0i, x1, x3, x4, x5] at h2 h3 h4 h5 h6 h7 h8 h9 h10 h11 h12
                        try omega
                  · exfalso
                    simp +decide only [↓reduceIte, zcf, zuS, va_up, z1i, z0i, x1, x3, x4, x5] at h2 h3 h4 h5 h6 h7 h8 h9 h10
                    try omega
                · exfalso
                  simp +decide only [↓reduceIte, zcf, zuS, va_up, z1i, z0i, x1, x3, x4, x5] at h2 h3 h4 h5 h6 h7 h8 h9
                  try omega
            · exfalso
              simp +decide only [↓reduceIte, zcf, zuS, va_up, z1i, z0i, x1, x3, x4, x5] at h2 h3 h4 h5 h6 h7
              try omega
        · exfalso
          simp +decide only [↓reduceIte, zcf, zuS, va_up, z1i, z0i, x1, x3, x4, x5] at h2 h3 h4 h5
          try omega
    · refine zp0 (by rfl) rfl rfl ?_
      refine zy_ref (r := 1) he (by rfl) (by rfl) (by rfl) (by rfl) ?_
      refine zp0 (by rfl) rfl rfl ?_
      refine zy_get (b := 7) he (by rfl) (by rfl) (by rfl) (by rfl) ?_
      refine zy_ald he (by rfl) (by rfl) (fun u14 w14 => ?_)
      iterate 3 refine zp0 (by rfl) rfl rfl ?_
      refine zy_get (b := 9) he (by rfl) (by rfl) (by rfl) (by rfl) ?_
      refine zq_bip (by rfl) (by decide) ?_
      refine zy_icmpC (by rfl) (by rfl) ⟨by decide, by decide⟩ (fun h15 => ?_) (fun h15 => ?_)
      · exfalso
        simp +decide only [↓reduceIte, zcf, zuS, va_up, z1i, z0i, x1, x3, x4, x5] at h2 h3 h15
        try omega
      · refine zp0 (by rfl) rfl rfl ?_
        refine zq_bip (by rfl) (by decide) ?_
        refine zy_icmpC (by rfl) (by rfl) ⟨by decide, by decide⟩ (fun h16 => ?_) (fun h16 => ?_)
        · iterate 3 refine zp0 (by rfl) rfl rfl ?_
          refine zy_get (b := 9) he (by rfl) (by rfl) (by rfl) (by rfl) ?_
          refine zq_bip (by rfl) (by decide) ?_
          refine zy_icmpC (by rfl) (by rfl) ⟨by decide, by decide⟩ (fun h17 => ?_) (fun h17 => ?_)
          · exfalso
            simp +decide only [↓reduceIte, zcf, zuS, va_up, z1i, z0i, x1, x3, x4, x5] at h2 h3 h15 h16 h17
            try omega
          · refine zp0 (by rfl) rfl rfl ?_
            refine zq_bip (by rfl) (by decide) ?_
            refine zy_icmpC (by rfl) (by rfl) ⟨by decide, by decide⟩ (fun h18 => ?_) (fun h18 => ?_)
            · iterate 3 refine zp0 (by rfl) rfl rfl ?_
              refine zy_if (by rfl) (by rfl) (fun h19 => ?_) (fun h19 => ?_)
              · exfalso
                simp +decide only [↓reduceIte, zcf, zuS, va_up, z1i, z0i, x1, x3, x4, x5] at h2 h3 h15 h16 h17 h18 h19
                try omega
              · refine zp0 (by rfl) rfl rfl ?_
                refine zy_if (by rfl) (by rfl) (fun h20 => ?_) (fun h20 => ?_)
                · iterate 2 refine zp0 (by rfl) rfl rfl ?_
                  refine zy_put (b := 8) he (by rfl) (by rfl) (by rfl) ?_
                  iterate 2 refine zp0 (by rfl) rfl rfl ?_
                  refine zy_get (b := 9) he (by rfl) (by rfl) (by rfl) (by rfl) ?_
                  refine zq_bip (by rfl) (by decide) ?_
                  refine zy_icmpC (by rfl) (by rfl) ⟨by decide, by decide⟩ (fun h21 => ?_) (fun h21 => ?_)
                  · refine zp0 (by rfl) rfl rfl ?_
                    refine zy_get (b := 9) he (by rfl) (by rfl) (by rfl) (by rfl) ?_
                    refine zq_bip (by rfl) (by decide) ?_
                    refine zy_icmpC (by rfl) (by rfl) ⟨by decide, by decide⟩ (fun h22 => ?_) (fun h22 => ?_)
                    · exfalso
                      simp +decide only [↓reduceIte, zcf, zuS, va_up, z1i, z0i, x1, x3, x4, x5] at h2 h3 h15 h16 h17 h18 h19 h20 h21 h22
                      try omega
                    · refine zp0 (by rfl) rfl rfl ?_
                      refine zy_if (by rfl) (by rfl) (fun h23 => ?_) (fun h23 => ?_)
                      · refine zp0 (by rfl) rfl rfl ?_
                        refine zy_if (by rfl) (by rfl) (fun h24 => ?_) (fun h24 => ?_)
                        · iterate 2 refine zp0 (by rfl) rfl rfl ?_
                          refine zy_put (b := 9) he (by rfl) (by rfl) (by rfl) ?_
                          refine zp0 (by rfl) rfl rfl ?_
                          refine zp_retV (by rfl) ?_
                          refine ⟨rfl, _, rfl, ?_⟩
                          simp +decide only [zcf, zuS, va_up, ↓reduceIte, z1i, z0i, x1, x3, x4, x5] at h2 h3 h15 h16 h17 h18 h19 h20 h21 h22 h23 h24
                          refine ⟨fun q hq => ?_, fun b b7 b8 b9 => ?_, ?_, ?_, ?_⟩
                          · funext p
                            simp [zuS, va_up, hq]
                          · simp [zuS, va_up, b7, b8, b9]
                          · simp +decide only [zuS, va_up, ↓reduceIte, x3, x6, x7, zsgN, zthen]
                            (repeat' split) <;> first | rfl | (exfalso; omega)
                          · simp +decide only [zuS, va_up, ↓reduceIte, x3, x6, x7, zsgK, zthen]
                            (repeat' split) <;> first | rfl | (exfalso; omega)
                          · simp +decide only [zuS, va_up, ↓reduceIte, x3, x6, x7, zsgW, zthen]
                            (repeat' split) <;> first | rfl | exact x9.symm | (exfalso; omega)
                        · exfalso
                          simp +decide only [↓reduceIte, zcf, zuS, va_up, z1i, z0i, x1, x3, x4, x5] at h2 h3 h15 h16 h17 h18 h19 h20 h21 h22 h23 h24
                          try omega
                      · exfalso
                        simp +decide only [↓reduceIte, zcf, zuS, va_up, z1i, z0i, x1, x3, x4, x5] at h2 h3 h15 h16 h17 h18 h19 h20 h21 h22 h23
                        try omega
                  · exfalso
                    simp +decide only [↓reduceIte, zcf, zuS, va_up, z1i, z0i, x1, x3, x4, x5] at h2 h3 h15 h16 h17 h18 h19 h20 h21
                    try omega
                · exfalso
                  simp +decide only [↓reduceIte, zcf, zuS, va_up, z1i, z0i, x1, x3, x4, x5] at h2 h3 h15 h16 h17 h18 h19 h20
                  try omega
            · iterate 4 refine zp0 (by rfl) rfl rfl ?_
              refine zy_if (by rfl) (by rfl) (fun h25 => ?_) (fun h25 => ?_)
              · exfalso
                simp +decide only [↓reduceIte, zcf, zuS, va_up, z1i, z0i, x1, x3, x4, x5] at h2 h3 h15 h16 h17 h18 h25
                try omega
              · refine zp0 (by rfl) rfl rfl ?_
                refine zy_if (by rfl) (by rfl) (fun h26 => ?_) (fun h26 => ?_)
                · exfalso
                  simp +decide only [↓reduceIte, zcf, zuS, va_up, z1i, z0i, x1, x3, x4, x5] at h2 h3 h15 h16 h17 h18 h25 h26
                  try omega
                · iterate 2 refine zp0 (by rfl) rfl rfl ?_
                  refine zy_get (b := 7) he (by rfl) (by rfl) (by rfl) (by rfl) ?_
                  iterate 2 refine zp0 (by rfl) rfl rfl ?_
                  refine zy_put (b := 7) he (by rfl) (by rfl) (by rfl) ?_
                  iterate 2 refine zp0 (by rfl) rfl rfl ?_
                  refine zy_put (b := 8) he (by rfl) (by rfl) (by rfl) ?_
                  iterate 2 refine zp0 (by rfl) rfl rfl ?_
                  refine zy_get (b := 9) he (by rfl) (by rfl) (by rfl) (by rfl) ?_
                  refine zq_bip (by rfl) (by decide) ?_
                  refine zy_icmpC (by rfl) (by rfl) ⟨by decide, by decide⟩ (fun h27 => ?_) (fun h27 => ?_)
                  · refine zp0 (by rfl) rfl rfl ?_
                    refine zy_get (b := 9) he (by rfl) (by rfl) (by rfl) (by rfl) ?_
                    refine zq_bip (by rfl) (by decide) ?_
                    refine zy_icmpC (by rfl) (by rfl) ⟨by decide, by decide⟩ (fun h28 => ?_) (fun h28 => ?_)
                    · exfalso
                      simp +decide only [↓reduceIte, zcf, zuS, va_up, z1i, z0i, x1, x3, x4, x5] at h2 h3 h15 h16 h17 h18 h25 h26 h27 h28
                      try omega
                    · refine zp0 (by rfl) rfl rfl ?_
                      refine zy_if (by rfl) (by rfl) (fun h29 => ?_) (fun h29 => ?_)
                      · refine zp0 (by rfl) rfl rfl ?_
                        refine zy_if (by rfl) (by rfl) (fun h30 => ?_) (fun h30 => ?_)
                        · exfalso
                          simp +decide only [↓reduceIte, zcf, zuS, va_up, z1i, z0i, x1, x3, x4, x5] at h2 h3 h15 h16 h17 h18 h25 h26 h27 h28 h29 h30
                          try omega
                        · iterate 2 refine zp0 (by rfl) rfl rfl ?_
                          refine zy_put (b := 9) he (by rfl) (by rfl) (by rfl) ?_
                          refine zp0 (by rfl) rfl rfl ?_
                          refine zp_retV (by rfl) ?_
                          refine ⟨rfl, _, rfl, ?_⟩
                          simp +decide only [zcf, zuS, va_up, ↓reduceIte, z1i, z0i, x1, x3, x4, x5] at h2 h3 h15 h16 h17 h18 h25 h26 h27 h28 h29 h30
                          refine ⟨fun q hq => ?_, fun b b7 b8 b9 => ?_, ?_, ?_, ?_⟩
                          · funext p
                            simp [zuS, va_up, hq]
                          · simp [zuS, va_up, b7, b8, b9]
                          · simp +decide only [zuS, va_up, ↓reduceIte, x3, x6, x7, zsgN, zthen]
                            (repeat' split) <;> first | rfl | (exfalso; omega)
                          · simp +decide only [zuS, va_up, ↓reduceIte, x3, x6, x7, zsgK, zthen]
                            (repeat' split) <;> first | rfl | (exfalso; omega)
                          · simp +decide only [zuS, va_up, ↓reduceIte, x3, x6, x7, zsgW, zthen]
                            (repeat' split) <;> first | rfl | exact x9.symm | (exfalso; omega)
                      · exfalso
                        simp +decide only [↓reduceIte, zcf, zuS, va_up, z1i, z0i, x1, x3, x4, x5] at h2 h3 h15 h16 h17 h18 h25 h26 h27 h28 h29
                        try omega
                  · exfalso
                    simp +decide only [↓reduceIte, zcf, zuS, va_up, z1i, z0i, x1, x3, x4, x5] at h2 h3 h15 h16 h17 h18 h25 h26 h27
                    try omega
        · iterate 4 refine zp0 (by rfl) rfl rfl ?_
          refine zy_get (b := 9) he (by rfl) (by rfl) (by rfl) (by rfl) ?_
          refine zq_bip (by rfl) (by decide) ?_
          refine zy_icmpC (by rfl) (by rfl) ⟨by decide, by decide⟩ (fun h31 => ?_) (fun h31 => ?_)
          · exfalso
            simp +decide only [↓reduceIte, zcf, zuS, va_up, z1i, z0i, x1, x3, x4, x5] at h2 h3 h15 h16 h31
            try omega
          · refine zp0 (by rfl) rfl rfl ?_
            refine zq_bip (by rfl) (by decide) ?_
            refine zy_icmpC (by rfl) (by rfl) ⟨by decide, by decide⟩ (fun h32 => ?_) (fun h32 => ?_)
            · iterate 3 refine zp0 (by rfl) rfl rfl ?_
              refine zy_if (by rfl) (by rfl) (fun h33 => ?_) (fun h33 => ?_)
              · iterate 2 refine zp0 (by rfl) rfl rfl ?_
                refine zy_get (b := 7) he (by rfl) (by rfl) (by rfl) (by rfl) ?_
                iterate 2 refine zp0 (by rfl) rfl rfl ?_
                refine zy_put (b := 7) he (by rfl) (by rfl) (by rfl) ?_
                iterate 2 refine zp0 (by rfl) rfl rfl ?_
                refine zy_put (b := 8) he (by rfl) (by rfl) (by rfl) ?_
                iterate 2 refine zp0 (by rfl) rfl rfl ?_
                refine zy_get (b := 9) he (by rfl) (by rfl) (by rfl) (by rfl) ?_
                refine zq_bip (by rfl) (by decide) ?_
                refine zy_icmpC (by rfl) (by rfl) ⟨by decide, by decide⟩ (fun h34 => ?_) (fun h34 => ?_)
                · refine zp0 (by rfl) rfl rfl ?_
                  refine zy_get (b := 9) he (by rfl) (by rfl) (by rfl) (by rfl) ?_
                  refine zq_bip (by rfl) (by decide) ?_
                  refine zy_icmpC (by rfl) (by rfl) ⟨by decide, by decide⟩ (fun h35 => ?_) (fun h35 => ?_)
                  · exfalso
                    simp +decide only [↓reduceIte, zcf, zuS, va_up, z1i, z0i, x1, x3, x4, x5] at h2 h3 h15 h16 h31 h32 h33 h34 h35
                    try omega
                  · refine zp0 (by rfl) rfl rfl ?_
                    refine zy_if (by rfl) (by rfl) (fun h36 => ?_) (fun h36 => ?_)
                    · exfalso
                      simp +decide only [↓reduceIte, zcf, zuS, va_up, z1i, z0i, x1, x3, x4, x5] at h2 h3 h15 h16 h31 h32 h33 h34 h35 h36
                      try omega
                    · iterate 2 refine zp0 (by rfl) rfl rfl ?_
                      refine zy_put (b := 9) he (by rfl) (by rfl) (by rfl) ?_
                      refine zp0 (by rfl) rfl rfl ?_
                      refine zp_retV (by rfl) ?_
                      refine ⟨rfl, _, rfl, ?_⟩
                      simp +decide only [zcf, zuS, va_up, ↓reduceIte, z1i, z0i, x1, x3, x4, x5] at h2 h3 h15 h16 h31 h32 h33 h34 h35 h36
                      refine ⟨fun q hq => ?_, fun b b7 b8 b9 => ?_, ?_, ?_, ?_⟩
                      · funext p
                        simp [zuS, va_up, hq]
                      · simp [zuS, va_up, b7, b8, b9]
                      · simp +decide only [zuS, va_up, ↓reduceIte, x3, x6, x7, zsgN, zthen]
                        (repeat' split) <;> first | rfl | (exfalso; omega)
                      · simp +decide only [zuS, va_up, ↓reduceIte, x3, x6, x7, zsgK, zthen]
                        (repeat' split) <;> first | rfl | (exfalso; omega)
                      · simp +decide only [zuS, va_up, ↓reduceIte, x3, x6, x7, zsgW, zthen]
                        (repeat' split) <;> first | rfl | exact x9.symm | (exfalso; omega)
                · exfalso
                  simp +decide only [↓reduceIte, zcf, zuS, va_up, z1i, z0i, x1, x3, x4, x5] at h2 h3 h15 h16 h31 h32 h33 h34
                  try omega
              · exfalso
                simp +decide only [↓reduceIte, zcf, zuS, va_up, z1i, z0i, x1, x3, x4, x5] at h2 h3 h15 h16 h31 h32 h33
                try omega
            · exfalso
              simp +decide only [↓reduceIte, zcf, zuS, va_up, z1i, z0i, x1, x3, x4, x5] at h2 h3 h15 h16 h31 h32
              try omega
  · refine zp0 (by rfl) rfl rfl ?_
    refine zy_get (b := 9) he (by rfl) (by rfl) (by rfl) (by rfl) ?_
    refine zq_bip (by rfl) (by decide) ?_
    refine zy_icmpC (by rfl) (by rfl) ⟨by decide, by decide⟩ (fun h37 => ?_) (fun h37 => ?_)
    · refine zp0 (by rfl) rfl rfl ?_
      refine zy_get (b := 7) he (by rfl) (by rfl) (by rfl) (by rfl) ?_
      refine zp0 (by rfl) rfl rfl ?_
      refine zy_get (b := 6) he (by rfl) (by rfl) (by rfl) (by rfl) ?_
      refine zy_icmp (by rfl) (by rfl) (fun h38 => ?_) (fun h38 => ?_)
      · iterate 3 refine zp0 (by rfl) rfl rfl ?_
        refine zy_get (b := 9) he (by rfl) (by rfl) (by rfl) (by rfl) ?_
        refine zq_bip (by rfl) (by decide) ?_
        refine zy_icmpC (by rfl) (by rfl) ⟨by decide, by decide⟩ (fun h39 => ?_) (fun h39 => ?_)
        · exfalso
          simp +decide only [↓reduceIte, zcf, zuS, va_up, z1i, z0i, x1, x3, x4, x5] at h2 h37 h38 h39
          try omega
        · refine zp0 (by rfl) rfl rfl ?_
          refine zq_bip (by rfl) (by decide) ?_
          refine zy_icmpC (by rfl) (by rfl) ⟨by decide, by decide⟩ (fun h40 => ?_) (fun h40 => ?_)
          · iterate 3 refine zp0 (by rfl) rfl rfl ?_
            refine zy_get (b := 9) he (by rfl) (by rfl) (by rfl) (by rfl) ?_
            refine zq_bip (by rfl) (by decide) ?_
            refine zy_icmpC (by rfl) (by rfl) ⟨by decide, by decide⟩ (fun h41 => ?_) (fun h41 => ?_)
            · iterate 3 refine zp0 (by rfl) rfl rfl ?_
              refine zy_if (by rfl) (by rfl) (fun h42 => ?_) (fun h42 => ?_)
              · exfalso
                simp +decide only [↓reduceIte, zcf, zuS, va_up, z1i, z0i, x1, x3, x4, x5] at h2 h37 h38 h39 h40 h41 h42
                try omega
              · refine zp0 (by rfl) rfl rfl ?_
                refine zy_if (by rfl) (by rfl) (fun h43 => ?_) (fun h43 => ?_)
                · iterate 2 refine zp0 (by rfl) rfl rfl ?_
                  refine zy_put (b := 8) he (by rfl) (by rfl) (by rfl) ?_
                  iterate 2 refine zp0 (by rfl) rfl rfl ?_
                  refine zy_get (b := 9) he (by rfl) (by rfl) (by rfl) (by rfl) ?_
                  refine zq_bip (by rfl) (by decide) ?_
                  refine zy_icmpC (by rfl) (by rfl) ⟨by decide, by decide⟩ (fun h44 => ?_) (fun h44 => ?_)
                  · refine zp0 (by rfl) rfl rfl ?_
                    refine zy_get (b := 9) he (by rfl) (by rfl) (by rfl) (by rfl) ?_
                    refine zq_bip (by rfl) (by decide) ?_
                    refine zy_icmpC (by rfl) (by rfl) ⟨by decide, by decide⟩ (fun h45 => ?_) (fun h45 => ?_)
                    · refine zp0 (by rfl) rfl rfl ?_
                      refine zy_if (by rfl) (by rfl) (fun h46 => ?_) (fun h46 => ?_)
                      · refine zp0 (by rfl) rfl rfl ?_
                        refine zy_put (b := 9) he (by rfl) (by rfl) (by rfl) ?_
                        refine zp0 (by rfl) rfl rfl ?_
                        refine zp_retV (by rfl) ?_
                        refine ⟨rfl, _, rfl, ?_⟩
                        simp +decide only [zcf, zuS, va_up, ↓reduceIte, z1i, z0i, x1, x3, x4, x5] at h2 h37 h38 h39 h40 h41 h42 h43 h44 h45 h46
                        refine ⟨fun q hq => ?_, fun b b7 b8 b9 => ?_, ?_, ?_, ?_⟩
                        · funext p
                          simp [zuS, va_up, hq]
                        · simp [zuS, va_up, b7, b8, b9]
                        · simp +decide only [zuS, va_up, ↓reduceIte, x3, x6, x7, zsgN, zthen]
                          (repeat' split) <;> first | rfl | (exfalso; omega)
                        · simp +decide only [zuS, va_up, ↓reduceIte, x3, x6, x7, zsgK, zthen]
                          (repeat' split) <;> first | rfl | (exfalso; omega)
                        · simp +decide only [zuS, va_up, ↓reduceIte, x3, x6, x7, zsgW, zthen]
                          (repeat' split) <;> first | rfl | exact x9.symm | (exfalso; omega)
                      · exfalso
                        simp +decide only [↓reduceIte, zcf, zuS, va_up, z1i, z0i, x1, x3, x4, x5] at h2 h37 h38 h39 h40 h41 h42 h43 h44 h45 h46
                        try omega
                    · exfalso
                      simp +decide only [↓reduceIte, zcf, zuS, va_up, z1i, z0i, x1, x3, x4, x5] at h2 h37 h38 h39 h40 h41 h42 h43 h44 h45
                      try omega
                  · exfalso
                    simp +decide only [↓reduceIte, zcf, zuS, va_up, z1i, z0i, x1, x3, x4, x5] at h2 h37 h38 h39 h40 h41 h42 h43 h44
                    try omega
                · exfalso
                  simp +decide only [↓reduceIte, zcf, zuS, va_up, z1i, z0i, x1, x3, x4, x5] at h2 h37 h38 h39 h40 h41 h42 h43
                  try omega
            · exfalso
              simp +decide only [↓reduceIte, zcf, zuS, va_up, z1i, z0i, x1, x3, x4, x5] at h2 h37 h38 h39 h40 h41
              try omega
          · exfalso
            simp +decide only [↓reduceIte, zcf, zuS, va_up, z1i, z0i, x1, x3, x4, x5] at h2 h37 h38 h39 h40
            try omega
      · refine zp0 (by rfl) rfl rfl ?_
        refine zy_ref (r := 1) he (by rfl) (by rfl) (by rfl) (by rfl) ?_
        refine zp0 (by rfl) rfl rfl ?_
        refine zy_get (b := 7) he (by rfl) (by rfl) (by rfl) (by rfl) ?_
        refine zy_ald he (by rfl) (by rfl) (fun u47 w47 => ?_)
        iterate 3 refine zp0 (by rfl) rfl rfl ?_
        refine zy_get (b := 9) he (by rfl) (by rfl) (by rfl) (by rfl) ?_
        refine zq_bip (by rfl) (by decide) ?_
        refine zy_icmpC (by rfl) (by rfl) ⟨by decide, by decide⟩ (fun h48 => ?_) (fun h48 => ?_)
        · exfalso
          simp +decide only [↓reduceIte, zcf, zuS, va_up, z1i, z0i, x1, x3, x4, x5] at h2 h37 h38 h48
          try omega
        · refine zp0 (by rfl) rfl rfl ?_
          refine zq_bip (by rfl) (by decide) ?_
          refine zy_icmpC (by rfl) (by rfl) ⟨by decide, by decide⟩ (fun h49 => ?_) (fun h49 => ?_)
          · iterate 3 refine zp0 (by rfl) rfl rfl ?_
            refine zy_get (b := 9) he (by rfl) (by rfl) (by rfl) (by rfl) ?_
            refine zq_bip (by rfl) (by decide) ?_
            refine zy_icmpC (by rfl) (by rfl) ⟨by decide, by decide⟩ (fun h50 => ?_) (fun h50 => ?_)
            · iterate 3 refine zp0 (by rfl) rfl rfl ?_
              refine zy_if (by rfl) (by rfl) (fun h51 => ?_) (fun h51 => ?_)
              · exfalso
                simp +decide only [↓reduceIte, zcf, zuS, va_up, z1i, z0i, x1, x3, x4, x5] at h2 h37 h38 h48 h49 h50 h51
                try omega
              · refine zp0 (by rfl) rfl rfl ?_
                refine zy_if (by rfl) (by rfl) (fun h52 => ?_) (fun h52 => ?_)
                · iterate 2 refine zp0 (by rfl) rfl rfl ?_
                  refine zy_put (b := 8) he (by rfl) (by rfl) (by rfl) ?_
                  iterate 2 refine zp0 (by rfl) rfl rfl ?_
                  refine zy_get (b := 9) he (by rfl) (by rfl) (by rfl) (by rfl) ?_
                  refine zq_bip (by rfl) (by decide) ?_
                  refine zy_icmpC (by rfl) (by rfl) ⟨by decide, by decide⟩ (fun h53 => ?_) (fun h53 => ?_)
                  · refine zp0 (by rfl) rfl rfl ?_
                    refine zy_get (b := 9) he (by rfl) (by rfl) (by rfl) (by rfl) ?_
                    refine zq_bip (by rfl) (by decide) ?_
                    refine zy_icmpC (by rfl) (by rfl) ⟨by decide, by decide⟩ (fun h54 => ?_) (fun h54 => ?_)
                    · refine zp0 (by rfl) rfl rfl ?_
                      refine zy_if (by rfl) (by rfl) (fun h55 => ?_) (fun h55 => ?_)
                      · refine zp0 (by rfl) rfl rfl ?_
                        refine zy_put (b := 9) he (by rfl) (by rfl) (by rfl) ?_
                        refine zp0 (by rfl) rfl rfl ?_
                        refine zp_retV (by rfl) ?_
                        refine ⟨rfl, _, rfl, ?_⟩
                        simp +decide only [zcf, zuS, va_up, ↓reduceIte, z1i, z0i, x1, x3, x4, x5] at h2 h37 h38 h48 h49 h50 h51 h52 h53 h54 h55
                        refine ⟨fun q hq => ?_, fun b b7 b8 b9 => ?_, ?_, ?_, ?_⟩
                        · funext p
                          simp [zuS, va_up, hq]
                        · simp [zuS, va_up, b7, b8, b9]
                        · simp +decide only [zuS, va_up, ↓reduceIte, x3, x6, x7, zsgN, zthen]
                          (repeat' split) <;> first | rfl | (exfalso; omega)
                        · simp +decide only [zuS, va_up, ↓reduceIte, x3, x6, x7, zsgK, zthen]
                          (repeat' split) <;> first | rfl | (exfalso; omega)
                        · simp +decide only [zuS, va_up, ↓reduceIte, x3, x6, x7, zsgW, zthen]
                          (repeat' split) <;> first | rfl | exact x9.symm | (exfalso; omega)
                      · exfalso
                        simp +decide only [↓reduceIte, zcf, zuS, va_up, z1i, z0i, x1, x3, x4, x5] at h2 h37 h38 h48 h49 h50 h51 h52 h53 h54 h55
                        try omega
                    · exfalso
                      simp +decide only [↓reduceIte, zcf, zuS, va_up, z1i, z0i, x1, x3, x4, x5] at h2 h37 h38 h48 h49 h50 h51 h52 h53 h54
                      try omega
                  · exfalso
                    simp +decide only [↓reduceIte, zcf, zuS, va_up, z1i, z0i, x1, x3, x4, x5] at h2 h37 h38 h48 h49 h50 h51 h52 h53
                    try omega
                · exfalso
                  simp +decide only [↓reduceIte, zcf, zuS, va_up, z1i, z0i, x1, x3, x4, x5] at h2 h37 h38 h48 h49 h50 h51 h52
                  try omega
            · exfalso
              simp +decide only [↓reduceIte, zcf, zuS, va_up, z1i, z0i, x1, x3, x4, x5] at h2 h37 h38 h48 h49 h50
              try omega
          · iterate 4 refine zp0 (by rfl) rfl rfl ?_
            refine zy_get (b := 9) he (by rfl) (by rfl) (by rfl) (by rfl) ?_
            refine zq_bip (by rfl) (by decide) ?_
            refine zy_icmpC (by rfl) (by rfl) ⟨by decide, by decide⟩ (fun h56 => ?_) (fun h56 => ?_)
            · iterate 3 refine zp0 (by rfl) rfl rfl ?_
              refine zy_if (by rfl) (by rfl) (fun h57 => ?_) (fun h57 => ?_)
              · iterate 2 refine zp0 (by rfl) rfl rfl ?_
                refine zy_get (b := 7) he (by rfl) (by rfl) (by rfl) (by rfl) ?_
                iterate 2 refine zp0 (by rfl) rfl rfl ?_
                refine zy_put (b := 7) he (by rfl) (by rfl) (by rfl) ?_
                iterate 2 refine zp0 (by rfl) rfl rfl ?_
                refine zy_put (b := 8) he (by rfl) (by rfl) (by rfl) ?_
                iterate 2 refine zp0 (by rfl) rfl rfl ?_
                refine zy_get (b := 9) he (by rfl) (by rfl) (by rfl) (by rfl) ?_
                refine zq_bip (by rfl) (by decide) ?_
                refine zy_icmpC (by rfl) (by rfl) ⟨by decide, by decide⟩ (fun h58 => ?_) (fun h58 => ?_)
                · refine zp0 (by rfl) rfl rfl ?_
                  refine zy_get (b := 9) he (by rfl) (by rfl) (by rfl) (by rfl) ?_
                  refine zq_bip (by rfl) (by decide) ?_
                  refine zy_icmpC (by rfl) (by rfl) ⟨by decide, by decide⟩ (fun h59 => ?_) (fun h59 => ?_)
                  · refine zp0 (by rfl) rfl rfl ?_
                    refine zy_if (by rfl) (by rfl) (fun h60 => ?_) (fun h60 => ?_)
                    · exfalso
                      simp +decide only [↓reduceIte, zcf, zuS, va_up, z1i, z0i, x1, x3, x4, x5] at h2 h37 h38 h48 h49 h56 h57 h58 h59 h60
                      try omega
                    · iterate 2 refine zp0 (by rfl) rfl rfl ?_
                      refine zy_put (b := 9) he (by rfl) (by rfl) (by rfl) ?_
                      refine zp0 (by rfl) rfl rfl ?_
                      refine zp_retV (by rfl) ?_
                      refine ⟨rfl, _, rfl, ?_⟩
                      simp +decide only [zcf, zuS, va_up, ↓reduceIte, z1i, z0i, x1, x3, x4, x5] at h2 h37 h38 h48 h49 h56 h57 h58 h59 h60
                      refine ⟨fun q hq => ?_, fun b b7 b8 b9 => ?_, ?_, ?_, ?_⟩
                      · funext p
                        simp [zuS, va_up, hq]
                      · simp [zuS, va_up, b7, b8, b9]
                      · simp +decide only [zuS, va_up, ↓reduceIte, x3, x6, x7, zsgN, zthen]
                        (repeat' split) <;> first | rfl | (exfalso; omega)
                      · simp +decide only [zuS, va_up, ↓reduceIte, x3, x6, x7, zsgK, zthen]
                        (repeat' split) <;> first | rfl | (exfalso; omega)
                      · simp +decide only [zuS, va_up, ↓reduceIte, x3, x6, x7, zsgW, zthen]
                        (repeat' split) <;> first | rfl | exact x9.symm | (exfalso; omega)
                  · exfalso
                    simp +decide only [↓reduceIte, zcf, zuS, va_up, z1i, z0i, x1, x3, x4, x5] at h2 h37 h38 h48 h49 h56 h57 h58 h59
                    try omega
                · exfalso
                  simp +decide only [↓reduceIte, zcf, zuS, va_up, z1i, z0i, x1, x3, x4, x5] at h2 h37 h38 h48 h49 h56 h57 h58
                  try omega
              · exfalso
                simp +decide only [↓reduceIte, zcf, zuS, va_up, z1i, z0i, x1, x3, x4, x5] at h2 h37 h38 h48 h49 h56 h57
                try omega
            · exfalso
              simp +decide only [↓reduceIte, zcf, zuS, va_up, z1i, z0i, x1, x3, x4, x5] at h2 h37 h38 h48 h49 h56
              try omega
    · refine zp0 (by rfl) rfl rfl ?_
      refine zy_get (b := 9) he (by rfl) (by rfl) (by rfl) (by rfl) ?_
      refine zq_bip (by rfl) (by decide) ?_
      refine zy_icmpC (by rfl) (by rfl) ⟨by decide, by decide⟩ (fun h61 => ?_) (fun h61 => ?_)
      · refine zp0 (by rfl) rfl rfl ?_
        refine zy_get (b := 9) he (by rfl) (by rfl) (by rfl) (by rfl) ?_
        refine zq_bip (by rfl) (by decide) ?_
        refine zy_icmpC (by rfl) (by rfl) ⟨by decide, by decide⟩ (fun h62 => ?_) (fun h62 => ?_)
        · iterate 5 refine zp0 (by rfl) rfl rfl ?_
          refine zy_if (by rfl) (by rfl) (fun h63 => ?_) (fun h63 => ?_)
          · exfalso
            simp +decide only [↓reduceIte, zcf, zuS, va_up, z1i, z0i, x1, x3, x4, x5] at h2 h37 h61 h62 h63
            try omega
          · iterate 2 refine zp0 (by rfl) rfl rfl ?_
            refine zy_put (b := 8) he (by rfl) (by rfl) (by rfl) ?_
            refine zp_retV (by rfl) ?_
            refine ⟨rfl, _, rfl, ?_⟩
            simp +decide only [zcf, zuS, va_up, ↓reduceIte, z1i, z0i, x1, x3, x4, x5] at h2 h37 h61 h62 h63
            refine ⟨fun q hq => ?_, fun b b7 b8 b9 => ?_, ?_, ?_, ?_⟩
            · funext p
              simp [zuS, va_up, hq]
            · simp [zuS, va_up, b7, b8, b9]
            · simp +decide only [zuS, va_up, ↓reduceIte, x3, x6, x7, zsgN, zthen]
              (repeat' split) <;> first | rfl | (exfalso; omega)
            · simp +decide only [zuS, va_up, ↓reduceIte, x3, x6, x7, zsgK, zthen]
              (repeat' split) <;> first | rfl | (exfalso; omega)
            · simp +decide only [zuS, va_up, ↓reduceIte, x3, x6, x7, zsgW, zthen]
              (repeat' split) <;> first | rfl | exact x9.symm | (exfalso; omega)
        · refine zp0 (by rfl) rfl rfl ?_
          refine zy_get (b := 9) he (by rfl) (by rfl) (by rfl) (by rfl) ?_
          refine zq_bip (by rfl) (by decide) ?_
          refine zy_icmpC (by rfl) (by rfl) ⟨by decide, by decide⟩ (fun h64 => ?_) (fun h64 => ?_)
          · iterate 5 refine zp0 (by rfl) rfl rfl ?_
            refine zy_if (by rfl) (by rfl) (fun h65 => ?_) (fun h65 => ?_)
            · exfalso
              simp +decide only [↓reduceIte, zcf, zuS, va_up, z1i, z0i, x1, x3, x4, x5] at h2 h37 h61 h62 h64 h65
              try omega
            · iterate 2 refine zp0 (by rfl) rfl rfl ?_
              refine zy_put (b := 8) he (by rfl) (by rfl) (by rfl) ?_
              refine zp_retV (by rfl) ?_
              refine ⟨rfl, _, rfl, ?_⟩
              simp +decide only [zcf, zuS, va_up, ↓reduceIte, z1i, z0i, x1, x3, x4, x5] at h2 h37 h61 h62 h64 h65
              refine ⟨fun q hq => ?_, fun b b7 b8 b9 => ?_, ?_, ?_, ?_⟩
              · funext p
                simp [zuS, va_up, hq]
              · simp [zuS, va_up, b7, b8, b9]
              · simp +decide only [zuS, va_up, ↓reduceIte, x3, x6, x7, zsgN, zthen]
                (repeat' split) <;> first | rfl | (exfalso; omega)
              · simp +decide only [zuS, va_up, ↓reduceIte, x3, x6, x7, zsgK, zthen]
                (repeat' split) <;> first | rfl | (exfalso; omega)
              · simp +decide only [zuS, va_up, ↓reduceIte, x3, x6, x7, zsgW, zthen]
                (repeat' split) <;> first | rfl | exact x9.symm | (exfalso; omega)
          · refine zp0 (by rfl) rfl rfl ?_
            refine zy_get (b := 9) he (by rfl) (by rfl) (by rfl) (by rfl) ?_
            refine zq_bip (by rfl) (by decide) ?_
            refine zy_icmpC (by rfl) (by rfl) ⟨by decide, by decide⟩ (fun h66 => ?_) (fun h66 => ?_)
            · iterate 5 refine zp0 (by rfl) rfl rfl ?_
              refine zy_if (by rfl) (by rfl) (fun h67 => ?_) (fun h67 => ?_)
              · exfalso
                simp +decide only [↓reduceIte, zcf, zuS, va_up, z1i, z0i, x1, x3, x4, x5] at h2 h37 h61 h62 h64 h66 h67
                try omega
              · iterate 2 refine zp0 (by rfl) rfl rfl ?_
                refine zy_put (b := 8) he (by rfl) (by rfl) (by rfl) ?_
                refine zp_retV (by rfl) ?_
                refine ⟨rfl, _, rfl, ?_⟩
                simp +decide only [zcf, zuS, va_up, ↓reduceIte, z1i, z0i, x1, x3, x4, x5] at h2 h37 h61 h62 h64 h66 h67
                refine ⟨fun q hq => ?_, fun b b7 b8 b9 => ?_, ?_, ?_, ?_⟩
                · funext p
                  simp [zuS, va_up, hq]
                · simp [zuS, va_up, b7, b8, b9]
                · simp +decide only [zuS, va_up, ↓reduceIte, x3, x6, x7, zsgN, zthen]
                  (repeat' split) <;> first | rfl | (exfalso; omega)
                · simp +decide only [zuS, va_up, ↓reduceIte, x3, x6, x7, zsgK, zthen]
                  (repeat' split) <;> first | rfl | (exfalso; omega)
                · simp +decide only [zuS, va_up, ↓reduceIte, x3, x6, x7, zsgW, zthen]
                  (repeat' split) <;> first | rfl | exact x9.symm | (exfalso; omega)
            · refine zp0 (by rfl) rfl rfl ?_
              refine zy_get (b := 9) he (by rfl) (by rfl) (by rfl) (by rfl) ?_
              refine zq_bip (by rfl) (by decide) ?_
              refine zy_icmpC (by rfl) (by rfl) ⟨by decide, by decide⟩ (fun h68 => ?_) (fun h68 => ?_)
              · iterate 5 refine zp0 (by rfl) rfl rfl ?_
                refine zy_if (by rfl) (by rfl) (fun h69 => ?_) (fun h69 => ?_)
                · exfalso
                  simp +decide only [↓reduceIte, zcf, zuS, va_up, z1i, z0i, x1, x3, x4, x5] at h2 h37 h61 h62 h64 h66 h68 h69
                  try omega
                · iterate 2 refine zp0 (by rfl) rfl rfl ?_
                  refine zy_put (b := 8) he (by rfl) (by rfl) (by rfl) ?_
                  refine zp_retV (by rfl) ?_
                  refine ⟨rfl, _, rfl, ?_⟩
                  simp +decide only [zcf, zuS, va_up, ↓reduceIte, z1i, z0i, x1, x3, x4, x5] at h2 h37 h61 h62 h64 h66 h68 h69
                  refine ⟨fun q hq => ?_, fun b b7 b8 b9 => ?_, ?_, ?_, ?_⟩
                  · funext p
                    simp [zuS, va_up, hq]
                  · simp [zuS, va_up, b7, b8, b9]
                  · simp +decide only [zuS, va_up, ↓reduceIte, x3, x6, x7, zsgN, zthen]
                    (repeat' split) <;> first | rfl | (exfalso; omega)
                  · simp +decide only [zuS, va_up, ↓reduceIte, x3, x6, x7, zsgK, zthen]
                    (repeat' split) <;> first | rfl | (exfalso; omega)
                  · simp +decide only [zuS, va_up, ↓reduceIte, x3, x6, x7, zsgW, zthen]
                    (repeat' split) <;> first | rfl | exact x9.symm | (exfalso; omega)
              · refine zp0 (by rfl) rfl rfl ?_
                refine zy_get (b := 9) he (by rfl) (by rfl) (by rfl) (by rfl) ?_
                refine zq_bip (by rfl) (by decide) ?_
                refine zy_icmpC (by rfl) (by rfl) ⟨by decide, by decide⟩ (fun h70 => ?_) (fun h70 => ?_)
                · iterate 5 refine zp0 (by rfl) rfl rfl ?_
                  refine zy_if (by rfl) (by rfl) (fun h71 => ?_) (fun h71 => ?_)
                  · exfalso
                    simp +decide only [↓reduceIte, zcf, zuS, va_up, z1i, z0i, x1, x3, x4, x5] at h2 h37 h61 h62 h64 h66 h68 h70 h71
                    try omega
                  · iterate 2 refine zp0 (by rfl) rfl rfl ?_
                    refine zy_put (b := 8) he (by rfl) (by rfl) (by rfl) ?_
                    refine zp_retV (by rfl) ?_
                    refine ⟨rfl, _, rfl, ?_⟩
                    simp +decide only [zcf, zuS, va_up, ↓reduceIte, z1i, z0i, x1, x3, x4, x5] at h2 h37 h61 h62 h64 h66 h68 h70 h71
                    refine ⟨fun q hq => ?_, fun b b7 b8 b9 => ?_, ?_, ?_, ?_⟩
                    · funext p
                      simp [zuS, va_up, hq]
                    · simp [zuS, va_up, b7, b8, b9]
                    · simp +decide only [zuS, va_up, ↓reduceIte, x3, x6, x7, zsgN, zthen]
                      (repeat' split) <;> first | rfl | (exfalso; omega)
                    · simp +decide only [zuS, va_up, ↓reduceIte, x3, x6, x7, zsgK, zthen]
                      (repeat' split) <;> first | rfl | (exfalso; omega)
                    · simp +decide only [zuS, va_up, ↓reduceIte, x3, x6, x7, zsgW, zthen]
                      (repeat' split) <;> first | rfl | exact x9.symm | (exfalso; omega)
                · refine zp0 (by rfl) rfl rfl ?_
                  refine zy_get (b := 9) he (by rfl) (by rfl) (by rfl) (by rfl) ?_
                  refine zq_bip (by rfl) (by decide) ?_
                  refine zy_icmpC (by rfl) (by rfl) ⟨by decide, by decide⟩ (fun h72 => ?_) (fun h72 => ?_)
                  · iterate 5 refine zp0 (by rfl) rfl rfl ?_
                    refine zy_if (by rfl) (by rfl) (fun h73 => ?_) (fun h73 => ?_)
                    · exfalso
                      simp +decide only [↓reduceIte, zcf, zuS, va_up, z1i, z0i, x1, x3, x4, x5] at h2 h37 h61 h62 h64 h66 h68 h70 h72 h73
                      try omega
                    · iterate 2 refine zp0 (by rfl) rfl rfl ?_
                      refine zy_put (b := 8) he (by rfl) (by rfl) (by rfl) ?_
                      refine zp_retV (by rfl) ?_
                      refine ⟨rfl, _, rfl, ?_⟩
                      simp +decide only [zcf, zuS, va_up, ↓reduceIte, z1i, z0i, x1, x3, x4, x5] at h2 h37 h61 h62 h64 h66 h68 h70 h72 h73
                      refine ⟨fun q hq => ?_, fun b b7 b8 b9 => ?_, ?_, ?_, ?_⟩
                      · funext p
                        simp [zuS, va_up, hq]
                      · simp [zuS, va_up, b7, b8, b9]
                      · simp +decide only [zuS, va_up, ↓reduceIte, x3, x6, x7, zsgN, zthen]
                        (repeat' split) <;> first | rfl | (exfalso; omega)
                      · simp +decide only [zuS, va_up, ↓reduceIte, x3, x6, x7, zsgK, zthen]
                        (repeat' split) <;> first | rfl | (exfalso; omega)
                      · simp +decide only [zuS, va_up, ↓reduceIte, x3, x6, x7, zsgW, zthen]
                        (repeat' split) <;> first | rfl | exact x9.symm | (exfalso; omega)
                  · refine zp0 (by rfl) rfl rfl ?_
                    refine zy_get (b := 9) he (by rfl) (by rfl) (by rfl) (by rfl) ?_
                    refine zq_bip (by rfl) (by decide) ?_
                    refine zy_icmpC (by rfl) (by rfl) ⟨by decide, by decide⟩ (fun h74 => ?_) (fun h74 => ?_)
                    · iterate 4 refine zp0 (by rfl) rfl rfl ?_
                      refine zy_if (by rfl) (by rfl) (fun h75 => ?_) (fun h75 => ?_)
                      · refine zq_bip (by rfl) (by decide) ?_
                        refine zy_put (b := 8) he (by rfl) (by rfl) (by rfl) ?_
                        refine zp_retV (by rfl) ?_
                        refine ⟨rfl, _, rfl, ?_⟩
                        simp +decide only [zcf, zuS, va_up, ↓reduceIte, z1i, z0i, x1, x3, x4, x5] at h2 h37 h61 h62 h64 h66 h68 h70 h72 h74 h75
                        refine ⟨fun q hq => ?_, fun b b7 b8 b9 => ?_, ?_, ?_, ?_⟩
                        · funext p
                          simp [zuS, va_up, hq]
                        · simp [zuS, va_up, b7, b8, b9]
                        · simp +decide only [zuS, va_up, ↓reduceIte, x3, x6, x7, zsgN, zthen]
                          (repeat' split) <;> first | rfl | (exfalso; omega)
                        · simp +decide only [zuS, va_up, ↓reduceIte, x3, x6, x7, zsgK, zthen]
                          (repeat' split) <;> first | rfl | (exfalso; omega)
                        · simp +decide only [zuS, va_up, ↓reduceIte, x3, x6, x7, zsgW, zthen]
                          (repeat' split) <;> first | rfl | exact x9.symm | (exfalso; omega)
                      · exfalso
                        simp +decide only [↓reduceIte, zcf, zuS, va_up, z1i, z0i, x1, x3, x4, x5] at h2 h37 h61 h62 h64 h66 h68 h70 h72 h74 h75
                        try omega
                    · iterate 5 refine zp0 (by rfl) rfl rfl ?_
                      refine zy_if (by rfl) (by rfl) (fun h76 => ?_) (fun h76 => ?_)
                      · exfalso
                        simp +decide only [↓reduceIte, zcf, zuS, va_up, z1i, z0i, x1, x3, x4, x5] at h2 h37 h61 h62 h64 h66 h68 h70 h72 h74 h76
                        try omega
                      · iterate 2 refine zp0 (by rfl) rfl rfl ?_
                        refine zy_put (b := 8) he (by rfl) (by rfl) (by rfl) ?_
                        refine zp_retV (by rfl) ?_
                        refine ⟨rfl, _, rfl, ?_⟩
                        simp +decide only [zcf, zuS, va_up, ↓reduceIte, z1i, z0i, x1, x3, x4, x5] at h2 h37 h61 h62 h64 h66 h68 h70 h72 h74 h76
                        refine ⟨fun q hq => ?_, fun b b7 b8 b9 => ?_, ?_, ?_, ?_⟩
                        · funext p
                          simp [zuS, va_up, hq]
                        · simp [zuS, va_up, b7, b8, b9]
                        · simp +decide only [zuS, va_up, ↓reduceIte, x3, x6, x7, zsgN, zthen]
                          (repeat' split) <;> first | rfl | (exfalso; omega)
                        · simp +decide only [zuS, va_up, ↓reduceIte, x3, x6, x7, zsgK, zthen]
                          (repeat' split) <;> first | rfl | (exfalso; omega)
                        · simp +decide only [zuS, va_up, ↓reduceIte, x3, x6, x7, zsgW, zthen]
                          (repeat' split) <;> first | rfl | exact x9.symm | (exfalso; omega)
      · refine zp0 (by rfl) rfl rfl ?_
        refine zy_get (b := 7) he (by rfl) (by rfl) (by rfl) (by rfl) ?_
        refine zp0 (by rfl) rfl rfl ?_
        refine zy_get (b := 6) he (by rfl) (by rfl) (by rfl) (by rfl) ?_
        refine zy_icmp (by rfl) (by rfl) (fun h77 => ?_) (fun h77 => ?_)
        · iterate 3 refine zp0 (by rfl) rfl rfl ?_
          refine zy_get (b := 9) he (by rfl) (by rfl) (by rfl) (by rfl) ?_
          refine zq_bip (by rfl) (by decide) ?_
          refine zy_icmpC (by rfl) (by rfl) ⟨by decide, by decide⟩ (fun h78 => ?_) (fun h78 => ?_)
          · iterate 3 refine zp0 (by rfl) rfl rfl ?_
            refine zy_get (b := 9) he (by rfl) (by rfl) (by rfl) (by rfl) ?_
            refine zq_bip (by rfl) (by decide) ?_
            refine zy_icmpC (by rfl) (by rfl) ⟨by decide, by decide⟩ (fun h79 => ?_) (fun h79 => ?_)
            · iterate 3 refine zp0 (by rfl) rfl rfl ?_
              refine zy_if (by rfl) (by rfl) (fun h80 => ?_) (fun h80 => ?_)
              · exfalso
                simp +decide only [↓reduceIte, zcf, zuS, va_up, z1i, z0i, x1, x3, x4, x5] at h2 h37 h61 h77 h78 h79 h80
                try omega
              · refine zp0 (by rfl) rfl rfl ?_
                refine zy_if (by rfl) (by rfl) (fun h81 => ?_) (fun h81 => ?_)
                · iterate 2 refine zp0 (by rfl) rfl rfl ?_
                  refine zy_put (b := 8) he (by rfl) (by rfl) (by rfl) ?_
                  iterate 2 refine zp0 (by rfl) rfl rfl ?_
                  refine zy_get (b := 9) he (by rfl) (by rfl) (by rfl) (by rfl) ?_
                  refine zq_bip (by rfl) (by decide) ?_
                  refine zy_icmpC (by rfl) (by rfl) ⟨by decide, by decide⟩ (fun h82 => ?_) (fun h82 => ?_)
                  · exfalso
                    simp +decide only [↓reduceIte, zcf, zuS, va_up, z1i, z0i, x1, x3, x4, x5] at h2 h37 h61 h77 h78 h79 h80 h81 h82
                    try omega
                  · iterate 2 refine zp0 (by rfl) rfl rfl ?_
                    refine zy_put (b := 9) he (by rfl) (by rfl) (by rfl) ?_
                    refine zp0 (by rfl) rfl rfl ?_
                    refine zp_retV (by rfl) ?_
                    refine ⟨rfl, _, rfl, ?_⟩
                    simp +decide only [zcf, zuS, va_up, ↓reduceIte, z1i, z0i, x1, x3, x4, x5] at h2 h37 h61 h77 h78 h79 h80 h81 h82
                    refine ⟨fun q hq => ?_, fun b b7 b8 b9 => ?_, ?_, ?_, ?_⟩
                    · funext p
                      simp [zuS, va_up, hq]
                    · simp [zuS, va_up, b7, b8, b9]
                    · simp +decide only [zuS, va_up, ↓reduceIte, x3, x6, x7, zsgN, zthen]
                      (repeat' split) <;> first | rfl | (exfalso; omega)
                    · simp +decide only [zuS, va_up, ↓reduceIte, x3, x6, x7, zsgK, zthen]
                      (repeat' split) <;> first | rfl | (exfalso; omega)
                    · simp +decide only [zuS, va_up, ↓reduceIte, x3, x6, x7, zsgW, zthen]
                      (repeat' split) <;> first | rfl | exact x9.symm | (exfalso; omega)
                · exfalso
                  simp +decide only [↓reduceIte, zcf, zuS, va_up, z1i, z0i, x1, x3, x4, x5] at h2 h37 h61 h77 h78 h79 h80 h81
                  try omega
            · exfalso
              simp +decide only [↓reduceIte, zcf, zuS, va_up, z1i, z0i, x1, x3, x4, x5] at h2 h37 h61 h77 h78 h79
              try omega
          · exfalso
            simp +decide only [↓reduceIte, zcf, zuS, va_up, z1i, z0i, x1, x3, x4, x5] at h2 h37 h61 h77 h78
            try omega
        · refine zp0 (by rfl) rfl rfl ?_
          refine zy_ref (r := 1) he (by rfl) (by rfl) (by rfl) (by rfl) ?_
          refine zp0 (by rfl) rfl rfl ?_
          refine zy_get (b := 7) he (by rfl) (by rfl) (by rfl) (by rfl) ?_
          refine zy_ald he (by rfl) (by rfl) (fun u83 w83 => ?_)
          iterate 3 refine zp0 (by rfl) rfl rfl ?_
          refine zy_get (b := 9) he (by rfl) (by rfl) (by rfl) (by rfl) ?_
          refine zq_bip (by rfl) (by decide) ?_
          refine zy_icmpC (by rfl) (by rfl) ⟨by decide, by decide⟩ (fun h84 => ?_) (fun h84 => ?_)
          · iterate 3 refine zp0 (by rfl) rfl rfl ?_
            refine zy_get (b := 9) he (by rfl) (by rfl) (by rfl) (by rfl) ?_
            refine zq_bip (by rfl) (by decide) ?_
            refine zy_icmpC (by rfl) (by rfl) ⟨by decide, by decide⟩ (fun h85 => ?_) (fun h85 => ?_)
            · iterate 3 refine zp0 (by rfl) rfl rfl ?_
              refine zy_if (by rfl) (by rfl) (fun h86 => ?_) (fun h86 => ?_)
              · exfalso
                simp +decide only [↓reduceIte, zcf, zuS, va_up, z1i, z0i, x1, x3, x4, x5] at h2 h37 h61 h77 h84 h85 h86
                try omega
              · refine zp0 (by rfl) rfl rfl ?_
                refine zy_if (by rfl) (by rfl) (fun h87 => ?_) (fun h87 => ?_)
                · iterate 2 refine zp0 (by rfl) rfl rfl ?_
                  refine zy_put (b := 8) he (by rfl) (by rfl) (by rfl) ?_
                  iterate 2 refine zp0 (by rfl) rfl rfl ?_
                  refine zy_get (b := 9) he (by rfl) (by rfl) (by rfl) (by rfl) ?_
                  refine zq_bip (by rfl) (by decide) ?_
                  refine zy_icmpC (by rfl) (by rfl) ⟨by decide, by decide⟩ (fun h88 => ?_) (fun h88 => ?_)
                  · exfalso
                    simp +decide only [↓reduceIte, zcf, zuS, va_up, z1i, z0i, x1, x3, x4, x5] at h2 h37 h61 h77 h84 h85 h86 h87 h88
                    try omega
                  · iterate 2 refine zp0 (by rfl) rfl rfl ?_
                    refine zy_put (b := 9) he (by rfl) (by rfl) (by rfl) ?_
                    refine zp0 (by rfl) rfl rfl ?_
                    refine zp_retV (by rfl) ?_
                    refine ⟨rfl, _, rfl, ?_⟩
                    simp +decide only [zcf, zuS, va_up, ↓reduceIte, z1i, z0i, x1, x3, x4, x5] at h2 h37 h61 h77 h84 h85 h86 h87 h88
                    refine ⟨fun q hq => ?_, fun b b7 b8 b9 => ?_, ?_, ?_, ?_⟩
                    · funext p
                      simp [zuS, va_up, hq]
                    · simp [zuS, va_up, b7, b8, b9]
                    · simp +decide only [zuS, va_up, ↓reduceIte, x3, x6, x7, zsgN, zthen]
                      (repeat' split) <;> first | rfl | (exfalso; omega)
                    · simp +decide only [zuS, va_up, ↓reduceIte, x3, x6, x7, zsgK, zthen]
                      (repeat' split) <;> first | rfl | (exfalso; omega)
                    · simp +decide only [zuS, va_up, ↓reduceIte, x3, x6, x7, zsgW, zthen]
                      (repeat' split) <;> first | rfl | exact x9.symm | (exfalso; omega)
                · exfalso
                  simp +decide only [↓reduceIte, zcf, zuS, va_up, z1i, z0i, x1, x3, x4, x5] at h2 h37 h61 h77 h84 h85 h86 h87
                  try omega
            · exfalso
              simp +decide only [↓reduceIte, zcf, zuS, va_up, z1i, z0i, x1, x3, x4, x5] at h2 h37 h61 h77 h84 h85
              try omega
          · exfalso
            simp +decide only [↓reduceIte, zcf, zuS, va_up, z1i, z0i, x1, x3, x4, x5] at h2 h37 h61 h77 h84
            try omega
end ZTK4
