/-! a token -/
def zWds : List (List Int) := [[115, 104, 101, 108, 102], [116, 104, 105, 110, 103], [99, 104, 105, 108, 100], [114, 111, 117, 110, 100], [104, 101, 97, 114, 116], [100, 111, 117, 98, 116], [114, 111, 117, 103, 104], [97, 110, 100], [111, 114], [110, 111, 116], [119, 101, 105, 103, 104, 116], [119, 105, 100, 101], [104, 105, 103, 104], [108, 101, 102, 116], [102, 111, 111, 116], [97, 98, 111, 118, 101], [108, 111, 97, 100]]
/-- what comes at a place that is no blank: where it ends, its kind, what it is -/
def zTkO (T : Nat → Int32) (m b : Nat) (old : Int32) (th : Int) : Nat × Int × Int32 :=
  if m ≤ b then (b, 0, old)
  else if zcs1 (T b) = true then
    (zend (fun q => zcs1 (T q)) m b,
     if 0 ≤ zwdI T b (zend (fun q => zcs1 (T q)) m b - b) zWds 0 then 1 else if 6 < zend (fun q => zcs1 (T q)) m b - b then 6 else 2,
     if 0 ≤ zwdI T b (zend (fun q => zcs1 (T q)) m b - b) zWds 0 ∨ 6 < zend (fun q => zcs1 (T q)) m b - b then Int32.ofInt (zwdI T b (zend (fun q => zcs1 (T q)) m b - b) zWds 0) else Int32.ofInt (zpkA T (zend (fun q => zcs1 (T q)) m b) 6 b 0 : Nat))
  else if zcd1 (T b) = true then
    (zend (fun q => zcd1 (T q)) m b, 3, Int32.ofInt (zdigA T (zend (fun q => zcd1 (T q)) m b - b) b 0))
  else (zsgN (T b).toInt th b, zsgK (T b).toInt, Int32.ofInt (zsgW (T b).toInt th))
def zTok2 (S S' : Nat → Nat → Int32) (m b : Nat) : Prop := (∀ q, q ≠ 0 → S' q = S q) ∧ (∀ f, f ≠ 7 → f ≠ 8 → f ≠ 9 → f ≠ 10 → S' 0 f = S 0 f) ∧ S' 0 10 = Int32.ofInt (b : Int) ∧ S' 0 7 = Int32.ofInt ((zTkO (S 1) m b (S 0 9) (zthen S m b)).1 : Int) ∧ S' 0 8 = Int32.ofInt (zTkO (S 1) m b (S 0 9) (zthen S m b)).2.1 ∧ S' 0 9 = (zTkO (S 1) m b (S 0 9) (zthen S m b)).2.2
theorem zwdI_rg {T : Nat → Int32} {a n : Nat} : ∀ (l : List (List Int)) (k : Int), 0 ≤ k → -1 ≤ zwdI T a n l k ∧ zwdI T a n l k ≤ k + l.length
  | [], k, h => by
    show (-1 : Int) ≤ -1 ∧ (-1 : Int) ≤ k + ((0 : Nat) : Int)
    omega
  | ws :: l, k, h => by
    unfold zwdI
    have := zwdI_rg (T := T) (a := a) (n := n) l (k + 1) (by omega)
    have e : ((ws :: l).length : Int) = l.length + 1 := by simp
    split <;> omega
theorem zend_all {p : Nat → Bool} {m : Nat} : ∀ (d a : Nat), a + d = m → ∀ q, a ≤ q → q < zend p m a → p q = true := by
  intro d
  induction d with
  | zero =>
    intro a ha q h1 h2
    rw [zend_no (Or.inl (by omega))] at h2
    omega
  | succ d ih =>
    intro a ha q h1 h2
    cases hp : p a with
    | true =>
      rw [zend_up (by omega) hp] at h2
      by_cases e : q = a
      · rw [e]
        exact hp
      · exact ih (a + 1) (by omega) q (by omega) h2
    | false =>
      rw [zend_no (Or.inr hp)] at h2
      omega
section ZTK8
variable {Lx : Nat} {xs : Nat → Int32} {hp : List zhE} {e : Nat → Nat} {m : Nat}
theorem zt_tok2 (he : zeI e hp zDM.length) (n : Nat) (S : Nat → Nat → Int32) (b : Nat) (h6 : S 0 6 = Int32.ofInt (m : Int)) (hbm : b ≤ m) (hm : m ≤ 600) (hs : zspell (S 2) 0 zWds) {c s : Nat} : zPn Lx xs n 167 (52, [(0, .ref (e 0))], [], zHS e zDM (zuS S 0 7 (Int32.ofInt (b : Int))) hp, c, s) (fun rv hp1 => rv = none ∧ ∃ S', hp1 = zHS e zDM S' hp ∧ zTok2 S S' m b) := by
  have x1 : (S 0 6).toInt = m := by rw [h6]; exact zof_ix (by omega)
  have x2 : (Int32.ofInt (b : Int)).toInt = b := zof_ix (by omega)
  have x3 : (Int32.ofInt (b : Int)).toNatClampNeg = b := zof_cl (by omega)
  have d1 := zend_le (p := fun q => zcs1 (S 1 q)) (m := m) (m - b) b (by omega)
  have d2 := zend_le (p := fun q => zcd1 (S 1 q)) (m := m) (m - b) b (by omega)
  have d3 := zend_all (p := fun q => zcs1 (S 1 q)) (m := m) (m - b) b (by omega)
  have w0 := zwdI_rg (T := S 1) (a := b) (n := zend (fun q => zcs1 (S 1 q)) m b - b) zWds 0 (by decide)
  have w1 : (0 : Int) + zWds.length = 17 := by decide
  generalize hd : zend (fun q => zcs1 (S 1 q)) m b = d at d1 d3 w0
  generalize hw : zwdI (S 1) b (d - b) zWds 0 = w at w0
  have x4 : (Int32.ofInt (d : Int) - Int32.ofInt (b : Int)).toInt = (d : Int) - b := by
    rw [← Int32.ofInt_sub]
    exact zRt ⟨by omega, by omega⟩
  have x5 : (Int32.ofInt w).toInt = w := zRt ⟨by omega, by omega⟩
  have c1 : (Int32.ofInt 1).toInt = 1 := z1i
  have c2 : (Int32.ofInt 2).toInt = 2 := by decide
  have c6 : (Int32.ofInt 6).toInt = 6 := by decide
  have hO1 : b < m → zcs1 (S 1 b) = true → zTkO (S 1) m b (S 0 9) (zthen S m b) = (d, if 0 ≤ w then 1 else if 6 < d - b then 6 else 2, if 0 ≤ w ∨ 6 < d - b then Int32.ofInt w else Int32.ofInt (zpkA (S 1) d 6 b 0 : Nat)) := by
    intro g1 g2
    unfold zTkO
    rw [if_neg (by omega), if_pos g2, hd, hw]
  have hO2 : b < m → ¬ zcs1 (S 1 b) = true → zcd1 (S 1 b) = true → zTkO (S 1) m b (S 0 9) (zthen S m b) = (zend (fun q => zcd1 (S 1 q)) m b, 3, Int32.ofInt (zdigA (S 1) (zend (fun q => zcd1 (S 1 q)) m b - b) b 0)) := by
    intro g1 g2 g3
    unfold zTkO
    rw [if_neg (by omega), if_neg g2, if_pos g3]
  have hO3 : b < m → ¬ zcs1 (S 1 b) = true → ¬ zcd1 (S 1 b) = true → zTkO (S 1) m b (S 0 9) (zthen S m b) = (zsgN (S 1 b).toInt (zthen S m b) b, zsgK (S 1 b).toInt, Int32.ofInt (zsgW (S 1 b).toInt (zthen S m b))) := by
    intro g1 g2 g3
    unfold zTkO
    rw [if_neg (by omega), if_neg g2, if_neg g3]
  have hL : b < m → zcs1 (S 1 b) = true → ∀ c s, zPn Lx xs n 167 (114, [(0, .ref (e 0))], [], zHS e zDM (zuS (zuS (zuS S 0 7 (Int32.ofInt (b : Int))) 0 10 (Int32.ofInt (b : Int))) 0 7 (Int32.ofInt (d : Int))) hp, c, s) (fun rv hp1 => rv = none ∧ ∃ S', hp1 = zHS e zDM S' hp ∧ zTok2 S S' m b) := by
    intro g1 g2 c s
    have hO := hO1 g1 g2
    have hwd := zt_wordAt (Lx := Lx) (xs := xs) (S := zuS (zuS (zuS S 0 7 (Int32.ofInt (b : Int))) 0 10 (Int32.ofInt (b : Int))) 0 7 (Int32.ofInt (d : Int))) he n d1.1 (by omega) _ _ hs
    have hwd : zPn Lx xs n 164 (0, lv_args 0 [.ref (e 0), .int (Int32.ofInt (b : Int)), .int (Int32.ofInt (d : Int))], [], zHS e zDM (zuS (zuS (zuS S 0 7 (Int32.ofInt (b : Int))) 0 10 (Int32.ofInt (b : Int))) 0 7 (Int32.ofInt (d : Int))) hp, 0, 0) (fun rv hp1 => rv = some (.int (Int32.ofInt (zwdI (S 1) b (d - b) zWds 0))) ∧ hp1 = zHS e zDM (zuS (zuS (zuS S 0 7 (Int32.ofInt (b : Int))) 0 10 (Int32.ofInt (b : Int))) 0 7 (Int32.ofInt (d : Int))) hp) := hwd
    rw [hw] at hwd
    iterate 3 refine zp0 (by rfl) rfl rfl ?_
    refine zy_get (b := 10) he (by rfl) (by rfl) (by rfl) (by rfl) ?_
    refine zp0 (by rfl) rfl rfl ?_
    refine zy_get (b := 7) he (by rfl) (by rfl) (by rfl) (by rfl) ?_
    refine zy_v2e (by rfl) (hwd) ?_
    refine zy_put (b := 9) he (by rfl) (by rfl) (by rfl) ?_
    iterate 2 refine zp0 (by rfl) rfl rfl ?_
    refine zy_get (b := 9) he (by rfl) (by rfl) (by rfl) (by rfl) ?_
    refine zy_if (by rfl) (by rfl) (fun h1 => ?_) (fun h1 => ?_)
    · refine zp0 (by rfl) rfl rfl ?_
      refine zy_get (b := 7) he (by rfl) (by rfl) (by rfl) (by rfl) ?_
      refine zp0 (by rfl) rfl rfl ?_
      refine zy_get (b := 10) he (by rfl) (by rfl) (by rfl) (by rfl) ?_
      refine zp0 (by rfl) rfl rfl ?_
      refine zq_bip (by rfl) (by decide) ?_
      refine zy_icmpC (by rfl) (by rfl) ⟨by decide, by decide⟩ (fun h2 => ?_) (fun h2 => ?_)
      · refine zp0 (by rfl) rfl rfl ?_
        refine zy_put (b := 8) he (by rfl) (by rfl) (by rfl) ?_
        refine zp0 (by rfl) rfl rfl ?_
        refine zy_get (b := 8) he (by rfl) (by rfl) (by rfl) (by rfl) ?_
        refine zp0 (by rfl) rfl rfl ?_
        refine zy_icmpC (by rfl) (by rfl) ⟨by decide, by decide⟩ (fun h3 => ?_) (fun h3 => ?_)
        · exfalso
          simp +decide only [↓reduceIte, zcf, zuS, va_up, x1, x2, x3, x4, x5, c1, c2, c6, z0i] at h3
        · iterate 3 refine zp0 (by rfl) rfl rfl ?_
          refine zy_get (b := 10) he (by rfl) (by rfl) (by rfl) (by rfl) ?_
          refine zp0 (by rfl) rfl rfl ?_
          refine zy_get (b := 7) he (by rfl) (by rfl) (by rfl) (by rfl) ?_
          refine zy_v2e (by rfl) (zt_packed (a := b) (b := d) he n (by omega) (by omega) (fun q q1 q2 => (by have q3 := d3 q q1 (by omega); simp only [zcs1, Bool.and_eq_true, decide_eq_true_eq] at q3; exact q3))) ?_
          refine zy_put (b := 9) he (by rfl) (by rfl) (by rfl) ?_
          refine zp0 (by rfl) rfl rfl ?_
          refine zp_retV (by rfl) ?_
          simp +decide only [↓reduceIte, zcf, zuS, va_up, x1, x2, x3, x4, x5, c1, c2, c6, z0i] at h1 h2 h3
          refine ⟨rfl, _, rfl, fun q hq => ?_, fun f f7 f8 f9 f10 => ?_, ?_, ?_, ?_, ?_⟩
          · funext p
            simp [zuS, va_up, hq]
          · simp [zuS, va_up, f7, f8, f9, f10]
          · simp +decide only [↓reduceIte, zuS, va_up]
          · rw [hO]
            simp +decide only [↓reduceIte, zuS, va_up]
          · rw [hO]
            simp +decide only [↓reduceIte, zuS, va_up]
            (repeat' split) <;> first | rfl | (exfalso; omega)
          · rw [hO]
            simp +decide only [↓reduceIte, zuS, va_up]
            (repeat' split) <;> first | rfl | (exfalso; omega)
      · refine zq_bip (by rfl) (by decide) ?_
        refine zp0 (by rfl) rfl rfl ?_
        refine zy_put (b := 8) he (by rfl) (by rfl) (by rfl) ?_
        refine zp0 (by rfl) rfl rfl ?_
        refine zy_get (b := 8) he (by rfl) (by rfl) (by rfl) (by rfl) ?_
        refine zp0 (by rfl) rfl rfl ?_
        refine zy_icmpC (by rfl) (by rfl) ⟨by decide, by decide⟩ (fun h4 => ?_) (fun h4 => ?_)
        · refine zp_retV (by rfl) ?_
          simp +decide only [↓reduceIte, zcf, zuS, va_up, x1, x2, x3, x4, x5, c1, c2, c6, z0i] at h1 h2 h4
          refine ⟨rfl, _, rfl, fun q hq => ?_, fun f f7 f8 f9 f10 => ?_, ?_, ?_, ?_, ?_⟩
          · funext p
            simp [zuS, va_up, hq]
          · simp [zuS, va_up, f7, f8, f9, f10]
          · simp +decide only [↓reduceIte, zuS, va_up]
          · rw [hO]
            simp +decide only [↓reduceIte, zuS, va_up]
          · rw [hO]
            simp +decide only [↓reduceIte, zuS, va_up]
            (repeat' split) <;> first | rfl | (exfalso; omega)
          · rw [hO]
            simp +decide only [↓reduceIte, zuS, va_up]
            (repeat' split) <;> first | rfl | (exfalso; omega)
        · exfalso
          simp +decide only [↓reduceIte, zcf, zuS, va_up, x1, x2, x3, x4, x5, c1, c2, c6, z0i] at h4
    · iterate 2 refine zp0 (by rfl) rfl rfl ?_
      refine zy_put (b := 8) he (by rfl) (by rfl) (by rfl) ?_
      refine zp0 (by rfl) rfl rfl ?_
      refine zy_get (b := 8) he (by rfl) (by rfl) (by rfl) (by rfl) ?_
      refine zp0 (by rfl) rfl rfl ?_
      refine zy_icmpC (by rfl) (by rfl) ⟨by decide, by decide⟩ (fun h5 => ?_) (fun h5 => ?_)
      · refine zp_retV (by rfl) ?_
        simp +decide only [↓reduceIte, zcf, zuS, va_up, x1, x2, x3, x4, x5, c1, c2, c6, z0i] at h1 h5
        refine ⟨rfl, _, rfl, fun q hq => ?_, fun f f7 f8 f9 f10 => ?_, ?_, ?_, ?_, ?_⟩
        · funext p
          simp [zuS, va_up, hq]
        · simp [zuS, va_up, f7, f8, f9, f10]
        · simp +decide only [↓reduceIte, zuS, va_up]
        · rw [hO]
          simp +decide only [↓reduceIte, zuS, va_up]
        · rw [hO]
          simp +decide only [↓reduceIte, zuS, va_up]
          (repeat' split) <;> first | rfl | (exfalso; omega)
        · rw [hO]
          simp +decide only [↓reduceIte, zuS, va_up]
          (repeat' split) <;> first | rfl | (exfalso; omega)
      · exfalso
        simp +decide only [↓reduceIte, zcf, zuS, va_up, x1, x2, x3, x4, x5, c1, c2, c6, z0i] at h5
  iterate 2 refine zp0 (by rfl) rfl rfl ?_
  refine zy_get (b := 7) he (by rfl) (by rfl) (by rfl) (by rfl) ?_
  refine zy_put (b := 10) he (by rfl) (by rfl) (by rfl) ?_
  refine zp0 (by rfl) rfl rfl ?_
  refine zy_get (b := 7) he (by rfl) (by rfl) (by rfl) (by rfl) ?_
  refine zp0 (by rfl) rfl rfl ?_
  refine zy_get (b := 6) he (by rfl) (by rfl) (by rfl) (by rfl) ?_
  refine zy_icmp (by rfl) (by rfl) (fun h1 => ?_) (fun h1 => ?_)
  · iterate 2 refine zp0 (by rfl) rfl rfl ?_
    refine zy_get (b := 7) he (by rfl) (by rfl) (by rfl) (by rfl) ?_
    refine zy_v1e (by rfl) (zt_isSmall he _) ?_
    refine zy_if (by rfl) (by rfl) (fun h2 => ?_) (fun h2 => ?_)
    · iterate 2 refine zp0 (by rfl) rfl rfl ?_
      refine zy_get (b := 7) he (by rfl) (by rfl) (by rfl) (by rfl) ?_
      refine zy_v1e (by rfl) (zt_isDigit he _) ?_
      refine zy_if (by rfl) (by rfl) (fun h3 => ?_) (fun h3 => ?_)
      · refine zp0 (by rfl) rfl rfl ?_
        refine zy_v0 (by rfl) (zt_sign he n _ b ⟨h6, rfl, hbm, hm⟩ (by have q := h1; simp +decide only [↓reduceIte, zcf, zuS, va_up, x1, x2] at q; omega)) ?_
        have g1 : b < m := by
          have q := h1
          simp +decide only [↓reduceIte, zcf, zuS, va_up, x1, x2] at q
          omega
        have g2 : ¬ zcs1 (S 1 b) = true := by
          have q := zite0 h2
          simp +decide only [↓reduceIte, zisS, zuS, va_up, x1, x2, x3] at q
          simp only [zcs1, Bool.and_eq_true, decide_eq_true_eq]
          omega
        have g3 : ¬ zcd1 (S 1 b) = true := by
          have q := zite0 h3
          simp +decide only [↓reduceIte, zisD, zuS, va_up, x1, x2, x3] at q
          simp only [zcd1, Bool.and_eq_true, decide_eq_true_eq]
          omega
        have hO := hO3 g1 g2 g3
        intro rv hp1 hq
        obtain ⟨r1, S', r2, s1, s2, s3, s4, s5⟩ := hq
        rw [r1, r2]
        refine zp_retV (by rfl) ?_
        refine ⟨rfl, S', rfl, fun q hq => ?_, fun f f7 f8 f9 f10 => ?_, ?_, ?_, ?_, ?_⟩
        · rw [s1 q hq]
          funext p
          simp [zuS, va_up, hq]
        · rw [s2 f f7 f8 f9]
          simp [zuS, va_up, f7, f10]
        · rw [s2 10 (by decide) (by decide) (by decide)]
          rfl
        · rw [hO]
          exact s3
        · rw [hO]
          exact s4
        · rw [hO]
          exact s5
      · iterate 2 refine zp0 (by rfl) rfl rfl ?_
        refine zy_put (b := 8) he (by rfl) (by rfl) (by rfl) ?_
        iterate 2 refine zp0 (by rfl) rfl rfl ?_
        refine zy_put (b := 9) he (by rfl) (by rfl) (by rfl) ?_
        have g1 : b < m := by
          have q := h1
          simp +decide only [↓reduceIte, zcf, zuS, va_up, x1, x2] at q
          omega
        have g2 : ¬ zcs1 (S 1 b) = true := by
          have q := zite0 h2
          simp +decide only [↓reduceIte, zisS, zuS, va_up, x1, x2, x3] at q
          simp only [zcs1, Bool.and_eq_true, decide_eq_true_eq]
          omega
        have g3 : zcd1 (S 1 b) = true := by
          have q := (zite1 h3).2
          simp +decide only [↓reduceIte, zuS, va_up, x3] at q
          simp only [zcd1, Bool.and_eq_true, decide_eq_true_eq]
          exact q
        have hO := hO2 g1 g2 g3
        refine zt_digits he _ _ b _ _ 0 ⟨h6, rfl, hbm, hm⟩ rfl (by decide) (by decide) (fun c s => ?_)
        refine zp_retV (by rfl) ?_
        refine ⟨rfl, _, rfl, fun q hq => ?_, fun f f7 f8 f9 f10 => ?_, ?_, ?_, ?_, ?_⟩
        · funext p
          simp [zuS, va_up, hq]
        · simp [zuS, va_up, f7, f8, f9, f10]
        · simp +decide only [↓reduceIte, zuS, va_up]
        · rw [hO]
          simp +decide only [↓reduceIte, zuS, va_up]
        · rw [hO]
          simp +decide only [↓reduceIte, zuS, va_up]
        · rw [hO]
          simp +decide only [↓reduceIte, zuS, va_up]
    · have g1 : b < m := by
        have q := h1
        simp +decide only [↓reduceIte, zcf, zuS, va_up, x1, x2] at q
        omega
      have g2 : zcs1 (S 1 b) = true := by
        have q := (zite1 h2).2
        simp +decide only [↓reduceIte, zuS, va_up, x3] at q
        simp only [zcs1, Bool.and_eq_true, decide_eq_true_eq]
        exact q
      refine zt_letters he _ _ b _ _ ⟨h6, rfl, hbm, hm⟩ (fun c s => ?_)
      show zPn Lx xs n 167 (114, [(0, .ref (e 0))], [], zHS e zDM (zuS (zuS (zuS S 0 7 (Int32.ofInt (b : Int))) 0 10 (Int32.ofInt (b : Int))) 0 7 (Int32.ofInt (zend (fun q => zcs1 (S 1 q)) m b : Nat))) hp, c, s) _
      rw [hd]
      exact hL g1 g2 c s
  · iterate 2 refine zp0 (by rfl) rfl rfl ?_
    refine zy_put (b := 8) he (by rfl) (by rfl) (by rfl) ?_
    refine zp0 (by rfl) rfl rfl ?_
    refine zp_retV (by rfl) ?_
    simp +decide only [↓reduceIte, zcf, zuS, va_up, x1, x2, x3, x4, x5, c1, c2, c6, z0i, Classical.not_not] at h1
    refine ⟨rfl, _, rfl, fun q hq => ?_, fun f f7 f8 f9 f10 => ?_, ?_, ?_, ?_, ?_⟩
    · funext p
      simp [zuS, va_up, hq]
    · simp [zuS, va_up, f7, f8, f9, f10]
    · simp +decide only [↓reduceIte, zuS, va_up]
    · have hO := (show zTkO (S 1) m b (S 0 9) (zthen S m b) = (b, 0, S 0 9) from if_pos (by omega))
      rw [hO]
      simp +decide only [↓reduceIte, zuS, va_up]
    · have hO := (show zTkO (S 1) m b (S 0 9) (zthen S m b) = (b, 0, S 0 9) from if_pos (by omega))
      rw [hO]
      simp +decide only [↓reduceIte, zuS, va_up]
    · have hO := (show zTkO (S 1) m b (S 0 9) (zthen S m b) = (b, 0, S 0 9) from if_pos (by omega))
      rw [hO]
      simp +decide only [↓reduceIte, zuS, va_up]
end ZTK8
