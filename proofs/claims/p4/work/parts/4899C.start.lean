/-! E from its start, in the class -/
section ZCLC
variable {Lx : Nat} {xs : Nat → Int32} {hp : List zhE} {e : Nat → Nat} {x1 x3 x4 m K : Nat} {T : Nat → Int32}
theorem zMd_of {S S2 : Nat → Nat → Int32} {i : Nat} (h : zMd T m i S) (e1 : S2 1 = S 1) (e2 : S2 2 = S 2) (hf : ∀ f, f = 6 ∨ f = 7 ∨ f = 8 ∨ f = 9 ∨ f = 10 → S2 0 f = S 0 f) : zMd T m i S2 := by
  unfold zMd zPos at h ⊢
  rw [e1, e2, hf 6 (by decide), hf 7 (by decide), hf 8 (by decide), hf 9 (by decide), hf 10 (by decide)]
  exact h
theorem zc_Eread (he : zeI e hp (zDC x1 6 x3 x4).length) {n k i : Nat} {S S' C : Nat → Nat → Int32} {r : Int32} (hsum : zSum m k (zsm0 S) S' r) (hM : zMd T m i S) (hC : zScT T m K i C) (hi : 1 ≤ i) : zPn Lx xs n 107 (0, lv_args 0 [.ref (e 18), .ref (e 1), .ref (e 16)], [], zHS e (zDC x1 6 x3 x4) C hp, 0, 0) (zEpo e hp x1 m K T i C S' r) := by
  have he3 : zeI e hp (zDC x1 6 2 x4).length := he
  have he6 : zeI e hp (zDC x1 6 2 17).length := he
  iterate 2 refine zp0 (by rfl) rfl rfl ?_
  refine zy_putR (r := 1) (D' := zDC x1 6 2 x4) he (by rfl) (by rfl) (by rfl) (by rfl) rfl ?_
  iterate 2 refine zp0 (by rfl) rfl rfl ?_
  refine zy_putR (r := 16) (D' := zDC x1 6 2 17) he3 (by rfl) (by rfl) (by rfl) (by rfl) rfl ?_
  iterate 2 refine zp0 (by rfl) rfl rfl ?_
  refine zy_put (b := 3) he6 (by rfl) (by rfl) (by rfl) ?_
  iterate 2 refine zp0 (by rfl) rfl rfl ?_
  refine zy_put (b := 2) he6 (by rfl) (by rfl) (by rfl) ?_
  iterate 2 refine zp0 (by rfl) rfl rfl ?_
  refine zy_put (b := 3) he6 (by rfl) (by rfl) (by rfl) ?_
  iterate 2 refine zp0 (by rfl) rfl rfl ?_
  refine zy_put (b := 4) he6 (by rfl) (by rfl) (by rfl) ?_
  iterate 8 refine zp0 (by rfl) rfl rfl ?_
  have hM0 : zMd T m i (zsm0 S) := zMd_of hM rfl rfl (fun f hf => by rcases hf with rfl | rfl | rfl | rfl | rfl <;> rfl)
  have hC1 : zScT T m K i (zuS (zuS (zuS (zuS C 16 3 (Int32.ofInt 0)) 18 2 (Int32.ofInt 0)) 18 3 (Int32.ofInt 0)) 18 4 (Int32.ofInt 0)) := zScT_fr hC rfl rfl rfl rfl
  have hE : zEq (zsm0 S) (zuS (zuS (zuS (zuS C 16 3 (Int32.ofInt 0)) 18 2 (Int32.ofInt 0)) 18 3 (Int32.ofInt 0)) 18 4 (Int32.ofInt 0)) 0 0 0 0 := by
    refine ⟨⟨rfl, rfl, rfl, rfl, rfl, rfl, by decide, by decide, by decide, fun j hj => absurd hj (Nat.not_lt_zero j), rfl⟩, rfl, by decide, fun q => absurd q (show ¬ (Int32.ofInt 1).toInt = 0 by decide), fun _ => ⟨fun _ => Or.inl rfl, fun _ => show (Int32.ofInt 1).toInt ≠ 0 by decide⟩⟩
  have hF : zFrE C (zuS (zuS (zuS (zuS C 16 3 (Int32.ofInt 0)) 18 2 (Int32.ofInt 0)) 18 3 (Int32.ofInt 0)) 18 4 (Int32.ofInt 0)) := fun q q1 q2 q3 q4 q5 => by rw [zuS_ne q4, zuS_ne q4, zuS_ne q4, zuS_ne q2]
  cases k with
  | zero => exact hsum.elim
  | succ k => exact zc_EA he6 (zc_Ego he6 k) (zsm0 S) S' r _ i 0 0 0 0 0 _ _ _ hsum hM0 hC1 hE (by omega) (Nat.le_refl i) hF ⟨fun q => absurd q (show ¬ (Int32.ofInt 1).toInt = 0 by decide), fun q => absurd q (show ¬ (Int32.ofInt 1).toInt = 0 by decide)⟩
/-- the i-th token on both sides -/
def zmk (T : Nat → Int32) (m i : Nat) : Int := zmkB T m (zpl T m i)
def zmw (T : Nat → Int32) (m i : Nat) : Int32 := zmwB T m (zpl T m i)
theorem zmk_rg {b : Nat} : 0 ≤ zmkB T m b ∧ zmkB T m b ≤ 6 := by
  unfold zmkB zTkO
  by_cases h1 : m ≤ b
  · rw [if_pos h1]
    exact ⟨Int.le_refl 0, show (0 : Int) ≤ 6 by decide⟩
  rw [if_neg h1]
  by_cases h2 : zcs1 (T b) = true
  · rw [if_pos h2]
    dsimp only
    by_cases g : 0 ≤ zwdI T b (zend (fun q => zcs1 (T q)) m b - b) zWds 0
    · rw [if_pos g]
      decide
    · rw [if_neg g]
      by_cases g2 : 6 < zend (fun q => zcs1 (T q)) m b - b
      · rw [if_pos g2]
        decide
      · rw [if_neg g2]
        decide
  rw [if_neg h2]
  by_cases h3 : zcd1 (T b) = true
  · rw [if_pos h3]
    exact ⟨show (0 : Int) ≤ 3 by decide, show (3 : Int) ≤ 6 by decide⟩
  rw [if_neg h3]
  show 0 ≤ zsgK (T b).toInt ∧ zsgK (T b).toInt ≤ 6
  unfold zsgK
  by_cases g : (T b).toInt = 60 ∨ (T b).toInt = 61 ∨ (T b).toInt = 62
  · rw [if_pos g]
    decide
  · rw [if_neg g]
    by_cases g2 : (T b).toInt = 59 ∨ (T b).toInt = 40 ∨ (T b).toInt = 41 ∨ (T b).toInt = 43 ∨ (T b).toInt = 45 ∨ (T b).toInt = 42 ∨ (T b).toInt = 47
    · rw [if_pos g2]
      decide
    · rw [if_neg g2]
      decide
theorem zTRi_at (hm : m ≤ 600) (i : Nat) : zTRi (zmk T m i) (zmw T m i).toInt (zcE T m (zpl T m i)).2.1.toInt (zcE T m (zpl T m i)).2.2.toInt := by
  have h := zTR_i (zTR_ok (T := T) (m := m) (b := zpl T m i) (old := Int32.ofInt 0) (zpl_le i) hm).2
  have hk := zmk_rg (T := T) (m := m) (b := zpl T m i)
  have e : (Int32.ofInt (zTkO T m (zpl T m i) (Int32.ofInt 0) (zcth T m (zpl T m i))).2.1).toInt = zmk T m i := zRt ⟨by unfold zmkB at hk; omega, by unfold zmkB at hk; omega⟩
  rw [e] at h
  exact h
theorem zMd_k {S : Nat → Nat → Int32} {i : Nat} (h : zMd T m i S) : (S 0 8).toInt = zmk T m i := by
  rw [h.2.2.2.2.2.1]
  have hk := zmk_rg (T := T) (m := m) (b := zpl T m i)
  exact zRt ⟨by omega, by omega⟩
theorem zMd_w {S : Nat → Nat → Int32} {i : Nat} (h : zMd T m i S) (hk : zmk T m i ≠ 0) : S 0 9 = zmw T m i := h.2.2.2.2.2.2 hk
/-- a number wanted at the i-th token: the fault, 0 if it is one -/
def zsNum (T : Nat → Int32) (m i : Nat) (lo hi : Int) : Int := if zmk T m i ≠ 3 then 1 else if lo ≤ (zmw T m i).toInt ∧ (zmw T m i).toInt ≤ hi then 0 else 2
end ZCLC
