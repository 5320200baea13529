/-! signs that wait, on both sides -/
/-- how many still wait when all that bind are gone -/
def zpopG (p : Nat → Bool) : Nat → Nat
  | 0 => 0
  | d + 1 => cond (p d) (zpopG p d) (d + 1)
theorem zpopG_le {p : Nat → Bool} : ∀ d, zpopG p d ≤ d
  | 0 => Nat.le_refl 0
  | d + 1 => by
    have := zpopG_le (p := p) d
    show cond (p d) (zpopG p d) (d + 1) ≤ d + 1
    cases p d with
    | true =>
      show zpopG p d ≤ d + 1
      omega
    | false => exact Nat.le_refl _
theorem zpopG_top {p : Nat → Bool} : ∀ d, zpopG p d = 0 ∨ p (zpopG p d - 1) = false
  | 0 => Or.inl rfl
  | d + 1 => by
    show cond (p d) (zpopG p d) (d + 1) = 0 ∨ p (cond (p d) (zpopG p d) (d + 1) - 1) = false
    cases h : p d with
    | true => exact zpopG_top d
    | false => exact Or.inr h
theorem zpopG_congr {p q : Nat → Bool} : ∀ d, (∀ j, j < d → p j = q j) → zpopG p d = zpopG q d
  | 0, _ => rfl
  | d + 1, h => by
    show cond (p d) (zpopG p d) (d + 1) = cond (q d) (zpopG q d) (d + 1)
    rw [h d (by omega), zpopG_congr d (fun j hj => h j (by omega))]
/-- brackets among those that wait -/
def zbrk (W : Nat → Int32) : Nat → Nat
  | 0 => 0
  | d + 1 => zbrk W d + (if (W d).toInt = 0 then 1 else 0)
theorem zbrk_pop {W : Nat → Int32} {p : Nat → Bool} (h : ∀ j, p j = true → (W j).toInt ≠ 0) : ∀ d, zbrk W (zpopG p d) = zbrk W d
  | 0 => rfl
  | d + 1 => by
    show zbrk W (cond (p d) (zpopG p d) (d + 1)) = zbrk W (d + 1)
    cases hp : p d with
    | true =>
      show zbrk W (zpopG p d) = zbrk W d + (if (W d).toInt = 0 then 1 else 0)
      rw [zbrk_pop h d, if_neg (h d hp)]
      rfl
    | false => rfl
theorem zbrk_le {W : Nat → Int32} : ∀ d, zbrk W d ≤ d
  | 0 => Nat.le_refl 0
  | d + 1 => by
    have := zbrk_le (W := W) d
    show zbrk W d + (if (W d).toInt = 0 then 1 else 0) ≤ d + 1
    split <;> omega
theorem zbrk_congr {W V : Nat → Int32} : ∀ d, (∀ j, j < d → W j = V j) → zbrk W d = zbrk V d
  | 0, _ => rfl
  | d + 1, h => by
    show zbrk W d + (if (W d).toInt = 0 then 1 else 0) = zbrk V d + (if (V d).toInt = 0 then 1 else 0)
    rw [h d (by omega), zbrk_congr d (fun j hj => h j (by omega))]
def zpM (S : Nat → Nat → Int32) (l : Int) (j : Nat) : Bool := decide (l ≤ zrank (S 16 j).toInt)
def zpC (C : Nat → Nat → Int32) (l : Int) (j : Nat) : Bool := decide ((C 19 j).toInt ≠ 0) && decide (l ≤ zstr (C 19 j).toInt)
/-- what bind leaves as it was -/
def zBk (S S' : Nat → Nat → Int32) : Prop := (∀ q, q ≠ 0 → q ≠ 13 → q ≠ 14 → q ≠ 15 → q ≠ 17 → S' q = S q) ∧ ∀ f, f ≠ 35 → f ≠ 36 → f ≠ 17 → S' 0 f = S 0 f
theorem zBk_trans {S S1 S2 : Nat → Nat → Int32} (h : zBk S S1) (g : zBk S1 S2) : zBk S S2 :=
  ⟨fun q h1 h2 h3 h4 h5 => (g.1 q h1 h2 h3 h4 h5).trans (h.1 q h1 h2 h3 h4 h5), fun f h1 h2 h3 => (g.2 f h1 h2 h3).trans (h.2 f h1 h2 h3)⟩
theorem zgrown_k {S : Nat → Nat → Int32} {x y z : Int32} : zBk S (zgrown S x y z) := by
  refine ⟨fun q h1 h2 h3 h4 h5 => ?_, fun f h1 h2 h3 => ?_⟩
  · unfold zgrown
    rw [zuS_ne h1, zuS_ne h1, zuS_ne h5, zuS_ne h4, zuS_ne h3, zuS_ne h2]
  · unfold zgrown
    rw [zuS_off (Or.inr h3), zuS_off (Or.inr h2), zuS_off (Or.inl (by decide)), zuS_off (Or.inl (by decide)), zuS_off (Or.inl (by decide)), zuS_off (Or.inl (by decide))]
theorem zu0_k {S : Nat → Nat → Int32} {f : Nat} {x : Int32} (hf : f = 35 ∨ f = 36 ∨ f = 17) : zBk S (zuS S 0 f x) :=
  ⟨fun q h1 _ _ _ _ => zuS_ne h1, fun g h1 h2 h3 => zuS_off (Or.inr (by omega))⟩
theorem zbstep_k {S : Nat → Nat → Int32} : zBk S (zbstep S) := by
  have h1 : zBk S (zbst1 S) := zu0_k (Or.inl rfl)
  have h2 : ∀ S, zBk S (zbst2 S) := fun S => zu0_k (Or.inr (Or.inl rfl))
  unfold zbstep
  split
  · exact zBk_trans (zBk_trans h1 (h2 _)) zgrown_k
  · exact zBk_trans (zBk_trans h1 (zBk_trans (h2 _) (h2 _))) zgrown_k
theorem zbindA_k {l : Int} : ∀ (d : Nat) (S : Nat → Nat → Int32), zBk S (zbindA l d S)
  | 0, S => ⟨fun _ _ _ _ _ _ => rfl, fun _ _ _ _ => rfl⟩
  | d + 1, S => by
    unfold zbindA
    split
    · exact zBk_trans zbstep_k (zbindA_k d _)
    · exact ⟨fun _ _ _ _ _ _ => rfl, fun _ _ _ _ => rfl⟩
theorem zbindA_w {l : Int} : ∀ (d : Nat) (S : Nat → Nat → Int32), d < 1000 → S 0 35 = Int32.ofInt (d : Int) → zbindA l d S 0 35 = Int32.ofInt (zpopG (zpM S l) d : Nat)
  | 0, S, _, h => h
  | d + 1, S, hd, h => by
    have e1 : (S 0 35 - Int32.ofInt 1).toNatClampNeg = d := by
      rw [h, zof_dn (by omega) (by omega), zof_cl (by omega)]
      rfl
    have e2 : zbstep S 0 35 = Int32.ofInt (d : Int) := by
      rw [zbstep_w, h, zof_dn (by omega) (by omega)]
      rfl
    have ih := zbindA_w (l := l) d (zbstep S) (by omega) e2
    have e3 : zpopG (zpM (zbstep S) l) d = zpopG (zpM S l) d := by
      have : zbstep S 16 = S 16 := zbstep_k.1 16 (by decide) (by decide) (by decide) (by decide) (by decide)
      unfold zpM
      rw [this]
    unfold zbindA
    rw [e1]
    show _ = Int32.ofInt ((cond (zpM S l d) (zpopG (zpM S l) d) (d + 1) : Nat) : Int)
    by_cases g : l ≤ zrank (S 16 d).toInt
    · rw [if_pos g, ih, e3]
      have : zpM S l d = true := decide_eq_true g
      rw [this]
      rfl
    · rw [if_neg g, h]
      have : zpM S l d = false := decide_eq_false g
      rw [this]
      rfl
/-- what settle leaves as it was -/
def zStl (C C' : Nat → Nat → Int32) (d' : Nat) : Prop := C' 18 2 = Int32.ofInt (d' : Int) ∧ (∀ f, f ≠ 2 → C' 18 f = C 18 f) ∧ (∀ q, q ≠ 16 → q ≠ 17 → q ≠ 18 → C' q = C q) ∧ ∃ l l' : Nat, C 16 3 = Int32.ofInt (l : Int) ∧ C' 16 3 = Int32.ofInt (l' : Int) ∧ l ≤ l' ∧ l' ≤ 64
theorem zcput_x {C : Nat → Nat → Int32} {x : Int32} {l : Nat} (h : C 16 3 = Int32.ofInt (l : Int)) (h2 : l ≤ 64) : (∀ q, q ≠ 16 → q ≠ 17 → zcput C x q = C q) ∧ ∃ l' : Nat, zcput C x 16 3 = Int32.ofInt (l' : Int) ∧ l ≤ l' ∧ l' ≤ 64 ∧ 1 ≤ l' := by
  have y1 : (C 16 3).toInt = l := by rw [h]; exact zof_ix (by omega)
  unfold zcput
  by_cases g : (C 16 3).toInt < 64
  · rw [if_pos g]
    refine ⟨fun q h1 h3 => ?_, l + 1, ?_, by omega, by omega, by omega⟩
    · rw [zuS_ne h1, zuS_ne h3]
    · rw [zuS_at, h, zof_up]
  · rw [if_neg g]
    exact ⟨fun q h1 h3 => rfl, l, h, Nat.le_refl l, h2, by omega⟩
section ZCL7
variable {Lx : Nat} {xs : Nat → Int32} {n : Nat} {hp : List zhE} {e : Nat → Nat} {x1 m : Nat}
theorem zc_settleA (he : zeI e hp (zDC x1 6 2 17).length) (n : Nat) (x : Int32) : ∀ (d : Nat) (C : Nat → Nat → Int32) (l c s : Nat), C 18 2 = Int32.ofInt (d : Int) → d ≤ 72 → C 16 3 = Int32.ofInt (l : Int) → l ≤ 64 → zPn Lx xs n 114 (5, [(2, .int (Int32.ofInt (d : Int))), (0, .ref (e 18)), (1, .int x)], [], zHS e (zDC x1 6 2 17) C hp, c, s) (fun rv hp1 => rv = none ∧ ∃ C', hp1 = zHS e (zDC x1 6 2 17) C' hp ∧ zStl C C' (zpopG (zpC C (zstr x.toInt)) d)) := by
  have zr : ∀ y : Int32, (Int32.ofInt (zstr y.toInt)).toInt = zstr y.toInt := by
    intro y
    refine zRt ?_
    unfold zstr zR
    have b1 := Int32.le_toInt y
    have b2 := Int32.toInt_lt y
    (repeat' split) <;> omega
  intro d
  induction d with
  | zero =>
    intro C l c s hd h72 hl h64
    have yd : (Int32.ofInt ((0 : Nat) : Int)).toInt = 0 := by decide
    refine zp0 (by rfl) rfl rfl ?_
    refine zy_if (by rfl) (by rfl) (fun h1 => ?_) (fun h1 => ?_)
    · refine zp_retV (by rfl) ?_
      exact ⟨rfl, C, rfl, hd, fun _ _ => rfl, fun _ _ _ _ => rfl, l, l, hl, hl, Nat.le_refl l, h64⟩
    · exfalso
      simp only [zcf, yd] at h1
      omega
  | succ d ih =>
    intro C l c s hd h72 hl h64
    have yd : (Int32.ofInt ((d + 1 : Nat) : Int)).toInt = d + 1 := zof_ix (by omega)
    have hla : zlast C (d + 1) = C 19 d := if_pos (by omega)
    have hno : zpC C (zstr x.toInt) d = false → zStl C C (zpopG (zpC C (zstr x.toInt)) (d + 1)) := by
      intro g
      have e1 : zpopG (zpC C (zstr x.toInt)) (d + 1) = d + 1 := by
        show cond (zpC C (zstr x.toInt) d) _ _ = _
        rw [g]
        rfl
      rw [e1]
      exact ⟨hd, fun _ _ => rfl, fun _ _ _ _ => rfl, l, l, hl, hl, Nat.le_refl l, h64⟩
    refine zp0 (by rfl) rfl rfl ?_
    refine zy_if (by rfl) (by rfl) (fun h1 => ?_) (fun h1 => ?_)
    · refine zp_retV (by rfl) ?_
      exfalso
      simp only [zcf, yd] at h1
      omega
    · refine zp0 (by rfl) rfl rfl ?_
      refine zy_v0e (by rfl) (zc_last he hd h72) ?_
      refine zy_if (by rfl) (by rfl) (fun h2 => ?_) (fun h2 => ?_)
      · refine zp_retV (by rfl) ?_
        simp only [zcf, hla] at h2
        exact ⟨rfl, C, rfl, hno (by
          unfold zpC
          rw [decide_eq_false (by omega)]
          rfl)⟩
      · refine zp0 (by rfl) rfl rfl ?_
        refine zy_v0e (by rfl) (zc_last he hd h72) ?_
        refine zy_s1e (by rfl) (by rfl) (zc_str _) ?_
        refine zp0 (by rfl) rfl rfl ?_
        refine zy_s1e (by rfl) (by rfl) (zc_str _) ?_
        refine zy_icmp (by rfl) (by rfl) (fun h3 => ?_) (fun h3 => ?_)
        · refine zp_retV (by rfl) ?_
          simp only [zcf, hla, zr] at h3
          exact ⟨rfl, C, rfl, hno (by
            unfold zpC
            rw [decide_eq_false (p := zstr x.toInt ≤ zstr (C 19 d).toInt) (by omega), Bool.and_false])⟩
        · refine zp0 (by rfl) rfl rfl ?_
          refine zy_ref (r := 16) he (by rfl) (by rfl) (by rfl) (by rfl) ?_
          refine zp0 (by rfl) rfl rfl ?_
          refine zy_v0e (by rfl) (zc_last he hd h72) ?_
          refine zy_v1n (by rfl) (zc_put he _) ?_
          iterate 2 refine zp0 (by rfl) rfl rfl ?_
          refine zy_get (b := 2) he (by rfl) (by rfl) (by rfl) (by rfl) ?_
          iterate 2 refine zp0 (by rfl) rfl rfl ?_
          refine zy_put (b := 2) he (by rfl) (by rfl) (by rfl) ?_
          refine zp0 (by rfl) rfl rfl ?_
          simp only [zcf, hla, zr] at h2 h3
          obtain ⟨p1, l2, p2, p3, p4, p5⟩ := zcput_x (x := zlast C (d + 1)) hl h64
          have hw : zcput C (zlast C (d + 1)) 18 2 - Int32.ofInt 1 = Int32.ofInt (d : Int) := by
            rw [p1 18 (by decide) (by decide), hd, zof_dn (by omega) (by omega)]
            rfl
          show zPn Lx xs n 114 (_, [(2, .int (Int32.ofInt ((d + 1 : Nat) : Int) + Int32.ofInt (-1))), (0, .ref (e 18)), (1, .int x)], [], zHS e (zDC x1 6 2 17) (zuS (zcput C (zlast C (d + 1))) 18 2 (zcput C (zlast C (d + 1)) 18 2 - Int32.ofInt 1)) hp, _, _) _
          rw [hw]
          have hi : Int32.ofInt ((d + 1 : Nat) : Int) + Int32.ofInt (-1) = Int32.ofInt (d : Int) := by
            rw [← Int32.ofInt_add]
            congr 1
            omega
          refine zp0 (by rfl) rfl rfl ?_
          rw [hi]
          refine (ih (zuS (zcput C (zlast C (d + 1))) 18 2 (Int32.ofInt (d : Int))) l2 _ _ zuS_at (by omega) (by rw [zuS_off (Or.inl (by decide))]; exact p2) p4).post ?_
          intro rv hp1 hq
          obtain ⟨q1, C', q2, q3, q4, q5, la, lb, q6, q7, q8, q9⟩ := hq
          have e19 : zpC (zuS (zcput C (zlast C (d + 1))) 18 2 (Int32.ofInt (d : Int))) (zstr x.toInt) = zpC C (zstr x.toInt) := by
            unfold zpC
            rw [zuS_ne (by decide), p1 19 (by decide) (by decide)]
          have e1 : zpopG (zpC C (zstr x.toInt)) (d + 1) = zpopG (zpC C (zstr x.toInt)) d := by
            show cond (zpC C (zstr x.toInt) d) _ _ = _
            unfold zpC
            rw [decide_eq_true (p := (C 19 d).toInt ≠ 0) (by omega), decide_eq_true (p := zstr x.toInt ≤ zstr (C 19 d).toInt) (by omega)]
            rfl
          rw [e19] at q3
          rw [e1]
          refine ⟨q1, C', q2, q3, fun f hf => ?_, fun q h1 h2 h3 => ?_, l, lb, hl, q7, ?_, q9⟩
          · rw [q4 f hf, zuS_off (Or.inr hf), p1 18 (by decide) (by decide)]
          · rw [q5 q h1 h2 h3, zuS_ne h3, p1 q h1 h2]
          · have q6 : zuS (zcput C (zlast C (d + 1))) 18 2 (Int32.ofInt (d : Int)) 16 3 = Int32.ofInt (la : Int) := q6
            rw [zuS_off (Or.inl (by decide)), p2] at q6
            have hcl := congrArg Int32.toInt q6
            rw [zof_ix (by omega)] at hcl
            have hla2 : (Int32.ofInt (la : Int)).toInt = la := zof_ix (by omega)
            omega
theorem zc_settle (he : zeI e hp (zDC x1 6 2 17).length) (x : Int32) {d l : Nat} {C : Nat → Nat → Int32} (hd : C 18 2 = Int32.ofInt (d : Int)) (h72 : d ≤ 72) (hl : C 16 3 = Int32.ofInt (l : Int)) (h64 : l ≤ 64) : zPn Lx xs n 114 (0, lv_args 0 [.ref (e 18), .int x], [], zHS e (zDC x1 6 2 17) C hp, 0, 0) (fun rv hp1 => rv = none ∧ ∃ C', hp1 = zHS e (zDC x1 6 2 17) C' hp ∧ zStl C C' (zpopG (zpC C (zstr x.toInt)) d)) := by
  refine zp0 (by rfl) rfl rfl ?_
  refine zy_get (b := 2) he (by rfl) (by rfl) (by rfl) (by rfl) ?_
  refine zp0 (by rfl) rfl rfl ?_
  rw [hd]
  exact zc_settleA he n x d C l _ _ hd h72 hl h64
end ZCL7
/-- the same signs wait on both sides -/
def zWt (S C : Nat → Nat → Int32) (d br kn : Nat) : Prop := S 0 35 = Int32.ofInt (d : Int) ∧ C 18 2 = Int32.ofInt (d : Int) ∧ S 0 37 = Int32.ofInt (br : Int) ∧ C 18 3 = Int32.ofInt (br : Int) ∧ S 0 38 = Int32.ofInt (kn : Int) ∧ C 18 4 = Int32.ofInt (kn : Int) ∧ d ≤ kn + br ∧ br ≤ 8 ∧ kn ≤ 64 ∧ (∀ j, j < d → ∃ k : Int, (k = 0 ∨ 2 ≤ k) ∧ k ≤ 14 ∧ S 16 j = Int32.ofInt k ∧ C 19 j = Int32.ofInt (zcw k)) ∧ zbrk (S 16) d = br
theorem zWt_j {S C : Nat → Nat → Int32} {d br kn : Nat} (h : zWt S C d br kn) {j : Nat} (hj : j < d) : ∃ k : Int, (k = 0 ∨ 2 ≤ k) ∧ k ≤ 14 ∧ (S 16 j).toInt = k ∧ (C 19 j).toInt = zcw k := by
  obtain ⟨k, k1, k2, k3, k4⟩ := h.2.2.2.2.2.2.2.2.2.1 j hj
  have := zcw_rg k1 k2
  exact ⟨k, k1, k2, by rw [k3]; exact zRt ⟨by omega, by omega⟩, by rw [k4]; exact zRt ⟨by omega, by omega⟩⟩
theorem zWt_p {S C : Nat → Nat → Int32} {d br kn : Nat} (h : zWt S C d br kn) {l : Int} (hl : 1 ≤ l) {j : Nat} (hj : j < d) : zpM S l j = zpC C l j := by
  obtain ⟨k, k1, k2, k3, k4⟩ := zWt_j h hj
  unfold zpM zpC
  rw [k3, k4, zcw_str k1]
  by_cases g : l ≤ zrank k
  · rw [decide_eq_true g, Bool.and_true]
    have hne : zcw k ≠ 0 := by
      intro q
      rw [(zcw_0 k1).mp q] at g
      have : zrank 0 = 0 := by decide
      omega
    exact (decide_eq_true (p := zcw k ≠ 0) hne).symm
  · rw [decide_eq_false g, Bool.and_false]
theorem zpM_0 {S : Nat → Nat → Int32} {l : Int} (hl : 1 ≤ l) (j : Nat) (h : zpM S l j = true) : (S 16 j).toInt ≠ 0 := by
  intro q
  unfold zpM at h
  rw [decide_eq_true_eq, q] at h
  have : zrank 0 = 0 := by decide
  omega
theorem zWt_pop {S C C' : Nat → Nat → Int32} {d br kn : Nat} (h : zWt S C d br kn) {l : Int} (hl : 1 ≤ l) (hC : zStl C C' (zpopG (zpC C l) d)) : ∃ d', d' ≤ d ∧ zWt (zbindA l d S) C' d' br kn ∧ (d' = 0 ∨ ¬ l ≤ zrank (zbindA l d S 16 (d' - 1)).toInt) := by
  have e1 := zpopG_congr d (fun j hj => zWt_p h hl hj)
  have e2 := zpopG_le (p := zpM S l) d
  have e3 := zpopG_top (p := zpM S l) d
  have hd := h.2.2.2.2.2.2.1
  have hb := h.2.2.2.2.2.2.2.1
  have hk := h.2.2.2.2.2.2.2.2.1
  have e4 := zbindA_w (l := l) d S (by omega) h.1
  obtain ⟨g1, g2⟩ := zbindA_k (l := l) d S
  have e16 := g1 16 (by decide) (by decide) (by decide) (by decide) (by decide)
  have e5 := zbrk_pop (W := S 16) (zpM_0 (S := S) hl) d
  rw [← e1] at hC
  generalize zpopG (zpM S l) d = d' at e2 e3 e4 e5 hC
  obtain ⟨c1, c2, c3, c4⟩ := hC
  refine ⟨d', e2, ⟨e4, c1, ?_, ?_, ?_, ?_, by omega, hb, hk, fun j hj => ?_, ?_⟩, ?_⟩
  · rw [g2 37 (by decide) (by decide) (by decide)]
    exact h.2.2.1
  · rw [c2 3 (by decide)]
    exact h.2.2.2.1
  · rw [g2 38 (by decide) (by decide) (by decide)]
    exact h.2.2.2.2.1
  · rw [c2 4 (by decide)]
    exact h.2.2.2.2.2.1
  · rw [e16, c3 19 (by decide) (by decide) (by decide)]
    exact h.2.2.2.2.2.2.2.2.2.1 j (by omega)
  · rw [e16, e5]
    exact h.2.2.2.2.2.2.2.2.2.2
  · rw [e16]
    rcases e3 with g | g
    · exact Or.inl g
    · exact Or.inr (of_decide_eq_false g)
