/-! the class's scanner: signs; one token -/
section ZCL3
variable {Lx : Nat} {xs : Nat → Int32} {n k : Nat} {pc : Nat} {L : zL} {st : List Value} {hp : List zhE} {c s : Nat} {Q : ZP} {e : Nat → Nat} {m x1 x3 x4 : Nat} {C : Nat → Nat → Int32}
theorem zy_tsw {p0 t a b : Nat} {v d lo hi : Int} {offs : Array Int} {x : Int32} (h : zatp k pc = some (p0, .tableswitch d lo hi offs, a, b, v)) (ht : zJ pc (cond (decide (x.toInt < lo) || decide (hi < x.toInt)) d (offs.toList.getD (x.toInt - lo).toNat 0)) = some t) (hn : zPn Lx xs n k (t, L, st, hp, c, s) Q) : zPn Lx xs n k (pc, L, .int x :: st, hp, c, s) Q := by
  refine zp0g h rfl fun z' hz => ?_
  have hz : ztsw pc L (.int x :: st) hp c s d lo hi offs = some z' := hz
  unfold ztsw at hz
  dsimp only at hz
  by_cases hg : x.toInt < lo ∨ hi < x.toInt
  · have hb : (decide (x.toInt < lo) || decide (hi < x.toInt)) = true := by
      rw [Bool.or_eq_true, decide_eq_true_eq, decide_eq_true_eq]
      exact hg
    rw [hb] at ht
    have ht : zJ pc d = some t := ht
    split at hz
    · unfold zjmp at hz
      rw [ht] at hz
      cases hz
      exact hn
    · rename_i hc
      rw [hb] at hc
      cases hc
  · have hb : (decide (x.toInt < lo) || decide (hi < x.toInt)) = false := by
      rw [Bool.or_eq_false_iff, decide_eq_false_iff_not, decide_eq_false_iff_not]
      omega
    rw [hb] at ht
    have ht : zJ pc (offs.toList.getD (x.toInt - lo).toNat 0) = some t := ht
    split at hz
    · rename_i hc
      rw [hb] at hc
      cases hc
    · split at hz
      · rename_i off ho
        have e1 : offs.toList.getD (x.toInt - lo).toNat 0 = off := by
          rw [List.getD_eq_getElem?_getD, Array.getElem?_toList, ho]
          rfl
        rw [e1] at ht
        unfold zjmp at hz
        rw [ht] at hz
        cases hz
        exact hn
      · cases hz
theorem zy_lsw {p0 t a b : Nat} {v d : Int} {ps : Array (Int × Int)} {x : Int32} (h : zatp k pc = some (p0, .lookupswitch d ps, a, b, v)) (ht : zJ pc (Op.lookupswitch.offset ps.toList d x.toInt) = some t) (hn : zPn Lx xs n k (t, L, st, hp, c, s) Q) : zPn Lx xs n k (pc, L, .int x :: st, hp, c, s) Q := by
  refine zp0g h rfl fun z' hz => ?_
  have hz : zlsw pc L (.int x :: st) hp c s d ps = some z' := hz
  unfold zlsw at hz
  cases hb : zsor ps.toList with
  | true =>
    rw [hb] at hz
    have hz : zjmp pc L hp c s (Op.lookupswitch.offset ps.toList d x.toInt) st = some z' := hz
    unfold zjmp at hz
    rw [ht] at hz
    cases hz
    exact hn
  | false =>
    rw [hb] at hz
    cases hz
def zctk (C : Nat → Nat → Int32) (m a : Nat) (x y : Int32) : Nat → Nat → Int32 := if (C 1 10).toInt < 256 ∧ (zcsg C m a).toInt = x.toInt then zuS (zuS C 1 10 y) 1 7 (C 1 7 + Int32.ofInt 1) else C
theorem zc_takeIf (he : zeI e hp (zDC x1 6 x3 x4).length) {a : Nat} (hS : zCP m a C) (x y : Int32) : zPn Lx xs n 70 (0, lv_args 0 [.ref (e 1), .int x, .int y], [], zHS e (zDC x1 6 x3 x4) C hp, 0, 0) (fun rv hp1 => rv = none ∧ hp1 = zHS e (zDC x1 6 x3 x4) (zctk C m a x y) hp) := by
  refine zp0 (by rfl) rfl rfl ?_
  refine zy_get (b := 10) he (by rfl) (by rfl) (by rfl) (by rfl) ?_
  refine zq_sip (by rfl) (by decide) ?_
  refine zy_icmpC (by rfl) (by rfl) ⟨by decide, by decide⟩ (fun h1 => ?_) (fun h1 => ?_)
  · refine zp_retV (by rfl) ?_
    simp only [zcf] at h1
    have hz : zctk C m a x y = C := if_neg (by omega)
    rw [hz]
    exact ⟨rfl, rfl⟩
  · iterate 2 refine zp0 (by rfl) rfl rfl ?_
    refine zy_get (b := 7) he (by rfl) (by rfl) (by rfl) (by rfl) ?_
    refine zy_v1e (by rfl) (zc_sgn he hS) ?_
    refine zp0 (by rfl) rfl rfl ?_
    refine zy_icmp (by rfl) (by rfl) (fun h2 => ?_) (fun h2 => ?_)
    · refine zp_retV (by rfl) ?_
      simp only [zcf] at h1 h2
      have hz : zctk C m a x y = C := if_neg (by omega)
      rw [hz]
      exact ⟨rfl, rfl⟩
    · iterate 2 refine zp0 (by rfl) rfl rfl ?_
      refine zy_put (b := 10) he (by rfl) (by rfl) (by rfl) ?_
      iterate 2 refine zp0 (by rfl) rfl rfl ?_
      refine zy_get (b := 7) he (by rfl) (by rfl) (by rfl) (by rfl) ?_
      iterate 2 refine zp0 (by rfl) rfl rfl ?_
      refine zy_put (b := 7) he (by rfl) (by rfl) (by rfl) ?_
      refine zp_retV (by rfl) ?_
      simp only [zcf] at h1 h2
      have hz : zctk C m a x y = zuS (zuS C 1 10 y) 1 7 (C 1 7 + Int32.ofInt 1) := if_pos (by omega)
      rw [hz]
      exact ⟨rfl, rfl⟩
theorem zts69 (x : Int) : cond (decide (x < 40) || decide (62 < x)) (137 : Int) (([107, 107, 107, 107, 137, 107, 137, 107, 137, 137, 137, 137, 137, 137, 137, 137, 137, 137, 137, 107, 108, 107, 127] : List Int).getD (x - 40).toNat 0) = if x = 60 then 108 else if x = 62 then 127 else if x = 40 ∨ x = 41 ∨ x = 42 ∨ x = 43 ∨ x = 45 ∨ x = 47 ∨ x = 59 ∨ x = 61 then 107 else 137 := by
  by_cases h : x < 40 ∨ 62 < x
  · have hb : (decide (x < 40) || decide (62 < x)) = true := by
      rw [Bool.or_eq_true, decide_eq_true_eq, decide_eq_true_eq]
      exact h
    rw [hb, if_neg (by omega), if_neg (by omega), if_neg (by omega)]
    rfl
  · have h2 : x = 40 ∨ x = 41 ∨ x = 42 ∨ x = 43 ∨ x = 44 ∨ x = 45 ∨ x = 46 ∨ x = 47 ∨ x = 48 ∨ x = 49 ∨ x = 50 ∨ x = 51 ∨ x = 52 ∨ x = 53 ∨ x = 54 ∨ x = 55 ∨ x = 56 ∨ x = 57 ∨ x = 58 ∨ x = 59 ∨ x = 60 ∨ x = 61 ∨ x = 62 := by omega
    rcases h2 with rfl | rfl | rfl | rfl | rfl | rfl | rfl | rfl | rfl | rfl | rfl | rfl | rfl | rfl | rfl | rfl | rfl | rfl | rfl | rfl | rfl | rfl | rfl
    all_goals decide
/-- a sign's kind and value, as the class has them -/
def zcgK (x : Int) : Int := if x = 60 ∨ x = 62 ∨ x = 40 ∨ x = 41 ∨ x = 42 ∨ x = 43 ∨ x = 45 ∨ x = 47 ∨ x = 59 ∨ x = 61 then 3 else 4
def zcgV (x : Int32) (y : Int) : Int32 := if x.toInt = 60 then (if y = 61 then Int32.ofInt 15421 else if y = 62 then Int32.ofInt 15422 else x) else if x.toInt = 62 then (if y = 61 then Int32.ofInt 15933 else x) else x
/-- a token laid: value, place, kind -/
def zctL (C : Nat → Nat → Int32) (v p k : Int32) : Nat → Nat → Int32 := zuS (zuS (zuS C 1 10 v) 1 7 p) 1 8 k
theorem zctL_1 {u v p k : Int32} : zctL (zuS C 1 10 u) v p k = zctL C v p k := by
  unfold zctL
  rw [zuS_same]
theorem zctL_2 {v p k : Int32} : zuS (zuS (zuS C 1 8 k) 1 10 v) 1 7 p = zctL C v p k := by
  unfold zctL
  funext q r
  unfold zuS va_up
  by_cases hq : q = 1
  · subst hq
    by_cases h7 : r = 7
    · simp [h7]
    · by_cases h8 : r = 8
      · simp [h8]
      · simp [h7, h8]
  · simp [hq]
theorem zctL_3 {u v p q k : Int32} : zuS (zuS (zctL C v p k) 1 10 u) 1 7 q = zctL C u q k := by
  unfold zctL
  funext i r
  unfold zuS va_up
  by_cases hq : i = 1
  · subst hq
    by_cases h7 : r = 7
    · simp [h7]
    · by_cases h8 : r = 8
      · simp [h8]
      · by_cases h10 : r = 10
        · simp [h10]
        · simp [h7, h8, h10]
  · simp [hq]
theorem zctL_4 {v p k j : Int32} : zuS (zctL C v p k) 1 8 j = zctL C v p j := by
  unfold zctL
  rw [zuS_same]
theorem zctL_P {v k : Int32} {a : Nat} (h1 : C 1 6 = Int32.ofInt (m : Int)) (h2 : a ≤ m) (h3 : m ≤ 600) : zCP m a (zctL C v (Int32.ofInt (a : Int)) k) := by
  refine ⟨?_, ?_, h2, h3⟩
  · unfold zctL
    rw [zuS_off (Or.inr (by decide)), zuS_off (Or.inr (by decide)), zuS_off (Or.inr (by decide))]
    exact h1
  · unfold zctL
    rw [zuS_off (Or.inr (by decide)), zuS_at]
theorem zctL_T {v p k : Int32} : zTc (zctL C v p k) = zTc C := rfl
theorem zctL_10 {v p k : Int32} : zctL C v p k 1 10 = v := by
  unfold zctL
  rw [zuS_off (Or.inr (by decide)), zuS_off (Or.inr (by decide)), zuS_at]
theorem zctL_7 {v p k : Int32} : zctL C v p k 1 7 = p := by
  unfold zctL
  rw [zuS_off (Or.inr (by decide)), zuS_at]
def zcth (T : Nat → Int32) (m a : Nat) : Int := if a + 1 < m then (T (a + 1)).toInt else 0
theorem zcsg_th {a : Nat} : (zcsg C m (a + 1)).toInt = zcth (zTc C) m a := by
  unfold zcsg zcth
  split <;> rfl
theorem zc_signs (he : zeI e hp (zDC x1 6 x3 x4).length) {a : Nat} (hS : zCP m a C) (ha : a < m) (x : Int32) : zPn Lx xs n 69 (0, lv_args 0 [.ref (e 1), .int x], [], zHS e (zDC x1 6 x3 x4) C hp, 0, 0) (fun rv hp1 => rv = none ∧ hp1 = zHS e (zDC x1 6 x3 x4) (zctL C (zcgV x (zcth (zTc C) m a)) (Int32.ofInt (zsgN x.toInt (zcth (zTc C) m a) a : Nat)) (Int32.ofInt (zcgK x.toInt))) hp) := by
  have hP := zctL_P (v := x) (k := Int32.ofInt 3) hS.1 (show a + 1 ≤ m from ha) hS.2.2.2
  have hT : (zcsg (zctL C x (Int32.ofInt ((a + 1 : Nat) : Int)) (Int32.ofInt 3)) m (a + 1)).toInt = zcth (zTc C) m a := zcsg_th
  have ht1 : ∀ y, (zcsg (zctL C y (Int32.ofInt ((a + 1 + 1 : Nat) : Int)) (Int32.ofInt 3)) m (a + 1)).toInt = zcth (zTc C) m a := fun y => zcsg_th
  have c61 : (Int32.ofInt 61).toInt = 61 := by decide
  have c62 : (Int32.ofInt 62).toInt = 62 := by decide
  generalize hth : zcth (zTc C) m a = th at hT ht1
  have hA : C 1 7 + Int32.ofInt 1 = Int32.ofInt ((a + 1 : Nat) : Int) := by rw [hS.2.1, zof_up]
  have hB : Int32.ofInt ((a + 1 : Nat) : Int) + Int32.ofInt 1 = Int32.ofInt ((a + 1 + 1 : Nat) : Int) := zof_up (a + 1)
  iterate 2 refine zp0 (by rfl) rfl rfl ?_
  refine zy_put (b := 8) he (by rfl) (by rfl) (by rfl) ?_
  iterate 2 refine zp0 (by rfl) rfl rfl ?_
  refine zy_put (b := 10) he (by rfl) (by rfl) (by rfl) ?_
  iterate 2 refine zp0 (by rfl) rfl rfl ?_
  refine zy_get (b := 7) he (by rfl) (by rfl) (by rfl) (by rfl) ?_
  iterate 2 refine zp0 (by rfl) rfl rfl ?_
  refine zy_put (b := 7) he (by rfl) (by rfl) (by rfl) ?_
  refine zp0 (by rfl) rfl rfl ?_
  show zPn Lx xs n 69 (21, [(0, .ref (e 1)), (1, .int x)], [.int x], zHS e (zDC x1 6 x3 x4) (zuS (zuS (zuS C 1 8 (Int32.ofInt 3)) 1 10 x) 1 7 (C 1 7 + Int32.ofInt 1)) hp, 0, 0) _
  rw [zctL_2, hA]
  by_cases g60 : x.toInt = 60
  · refine zy_tsw (t := 129) (by rfl) ((congrArg (zJ 21) ((zts69 x.toInt).trans (if_pos g60))).trans rfl) ?_
    have e3 : zcgK x.toInt = 3 := if_pos (by omega)
    have hC2 : ∃ a2 v2, a2 ≤ m ∧ zctk (zctL C x (Int32.ofInt ((a + 1 : Nat) : Int)) (Int32.ofInt 3)) m (a + 1) (Int32.ofInt 61) (Int32.ofInt 15421) = zctL C v2 (Int32.ofInt (a2 : Int)) (Int32.ofInt 3) ∧ zctk (zctL C v2 (Int32.ofInt (a2 : Int)) (Int32.ofInt 3)) m a2 (Int32.ofInt 62) (Int32.ofInt 15422) = zctL C (zcgV x th) (Int32.ofInt (zsgN x.toInt th a : Nat)) (Int32.ofInt 3) := by
      by_cases g : th = 61
      · have hlt : a + 1 < m := by
          apply Classical.byContradiction
          intro q
          unfold zcth at hth
          rw [if_neg q] at hth
          omega
        refine ⟨a + 1 + 1, Int32.ofInt 15421, hlt, ?_, ?_⟩
        · unfold zctk
          rw [zctL_10, hT, c61, if_pos ⟨by omega, g⟩, zctL_3, zctL_7, hB]
        · unfold zctk zcgV zsgN
          rw [zctL_10, if_neg (fun q => absurd q.1 (by decide)), if_pos g60, if_pos g, if_pos (by omega)]
      · refine ⟨a + 1, x, ha, ?_, ?_⟩
        · unfold zctk
          rw [zctL_10, hT, c61, if_neg (by omega)]
        · unfold zctk zcgV zsgN
          rw [zctL_10, hT, c62, if_pos g60, if_neg g]
          by_cases g2 : th = 62
          · rw [if_pos ⟨by omega, g2⟩, if_pos g2, if_pos (by omega), zctL_3, zctL_7, hB]
          · rw [if_neg (by omega), if_neg g2, if_neg (by omega)]
    obtain ⟨a2, v2, f1, f2, f3⟩ := hC2
    rw [e3, ← f3]
    refine zp0 (by rfl) rfl rfl ?_
    refine zq_bip (by rfl) (by decide) ?_
    refine zq_sip (by rfl) (by decide) ?_
    refine zy_v2 (by rfl) (zc_takeIf he hP (Int32.ofInt 61) (Int32.ofInt 15421)) ?_
    intro rv hp1 hq
    rw [hq.1, hq.2, f2]
    refine zp0 (by rfl) rfl rfl ?_
    refine zq_bip (by rfl) (by decide) ?_
    refine zq_sip (by rfl) (by decide) ?_
    refine zy_v2n (by rfl) (zc_takeIf he (zctL_P hS.1 f1 hS.2.2.2) (Int32.ofInt 62) (Int32.ofInt 15422)) ?_
    refine zp_retV (by rfl) ?_
    exact ⟨rfl, rfl⟩
  by_cases g62 : x.toInt = 62
  · refine zy_tsw (t := 148) (by rfl) ((congrArg (zJ 21) ((zts69 x.toInt).trans ((if_neg g60).trans (if_pos g62)))).trans rfl) ?_
    refine zp0 (by rfl) rfl rfl ?_
    refine zq_bip (by rfl) (by decide) ?_
    refine zq_sip (by rfl) (by decide) ?_
    refine zy_v2n (by rfl) (zc_takeIf he hP (Int32.ofInt 61) (Int32.ofInt 15933)) ?_
    refine zp_retV (by rfl) ?_
    have e3 : zcgK x.toInt = 3 := if_pos (by omega)
    have e4 : zctk (zctL C x (Int32.ofInt ((a + 1 : Nat) : Int)) (Int32.ofInt 3)) m (a + 1) (Int32.ofInt 61) (Int32.ofInt 15933) = zctL C (zcgV x th) (Int32.ofInt (zsgN x.toInt th a : Nat)) (Int32.ofInt 3) := by
      unfold zctk zcgV zsgN
      rw [zctL_10, hT, c61, if_neg g60, if_pos g62]
      by_cases g : th = 61
      · rw [if_pos ⟨by omega, g⟩, if_pos g, if_pos (by omega), zctL_3, zctL_7, hB]
      · rw [if_neg (by omega), if_neg g, if_neg (by omega)]
    rw [e3, ← e4]
    exact ⟨rfl, rfl⟩
  by_cases gs : x.toInt = 40 ∨ x.toInt = 41 ∨ x.toInt = 42 ∨ x.toInt = 43 ∨ x.toInt = 45 ∨ x.toInt = 47 ∨ x.toInt = 59 ∨ x.toInt = 61
  · refine zy_tsw (t := 128) (by rfl) ((congrArg (zJ 21) ((zts69 x.toInt).trans ((if_neg g60).trans ((if_neg g62).trans (if_pos gs))))).trans rfl) ?_
    refine zp_retV (by rfl) ?_
    have e1 : zcgV x th = x := by
      unfold zcgV
      rw [if_neg g60, if_neg g62]
    have e2 : zsgN x.toInt th a = a + 1 := if_neg (by omega)
    have e3 : zcgK x.toInt = 3 := if_pos (by omega)
    rw [e1, e2, e3]
    exact ⟨rfl, rfl⟩
  · refine zy_tsw (t := 158) (by rfl) ((congrArg (zJ 21) ((zts69 x.toInt).trans ((if_neg g60).trans ((if_neg g62).trans (if_neg gs))))).trans rfl) ?_
    iterate 2 refine zp0 (by rfl) rfl rfl ?_
    refine zy_put (b := 8) he (by rfl) (by rfl) (by rfl) ?_
    refine zp_retV (by rfl) ?_
    have e1 : zcgV x th = x := by
      unfold zcgV
      rw [if_neg g60, if_neg g62]
    have e2 : zsgN x.toInt th a = a + 1 := if_neg (by omega)
    have e3 : zcgK x.toInt = 4 := if_neg (by omega)
    rw [e1, e2, e3, zctL_4]
    exact ⟨rfl, rfl⟩
/-- what comes at a place that is no blank, as the class has it: where it ends, its kind, its value -/
def zcE (T : Nat → Int32) (m a : Nat) : Nat × Int32 × Int32 :=
  if m ≤ a then (a, Int32.ofInt 0, Int32.ofInt 0)
  else if zcs1 (T a) = true then (zend (fun q => zcs1 (T q)) m a, if 6 < zend (fun q => zcs1 (T q)) m a - a then Int32.ofInt 4 else Int32.ofInt 1, Int32.ofInt (zpv T a (zend (fun q => zcs1 (T q)) m a - a) : Nat))
  else if zcd1 (T a) = true then (zend (fun q => zcd1 (T q)) m a, Int32.ofInt 2, Int32.ofInt (zcdA T (zend (fun q => zcd1 (T q)) m a - a) a 0))
  else (zsgN (T a).toInt (zcth T m a) a, Int32.ofInt (zcgK (T a).toInt), zcgV (T a) (zcth T m a))
theorem zc_one (he : zeI e hp (zDC x1 6 x3 x4).length) {a : Nat} (hS : zCP m a C) (ha : a < m) : zPn Lx xs n 66 (0, lv_args 0 [.ref (e 1)], [], zHS e (zDC x1 6 x3 x4) C hp, 0, 0) (fun rv hp1 => rv = none ∧ hp1 = zHS e (zDC x1 6 x3 x4) (zctL C (zcE (zTc C) m a).2.2 (Int32.ofInt ((zcE (zTc C) m a).1 : Nat)) (zcE (zTc C) m a).2.1) hp) := by
  have hP : zCP m a (zuS C 1 10 (Int32.ofInt 0)) := ⟨hS.1, hS.2.1, hS.2.2⟩
  have hT : zTc (zuS C 1 10 (Int32.ofInt 0)) = zTc C := rfl
  have hsg : zcsg (zuS C 1 10 (Int32.ofInt 0)) m a = zTc C a := zcsg_in ha
  have hw := zc_word (Lx := Lx) (xs := xs) (x1 := x1) (x3 := x3) (x4 := x4) he n (zuS C 1 10 (Int32.ofInt 0)) a 0 0 0 hP (by
    rw [zuS_at]
    unfold zpv
    rw [Nat.zero_min]
    show _ = Int32.ofInt ((0 * 32 ^ 6 : Nat) : Int)
    rw [Nat.zero_mul]
    rfl) (fun j hj => absurd hj (by omega))
  have hd := zc_number (Lx := Lx) (xs := xs) (x1 := x1) (x3 := x3) (x4 := x4) he n (zuS C 1 10 (Int32.ofInt 0)) a 0 0 0 hP zuS_at (by decide) (by decide)
  have hg := zc_signs (Lx := Lx) (xs := xs) (n := n) (x1 := x1) (x3 := x3) (x4 := x4) he hP ha (zTc C a)
  rw [hT] at hw hd hg
  rw [zctL_1] at hg
  have hw2 : zPn Lx xs n 67 (0, lv_args 0 [.ref (e 1)], [], zHS e (zDC x1 6 x3 x4) (zuS C 1 10 (Int32.ofInt 0)) hp, 0, 0) (fun rv hp1 => rv = none ∧ hp1 = zHS e (zDC x1 6 x3 x4) (zctL C (Int32.ofInt (zpv (zTc C) a (zend (fun q => zcs1 (zTc C q)) m a - a) : Nat)) (Int32.ofInt (zend (fun q => zcs1 (zTc C q)) m a : Nat)) (if 6 < zend (fun q => zcs1 (zTc C q)) m a - a then Int32.ofInt 4 else Int32.ofInt 1)) hp) := by
    iterate 2 refine zp0 (by rfl) rfl rfl ?_
    rw [← zctL_1 (u := Int32.ofInt 0)]
    exact hw
  have hd2 : zPn Lx xs n 68 (0, lv_args 0 [.ref (e 1)], [], zHS e (zDC x1 6 x3 x4) (zuS C 1 10 (Int32.ofInt 0)) hp, 0, 0) (fun rv hp1 => rv = none ∧ hp1 = zHS e (zDC x1 6 x3 x4) (zctL C (Int32.ofInt (zcdA (zTc C) (zend (fun q => zcd1 (zTc C q)) m a - a) a 0)) (Int32.ofInt (zend (fun q => zcd1 (zTc C q)) m a : Nat)) (Int32.ofInt 2)) hp) := by
    rw [← zctL_1 (u := Int32.ofInt 0)]
    exact hd
  have hsg2 : zPn Lx xs n 64 (0, lv_args 0 [.ref (e 1), .int (zuS C 1 10 (Int32.ofInt 0) 1 7)], [], zHS e (zDC x1 6 x3 x4) (zuS C 1 10 (Int32.ofInt 0)) hp, 0, 0) (fun rv hp1 => rv = some (.int (zTc C a)) ∧ hp1 = zHS e (zDC x1 6 x3 x4) (zuS C 1 10 (Int32.ofInt 0)) hp) := by
    rw [← hsg]
    exact zc_sgn he hP
  unfold zcE
  rw [if_neg (by omega)]
  iterate 2 refine zp0 (by rfl) rfl rfl ?_
  refine zy_put (b := 10) he (by rfl) (by rfl) (by rfl) ?_
  iterate 2 refine zp0 (by rfl) rfl rfl ?_
  refine zy_get (b := 7) he (by rfl) (by rfl) (by rfl) (by rfl) ?_
  refine zy_v1e (by rfl) (hsg2) ?_
  iterate 2 refine zp0 (by rfl) rfl rfl ?_
  refine zy_s1e (by rfl) (by rfl) (zc_isLetter _) ?_
  refine zy_if (by rfl) (by rfl) (fun h1 => ?_) (fun h1 => ?_)
  · refine zp0 (by rfl) rfl rfl ?_
    refine zy_s1e (by rfl) (by rfl) (zc_isDigit _) ?_
    refine zy_if (by rfl) (by rfl) (fun h2 => ?_) (fun h2 => ?_)
    · iterate 2 refine zp0 (by rfl) rfl rfl ?_
      refine zy_v1n (by rfl) (hg) ?_
      refine zp_retV (by rfl) ?_
      rw [if_neg (zite0 h1), if_neg (zite0 h2)]
      exact ⟨rfl, rfl⟩
    · refine zp0 (by rfl) rfl rfl ?_
      refine zy_v0n (by rfl) (hd2) ?_
      refine zp0 (by rfl) rfl rfl ?_
      refine zp_retV (by rfl) ?_
      rw [if_neg (zite0 h1), if_pos (zite1 h2)]
      exact ⟨rfl, rfl⟩
  · refine zp0 (by rfl) rfl rfl ?_
    refine zy_v0n (by rfl) (hw2) ?_
    refine zp0 (by rfl) rfl rfl ?_
    refine zp_retV (by rfl) ?_
    rw [if_pos (zite1 h1)]
    exact ⟨rfl, rfl⟩
end ZCL3
