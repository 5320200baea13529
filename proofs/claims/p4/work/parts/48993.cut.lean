/-! the class's scanner: all tokens, one after another -/
/-- where the i-th token is -/
def zpl (T : Nat → Int32) (m : Nat) : Nat → Nat
  | 0 => zend (fun q => zcb1 (T q)) m 0
  | i + 1 => zend (fun q => zcb1 (T q)) m (zcE T m (zpl T m i)).1
theorem zcE_rg {T : Nat → Int32} {m a : Nat} (h : a ≤ m) : a ≤ (zcE T m a).1 ∧ (zcE T m a).1 ≤ m ∧ (a < m → a < (zcE T m a).1) := by
  unfold zcE
  split
  · exact ⟨Nat.le_refl a, h, fun q => by omega⟩
  · split
    · rename_i h1 h2
      have e1 := zend_up (p := fun q => zcs1 (T q)) (m := m) (a := a) (by omega) h2
      have e2 := zend_le (p := fun q => zcs1 (T q)) (m := m) (m - (a + 1)) (a + 1) (by omega)
      show a ≤ zend (fun q => zcs1 (T q)) m a ∧ zend (fun q => zcs1 (T q)) m a ≤ m ∧ (a < m → a < zend (fun q => zcs1 (T q)) m a)
      rw [e1]
      omega
    · split
      · rename_i h1 h2 h3
        have e1 := zend_up (p := fun q => zcd1 (T q)) (m := m) (a := a) (by omega) h3
        have e2 := zend_le (p := fun q => zcd1 (T q)) (m := m) (m - (a + 1)) (a + 1) (by omega)
        show a ≤ zend (fun q => zcd1 (T q)) m a ∧ zend (fun q => zcd1 (T q)) m a ≤ m ∧ (a < m → a < zend (fun q => zcd1 (T q)) m a)
        rw [e1]
        omega
      · show a ≤ zsgN (T a).toInt (zcth T m a) a ∧ zsgN (T a).toInt (zcth T m a) a ≤ m ∧ (a < m → a < zsgN (T a).toInt (zcth T m a) a)
        unfold zcth zsgN
        by_cases h3 : a + 1 < m
        · rw [if_pos h3]
          split <;> omega
        · rw [if_neg h3, if_neg (by omega)]
          omega
theorem zpl_le {T : Nat → Int32} {m : Nat} : ∀ i, zpl T m i ≤ m
  | 0 => (zend_le (p := fun q => zcb1 (T q)) m 0 (by omega)).2
  | i + 1 => by
    have h1 := zcE_rg (T := T) (zpl_le (T := T) (m := m) i)
    exact (zend_le (p := fun q => zcb1 (T q)) (m - (zcE T m (zpl T m i)).1) (zcE T m (zpl T m i)).1 (by omega)).2
theorem zpl_up {T : Nat → Int32} {m i : Nat} (h : zpl T m i < m) : zpl T m i < zpl T m (i + 1) := by
  have h1 := zcE_rg (T := T) (zpl_le (T := T) (m := m) i)
  have h2 := zend_le (p := fun q => zcb1 (T q)) (m := m) (m - (zcE T m (zpl T m i)).1) (zcE T m (zpl T m i)).1 (by omega)
  show _ < zend (fun q => zcb1 (T q)) m (zcE T m (zpl T m i)).1
  omega
section ZCL4
variable {Lx : Nat} {xs : Nat → Int32} {hp : List zhE} {e : Nat → Nat} {m x1 x2 x3 x4 k : Nat}
/-- the tokens laid so far -/
def zCrow (T : Nat → Int32) (m t : Nat) (C : Nat → Nat → Int32) : Prop := ∀ i, i < t → C 2 i = (zcE T m (zpl T m i)).2.1 ∧ C 3 i = Int32.ofInt (zpl T m i : Nat) ∧ C 4 i = (zcE T m (zpl T m i)).2.2
/-- all tokens are laid, the i-th is told -/
def zScn (m k i : Nat) (C : Nat → Nat → Int32) : Prop := zCrow (zTc C) m (k + 1) C ∧ C 1 3 = Int32.ofInt (k : Int) ∧ zpl (zTc C) m k = m ∧ (∀ j, j < k → zpl (zTc C) m j < m) ∧ k ≤ 600 ∧ i ≤ k ∧ C 1 4 = Int32.ofInt (i : Int) ∧ C 1 8 = (zcE (zTc C) m (zpl (zTc C) m i)).2.1 ∧ C 1 9 = Int32.ofInt (zpl (zTc C) m i : Nat) ∧ C 1 10 = (zcE (zTc C) m (zpl (zTc C) m i)).2.2
/-- the i-th token told -/
def zcnx (C : Nat → Nat → Int32) (i : Nat) : Nat → Nat → Int32 := zuS (zuS (zuS (zuS C 1 4 (Int32.ofInt (i : Int))) 1 8 (C 2 i)) 1 9 (C 3 i)) 1 10 (C 4 i)
theorem zScn_nx {C : Nat → Nat → Int32} {i : Nat} (h : zScn m k i C) (hi : i < k) : zScn m k (i + 1) (zcnx C (i + 1)) := by
  obtain ⟨h1, h2, h3, h4, h5, h6, h7, h8, h9, h10⟩ := h
  obtain ⟨r1, r2, r3⟩ := h1 (i + 1) (by omega)
  refine ⟨h1, h2, h3, h4, h5, hi, rfl, r1, r2, r3⟩
theorem zc_next (he : zeI e hp (zDC x1 x2 x3 x4).length) {n : Nat} {C : Nat → Nat → Int32} {i : Nat} (h4 : C 1 4 = Int32.ofInt ((i : Int) - 1)) (h3 : C 1 3 = Int32.ofInt (k : Int)) (hi : i ≤ k) (hk : k ≤ 600) : zPn Lx xs n 63 (0, lv_args 0 [.ref (e 1)], [], zHS e (zDC x1 x2 x3 x4) C hp, 0, 0) (fun rv hp1 => rv = none ∧ hp1 = zHS e (zDC x1 x2 x3 x4) (zcnx C i) hp) := by
  have e4 : (C 1 4).toInt = (i : Int) - 1 := by rw [h4]; exact zRt ⟨by omega, by omega⟩
  have e3 : (C 1 3).toInt = k := by rw [h3]; exact zof_ix (by omega)
  have en : C 1 4 + Int32.ofInt 1 = Int32.ofInt (i : Int) := by
    rw [h4, ← Int32.ofInt_add]
    congr 1
    omega
  have ex : (Int32.ofInt (i : Int)).toInt = i := zof_ix (by omega)
  have ec : (Int32.ofInt (i : Int)).toNatClampNeg = i := zof_cl (by omega)
  have e6 : (Int32.ofInt (601 : Nat)).toInt = 601 := by decide
  refine zp0 (by rfl) rfl rfl ?_
  refine zy_get (b := 4) he (by rfl) (by rfl) (by rfl) (by rfl) ?_
  refine zp0 (by rfl) rfl rfl ?_
  refine zy_get (b := 3) he (by rfl) (by rfl) (by rfl) (by rfl) ?_
  refine zy_icmp (by rfl) (by rfl) (fun h1 => ?_) (fun h1 => ?_)
  · exfalso
    simp only [zcf, e4, e3] at h1
    omega
  · iterate 2 refine zp0 (by rfl) rfl rfl ?_
    refine zy_get (b := 4) he (by rfl) (by rfl) (by rfl) (by rfl) ?_
    iterate 2 refine zp0 (by rfl) rfl rfl ?_
    refine zy_put (b := 4) he (by rfl) (by rfl) (by rfl) ?_
    refine zp0 (by rfl) rfl rfl ?_
    refine zy_get (b := 4) he (by rfl) (by rfl) (by rfl) (by rfl) ?_
    refine zy_if (by rfl) (by rfl) (fun h11 => ?_) (fun h11 => ?_)
    · refine zp_retV (by rfl) ?_
      exfalso
      have b1 : (zuS C 1 4 (C 1 4 + Int32.ofInt 1) 1 4).toInt = i := by rw [zuS_at, en, ex]
      simp only [zcf, b1] at h11
      omega
    · refine zp0 (by rfl) rfl rfl ?_
      refine zy_get (b := 4) he (by rfl) (by rfl) (by rfl) (by rfl) ?_
      refine zp0 (by rfl) rfl rfl ?_
      refine zy_ref (r := 2) he (by rfl) (by rfl) (by rfl) (by rfl) ?_
      refine zy_len he (by rfl) (by rfl) ?_
      refine zy_icmp (by rfl) (by rfl) (fun h12 => ?_) (fun h12 => ?_)
      · refine zp_retV (by rfl) ?_
        exfalso
        have b1 : (zuS C 1 4 (C 1 4 + Int32.ofInt 1) 1 4).toInt = i := by rw [zuS_at, en, ex]
        simp only [zcf, b1, e6] at h11 h12
        omega
      · iterate 2 refine zp0 (by rfl) rfl rfl ?_
        refine zy_ref (r := 2) he (by rfl) (by rfl) (by rfl) (by rfl) ?_
        refine zp0 (by rfl) rfl rfl ?_
        refine zy_get (b := 4) he (by rfl) (by rfl) (by rfl) (by rfl) ?_
        refine zy_ald he (by rfl) (by rfl) (fun u13 w13 => ?_)
        refine zy_put (b := 8) he (by rfl) (by rfl) (by rfl) ?_
        iterate 2 refine zp0 (by rfl) rfl rfl ?_
        refine zy_ref (r := 3) he (by rfl) (by rfl) (by rfl) (by rfl) ?_
        refine zp0 (by rfl) rfl rfl ?_
        refine zy_get (b := 4) he (by rfl) (by rfl) (by rfl) (by rfl) ?_
        refine zy_ald he (by rfl) (by rfl) (fun u14 w14 => ?_)
        refine zy_put (b := 9) he (by rfl) (by rfl) (by rfl) ?_
        iterate 2 refine zp0 (by rfl) rfl rfl ?_
        refine zy_ref (r := 4) he (by rfl) (by rfl) (by rfl) (by rfl) ?_
        refine zp0 (by rfl) rfl rfl ?_
        refine zy_get (b := 4) he (by rfl) (by rfl) (by rfl) (by rfl) ?_
        refine zy_ald he (by rfl) (by rfl) (fun u15 w15 => ?_)
        refine zy_put (b := 10) he (by rfl) (by rfl) (by rfl) ?_
        refine zp_retV (by rfl) ?_
        have hz : zcnx C i = zuS (zuS (zuS (zuS C 1 4 (C 1 4 + Int32.ofInt 1)) 1 8 (C 2 (C 1 4 + Int32.ofInt 1).toNatClampNeg)) 1 9 (C 3 (C 1 4 + Int32.ofInt 1).toNatClampNeg)) 1 10 (C 4 (C 1 4 + Int32.ofInt 1).toNatClampNeg) := by
          rw [en, ec]
          rfl
        rw [hz]
        exact ⟨rfl, rfl⟩
/-- while it cuts -/
def zCut (T : Nat → Int32) (m t : Nat) (C0 C : Nat → Nat → Int32) : Prop := zTc C = T ∧ zCrow T m t C ∧ C 1 3 = Int32.ofInt (t : Int) ∧ zCP m (zpl T m t) C ∧ t ≤ zpl T m t ∧ (∀ j, j < t → zpl T m j < m) ∧ (∀ q, q ≠ 1 → q ≠ 2 → q ≠ 3 → q ≠ 4 → C q = C0 q)
theorem zc_cutA (he : zeI e hp (zDC x1 6 x3 x4).length) (T : Nat → Int32) (C0 : Nat → Nat → Int32) (y2 : Int32) (j1 j2 : Value) : ∀ (n : Nat) (C : Nat → Nat → Int32) (t c s : Nat), zCut T m t C0 C → zPn Lx xs n 62 (43, [(0, .ref (e 1)), (1, j1), (2, j2)], [], zHS e (zDC x1 6 x3 x4) C hp, c, s) (fun rv hp1 => rv = none ∧ ∃ C' k, hp1 = zHS e (zDC x1 6 x3 x4) C' hp ∧ zScn m k 0 C' ∧ zTc C' = T ∧ (∀ q, q ≠ 1 → q ≠ 2 → q ≠ 3 → q ≠ 4 → C' q = C0 q)) := by
  intro n
  induction n using Nat.strongRecOn with
  | _ n ih =>
  intro C t c s hC
  obtain ⟨hT, hr, ht, hP, htl, hlt, hfr⟩ := hC
  obtain ⟨y1, y2, y3⟩ := zCP_x hP
  have hm := hP.2.2.2
  have hpm := zpl_le (T := T) (m := m) t
  have et : (C 1 3).toInt = t := by rw [ht]; exact zof_ix (by omega)
  have ec : (C 1 3).toNatClampNeg = t := by rw [ht]; exact zof_cl (by omega)
  have e6 : (Int32.ofInt 600).toInt = 600 := by decide
  refine zp0 (by rfl) rfl rfl ?_
  refine zy_get (b := 7) he (by rfl) (by rfl) (by rfl) (by rfl) ?_
  refine zp0 (by rfl) rfl rfl ?_
  refine zy_get (b := 6) he (by rfl) (by rfl) (by rfl) (by rfl) ?_
  refine zy_icmp (by rfl) (by rfl) (fun h1 => ?_) (fun h1 => ?_)
  · simp only [zcf, y1, y2, et, e6] at h1
    have hend : zpl T m t = m := by omega
    have hE : zcE T m m = (m, Int32.ofInt 0, Int32.ofInt 0) := if_pos (Nat.le_refl m)
    have hD : ∀ C1 : Nat → Nat → Int32, C1 = zuS (zuS (zuS (zuS C 2 t (Int32.ofInt 0)) 3 t (Int32.ofInt (m : Int))) 4 t (Int32.ofInt 0)) 1 4 (Int32.ofInt (-1)) → zTc C1 = T ∧ zCrow T m (t + 1) C1 ∧ C1 1 3 = Int32.ofInt (t : Int) ∧ C1 1 4 = Int32.ofInt ((0 : Nat) - 1 : Int) ∧ (∀ q, q ≠ 1 → q ≠ 2 → q ≠ 3 → q ≠ 4 → C1 q = C0 q) := by
      intro C1 h1
      rw [h1]
      refine ⟨hT, ?_, ht, rfl, fun q q1 q2 q3 q4 => ?_⟩
      · intro i hi
        by_cases g : i = t
        · rw [g, hend, hE]
          refine ⟨?_, ?_, ?_⟩
          · rw [zuS_off (Or.inl (by decide)), zuS_off (Or.inl (by decide)), zuS_off (Or.inl (by decide)), zuS_at]
          · rw [zuS_off (Or.inl (by decide)), zuS_off (Or.inl (by decide)), zuS_at]
          · rw [zuS_off (Or.inl (by decide)), zuS_at]
        · obtain ⟨r1, r2, r3⟩ := hr i (by omega)
          refine ⟨?_, ?_, ?_⟩
          · rw [zuS_off (Or.inl (by decide)), zuS_off (Or.inl (by decide)), zuS_off (Or.inl (by decide)), zuS_off (Or.inr g), r1]
          · rw [zuS_off (Or.inl (by decide)), zuS_off (Or.inl (by decide)), zuS_off (Or.inr g), zuS_off (Or.inl (by decide)), r2]
          · rw [zuS_off (Or.inl (by decide)), zuS_off (Or.inr g), zuS_off (Or.inl (by decide)), zuS_off (Or.inl (by decide)), r3]
      · rw [zuS_ne q1, zuS_ne q4, zuS_ne q3, zuS_ne q2]
        exact hfr q q1 q2 q3 q4
    have hC1 : zuS (zuS (zuS (zuS C 2 (C 1 3).toNatClampNeg (Int32.ofInt 0)) 3 (C 1 3).toNatClampNeg (C 1 6)) 4 (C 1 3).toNatClampNeg (Int32.ofInt 0)) 1 4 (Int32.ofInt (-1)) = zuS (zuS (zuS (zuS C 2 t (Int32.ofInt 0)) 3 t (Int32.ofInt (m : Int))) 4 t (Int32.ofInt 0)) 1 4 (Int32.ofInt (-1)) := by
      rw [ec, hP.1]
    generalize hC9 : zuS (zuS (zuS (zuS C 2 (C 1 3).toNatClampNeg (Int32.ofInt 0)) 3 (C 1 3).toNatClampNeg (C 1 6)) 4 (C 1 3).toNatClampNeg (Int32.ofInt 0)) 1 4 (Int32.ofInt (-1)) = C1 at hC1
    obtain ⟨d1, d2, d3, d4, d5⟩ := hD C1 hC1
    have hnx := zc_next (Lx := Lx) (xs := xs) (n := n) (x1 := x1) (x2 := 6) (x3 := x3) (x4 := x4) he d4 d3 (Nat.zero_le t) (by omega)
    have hsc : zScn m t 0 (zcnx C1 0) := by
      have dT : zTc (zcnx C1 0) = T := d1
      obtain ⟨r1, r2, r3⟩ := d2 0 (by omega)
      refine ⟨?_, d3, ?_, ?_, by omega, Nat.zero_le t, rfl, ?_, ?_, ?_⟩
      · rw [dT]
        exact d2
      · rw [dT]
        exact hend
      · rw [dT]
        exact hlt
      · rw [dT]
        exact r1
      · rw [dT]
        exact r2
      · rw [dT]
        exact r3
    refine zp0 (by rfl) rfl rfl ?_
    refine zy_ref (r := 2) he (by rfl) (by rfl) (by rfl) (by rfl) ?_
    refine zp0 (by rfl) rfl rfl ?_
    refine zy_get (b := 3) he (by rfl) (by rfl) (by rfl) (by rfl) ?_
    refine zp0 (by rfl) rfl rfl ?_
    refine zy_ast he (by rfl) (by rfl) (fun u21 w21 => ?_)
    refine zp0 (by rfl) rfl rfl ?_
    refine zy_ref (r := 3) he (by rfl) (by rfl) (by rfl) (by rfl) ?_
    refine zp0 (by rfl) rfl rfl ?_
    refine zy_get (b := 3) he (by rfl) (by rfl) (by rfl) (by rfl) ?_
    refine zp0 (by rfl) rfl rfl ?_
    refine zy_get (b := 6) he (by rfl) (by rfl) (by rfl) (by rfl) ?_
    refine zy_ast he (by rfl) (by rfl) (fun u22 w22 => ?_)
    refine zp0 (by rfl) rfl rfl ?_
    refine zy_ref (r := 4) he (by rfl) (by rfl) (by rfl) (by rfl) ?_
    refine zp0 (by rfl) rfl rfl ?_
    refine zy_get (b := 3) he (by rfl) (by rfl) (by rfl) (by rfl) ?_
    refine zp0 (by rfl) rfl rfl ?_
    refine zy_ast he (by rfl) (by rfl) (fun u23 w23 => ?_)
    iterate 2 refine zp0 (by rfl) rfl rfl ?_
    refine zy_put (b := 4) he (by rfl) (by rfl) (by rfl) ?_
    refine zp0 (by rfl) rfl rfl ?_
    show zPn Lx xs n 62 (_, _, _, zHS e (zDC x1 6 x3 x4) (zuS (zuS (zuS (zuS C 2 (C 1 3).toNatClampNeg (Int32.ofInt 0)) 3 (C 1 3).toNatClampNeg (C 1 6)) 4 (C 1 3).toNatClampNeg (Int32.ofInt 0)) 1 4 (Int32.ofInt (-1))) hp, _, _) _
    rw [hC9]
    refine zy_v0n (by rfl) (hnx) ?_
    refine zp_retV (by rfl) ?_
    refine ⟨rfl, _, t, rfl, hsc, d1, fun q q1 q2 q3 q4 => ?_⟩
    show zuS (zuS (zuS (zuS C1 1 4 _) 1 8 _) 1 9 _) 1 10 _ q = _
    rw [zuS_ne q1, zuS_ne q1, zuS_ne q1, zuS_ne q1]
    exact d5 q q1 q2 q3 q4
  · refine zp0 (by rfl) rfl rfl ?_
    refine zy_get (b := 3) he (by rfl) (by rfl) (by rfl) (by rfl) ?_
    refine zq_sip (by rfl) (by decide) ?_
    refine zy_icmpC (by rfl) (by rfl) ⟨by decide, by decide⟩ (fun h2 => ?_) (fun h2 => ?_)
    · simp only [zcf, y1, y2, et, e6] at h1 h2
      have hend : zpl T m t = m := by omega
      have hE : zcE T m m = (m, Int32.ofInt 0, Int32.ofInt 0) := if_pos (Nat.le_refl m)
      have hD : ∀ C1 : Nat → Nat → Int32, C1 = zuS (zuS (zuS (zuS C 2 t (Int32.ofInt 0)) 3 t (Int32.ofInt (m : Int))) 4 t (Int32.ofInt 0)) 1 4 (Int32.ofInt (-1)) → zTc C1 = T ∧ zCrow T m (t + 1) C1 ∧ C1 1 3 = Int32.ofInt (t : Int) ∧ C1 1 4 = Int32.ofInt ((0 : Nat) - 1 : Int) ∧ (∀ q, q ≠ 1 → q ≠ 2 → q ≠ 3 → q ≠ 4 → C1 q = C0 q) := by
        intro C1 h1
        rw [h1]
        refine ⟨hT, ?_, ht, rfl, fun q q1 q2 q3 q4 => ?_⟩
        · intro i hi
          by_cases g : i = t
          · rw [g, hend, hE]
            refine ⟨?_, ?_, ?_⟩
            · rw [zuS_off (Or.inl (by decide)), zuS_off (Or.inl (by decide)), zuS_off (Or.inl (by decide)), zuS_at]
            · rw [zuS_off (Or.inl (by decide)), zuS_off (Or.inl (by decide)), zuS_at]
            · rw [zuS_off (Or.inl (by decide)), zuS_at]
          · obtain ⟨r1, r2, r3⟩ := hr i (by omega)
            refine ⟨?_, ?_, ?_⟩
            · rw [zuS_off (Or.inl (by decide)), zuS_off (Or.inl (by decide)), zuS_off (Or.inl (by decide)), zuS_off (Or.inr g), r1]
            · rw [zuS_off (Or.inl (by decide)), zuS_off (Or.inl (by decide)), zuS_off (Or.inr g), zuS_off (Or.inl (by decide)), r2]
            · rw [zuS_off (Or.inl (by decide)), zuS_off (Or.inr g), zuS_off (Or.inl (by decide)), zuS_off (Or.inl (by decide)), r3]
        · rw [zuS_ne q1, zuS_ne q4, zuS_ne q3, zuS_ne q2]
          exact hfr q q1 q2 q3 q4
      have hC1 : zuS (zuS (zuS (zuS C 2 (C 1 3).toNatClampNeg (Int32.ofInt 0)) 3 (C 1 3).toNatClampNeg (C 1 6)) 4 (C 1 3).toNatClampNeg (Int32.ofInt 0)) 1 4 (Int32.ofInt (-1)) = zuS (zuS (zuS (zuS C 2 t (Int32.ofInt 0)) 3 t (Int32.ofInt (m : Int))) 4 t (Int32.ofInt 0)) 1 4 (Int32.ofInt (-1)) := by
        rw [ec, hP.1]
      generalize hC9 : zuS (zuS (zuS (zuS C 2 (C 1 3).toNatClampNeg (Int32.ofInt 0)) 3 (C 1 3).toNatClampNeg (C 1 6)) 4 (C 1 3).toNatClampNeg (Int32.ofInt 0)) 1 4 (Int32.ofInt (-1)) = C1 at hC1
      obtain ⟨d1, d2, d3, d4, d5⟩ := hD C1 hC1
      have hnx := zc_next (Lx := Lx) (xs := xs) (n := n) (x1 := x1) (x2 := 6) (x3 := x3) (x4 := x4) he d4 d3 (Nat.zero_le t) (by omega)
      have hsc : zScn m t 0 (zcnx C1 0) := by
        have dT : zTc (zcnx C1 0) = T := d1
        obtain ⟨r1, r2, r3⟩ := d2 0 (by omega)
        refine ⟨?_, d3, ?_, ?_, by omega, Nat.zero_le t, rfl, ?_, ?_, ?_⟩
        · rw [dT]
          exact d2
        · rw [dT]
          exact hend
        · rw [dT]
          exact hlt
        · rw [dT]
          exact r1
        · rw [dT]
          exact r2
        · rw [dT]
          exact r3
      refine zp0 (by rfl) rfl rfl ?_
      refine zy_ref (r := 2) he (by rfl) (by rfl) (by rfl) (by rfl) ?_
      refine zp0 (by rfl) rfl rfl ?_
      refine zy_get (b := 3) he (by rfl) (by rfl) (by rfl) (by rfl) ?_
      refine zp0 (by rfl) rfl rfl ?_
      refine zy_ast he (by rfl) (by rfl) (fun u21 w21 => ?_)
      refine zp0 (by rfl) rfl rfl ?_
      refine zy_ref (r := 3) he (by rfl) (by rfl) (by rfl) (by rfl) ?_
      refine zp0 (by rfl) rfl rfl ?_
      refine zy_get (b := 3) he (by rfl) (by rfl) (by rfl) (by rfl) ?_
      refine zp0 (by rfl) rfl rfl ?_
      refine zy_get (b := 6) he (by rfl) (by rfl) (by rfl) (by rfl) ?_
      refine zy_ast he (by rfl) (by rfl) (fun u22 w22 => ?_)
      refine zp0 (by rfl) rfl rfl ?_
      refine zy_ref (r := 4) he (by rfl) (by rfl) (by rfl) (by rfl) ?_
      refine zp0 (by rfl) rfl rfl ?_
      refine zy_get (b := 3) he (by rfl) (by rfl) (by rfl) (by rfl) ?_
      refine zp0 (by rfl) rfl rfl ?_
      refine zy_ast he (by rfl) (by rfl) (fun u23 w23 => ?_)
      iterate 2 refine zp0 (by rfl) rfl rfl ?_
      refine zy_put (b := 4) he (by rfl) (by rfl) (by rfl) ?_
      refine zp0 (by rfl) rfl rfl ?_
      show zPn Lx xs n 62 (_, _, _, zHS e (zDC x1 6 x3 x4) (zuS (zuS (zuS (zuS C 2 (C 1 3).toNatClampNeg (Int32.ofInt 0)) 3 (C 1 3).toNatClampNeg (C 1 6)) 4 (C 1 3).toNatClampNeg (Int32.ofInt 0)) 1 4 (Int32.ofInt (-1))) hp, _, _) _
      rw [hC9]
      refine zy_v0n (by rfl) (hnx) ?_
      refine zp_retV (by rfl) ?_
      refine ⟨rfl, _, t, rfl, hsc, d1, fun q q1 q2 q3 q4 => ?_⟩
      show zuS (zuS (zuS (zuS C1 1 4 _) 1 8 _) 1 9 _) 1 10 _ q = _
      rw [zuS_ne q1, zuS_ne q1, zuS_ne q1, zuS_ne q1]
      exact d5 q q1 q2 q3 q4
    · simp only [zcf, y1, y2, et, e6] at h1 h2
      have hone := zc_one (Lx := Lx) (xs := xs) (n := n) (x1 := x1) (x3 := x3) (x4 := x4) he (C := zuS C 3 t (Int32.ofInt (zpl T m t : Nat))) (m := m) (a := zpl T m t) ⟨hP.1, hP.2.1, hP.2.2⟩ (by omega)
      have hT2 : zTc (zuS C 3 t (Int32.ofInt (zpl T m t : Nat))) = T := hT
      rw [hT2] at hone
      have hg := zcE_rg (T := T) hpm
      have hup := zpl_up (T := T) (i := t) (m := m) (by omega)
      generalize hE : zcE T m (zpl T m t) = E at hone hg
      have hC2 : ∀ C2, C2 = zuS (zuS (zuS (zctL (zuS C 3 t (Int32.ofInt (zpl T m t : Nat))) E.2.2 (Int32.ofInt (E.1 : Nat)) E.2.1) 2 t E.2.1) 4 t E.2.2) 1 3 (Int32.ofInt ((t + 1 : Nat) : Int)) → zTc C2 = T ∧ zCP m E.1 C2 ∧ zCrow T m (t + 1) C2 ∧ C2 1 3 = Int32.ofInt ((t + 1 : Nat) : Int) ∧ (∀ q, q ≠ 1 → q ≠ 2 → q ≠ 3 → q ≠ 4 → C2 q = C0 q) := by
        intro C2 h2
        rw [h2]
        refine ⟨hT, ⟨hP.1, ?_, hg.2.1, hm⟩, ?_, zuS_at, fun q q1 q2 q3 q4 => ?_⟩
        · rw [zuS_off (Or.inr (by decide)), zuS_off (Or.inl (by decide)), zuS_off (Or.inl (by decide)), zctL_7]
        · intro i hi
          by_cases g : i = t
          · rw [g, hE]
            refine ⟨?_, ?_, ?_⟩
            · rw [zuS_off (Or.inl (by decide)), zuS_off (Or.inl (by decide)), zuS_at]
            · rw [zuS_off (Or.inl (by decide)), zuS_off (Or.inl (by decide)), zuS_off (Or.inl (by decide))]
              show zuS (zuS (zuS (zuS C 3 t _) 1 10 _) 1 7 _) 1 8 _ 3 t = _
              rw [zuS_off (Or.inl (by decide)), zuS_off (Or.inl (by decide)), zuS_off (Or.inl (by decide)), zuS_at]
            · rw [zuS_off (Or.inl (by decide)), zuS_at]
          · obtain ⟨r1, r2, r3⟩ := hr i (by omega)
            refine ⟨?_, ?_, ?_⟩
            · rw [zuS_off (Or.inl (by decide)), zuS_off (Or.inl (by decide)), zuS_off (Or.inr g)]
              exact r1
            · rw [zuS_off (Or.inl (by decide)), zuS_off (Or.inl (by decide)), zuS_off (Or.inl (by decide))]
              show zuS (zuS (zuS (zuS C 3 t _) 1 10 _) 1 7 _) 1 8 _ 3 i = _
              rw [zuS_off (Or.inl (by decide)), zuS_off (Or.inl (by decide)), zuS_off (Or.inl (by decide)), zuS_off (Or.inr g)]
              exact r2
            · rw [zuS_off (Or.inl (by decide)), zuS_off (Or.inr g)]
              exact r3
        · rw [zuS_ne q1, zuS_ne q4, zuS_ne q2]
          show zuS (zuS (zuS (zuS C 3 t _) 1 10 _) 1 7 _) 1 8 _ q = _
          rw [zuS_ne q1, zuS_ne q1, zuS_ne q1, zuS_ne q3]
          exact hfr q q1 q2 q3 q4
      obtain ⟨d1, d2, d3, d4, d5⟩ := hC2 _ rfl
      generalize hC9 : zuS (zuS (zuS (zctL (zuS C 3 t (Int32.ofInt (zpl T m t : Nat))) E.2.2 (Int32.ofInt (E.1 : Nat)) E.2.1) 2 t E.2.1) 4 t E.2.2) 1 3 (Int32.ofInt ((t + 1 : Nat) : Int)) = C2 at d1 d2 d3 d4 d5
      have hC1 : zuS (zuS (zuS (zctL (zuS C 3 t (Int32.ofInt (zpl T m t : Nat))) E.2.2 (Int32.ofInt (E.1 : Nat)) E.2.1) 2 (C 1 3).toNatClampNeg E.2.1) 4 (C 1 3).toNatClampNeg E.2.2) 1 3 (C 1 3 + Int32.ofInt 1) = C2 := by
        rw [ec, ht, zof_up]
        exact hC9
      have hsk := fun c s => zc_skip (Lx := Lx) (xs := xs) (x1 := x1) (x3 := x3) (x4 := x4) (hp := hp) he n C2 E.1 c s d2
      rw [d1] at hsk
      have hz : zend (fun q => zcb1 (T q)) m E.1 = zpl T m (t + 1) := by
        show _ = zend (fun q => zcb1 (T q)) m (zcE T m (zpl T m t)).1
        rw [hE]
      rw [hz] at hsk
      have hCt : zCut T m (t + 1) C0 (zuS C2 1 7 (Int32.ofInt (zpl T m (t + 1) : Nat))) := by
        refine ⟨d1, d3, d4, ⟨d2.1, zuS_at, zpl_le (t + 1), hm⟩, by omega, fun j hj => ?_, fun q q1 q2 q3 q4 => ?_⟩
        · by_cases g : j = t
          · rw [g]
            omega
          · exact hlt j (by omega)
        · rw [zuS_ne q1]
          exact d5 q q1 q2 q3 q4
      refine zp0 (by rfl) rfl rfl ?_
      refine zy_ref (r := 3) he (by rfl) (by rfl) (by rfl) (by rfl) ?_
      refine zp0 (by rfl) rfl rfl ?_
      refine zy_get (b := 3) he (by rfl) (by rfl) (by rfl) (by rfl) ?_
      refine zp0 (by rfl) rfl rfl ?_
      refine zy_get (b := 7) he (by rfl) (by rfl) (by rfl) (by rfl) ?_
      refine zy_ast he (by rfl) (by rfl) (fun u31 w31 => ?_)
      refine zp0 (by rfl) rfl rfl ?_
      rw [ec, hP.2.1]
      refine zy_v0n (by rfl) (hone) ?_
      refine zp0 (by rfl) rfl rfl ?_
      refine zy_ref (r := 2) he (by rfl) (by rfl) (by rfl) (by rfl) ?_
      refine zp0 (by rfl) rfl rfl ?_
      refine zy_get (b := 3) he (by rfl) (by rfl) (by rfl) (by rfl) ?_
      refine zp0 (by rfl) rfl rfl ?_
      refine zy_get (b := 8) he (by rfl) (by rfl) (by rfl) (by rfl) ?_
      refine zy_ast he (by rfl) (by rfl) (fun u32 w32 => ?_)
      refine zp0 (by rfl) rfl rfl ?_
      refine zy_ref (r := 4) he (by rfl) (by rfl) (by rfl) (by rfl) ?_
      refine zp0 (by rfl) rfl rfl ?_
      refine zy_get (b := 3) he (by rfl) (by rfl) (by rfl) (by rfl) ?_
      refine zp0 (by rfl) rfl rfl ?_
      refine zy_get (b := 10) he (by rfl) (by rfl) (by rfl) (by rfl) ?_
      refine zy_ast he (by rfl) (by rfl) (fun u33 w33 => ?_)
      iterate 2 refine zp0 (by rfl) rfl rfl ?_
      refine zy_get (b := 3) he (by rfl) (by rfl) (by rfl) (by rfl) ?_
      iterate 2 refine zp0 (by rfl) rfl rfl ?_
      refine zy_put (b := 3) he (by rfl) (by rfl) (by rfl) ?_
      refine zp0 (by rfl) rfl rfl ?_
      show zPn Lx xs n 62 (_, _, _, zHS e (zDC x1 6 x3 x4) (zuS (zuS (zuS (zctL (zuS C 3 t (Int32.ofInt (zpl T m t : Nat))) E.2.2 (Int32.ofInt (E.1 : Nat)) E.2.1) 2 (C 1 3).toNatClampNeg E.2.1) 4 (C 1 3).toNatClampNeg E.2.2) 1 3 (C 1 3 + Int32.ofInt 1)) hp, _, _) _
      rw [hC1]
      refine zy_v0n (by rfl) (hsk _ _) ?_
      refine zp0l (by rfl) rfl rfl (fun m1 hm1 => ?_)
      exact ih m1 hm1 _ (t + 1) _ _ hCt
end ZCL4
