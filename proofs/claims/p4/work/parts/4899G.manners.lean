/-! the class's measures and manners -/
section ZCLG
variable {Lx : Nat} {xs : Nat → Int32} {n : Nat} {hp : List zhE} {e : Nat → Nat} {C : Nat → Nat → Int32} {x3 x4 m K : Nat} {T : Nat → Int32}
theorem zc_takesA (he : zeI e hp (zDC 7 6 x3 x4).length) {N : Nat} (h9 : N ≤ 9) : ∀ (d k c s : Nat), d + k = N → zPn Lx xs n 60 (2, [(2, .int (Int32.ofInt (k : Int))), (0, .ref (e 0)), (1, .int (Int32.ofInt (N : Int)))], [], zHS e (zDC 7 6 x3 x4) C hp, c, s) (fun rv hp1 => rv = some (.int (if zanyF (fun u => decide (zovc C N u)) d k = true then Int32.ofInt 1 else Int32.ofInt 0)) ∧ hp1 = zHS e (zDC 7 6 x3 x4) C hp) := by
  have yn : (Int32.ofInt (N : Int)).toInt = N := zof_ix (by omega)
  have cn : (Int32.ofInt (N : Int)).toNatClampNeg = N := zof_cl (by omega)
  intro d
  induction d with
  | zero =>
    intro k c s hk
    have yk : (Int32.ofInt (k : Int)).toInt = k := zof_ix (by omega)
    iterate 2 refine zp0 (by rfl) rfl rfl ?_
    refine zy_icmp (by rfl) (by rfl) (fun h1 => ?_) (fun h1 => ?_)
    · refine zp0 (by rfl) rfl rfl ?_
      refine zp_retI (by rfl) ?_
      exact ⟨rfl, rfl⟩
    · exfalso
      simp only [zcf, yn, yk] at h1
      omega
  | succ d ih =>
    intro k c s hk
    have yk : (Int32.ofInt (k : Int)).toInt = k := zof_ix (by omega)
    have ck : (Int32.ofInt (k : Int)).toNatClampNeg = k := zof_cl (by omega)
    iterate 2 refine zp0 (by rfl) rfl rfl ?_
    refine zy_icmp (by rfl) (by rfl) (fun h1 => ?_) (fun h1 => ?_)
    · refine zp0 (by rfl) rfl rfl ?_
      refine zp_retI (by rfl) ?_
      exfalso
      simp only [zcf, yn, yk] at h1
      omega
    · refine zp0 (by rfl) rfl rfl ?_
      refine zy_ref (r := 6) he (by rfl) (by rfl) (by rfl) (by rfl) ?_
      iterate 2 refine zp0 (by rfl) rfl rfl ?_
      refine zy_ref (r := 6) he (by rfl) (by rfl) (by rfl) (by rfl) ?_
      refine zy_ref (r := 8) he (by rfl) (by rfl) (by rfl) (by rfl) ?_
      refine zp0 (by rfl) rfl rfl ?_
      refine zy_ald he (by rfl) (by rfl) (fun u2 w2 => ?_)
      refine zp0 (by rfl) rfl rfl ?_
      refine zy_ref (r := 6) he (by rfl) (by rfl) (by rfl) (by rfl) ?_
      refine zy_ref (r := 9) he (by rfl) (by rfl) (by rfl) (by rfl) ?_
      refine zp0 (by rfl) rfl rfl ?_
      refine zy_ald he (by rfl) (by rfl) (fun u3 w3 => ?_)
      iterate 2 refine zp0 (by rfl) rfl rfl ?_
      refine zy_ref (r := 6) he (by rfl) (by rfl) (by rfl) (by rfl) ?_
      refine zy_ref (r := 8) he (by rfl) (by rfl) (by rfl) (by rfl) ?_
      refine zp0 (by rfl) rfl rfl ?_
      refine zy_ald he (by rfl) (by rfl) (fun u4 w4 => ?_)
      refine zp0 (by rfl) rfl rfl ?_
      refine zy_ref (r := 6) he (by rfl) (by rfl) (by rfl) (by rfl) ?_
      refine zy_ref (r := 9) he (by rfl) (by rfl) (by rfl) (by rfl) ?_
      refine zp0 (by rfl) rfl rfl ?_
      refine zy_ald he (by rfl) (by rfl) (fun u5 w5 => ?_)
      refine zy_v6e (by rfl) (zc_collide he _ _ _ _ _ _) ?_
      refine zy_if (by rfl) (by rfl) (fun h6 => ?_) (fun h6 => ?_)
      · iterate 2 refine zp0 (by rfl) rfl rfl ?_
        have g := zite0 h6
        simp only [cn, ck] at g
        have hz : zanyF (fun u => decide (zovc C N u)) (d + 1) k = zanyF (fun u => decide (zovc C N u)) d (k + 1) := by
          show (decide (zovc C N k) || _) = _
          rw [decide_eq_false (p := zovc C N k) (fun q => g ⟨⟨q.1, q.2.1⟩, q.2.2.1, q.2.2.2⟩)]
          rfl
        rw [hz, zof_up]
        exact ih (k + 1) _ _ (by omega)
      · refine zp0 (by rfl) rfl rfl ?_
        refine zp_retI (by rfl) ?_
        have g := zite1 h6
        simp only [cn, ck] at g
        have hz : zanyF (fun u => decide (zovc C N u)) (d + 1) k = true := by
          show (decide (zovc C N k) || _) = true
          rw [decide_eq_true (p := zovc C N k) ⟨g.1.1, g.1.2, g.2.1, g.2.2⟩]
          rfl
        rw [if_pos hz]
        exact ⟨rfl, rfl⟩
theorem zc_takes (he : zeI e hp (zDC 7 6 x3 x4).length) {N : Nat} (h9 : N ≤ 9) : zPn Lx xs n 60 (0, lv_args 0 [.ref (e 0), .int (Int32.ofInt (N : Int))], [], zHS e (zDC 7 6 x3 x4) C hp, 0, 0) (fun rv hp1 => rv = some (.int (if zanyF (fun u => decide (zovc C N u)) N 0 = true then Int32.ofInt 1 else Int32.ofInt 0)) ∧ hp1 = zHS e (zDC 7 6 x3 x4) C hp) := by
  iterate 2 refine zp0 (by rfl) rfl rfl ?_
  exact zc_takesA he h9 N 0 _ _ (Nat.add_zero N)
/-- while the class reads a thing's line -/
def zCg (n : Nat) (C0 C1 : Nat → Nat → Int32) : Prop := (∀ f, f ≠ 6 → C1 0 f = C0 0 f) ∧ (∀ q, q = 2 ∨ q = 3 ∨ q = 4 ∨ q = 5 ∨ 15 < q → C1 q = C0 q) ∧ (∀ f, f ≠ 9 → C1 6 f = C0 6 f) ∧ ∀ q u, 7 ≤ q → q ≤ 15 → u ≠ n → C1 q u = C0 q u
theorem zCg_rfl {n : Nat} : zCg n C C := ⟨fun _ _ => rfl, fun _ _ => rfl, fun _ _ => rfl, fun _ _ _ _ _ => rfl⟩
theorem zCg_tr {n : Nat} {C0 C1 C2 : Nat → Nat → Int32} (h : zCg n C0 C1) (g : zCg n C1 C2) : zCg n C0 C2 :=
  ⟨fun f h3 => (g.1 f h3).trans (h.1 f h3), fun q hq => (g.2.1 q hq).trans (h.2.1 q hq), fun f hf => (g.2.2.1 f hf).trans (h.2.2.1 f hf), fun q u h1 h2 h3 => (g.2.2.2 q u h1 h2 h3).trans (h.2.2.2 q u h1 h2 h3)⟩
theorem zcnx_ne {i q : Nat} (h : q ≠ 1) : zcnx C i q = C q := by
  unfold zcnx
  rw [zuS_ne h, zuS_ne h, zuS_ne h, zuS_ne h]
theorem zCg_nx {n i : Nat} : zCg n C (zcnx C i) :=
  ⟨fun f _ => by rw [zcnx_ne (by decide)], fun q hq => zcnx_ne (by omega), fun f _ => by rw [zcnx_ne (by decide)], fun q u h1 h2 _ => by rw [zcnx_ne (by omega)]⟩
theorem zCin {N i q : Nat} {w : Int32} (h : zScT T m K i C) (hlt : i < K) (hq : 7 ≤ q ∧ q ≤ 15) : zScT T m K (i + 1) (zuS (zcnx (zuS C 0 6 w) (i + 1)) q N w) ∧ zCg N C (zuS (zcnx (zuS C 0 6 w) (i + 1)) q N w) ∧ zuS (zcnx (zuS C 0 6 w) (i + 1)) q N w q N = w ∧ ∀ p, p ≠ q → 6 ≤ p → p ≤ 15 → zuS (zcnx (zuS C 0 6 w) (i + 1)) q N w p = C p := by
  refine ⟨?_, ⟨fun f h3 => ?_, fun p hp => ?_, fun f hf => ?_, fun p u h1 h2 h3 => ?_⟩, zuS_at, fun p h1 h2 h3 => ?_⟩
  · have h0 : zScT T m K i (zuS C 0 6 w) := zScT_fr h rfl rfl rfl rfl
    exact zScT_fr (zScT_nx h0 hlt) (zuS_ne (by omega)) (zuS_ne (by omega)) (zuS_ne (by omega)) (zuS_ne (by omega))
  · rw [zuS_ne (by omega), zcnx_ne (by decide), zuS_off (Or.inr h3)]
  · rw [zuS_ne (by omega), zcnx_ne (by omega), zuS_ne (by omega)]
  · rw [zuS_ne (by omega), zcnx_ne (by decide), zuS_ne (by decide)]
  · rw [zuS_off (Or.inr h3), zcnx_ne (by omega), zuS_ne (by omega)]
  · rw [zuS_ne h1, zcnx_ne (by omega), zuS_ne (by omega)]
def zMeaF (T : Nat → Int32) (m i : Nat) : Int × Nat :=
  if zsNum T m i 0 39 ≠ 0 then (zsNum T m i 0 39, i)
  else if zsNum T m (i + 1) 0 39 ≠ 0 then (zsNum T m (i + 1) 0 39, i + 1)
  else if zsNum T m (i + 2) 1 12 ≠ 0 then (zsNum T m (i + 2) 1 12, i + 2)
  else if zsNum T m (i + 3) 1 12 ≠ 0 then (zsNum T m (i + 3) 1 12, i + 3)
  else if zsNum T m (i + 4) 1 99 ≠ 0 then (zsNum T m (i + 4) 1 99, i + 4)
  else (0, i + 5)
theorem zcref_x {i : Nat} {f : Int32} (h : zScT T m K i C) : zcref C f 0 4 = f ∧ zcref C f 0 5 = Int32.ofInt (zpl T m i : Nat) := ⟨rfl, h.2.2.2.2.2.2.2.2.1⟩
theorem zc_meas (he : zeI e hp (zDC 7 6 x3 x4).length) {i N : Nat} (hm : m ≤ 600) (hN : N < 9) (hK : zScT T m K i C) : zPn Lx xs n 55 (0, lv_args 0 [.ref (e 0), .int (Int32.ofInt (N : Int))], [], zHS e (zDC 7 6 x3 x4) C hp, 0, 0) (fun rv hp1 => ∃ r C', rv = some (.int r) ∧ hp1 = zHS e (zDC 7 6 x3 x4) C' hp ∧ (((zMeaF T m i).1 ≠ 0 ∧ r.toInt = 0 ∧ C' 0 4 = Int32.ofInt (zMeaF T m i).1 ∧ C' 0 5 = Int32.ofInt (zpl T m (zMeaF T m i).2 : Nat)) ∨ ((zMeaF T m i).1 = 0 ∧ r.toInt ≠ 0 ∧ zScT T m K (i + 5) C' ∧ zCg N C C' ∧ C' 6 = C 6 ∧ C' 7 = C 7 ∧ C' 8 N = zmw T m i ∧ C' 9 N = zmw T m (i + 1) ∧ C' 10 N = zmw T m (i + 2) ∧ C' 11 N = zmw T m (i + 3) ∧ C' 12 N = zmw T m (i + 4)))) := by
  have k0 : (Int32.ofInt 0).toInt = 0 := by decide
  have k1 : (Int32.ofInt 1).toInt = 1 := by decide
  have k39 : (Int32.ofInt 39).toInt = 39 := by decide
  have k12 : (Int32.ofInt 12).toInt = 12 := by decide
  have k99 : (Int32.ofInt 99).toInt = 99 := by decide
  have sg0 : zCg N C C := zCg_rfl
  generalize v7 : C 7 = c7
  generalize v6 : C 6 = c6
  iterate 2 refine zp0 (by rfl) rfl rfl ?_
  refine zy_ref (r := 6) he (by rfl) (by rfl) (by rfl) (by rfl) ?_
  refine zy_ref (r := 8) he (by rfl) (by rfl) (by rfl) (by rfl) ?_
  iterate 2 refine zp0 (by rfl) rfl rfl ?_
  refine zq_bip (by rfl) (by decide) ?_
  refine zy_v4 (by rfl) (zc_into he (q := 8) (t := N) rfl hN hm hK (Int32.ofInt 0) (Int32.ofInt 39) (by decide) (by decide)) ?_
  intro rv hp1 hq
  obtain ⟨r0, C1, q1, q2, dj⟩ := hq
  rw [q1, q2]
  rw [k0, k39] at dj
  refine zy_if (by rfl) (by rfl) (fun h1 => ?_) (fun h1 => ?_)
  · refine zp0 (by rfl) rfl rfl ?_
    refine zp_retI (by rfl) ?_
    rcases dj with ⟨d1, d2, d3⟩ | ⟨d1, d2, d3, d4⟩
    · have hO : zMeaF T m i = (zsNum T m i 0 39, i) := by
        unfold zMeaF
        rw [if_pos d1]
      have hx := zcref_x (f := Int32.ofInt (zsNum T m i 0 39)) hK
      refine ⟨_, _, rfl, rfl, Or.inl ⟨?_, by decide, ?_, ?_⟩⟩
      · rw [hO]
        exact d1
      · rw [hO, d3]
        exact hx.1
      · rw [hO, d3]
        exact hx.2
    · exact absurd h1 (by rw [d2]; show ¬ (Int32.ofInt 1).toInt = 0; decide)
  · rcases dj with ⟨d1, d2, d3⟩ | ⟨d1, d2, d3, d4⟩
    · exact absurd (show (Int32.ofInt 0).toInt = 0 by decide) (by rw [← d2]; exact h1)
    have m0 : ¬ (zsNum T m i 0 39 ≠ 0) := fun q => q d1
    obtain ⟨i1, i2, i3, i4⟩ := zCin (N := N) (q := 8) (w := zmw T m (i)) hK d4 (by decide)
    rw [← d3] at i1 i2 i3 i4
    have sg1 := zCg_tr sg0 i2
    have hK1 : zScT T m K (i + 1) C1 := i1
    rw [← i4 7 (by decide) (by decide) (by decide)] at v7
    rw [← i4 6 (by decide) (by decide) (by decide)] at v6
    have v8 := i3
    iterate 2 refine zp0 (by rfl) rfl rfl ?_
    refine zy_ref (r := 6) he (by rfl) (by rfl) (by rfl) (by rfl) ?_
    refine zy_ref (r := 9) he (by rfl) (by rfl) (by rfl) (by rfl) ?_
    iterate 2 refine zp0 (by rfl) rfl rfl ?_
    refine zq_bip (by rfl) (by decide) ?_
    refine zy_v4 (by rfl) (zc_into he (q := 9) (t := N) rfl hN hm hK1 (Int32.ofInt 0) (Int32.ofInt 39) (by decide) (by decide)) ?_
    intro rv hp1 hq
    obtain ⟨r1, C2, q1, q2, dj⟩ := hq
    rw [q1, q2]
    rw [k0, k39] at dj
    refine zy_if (by rfl) (by rfl) (fun h11 => ?_) (fun h11 => ?_)
    · refine zp0 (by rfl) rfl rfl ?_
      refine zp_retI (by rfl) ?_
      rcases dj with ⟨d1, d2, d3⟩ | ⟨d1, d2, d3, d4⟩
      · have hO : zMeaF T m i = (zsNum T m (i + 1) 0 39, i + 1) := by
          unfold zMeaF
          rw [if_neg m0, if_pos d1]
        have hx := zcref_x (f := Int32.ofInt (zsNum T m (i + 1) 0 39)) hK1
        refine ⟨_, _, rfl, rfl, Or.inl ⟨?_, by decide, ?_, ?_⟩⟩
        · rw [hO]
          exact d1
        · rw [hO, d3]
          exact hx.1
        · rw [hO, d3]
          exact hx.2
      · exact absurd h11 (by rw [d2]; show ¬ (Int32.ofInt 1).toInt = 0; decide)
    · rcases dj with ⟨d1, d2, d3⟩ | ⟨d1, d2, d3, d4⟩
      · exact absurd (show (Int32.ofInt 0).toInt = 0 by decide) (by rw [← d2]; exact h11)
      have m1 : ¬ (zsNum T m (i + 1) 0 39 ≠ 0) := fun q => q d1
      obtain ⟨i1, i2, i3, i4⟩ := zCin (N := N) (q := 9) (w := zmw T m (i + 1)) hK1 d4 (by decide)
      rw [← d3] at i1 i2 i3 i4
      have sg2 := zCg_tr sg1 i2
      have hK2 : zScT T m K (i + 2) C2 := i1
      rw [← i4 7 (by decide) (by decide) (by decide)] at v7
      rw [← i4 6 (by decide) (by decide) (by decide)] at v6
      rw [← i4 8 (by decide) (by decide) (by decide)] at v8
      have v9 := i3
      iterate 2 refine zp0 (by rfl) rfl rfl ?_
      refine zy_ref (r := 6) he (by rfl) (by rfl) (by rfl) (by rfl) ?_
      refine zy_ref (r := 10) he (by rfl) (by rfl) (by rfl) (by rfl) ?_
      iterate 2 refine zp0 (by rfl) rfl rfl ?_
      refine zq_bip (by rfl) (by decide) ?_
      refine zy_v4 (by rfl) (zc_into he (q := 10) (t := N) rfl hN hm hK2 (Int32.ofInt 1) (Int32.ofInt 12) (by decide) (by decide)) ?_
      intro rv hp1 hq
      obtain ⟨r2, C3, q1, q2, dj⟩ := hq
      rw [q1, q2]
      rw [k1, k12] at dj
      refine zy_if (by rfl) (by rfl) (fun h21 => ?_) (fun h21 => ?_)
      · refine zp0 (by rfl) rfl rfl ?_
        refine zp_retI (by rfl) ?_
        rcases dj with ⟨d1, d2, d3⟩ | ⟨d1, d2, d3, d4⟩
        · have hO : zMeaF T m i = (zsNum T m (i + 2) 1 12, i + 2) := by
            unfold zMeaF
            rw [if_neg m0, if_neg m1, if_pos d1]
          have hx := zcref_x (f := Int32.ofInt (zsNum T m (i + 2) 1 12)) hK2
          refine ⟨_, _, rfl, rfl, Or.inl ⟨?_, by decide, ?_, ?_⟩⟩
          · rw [hO]
            exact d1
          · rw [hO, d3]
            exact hx.1
          · rw [hO, d3]
            exact hx.2
        · exact absurd h21 (by rw [d2]; show ¬ (Int32.ofInt 1).toInt = 0; decide)
      · rcases dj with ⟨d1, d2, d3⟩ | ⟨d1, d2, d3, d4⟩
        · exact absurd (show (Int32.ofInt 0).toInt = 0 by decide) (by rw [← d2]; exact h21)
        have m2 : ¬ (zsNum T m (i + 2) 1 12 ≠ 0) := fun q => q d1
        obtain ⟨i1, i2, i3, i4⟩ := zCin (N := N) (q := 10) (w := zmw T m (i + 2)) hK2 d4 (by decide)
        rw [← d3] at i1 i2 i3 i4
        have sg3 := zCg_tr sg2 i2
        have hK3 : zScT T m K (i + 3) C3 := i1
        rw [← i4 7 (by decide) (by decide) (by decide)] at v7
        rw [← i4 6 (by decide) (by decide) (by decide)] at v6
        rw [← i4 8 (by decide) (by decide) (by decide)] at v8
        rw [← i4 9 (by decide) (by decide) (by decide)] at v9
        have v10 := i3
        iterate 2 refine zp0 (by rfl) rfl rfl ?_
        refine zy_ref (r := 6) he (by rfl) (by rfl) (by rfl) (by rfl) ?_
        refine zy_ref (r := 11) he (by rfl) (by rfl) (by rfl) (by rfl) ?_
        iterate 2 refine zp0 (by rfl) rfl rfl ?_
        refine zq_bip (by rfl) (by decide) ?_
        refine zy_v4 (by rfl) (zc_into he (q := 11) (t := N) rfl hN hm hK3 (Int32.ofInt 1) (Int32.ofInt 12) (by decide) (by decide)) ?_
        intro rv hp1 hq
        obtain ⟨r3, C4, q1, q2, dj⟩ := hq
        rw [q1, q2]
        rw [k1, k12] at dj
        refine zy_if (by rfl) (by rfl) (fun h31 => ?_) (fun h31 => ?_)
        · refine zp0 (by rfl) rfl rfl ?_
          refine zp_retI (by rfl) ?_
          rcases dj with ⟨d1, d2, d3⟩ | ⟨d1, d2, d3, d4⟩
          · have hO : zMeaF T m i = (zsNum T m (i + 3) 1 12, i + 3) := by
              unfold zMeaF
              rw [if_neg m0, if_neg m1, if_neg m2, if_pos d1]
            have hx := zcref_x (f := Int32.ofInt (zsNum T m (i + 3) 1 12)) hK3
            refine ⟨_, _, rfl, rfl, Or.inl ⟨?_, by decide, ?_, ?_⟩⟩
            · rw [hO]
              exact d1
            · rw [hO, d3]
              exact hx.1
            · rw [hO, d3]
              exact hx.2
          · exact absurd h31 (by rw [d2]; show ¬ (Int32.ofInt 1).toInt = 0; decide)
        · rcases dj with ⟨d1, d2, d3⟩ | ⟨d1, d2, d3, d4⟩
          · exact absurd (show (Int32.ofInt 0).toInt = 0 by decide) (by rw [← d2]; exact h31)
          have m3 : ¬ (zsNum T m (i + 3) 1 12 ≠ 0) := fun q => q d1
          obtain ⟨i1, i2, i3, i4⟩ := zCin (N := N) (q := 11) (w := zmw T m (i + 3)) hK3 d4 (by decide)
          rw [← d3] at i1 i2 i3 i4
          have sg4 := zCg_tr sg3 i2
          have hK4 : zScT T m K (i + 4) C4 := i1
          rw [← i4 7 (by decide) (by decide) (by decide)] at v7
          rw [← i4 6 (by decide) (by decide) (by decide)] at v6
          rw [← i4 8 (by decide) (by decide) (by decide)] at v8
          rw [← i4 9 (by decide) (by decide) (by decide)] at v9
          rw [← i4 10 (by decide) (by decide) (by decide)] at v10
          have v11 := i3
          iterate 2 refine zp0 (by rfl) rfl rfl ?_
          refine zy_ref (r := 6) he (by rfl) (by rfl) (by rfl) (by rfl) ?_
          refine zy_ref (r := 12) he (by rfl) (by rfl) (by rfl) (by rfl) ?_
          iterate 2 refine zp0 (by rfl) rfl rfl ?_
          refine zq_bip (by rfl) (by decide) ?_
          refine zy_v4 (by rfl) (zc_into he (q := 12) (t := N) rfl hN hm hK4 (Int32.ofInt 1) (Int32.ofInt 99) (by decide) (by decide)) ?_
          intro rv hp1 hq
          obtain ⟨r4, C5, q1, q2, dj⟩ := hq
          rw [q1, q2]
          rw [k1, k99] at dj
          refine zy_if (by rfl) (by rfl) (fun h41 => ?_) (fun h41 => ?_)
          · refine zp0 (by rfl) rfl rfl ?_
            refine zp_retI (by rfl) ?_
            rcases dj with ⟨d1, d2, d3⟩ | ⟨d1, d2, d3, d4⟩
            · have hO : zMeaF T m i = (zsNum T m (i + 4) 1 99, i + 4) := by
                unfold zMeaF
                rw [if_neg m0, if_neg m1, if_neg m2, if_neg m3, if_pos d1]
              have hx := zcref_x (f := Int32.ofInt (zsNum T m (i + 4) 1 99)) hK4
              refine ⟨_, _, rfl, rfl, Or.inl ⟨?_, by decide, ?_, ?_⟩⟩
              · rw [hO]
                exact d1
              · rw [hO, d3]
                exact hx.1
              · rw [hO, d3]
                exact hx.2
            · exact absurd h41 (by rw [d2]; show ¬ (Int32.ofInt 1).toInt = 0; decide)
          · iterate 2 refine zp0 (by rfl) rfl rfl ?_
            refine zp_retI (by rfl) ?_
            rcases dj with ⟨d1, d2, d3⟩ | ⟨d1, d2, d3, d4⟩
            · exact absurd (show (Int32.ofInt 0).toInt = 0 by decide) (by rw [← d2]; exact h41)
            have m4 : ¬ (zsNum T m (i + 4) 1 99 ≠ 0) := fun q => q d1
            obtain ⟨i1, i2, i3, i4⟩ := zCin (N := N) (q := 12) (w := zmw T m (i + 4)) hK4 d4 (by decide)
            rw [← d3] at i1 i2 i3 i4
            have sg5 := zCg_tr sg4 i2
            have hK5 : zScT T m K (i + 5) C5 := i1
            rw [← i4 7 (by decide) (by decide) (by decide)] at v7
            rw [← i4 6 (by decide) (by decide) (by decide)] at v6
            rw [← i4 8 (by decide) (by decide) (by decide)] at v8
            rw [← i4 9 (by decide) (by decide) (by decide)] at v9
            rw [← i4 10 (by decide) (by decide) (by decide)] at v10
            rw [← i4 11 (by decide) (by decide) (by decide)] at v11
            have v12 := i3
            have hO : zMeaF T m i = (0, i + 5) := by
              unfold zMeaF
              rw [if_neg m0, if_neg m1, if_neg m2, if_neg m3, if_neg m4]
            refine ⟨_, _, rfl, rfl, Or.inr ⟨?_, by decide, hK5, sg5, v6, v7, v8, v9, v10, v11, v12⟩⟩
            rw [hO]
def zrnd (C : Nat → Nat → Int32) (N : Nat) : Int32 := C 6 9 ||| Int32.ofInt 1 <<< (Int32.ofInt (N : Int) &&& 31)
theorem zrnd_e {C C' : Nat → Nat → Int32} {N : Nat} (h : C' 6 = C 6) : zrnd C' N = zrnd C N := by
  unfold zrnd
  rw [h]
theorem zrnd_2 {C C' : Nat → Nat → Int32} {N : Nat} (h : C' 6 9 = zrnd C N) : zrnd C' N = zrnd C N := by
  unfold zrnd
  rw [h]
  unfold zrnd
  rw [Int32.or_assoc]
  exact congrArg (fun q => C 6 9 ||| q) (Int32.toBitVec_inj.1 (by simp))
def zcel (w : Int) : Nat := if w = 1 then 15 else if w = 2 then 14 else 13
theorem zc_manner (he : zeI e hp (zDC 7 6 x3 x4).length) {i N : Nat} (hm : m ≤ 600) (hN : N < 9) (hK : zScT T m K i C) {w : Int} (h0 : 0 ≤ w) (h3 : w ≤ 3) (hwd : (C 10 N).toInt ≤ 4999) (hwd0 : 0 ≤ (C 10 N).toInt) : zPn Lx xs n 59 (0, lv_args 0 [.ref (e 0), .int (Int32.ofInt (zmb w)), .int (Int32.ofInt (N : Int))], [], zHS e (zDC 7 6 x3 x4) C hp, 0, 0) (fun rv hp1 => ∃ r C', rv = some (.int r) ∧ hp1 = zHS e (zDC 7 6 x3 x4) C' hp ∧ ((w = 0 ∧ r = Int32.ofInt 1 ∧ C' = zuS C 6 9 (zrnd C N)) ∨ (w ≠ 0 ∧ ((zsNum T m i 0 (zhi w.toNat (C 10 N)).toInt ≠ 0 ∧ r = Int32.ofInt 0 ∧ C' = zcref C (Int32.ofInt (zsNum T m i 0 (zhi w.toNat (C 10 N)).toInt))) ∨ (zsNum T m i 0 (zhi w.toNat (C 10 N)).toInt = 0 ∧ r = Int32.ofInt 1 ∧ C' = zuS (zcnx (zuS C 0 6 (zmw T m i)) (i + 1)) (zcel w) N (zmw T m i) ∧ i < K))))) := by
  have k0 : (Int32.ofInt 0).toInt = 0 := by decide
  have cn : (Int32.ofInt (N : Int)).toNatClampNeg = N := zof_cl (by omega)
  have hw : w = 0 ∨ w = 1 ∨ w = 2 ∨ w = 3 := by omega
  rcases hw with rfl | rfl | rfl | rfl
  · refine zp0 (by rfl) rfl rfl ?_
    refine zy_tsw (t := 32) (by rfl) (by decide) ?_
    refine zp0 (by rfl) rfl rfl ?_
    refine zy_ref (r := 6) he (by rfl) (by rfl) (by rfl) (by rfl) ?_
    refine zp0 (by rfl) rfl rfl ?_
    refine zy_get (b := 9) he (by rfl) (by rfl) (by rfl) (by rfl) ?_
    iterate 4 refine zp0 (by rfl) rfl rfl ?_
    refine zy_put (b := 9) he (by rfl) (by rfl) (by rfl) ?_
    refine zp0 (by rfl) rfl rfl ?_
    refine zp_retI (by rfl) ?_
    exact ⟨_, _, rfl, rfl, Or.inl ⟨rfl, rfl, rfl⟩⟩
  · refine zp0 (by rfl) rfl rfl ?_
    have h24 : (Int32.ofInt 2 * C 10 N).toInt ≤ 9999 := by
      rw [← Int32.ofInt_toInt (C 10 N), ← Int32.ofInt_mul, zRt ⟨by omega, by omega⟩]
      omega
    refine zy_tsw (t := 65) (by rfl) (by decide) ?_
    iterate 2 refine zp0 (by rfl) rfl rfl ?_
    refine zy_ref (r := 6) he (by rfl) (by rfl) (by rfl) (by rfl) ?_
    refine zy_ref (r := 15) he (by rfl) (by rfl) (by rfl) (by rfl) ?_
    iterate 4 refine zp0 (by rfl) rfl rfl ?_
    refine zy_ref (r := 6) he (by rfl) (by rfl) (by rfl) (by rfl) ?_
    refine zy_ref (r := 10) he (by rfl) (by rfl) (by rfl) (by rfl) ?_
    refine zp0 (by rfl) rfl rfl ?_
    refine zy_ald he (by rfl) (by rfl) (fun u1 w1 => ?_)
    refine zp0 (by rfl) rfl rfl ?_
    rw [cn]
    refine zy_v4 (by rfl) (zc_into he (q := 15) (t := N) rfl hN hm hK (Int32.ofInt 0) (Int32.ofInt 2 * C 10 N) (by decide) (h24)) ?_
    intro rv hp1 hq
    obtain ⟨r, C1, q1, q2, dj⟩ := hq
    rw [q1, q2]
    rw [k0] at dj
    refine zp_retI (by rfl) ?_
    exact ⟨_, _, rfl, rfl, Or.inr ⟨by decide, dj⟩⟩
  · refine zp0 (by rfl) rfl rfl ?_
    refine zy_tsw (t := 90) (by rfl) (by decide) ?_
    iterate 2 refine zp0 (by rfl) rfl rfl ?_
    refine zy_ref (r := 6) he (by rfl) (by rfl) (by rfl) (by rfl) ?_
    refine zy_ref (r := 14) he (by rfl) (by rfl) (by rfl) (by rfl) ?_
    iterate 3 refine zp0 (by rfl) rfl rfl ?_
    refine zy_v4 (by rfl) (zc_into he (q := 14) (t := N) rfl hN hm hK (Int32.ofInt 0) (Int32.ofInt 5) (by decide) (by decide)) ?_
    intro rv hp1 hq
    obtain ⟨r, C1, q1, q2, dj⟩ := hq
    rw [q1, q2]
    rw [k0] at dj
    refine zp_retI (by rfl) ?_
    exact ⟨_, _, rfl, rfl, Or.inr ⟨by decide, dj⟩⟩
  · refine zp0 (by rfl) rfl rfl ?_
    refine zy_tsw (t := 49) (by rfl) (by decide) ?_
    iterate 2 refine zp0 (by rfl) rfl rfl ?_
    refine zy_ref (r := 6) he (by rfl) (by rfl) (by rfl) (by rfl) ?_
    refine zy_ref (r := 13) he (by rfl) (by rfl) (by rfl) (by rfl) ?_
    iterate 2 refine zp0 (by rfl) rfl rfl ?_
    refine zq_bip (by rfl) (by decide) ?_
    refine zy_v4 (by rfl) (zc_into he (q := 13) (t := N) rfl hN hm hK (Int32.ofInt 0) (Int32.ofInt 10) (by decide) (by decide)) ?_
    intro rv hp1 hq
    obtain ⟨r, C1, q1, q2, dj⟩ := hq
    rw [q1, q2]
    rw [k0] at dj
    refine zp_retI (by rfl) ?_
    exact ⟨_, _, rfl, rfl, Or.inr ⟨by decide, dj⟩⟩
/-- which manners were seen, by the class's bits -/
def zcsn (t : Nat) : Nat := t % 2 + t / 8 % 2 * 2 + t / 2 % 2 * 4 + t / 4 % 2 * 8
theorem zcb1x : ∀ t : Nat, t < 16 → ∀ w : Nat, w < 4 → ((Int32.ofInt (zcsn t : Int) &&& Int32.ofInt (zmb (w : Int))).toInt = 0 ↔ t.testBit w = false) := by decide +kernel
theorem zcb2x : ∀ t : Nat, t < 16 → ∀ w : Nat, w < 4 → t.testBit w = false → Int32.ofInt (zcsn t : Int) ||| Int32.ofInt (zmb (w : Int)) = Int32.ofInt (zcsn (t + 2 ^ w) : Int) := by decide +kernel
def zCMn (T : Nat → Int32) (m K N : Nat) (C C' : Nat → Nat → Int32) (r : Int32) (o : Int × Nat × Int32 × Int32 × Int32) (rd : Bool) : Prop :=
  (o.1 ≠ 0 ∧ r.toInt = 0 ∧ C' 0 4 = Int32.ofInt o.1 ∧ C' 0 5 = Int32.ofInt (zpl T m o.2.1 : Nat)) ∨
  (o.1 = 0 ∧ r.toInt ≠ 0 ∧ zScT T m K o.2.1 C' ∧ zCg N C C' ∧ (∀ q, 7 ≤ q → q ≤ 12 → C' q = C q) ∧ C' 15 N = o.2.2.1 ∧ C' 14 N = o.2.2.2.1 ∧ C' 13 N = o.2.2.2.2 ∧ C' 6 9 = if rd = true then zrnd C N else C 6 9)
theorem zCMn_tr {N : Nat} {C1 C' : Nat → Nat → Int32} {r : Int32} {o : Int × Nat × Int32 × Int32 × Int32} {rd rd' : Bool} (h : zCMn T m K N C1 C' r o rd) (g : zCg N C C1) (g2 : ∀ q, 7 ≤ q → q ≤ 12 → C1 q = C q) (g3 : (if rd = true then zrnd C1 N else C1 6 9) = if rd' = true then zrnd C N else C 6 9) : zCMn T m K N C C' r o rd' := by
  rcases h with h | ⟨a1, a2, a3, a4, a5, a6, a7, a8, a9⟩
  · exact Or.inl h
  · exact Or.inr ⟨a1, a2, a3, zCg_tr g a4, fun q h1 h2 => (a5 q h1 h2).trans (g2 q h1 h2), a6, a7, a8, a9.trans g3⟩
theorem zc_manB (he : zeI e hp (zDC 7 6 x3 x4).length) {N : Nat} (hm : m ≤ 600) (hN : N < 9) : ∀ (j i t : Nat) (H D G : Int32) (C : Nat → Nat → Int32) (v5 : Int32) (c s : Nat), j + zpc t = 5 → t < 16 → zScT T m K i C → (C 10 N).toInt ≤ 4999 → 0 ≤ (C 10 N).toInt → C 15 N = H → C 14 N = D → C 13 N = G → zPn Lx xs n 57 (45, [(4, .int (Int32.ofInt (zpc t : Int))), (3, .int (Int32.ofInt 1)), (2, .int (Int32.ofInt (zcsn t : Int))), (5, .int v5), (0, .ref (e 0)), (1, .int (Int32.ofInt (N : Int)))], [], zHS e (zDC 7 6 x3 x4) C hp, c, s) (fun rv hp1 => ∃ r C', rv = some (.int r) ∧ hp1 = zHS e (zDC 7 6 x3 x4) C' hp ∧ zCMn T m K N C C' r (zManT T m (C 10 N) j i t H D G) (zManR T m (C 10 N) j i t)) := by
  intro j
  induction j with
  | zero =>
    intro i t H D G C v5 c s hj
    have := zpc_le t
    omega
  | succ j ih =>
    intro i t H D G C v5 c s hj ht hK hwd hwd0 hH hD hG
    have hwr : -1 ≤ zhw T m i ∧ zhw T m i ≤ 3 := by
      unfold zhw
      split <;> omega
    have hpc := zpc_le t
    have y4 : (Int32.ofInt (zpc t : Int)).toInt = zpc t := zof_ix (by omega)
    have hbz : zmb (zhw T m i) = 0 ↔ zhw T m i < 0 := by
      unfold zmb
      (repeat' split) <;> omega
    have yb : (Int32.ofInt (zmb (zhw T m i))).toInt = zmb (zhw T m i) := by
      refine zRt ?_
      unfold zmb zR
      (repeat' split) <;> omega
    have hb1 : 0 ≤ zhw T m i → ((Int32.ofInt (zcsn t : Int) &&& Int32.ofInt (zmb (zhw T m i))).toInt = 0 ↔ t.testBit (zhw T m i).toNat = false) := by
      intro g
      have := zcb1x t ht (zhw T m i).toNat (by omega)
      rwa [Int.toNat_of_nonneg g] at this
    iterate 2 refine zp0 (by rfl) rfl rfl ?_
    refine zy_icmpC (by rfl) (by rfl) ⟨by decide, by decide⟩ (fun h1 => ?_) (fun h1 => ?_)
    · refine zp0 (by rfl) rfl rfl ?_
      refine zp_retI (by rfl) ?_
      exfalso
      simp only [zcf, y4] at h1
      omega
    · refine zp0 (by rfl) rfl rfl ?_
      refine zy_if (by rfl) (by rfl) (fun h2 => ?_) (fun h2 => ?_)
      · refine zp0 (by rfl) rfl rfl ?_
        refine zp_retI (by rfl) ?_
        exfalso
        exact absurd h2 (show ¬ (Int32.ofInt 1).toInt = 0 by decide)
      · refine zp0 (by rfl) rfl rfl ?_
        refine zy_v0e (by rfl) (zc_mbit he hm hK) ?_
        iterate 2 refine zp0 (by rfl) rfl rfl ?_
        refine zy_if (by rfl) (by rfl) (fun h3 => ?_) (fun h3 => ?_)
        · iterate 3 refine zp0 (by rfl) rfl rfl ?_
          refine zy_if (by rfl) (by rfl) (fun h4 => ?_) (fun h4 => ?_)
          · iterate 5 refine zp0 (by rfl) rfl rfl ?_
            refine zy_ref (r := 1) he (by rfl) (by rfl) (by rfl) (by rfl) ?_
            have g0 : 0 ≤ zhw T m i := by
              simp only [zcf, yb] at h3
              omega
            have gt := (hb1 g0).mp h4
            have hb2 := zbt2 t ht (zhw T m i).toNat (by omega) gt
            have hb3 := zcb2x t ht (zhw T m i).toNat (by omega) gt
            rw [Int.toNat_of_nonneg g0] at hb2 hb3
            obtain ⟨-, b2, b3⟩ := hb2
            have hO1 : zManT T m (C 10 N) (j + 1) i t H D G = if zhw T m i = 0 then zManT T m (C 10 N) j (i + 1) (t + 1) H D G else if zsNum T m (i + 1) 0 (zhi (zhw T m i).toNat (C 10 N)).toInt ≠ 0 then (zsNum T m (i + 1) 0 (zhi (zhw T m i).toNat (C 10 N)).toInt, i + 1, H, D, G) else zManT T m (C 10 N) j (i + 2) (t + 2 ^ (zhw T m i).toNat) (if zhw T m i = 1 then zmw T m (i + 1) else H) (if zhw T m i = 2 then zmw T m (i + 1) else D) (if zhw T m i = 3 then zmw T m (i + 1) else G) := by
              show (if zhw T m i < 0 then _ else if t.testBit (zhw T m i).toNat = true then _ else _) = _
              rw [if_neg (by omega), if_neg (by rw [gt]; decide)]
            have hR1 : zManR T m (C 10 N) (j + 1) i t = if zhw T m i = 0 then true else if zsNum T m (i + 1) 0 (zhi (zhw T m i).toNat (C 10 N)).toInt ≠ 0 then false else zManR T m (C 10 N) j (i + 2) (t + 2 ^ (zhw T m i).toNat) := by
              show (if zhw T m i < 0 then _ else if t.testBit (zhw T m i).toNat = true then _ else _) = _
              rw [if_neg (by omega), if_neg (by rw [gt]; decide)]
            have c6 : zcnx C (i + 1) 6 = C 6 := zcnx_ne (by decide)
            have hk1 : zmk T m i ≠ 0 := by
              intro q
              unfold zhw at g0
              rw [if_neg (by omega)] at g0
              exact absurd g0 (by decide)
            have hlt := zScT_lt hK hm hk1
            have hK1 := zScT_nx hK hlt
            have c10 : zcnx C (i + 1) 10 = C 10 := zcnx_ne (by decide)
            have hman := zc_manner (Lx := Lx) (xs := xs) (n := n) (hp := hp) (x3 := x3) (x4 := x4) he hm hN hK1 g0 hwr.2 (by rw [c10]; exact hwd) (by rw [c10]; exact hwd0)
            rw [c10] at hman
            refine zy_v0 (by rfl) (zc_nx he hK hlt) ?_
            intro rv hp1 hq
            rw [hq.1, hq.2]
            iterate 3 refine zp0 (by rfl) rfl rfl ?_
            refine zy_v2 (by rfl) (hman) ?_
            intro rv hp1 hq
            obtain ⟨r2, C2, q1, q2, dj⟩ := hq
            rw [q1, q2]
            iterate 3 refine zp0 (by rfl) rfl rfl ?_
            rcases dj with ⟨d1, d2, d3⟩ | ⟨d1, ⟨d2, d3, d4⟩ | ⟨d2, d3, d4, d5⟩⟩
            · have e0 : (zhw T m i).toNat = 0 := by omega
              rw [e0] at b2 b3 hb3
              have hs : zScT T m K (i + 1) C2 := by
                rw [d3]
                exact zScT_fr hK1 rfl rfl rfl rfl
              have hg : zCg N C C2 := by
                rw [d3]
                exact zCg_tr zCg_nx ⟨fun _ _ => rfl, fun q hq => zuS_ne (by omega), fun f hf => zuS_off (Or.inr hf), fun q u h1 _ _ => by rw [zuS_ne (by omega)]⟩
              have hq : ∀ q, 7 ≤ q → q ≤ 15 → C2 q = C q := fun q h1 h2 => by
                rw [d3, zuS_ne (by omega), zcnx_ne (by omega)]
              have e4 : Int32.ofInt (zpc t : Int) + Int32.ofInt 1 = Int32.ofInt (zpc (t + 1) : Int) := by
                rw [zof_up]
                exact congrArg (fun q : Nat => Int32.ofInt (q : Int)) b3.symm
              show zPn Lx xs n 57 (45, [(4, .int (Int32.ofInt (zpc t : Int) + Int32.ofInt 1)), (3, .int r2), (2, .int (Int32.ofInt (zcsn t : Int) ||| Int32.ofInt (zmb (zhw T m i)))), (5, .int (Int32.ofInt (zmb (zhw T m i)))), (0, .ref (e 0)), (1, .int (Int32.ofInt (N : Int)))], [], zHS e (zDC 7 6 x3 x4) C2 hp, _, _) _
              rw [e4, hb3, d2, hO1, if_pos d1]
              have h9 := ih (i + 1) (t + 1) H D G C2 (Int32.ofInt (zmb (zhw T m i)))
              refine (h9 _ _ (by have : t + 2 ^ 0 = t + 1 := rfl; rw [this] at b3; omega) b2 hs (by rw [hq 10 (by decide) (by decide)]; exact hwd) (by rw [hq 10 (by decide) (by decide)]; exact hwd0) (by rw [hq 15 (by decide) (by decide)]; exact hH) (by rw [hq 14 (by decide) (by decide)]; exact hD) (by rw [hq 13 (by decide) (by decide)]; exact hG)).post ?_
              intro rv hp1 hqq
              obtain ⟨r3, C3, v1, v2, v3⟩ := hqq
              rw [hq 10 (by decide) (by decide)] at v3
              have h69 : C2 6 9 = zrnd C N := by rw [d3, zuS_at]; exact zrnd_e c6
              exact ⟨r3, C3, v1, v2, zCMn_tr v3 hg (fun q h1 h2 => hq q h1 (by omega)) (by rw [hR1, if_pos d1, if_pos rfl, zrnd_2 h69, h69]; split <;> rfl)⟩
            · have hx := zcref_x (f := Int32.ofInt (zsNum T m (i + 1) 0 (zhi (zhw T m i).toNat (C 10 N)).toInt)) hK1
              have hO : zManT T m (C 10 N) (j + 1) i t H D G = (zsNum T m (i + 1) 0 (zhi (zhw T m i).toNat (C 10 N)).toInt, i + 1, H, D, G) := by
                rw [hO1, if_neg d1, if_pos d2]
              have hfin : ∀ rv, rv = some (Value.int (Int32.ofInt 0)) → (∃ r C', rv = some (.int r) ∧ zHS e (zDC 7 6 x3 x4) C2 hp = zHS e (zDC 7 6 x3 x4) C' hp ∧ zCMn T m K N C C' r (zManT T m (C 10 N) (j + 1) i t H D G) (zManR T m (C 10 N) (j + 1) i t)) := by
                intro rv hrv
                refine ⟨_, _, hrv, rfl, Or.inl ⟨?_, by decide, ?_, ?_⟩⟩
                · rw [hO]
                  exact d2
                · rw [hO, d4]
                  exact hx.1
                · rw [hO, d4]
                  exact hx.2
              rw [d3]
              iterate 2 refine zp0 (by rfl) rfl rfl ?_
              refine zy_icmpC (by rfl) (by rfl) ⟨by decide, by decide⟩ (fun h61 => ?_) (fun h61 => ?_)
              · refine zp0 (by rfl) rfl rfl ?_
                refine zp_retI (by rfl) ?_
                exact hfin _ rfl
              · refine zp0 (by rfl) rfl rfl ?_
                refine zy_if (by rfl) (by rfl) (fun h62 => ?_) (fun h62 => ?_)
                · refine zp0 (by rfl) rfl rfl ?_
                  refine zp_retI (by rfl) ?_
                  exact hfin _ rfl
                · exfalso
                  exact absurd (show (Int32.ofInt 0).toInt = 0 by decide) h62
            · have hs := zCin (N := N) (q := zcel (zhw T m i)) (w := zmw T m (i + 1)) hK1 d5 (by unfold zcel; (repeat' split) <;> omega)
              rw [← d4] at hs
              obtain ⟨i1, i2, i3, i4⟩ := hs
              have hg : zCg N C C2 := zCg_tr zCg_nx i2
              have hcl : zcel (zhw T m i) = 15 ∨ zcel (zhw T m i) = 14 ∨ zcel (zhw T m i) = 13 := by
                unfold zcel
                (repeat' split) <;> omega
              have hq : ∀ q, q ≠ zcel (zhw T m i) → 7 ≤ q → q ≤ 15 → C2 q = C q := fun q h0 h1 h2 => by
                rw [i4 q h0 (by omega) h2, zcnx_ne (by omega)]
              have q10 : C2 10 = C 10 := hq 10 (by omega) (by decide) (by decide)
              have e4 : Int32.ofInt (zpc t : Int) + Int32.ofInt 1 = Int32.ofInt (zpc (t + 2 ^ (zhw T m i).toNat) : Int) := by
                rw [zof_up]
                exact congrArg (fun q : Nat => Int32.ofInt (q : Int)) b3.symm
              have f15 : C2 15 N = if zhw T m i = 1 then zmw T m (i + 1) else H := by
                by_cases g1 : zhw T m i = 1
                · have e : zcel (zhw T m i) = 15 := if_pos g1
                  rw [if_pos g1, ← i3, e]
                · rw [if_neg g1, hq 15 (by unfold zcel; (repeat' split) <;> omega) (by decide) (by decide)]
                  exact hH
              have f14 : C2 14 N = if zhw T m i = 2 then zmw T m (i + 1) else D := by
                by_cases g1 : zhw T m i = 2
                · have e : zcel (zhw T m i) = 14 := by
                    unfold zcel
                    rw [if_neg (by omega), if_pos g1]
                  rw [if_pos g1, ← i3, e]
                · rw [if_neg g1, hq 14 (by unfold zcel; (repeat' split) <;> omega) (by decide) (by decide)]
                  exact hD
              have f13 : C2 13 N = if zhw T m i = 3 then zmw T m (i + 1) else G := by
                by_cases g1 : zhw T m i = 3
                · have e : zcel (zhw T m i) = 13 := by
                    unfold zcel
                    rw [if_neg (by omega), if_neg (by omega)]
                  rw [if_pos g1, ← i3, e]
                · rw [if_neg g1, hq 13 (by unfold zcel; (repeat' split) <;> omega) (by decide) (by decide)]
                  exact hG
              show zPn Lx xs n 57 (45, [(4, .int (Int32.ofInt (zpc t : Int) + Int32.ofInt 1)), (3, .int r2), (2, .int (Int32.ofInt (zcsn t : Int) ||| Int32.ofInt (zmb (zhw T m i)))), (5, .int (Int32.ofInt (zmb (zhw T m i)))), (0, .ref (e 0)), (1, .int (Int32.ofInt (N : Int)))], [], zHS e (zDC 7 6 x3 x4) C2 hp, _, _) _
              rw [e4, hb3, d3, hO1, if_neg d1, if_neg (fun q => q d2)]
              have h9 := ih (i + 2) (t + 2 ^ (zhw T m i).toNat) (if zhw T m i = 1 then zmw T m (i + 1) else H) (if zhw T m i = 2 then zmw T m (i + 1) else D) (if zhw T m i = 3 then zmw T m (i + 1) else G) C2 (Int32.ofInt (zmb (zhw T m i)))
              refine (h9 _ _ (by omega) b2 i1 (by rw [q10]; exact hwd) (by rw [q10]; exact hwd0) f15 f14 f13).post ?_
              intro rv hp1 hqq
              obtain ⟨r3, C3, v1, v2, v3⟩ := hqq
              rw [q10] at v3
              have h6 : C2 6 = C 6 := by rw [i4 6 (by omega) (by decide) (by decide), c6]
              exact ⟨r3, C3, v1, v2, zCMn_tr v3 hg (fun q h1 h2 => hq q (by omega) h1 (by omega)) (by rw [hR1, if_neg d1, if_neg (show ¬ (zsNum T m (i + 1) 0 (zhi (zhw T m i).toNat (C 10 N)).toInt ≠ 0) from fun q => q d2), zrnd_e h6, h6])⟩
          · iterate 2 refine zp0 (by rfl) rfl rfl ?_
            refine zy_v1e (by rfl) (zc_refuse he _) ?_
            refine zp_retI (by rfl) ?_
            simp only [zcf, yb] at h3
            have g0 : 0 ≤ zhw T m i := by omega
            have gt : t.testBit (zhw T m i).toNat = true := by
              rw [← Bool.not_eq_false]
              exact fun q => h4 ((hb1 g0).mpr q)
            have hO : zManT T m (C 10 N) (j + 1) i t H D G = (3, i, H, D, G) := by
              unfold zManT
              rw [if_neg (by omega), if_pos gt]
            have hx := zcref_x (f := Int32.ofInt 3) hK
            refine ⟨_, _, rfl, rfl, Or.inl ⟨?_, by decide, ?_, ?_⟩⟩
            · rw [hO]
              exact (show (3 : Int) ≠ 0 by decide)
            · rw [hO]
              exact hx.1
            · rw [hO]
              exact hx.2
        · refine zp0 (by rfl) rfl rfl ?_
          refine zp_retI (by rfl) ?_
          have hz := (hbz.mp (Classical.byContradiction (fun q => by simp only [zcf, yb] at h3; omega)))
          have hO : zManT T m (C 10 N) (j + 1) i t H D G = (0, i, H, D, G) := if_pos hz
          refine ⟨_, _, rfl, rfl, Or.inr ⟨?_, by decide, ?_, zCg_rfl, fun _ _ _ => rfl, ?_, ?_, ?_, ?_⟩⟩
          · rw [hO]
          · rw [hO]
            exact hK
          · rw [hO]
            exact hH
          · rw [hO]
            exact hD
          · rw [hO]
            exact hG
          · rw [show zManR T m (C 10 N) (j + 1) i t = false from if_pos hz]
            rfl
theorem zc_manA1 (he : zeI e hp (zDC 7 6 x3 x4).length) {N i j t : Nat} (hm : m ≤ 600) (hN : N < 9) {H D G : Int32} (hj : j + 1 + zpc t = 5) (ht : t < 16) (hK : zScT T m K i C) (hwd : (C 10 N).toInt ≤ 4999) (hwd0 : 0 ≤ (C 10 N).toInt) (hH : C 15 N = H) (hD : C 14 N = D) (hG : C 13 N = G) {c s : Nat} : zPn Lx xs n 57 (45, [(4, .int (Int32.ofInt (zpc t : Int))), (3, .int (Int32.ofInt 1)), (2, .int (Int32.ofInt (zcsn t : Int))), (0, .ref (e 0)), (1, .int (Int32.ofInt (N : Int)))], [], zHS e (zDC 7 6 x3 x4) C hp, c, s) (fun rv hp1 => ∃ r C', rv = some (.int r) ∧ hp1 = zHS e (zDC 7 6 x3 x4) C' hp ∧ zCMn T m K N C C' r (zManT T m (C 10 N) (j + 1) i t H D G) (zManR T m (C 10 N) (j + 1) i t)) := by
  have hwr : -1 ≤ zhw T m i ∧ zhw T m i ≤ 3 := by
    unfold zhw
    split <;> omega
  have hpc := zpc_le t
  have y4 : (Int32.ofInt (zpc t : Int)).toInt = zpc t := zof_ix (by omega)
  have hbz : zmb (zhw T m i) = 0 ↔ zhw T m i < 0 := by
    unfold zmb
    (repeat' split) <;> omega
  have yb : (Int32.ofInt (zmb (zhw T m i))).toInt = zmb (zhw T m i) := by
    refine zRt ?_
    unfold zmb zR
    (repeat' split) <;> omega
  have hb1 : 0 ≤ zhw T m i → ((Int32.ofInt (zcsn t : Int) &&& Int32.ofInt (zmb (zhw T m i))).toInt = 0 ↔ t.testBit (zhw T m i).toNat = false) := by
    intro g
    have := zcb1x t ht (zhw T m i).toNat (by omega)
    rwa [Int.toNat_of_nonneg g] at this
  iterate 2 refine zp0 (by rfl) rfl rfl ?_
  refine zy_icmpC (by rfl) (by rfl) ⟨by decide, by decide⟩ (fun h1 => ?_) (fun h1 => ?_)
  · refine zp0 (by rfl) rfl rfl ?_
    refine zp_retI (by rfl) ?_
    exfalso
    simp only [zcf, y4] at h1
    omega
  · refine zp0 (by rfl) rfl rfl ?_
    refine zy_if (by rfl) (by rfl) (fun h2 => ?_) (fun h2 => ?_)
    · refine zp0 (by rfl) rfl rfl ?_
      refine zp_retI (by rfl) ?_
      exfalso
      exact absurd h2 (show ¬ (Int32.ofInt 1).toInt = 0 by decide)
    · refine zp0 (by rfl) rfl rfl ?_
      refine zy_v0e (by rfl) (zc_mbit he hm hK) ?_
      iterate 2 refine zp0 (by rfl) rfl rfl ?_
      refine zy_if (by rfl) (by rfl) (fun h3 => ?_) (fun h3 => ?_)
      · iterate 3 refine zp0 (by rfl) rfl rfl ?_
        refine zy_if (by rfl) (by rfl) (fun h4 => ?_) (fun h4 => ?_)
        · iterate 5 refine zp0 (by rfl) rfl rfl ?_
          refine zy_ref (r := 1) he (by rfl) (by rfl) (by rfl) (by rfl) ?_
          have g0 : 0 ≤ zhw T m i := by
            simp only [zcf, yb] at h3
            omega
          have gt := (hb1 g0).mp h4
          have hb2 := zbt2 t ht (zhw T m i).toNat (by omega) gt
          have hb3 := zcb2x t ht (zhw T m i).toNat (by omega) gt
          rw [Int.toNat_of_nonneg g0] at hb2 hb3
          obtain ⟨-, b2, b3⟩ := hb2
          have hO1 : zManT T m (C 10 N) (j + 1) i t H D G = if zhw T m i = 0 then zManT T m (C 10 N) j (i + 1) (t + 1) H D G else if zsNum T m (i + 1) 0 (zhi (zhw T m i).toNat (C 10 N)).toInt ≠ 0 then (zsNum T m (i + 1) 0 (zhi (zhw T m i).toNat (C 10 N)).toInt, i + 1, H, D, G) else zManT T m (C 10 N) j (i + 2) (t + 2 ^ (zhw T m i).toNat) (if zhw T m i = 1 then zmw T m (i + 1) else H) (if zhw T m i = 2 then zmw T m (i + 1) else D) (if zhw T m i = 3 then zmw T m (i + 1) else G) := by
            show (if zhw T m i < 0 then _ else if t.testBit (zhw T m i).toNat = true then _ else _) = _
            rw [if_neg (by omega), if_neg (by rw [gt]; decide)]
          have hR1 : zManR T m (C 10 N) (j + 1) i t = if zhw T m i = 0 then true else if zsNum T m (i + 1) 0 (zhi (zhw T m i).toNat (C 10 N)).toInt ≠ 0 then false else zManR T m (C 10 N) j (i + 2) (t + 2 ^ (zhw T m i).toNat) := by
            show (if zhw T m i < 0 then _ else if t.testBit (zhw T m i).toNat = true then _ else _) = _
            rw [if_neg (by omega), if_neg (by rw [gt]; decide)]
          have c6 : zcnx C (i + 1) 6 = C 6 := zcnx_ne (by decide)
          have hk1 : zmk T m i ≠ 0 := by
            intro q
            unfold zhw at g0
            rw [if_neg (by omega)] at g0
            exact absurd g0 (by decide)
          have hlt := zScT_lt hK hm hk1
          have hK1 := zScT_nx hK hlt
          have c10 : zcnx C (i + 1) 10 = C 10 := zcnx_ne (by decide)
          have hman := zc_manner (Lx := Lx) (xs := xs) (n := n) (hp := hp) (x3 := x3) (x4 := x4) he hm hN hK1 g0 hwr.2 (by rw [c10]; exact hwd) (by rw [c10]; exact hwd0)
          rw [c10] at hman
          refine zy_v0 (by rfl) (zc_nx he hK hlt) ?_
          intro rv hp1 hq
          rw [hq.1, hq.2]
          iterate 3 refine zp0 (by rfl) rfl rfl ?_
          refine zy_v2 (by rfl) (hman) ?_
          intro rv hp1 hq
          obtain ⟨r2, C2, q1, q2, dj⟩ := hq
          rw [q1, q2]
          iterate 3 refine zp0 (by rfl) rfl rfl ?_
          rcases dj with ⟨d1, d2, d3⟩ | ⟨d1, ⟨d2, d3, d4⟩ | ⟨d2, d3, d4, d5⟩⟩
          · have e0 : (zhw T m i).toNat = 0 := by omega
            rw [e0] at b2 b3 hb3
            have hs : zScT T m K (i + 1) C2 := by
              rw [d3]
              exact zScT_fr hK1 rfl rfl rfl rfl
            have hg : zCg N C C2 := by
              rw [d3]
              exact zCg_tr zCg_nx ⟨fun _ _ => rfl, fun q hq => zuS_ne (by omega), fun f hf => zuS_off (Or.inr hf), fun q u h1 _ _ => by rw [zuS_ne (by omega)]⟩
            have hq : ∀ q, 7 ≤ q → q ≤ 15 → C2 q = C q := fun q h1 h2 => by
              rw [d3, zuS_ne (by omega), zcnx_ne (by omega)]
            have e4 : Int32.ofInt (zpc t : Int) + Int32.ofInt 1 = Int32.ofInt (zpc (t + 1) : Int) := by
              rw [zof_up]
              exact congrArg (fun q : Nat => Int32.ofInt (q : Int)) b3.symm
            show zPn Lx xs n 57 (45, [(4, .int (Int32.ofInt (zpc t : Int) + Int32.ofInt 1)), (3, .int r2), (2, .int (Int32.ofInt (zcsn t : Int) ||| Int32.ofInt (zmb (zhw T m i)))), (5, .int (Int32.ofInt (zmb (zhw T m i)))), (0, .ref (e 0)), (1, .int (Int32.ofInt (N : Int)))], [], zHS e (zDC 7 6 x3 x4) C2 hp, _, _) _
            rw [e4, hb3, d2, hO1, if_pos d1]
            have h9 := zc_manB (Lx := Lx) (xs := xs) (n := n) (T := T) (K := K) he hm hN j (i + 1) (t + 1) H D G C2 (Int32.ofInt (zmb (zhw T m i)))
            refine (h9 _ _ (by have : t + 2 ^ 0 = t + 1 := rfl; rw [this] at b3; omega) b2 hs (by rw [hq 10 (by decide) (by decide)]; exact hwd) (by rw [hq 10 (by decide) (by decide)]; exact hwd0) (by rw [hq 15 (by decide) (by decide)]; exact hH) (by rw [hq 14 (by decide) (by decide)]; exact hD) (by rw [hq 13 (by decide) (by decide)]; exact hG)).post ?_
            intro rv hp1 hqq
            obtain ⟨r3, C3, v1, v2, v3⟩ := hqq
            rw [hq 10 (by decide) (by decide)] at v3
            have h69 : C2 6 9 = zrnd C N := by rw [d3, zuS_at]; exact zrnd_e c6
            exact ⟨r3, C3, v1, v2, zCMn_tr v3 hg (fun q h1 h2 => hq q h1 (by omega)) (by rw [hR1, if_pos d1, if_pos rfl, zrnd_2 h69, h69]; split <;> rfl)⟩
          · have hx := zcref_x (f := Int32.ofInt (zsNum T m (i + 1) 0 (zhi (zhw T m i).toNat (C 10 N)).toInt)) hK1
            have hO : zManT T m (C 10 N) (j + 1) i t H D G = (zsNum T m (i + 1) 0 (zhi (zhw T m i).toNat (C 10 N)).toInt, i + 1, H, D, G) := by
              rw [hO1, if_neg d1, if_pos d2]
            have hfin : ∀ rv, rv = some (Value.int (Int32.ofInt 0)) → (∃ r C', rv = some (.int r) ∧ zHS e (zDC 7 6 x3 x4) C2 hp = zHS e (zDC 7 6 x3 x4) C' hp ∧ zCMn T m K N C C' r (zManT T m (C 10 N) (j + 1) i t H D G) (zManR T m (C 10 N) (j + 1) i t)) := by
              intro rv hrv
              refine ⟨_, _, hrv, rfl, Or.inl ⟨?_, by decide, ?_, ?_⟩⟩
              · rw [hO]
                exact d2
              · rw [hO, d4]
                exact hx.1
              · rw [hO, d4]
                exact hx.2
            rw [d3]
            iterate 2 refine zp0 (by rfl) rfl rfl ?_
            refine zy_icmpC (by rfl) (by rfl) ⟨by decide, by decide⟩ (fun h61 => ?_) (fun h61 => ?_)
            · refine zp0 (by rfl) rfl rfl ?_
              refine zp_retI (by rfl) ?_
              exact hfin _ rfl
            · refine zp0 (by rfl) rfl rfl ?_
              refine zy_if (by rfl) (by rfl) (fun h62 => ?_) (fun h62 => ?_)
              · refine zp0 (by rfl) rfl rfl ?_
                refine zp_retI (by rfl) ?_
                exact hfin _ rfl
              · exfalso
                exact absurd (show (Int32.ofInt 0).toInt = 0 by decide) h62
          · have hs := zCin (N := N) (q := zcel (zhw T m i)) (w := zmw T m (i + 1)) hK1 d5 (by unfold zcel; (repeat' split) <;> omega)
            rw [← d4] at hs
            obtain ⟨i1, i2, i3, i4⟩ := hs
            have hg : zCg N C C2 := zCg_tr zCg_nx i2
            have hcl : zcel (zhw T m i) = 15 ∨ zcel (zhw T m i) = 14 ∨ zcel (zhw T m i) = 13 := by
              unfold zcel
              (repeat' split) <;> omega
            have hq : ∀ q, q ≠ zcel (zhw T m i) → 7 ≤ q → q ≤ 15 → C2 q = C q := fun q h0 h1 h2 => by
              rw [i4 q h0 (by omega) h2, zcnx_ne (by omega)]
            have q10 : C2 10 = C 10 := hq 10 (by omega) (by decide) (by decide)
            have e4 : Int32.ofInt (zpc t : Int) + Int32.ofInt 1 = Int32.ofInt (zpc (t + 2 ^ (zhw T m i).toNat) : Int) := by
              rw [zof_up]
              exact congrArg (fun q : Nat => Int32.ofInt (q : Int)) b3.symm
            have f15 : C2 15 N = if zhw T m i = 1 then zmw T m (i + 1) else H := by
              by_cases g1 : zhw T m i = 1
              · have e : zcel (zhw T m i) = 15 := if_pos g1
                rw [if_pos g1, ← i3, e]
              · rw [if_neg g1, hq 15 (by unfold zcel; (repeat' split) <;> omega) (by decide) (by decide)]
                exact hH
            have f14 : C2 14 N = if zhw T m i = 2 then zmw T m (i + 1) else D := by
              by_cases g1 : zhw T m i = 2
              · have e : zcel (zhw T m i) = 14 := by
                  unfold zcel
                  rw [if_neg (by omega), if_pos g1]
                rw [if_pos g1, ← i3, e]
              · rw [if_neg g1, hq 14 (by unfold zcel; (repeat' split) <;> omega) (by decide) (by decide)]
                exact hD
            have f13 : C2 13 N = if zhw T m i = 3 then zmw T m (i + 1) else G := by
              by_cases g1 : zhw T m i = 3
              · have e : zcel (zhw T m i) = 13 := by
                  unfold zcel
                  rw [if_neg (by omega), if_neg (by omega)]
                rw [if_pos g1, ← i3, e]
              · rw [if_neg g1, hq 13 (by unfold zcel; (repeat' split) <;> omega) (by decide) (by decide)]
                exact hG
            show zPn Lx xs n 57 (45, [(4, .int (Int32.ofInt (zpc t : Int) + Int32.ofInt 1)), (3, .int r2), (2, .int (Int32.ofInt (zcsn t : Int) ||| Int32.ofInt (zmb (zhw T m i)))), (5, .int (Int32.ofInt (zmb (zhw T m i)))), (0, .ref (e 0)), (1, .int (Int32.ofInt (N : Int)))], [], zHS e (zDC 7 6 x3 x4) C2 hp, _, _) _
            rw [e4, hb3, d3, hO1, if_neg d1, if_neg (fun q => q d2)]
            have h9 := zc_manB (Lx := Lx) (xs := xs) (n := n) (T := T) (K := K) he hm hN j (i + 2) (t + 2 ^ (zhw T m i).toNat) (if zhw T m i = 1 then zmw T m (i + 1) else H) (if zhw T m i = 2 then zmw T m (i + 1) else D) (if zhw T m i = 3 then zmw T m (i + 1) else G) C2 (Int32.ofInt (zmb (zhw T m i)))
            refine (h9 _ _ (by omega) b2 i1 (by rw [q10]; exact hwd) (by rw [q10]; exact hwd0) f15 f14 f13).post ?_
            intro rv hp1 hqq
            obtain ⟨r3, C3, v1, v2, v3⟩ := hqq
            rw [q10] at v3
            have h6 : C2 6 = C 6 := by rw [i4 6 (by omega) (by decide) (by decide), c6]
            exact ⟨r3, C3, v1, v2, zCMn_tr v3 hg (fun q h1 h2 => hq q (by omega) h1 (by omega)) (by rw [hR1, if_neg d1, if_neg (show ¬ (zsNum T m (i + 1) 0 (zhi (zhw T m i).toNat (C 10 N)).toInt ≠ 0) from fun q => q d2), zrnd_e h6, h6])⟩
        · iterate 2 refine zp0 (by rfl) rfl rfl ?_
          refine zy_v1e (by rfl) (zc_refuse he _) ?_
          refine zp_retI (by rfl) ?_
          simp only [zcf, yb] at h3
          have g0 : 0 ≤ zhw T m i := by omega
          have gt : t.testBit (zhw T m i).toNat = true := by
            rw [← Bool.not_eq_false]
            exact fun q => h4 ((hb1 g0).mpr q)
          have hO : zManT T m (C 10 N) (j + 1) i t H D G = (3, i, H, D, G) := by
            unfold zManT
            rw [if_neg (by omega), if_pos gt]
          have hx := zcref_x (f := Int32.ofInt 3) hK
          refine ⟨_, _, rfl, rfl, Or.inl ⟨?_, by decide, ?_, ?_⟩⟩
          · rw [hO]
            exact (show (3 : Int) ≠ 0 by decide)
          · rw [hO]
            exact hx.1
          · rw [hO]
            exact hx.2
      · refine zp0 (by rfl) rfl rfl ?_
        refine zp_retI (by rfl) ?_
        have hz := (hbz.mp (Classical.byContradiction (fun q => by simp only [zcf, yb] at h3; omega)))
        have hO : zManT T m (C 10 N) (j + 1) i t H D G = (0, i, H, D, G) := if_pos hz
        refine ⟨_, _, rfl, rfl, Or.inr ⟨?_, by decide, ?_, zCg_rfl, fun _ _ _ => rfl, ?_, ?_, ?_, ?_⟩⟩
        · rw [hO]
        · rw [hO]
          exact hK
        · rw [hO]
          exact hH
        · rw [hO]
          exact hD
        · rw [hO]
          exact hG
        · rw [show zManR T m (C 10 N) (j + 1) i t = false from if_pos hz]
          rfl
theorem zc_manA (he : zeI e hp (zDC 7 6 x3 x4).length) {N i : Nat} (hm : m ≤ 600) (hN : N < 9) {H D G : Int32} (hK : zScT T m K i C) (hwd : (C 10 N).toInt ≤ 4999) (hwd0 : 0 ≤ (C 10 N).toInt) (hH : C 15 N = H) (hD : C 14 N = D) (hG : C 13 N = G) {c s : Nat} : zPn Lx xs n 57 (45, [(4, .int (Int32.ofInt 0)), (3, .int (Int32.ofInt 1)), (2, .int (Int32.ofInt 0)), (0, .ref (e 0)), (1, .int (Int32.ofInt (N : Int)))], [], zHS e (zDC 7 6 x3 x4) C hp, c, s) (fun rv hp1 => ∃ r C', rv = some (.int r) ∧ hp1 = zHS e (zDC 7 6 x3 x4) C' hp ∧ zCMn T m K N C C' r (zManT T m (C 10 N) 5 i 0 H D G) (zManR T m (C 10 N) 5 i 0)) := zc_manA1 (j := 4) (t := 0) he hm hN rfl (by decide) hK hwd hwd0 hH hD hG
end ZCLG
