/-! a thing's line in the class -/
section ZCLH
variable {Lx : Nat} {xs : Nat → Int32} {n : Nat} {hp : List zhE} {e : Nat → Nat} {C : Nat → Nat → Int32} {x3 x4 m K : Nat} {T : Nat → Int32}
theorem zc_manners (he : zeI e hp (zDC 7 6 x3 x4).length) {N i : Nat} (hm : m ≤ 600) (hN : N < 9) (hK : zScT T m K i C) (hwd : (C 10 N).toInt ≤ 4999) (hwd0 : 0 ≤ (C 10 N).toInt) : zPn Lx xs n 57 (0, lv_args 0 [.ref (e 0), .int (Int32.ofInt (N : Int))], [], zHS e (zDC 7 6 x3 x4) C hp, 0, 0) (fun rv hp1 => ∃ r C', rv = some (.int r) ∧ hp1 = zHS e (zDC 7 6 x3 x4) C' hp ∧ zCMn T m K N C C' r (zManT T m (C 10 N) 5 i 0 (C 10 N) (Int32.ofInt 0) (Int32.ofInt 5)) (zManR T m (C 10 N) 5 i 0)) := by
  have cn : (Int32.ofInt (N : Int)).toNatClampNeg = N := zof_cl (by omega)
  refine zp0 (by rfl) rfl rfl ?_
  refine zy_ref (r := 6) he (by rfl) (by rfl) (by rfl) (by rfl) ?_
  refine zy_ref (r := 15) he (by rfl) (by rfl) (by rfl) (by rfl) ?_
  iterate 2 refine zp0 (by rfl) rfl rfl ?_
  refine zy_ref (r := 6) he (by rfl) (by rfl) (by rfl) (by rfl) ?_
  refine zy_ref (r := 10) he (by rfl) (by rfl) (by rfl) (by rfl) ?_
  refine zp0 (by rfl) rfl rfl ?_
  refine zy_ald he (by rfl) (by rfl) (fun u1 w1 => ?_)
  refine zy_ast he (by rfl) (by rfl) (fun u2 w2 => ?_)
  refine zp0 (by rfl) rfl rfl ?_
  refine zy_ref (r := 6) he (by rfl) (by rfl) (by rfl) (by rfl) ?_
  refine zy_ref (r := 13) he (by rfl) (by rfl) (by rfl) (by rfl) ?_
  iterate 2 refine zp0 (by rfl) rfl rfl ?_
  refine zy_ast he (by rfl) (by rfl) (fun u3 w3 => ?_)
  refine zp0 (by rfl) rfl rfl ?_
  refine zy_ref (r := 6) he (by rfl) (by rfl) (by rfl) (by rfl) ?_
  refine zy_ref (r := 14) he (by rfl) (by rfl) (by rfl) (by rfl) ?_
  iterate 2 refine zp0 (by rfl) rfl rfl ?_
  refine zy_ast he (by rfl) (by rfl) (fun u4 w4 => ?_)
  iterate 6 refine zp0 (by rfl) rfl rfl ?_
  have hU : zuS (zuS (zuS C 15 (Int32.ofInt (N : Int)).toNatClampNeg (C 10 (Int32.ofInt (N : Int)).toNatClampNeg)) 13 (Int32.ofInt (N : Int)).toNatClampNeg (Int32.ofInt 5)) 14 (Int32.ofInt (N : Int)).toNatClampNeg (Int32.ofInt 0) = zuS (zuS (zuS C 15 N (C 10 N)) 13 N (Int32.ofInt 5)) 14 N (Int32.ofInt 0) := by rw [cn]
  show zPn Lx xs n 57 (45, [(4, .int (Int32.ofInt 0)), (3, .int (Int32.ofInt 1)), (2, .int (Int32.ofInt 0)), (0, .ref (e 0)), (1, .int (Int32.ofInt (N : Int)))], [], zHS e (zDC 7 6 x3 x4) (zuS (zuS (zuS C 15 (Int32.ofInt (N : Int)).toNatClampNeg (C 10 (Int32.ofInt (N : Int)).toNatClampNeg)) 13 (Int32.ofInt (N : Int)).toNatClampNeg (Int32.ofInt 5)) 14 (Int32.ofInt (N : Int)).toNatClampNeg (Int32.ofInt 0)) hp, _, _) _
  rw [hU]
  have hK0 : zScT T m K i (zuS (zuS (zuS C 15 N (C 10 N)) 13 N (Int32.ofInt 5)) 14 N (Int32.ofInt 0)) := zScT_fr hK rfl rfl rfl rfl
  have hg : zCg N C (zuS (zuS (zuS C 15 N (C 10 N)) 13 N (Int32.ofInt 5)) 14 N (Int32.ofInt 0)) := ⟨fun _ _ => rfl, fun q hq => by rw [zuS_ne (by omega), zuS_ne (by omega), zuS_ne (by omega)], fun _ _ => rfl, fun q u _ _ h3 => by rw [zuS_off (Or.inr h3), zuS_off (Or.inr h3), zuS_off (Or.inr h3)]⟩
  have hq : ∀ q, 7 ≤ q → q ≤ 12 → zuS (zuS (zuS C 15 N (C 10 N)) 13 N (Int32.ofInt 5)) 14 N (Int32.ofInt 0) q = C q := fun q h1 h2 => by rw [zuS_ne (by omega), zuS_ne (by omega), zuS_ne (by omega)]
  have f15 : zuS (zuS (zuS C 15 N (C 10 N)) 13 N (Int32.ofInt 5)) 14 N (Int32.ofInt 0) 15 N = C 10 N := by rw [zuS_ne (by decide), zuS_ne (by decide), zuS_at]
  have f14 : zuS (zuS (zuS C 15 N (C 10 N)) 13 N (Int32.ofInt 5)) 14 N (Int32.ofInt 0) 14 N = Int32.ofInt 0 := zuS_at
  have f13 : zuS (zuS (zuS C 15 N (C 10 N)) 13 N (Int32.ofInt 5)) 14 N (Int32.ofInt 0) 13 N = Int32.ofInt 5 := by rw [zuS_ne (by decide), zuS_at]
  have h6 : zuS (zuS (zuS C 15 N (C 10 N)) 13 N (Int32.ofInt 5)) 14 N (Int32.ofInt 0) 6 = C 6 := rfl
  generalize zuS (zuS (zuS C 15 N (C 10 N)) 13 N (Int32.ofInt 5)) 14 N (Int32.ofInt 0) = C1 at hK0 hg hq f15 f14 f13 h6
  have q10 := hq 10 (by decide) (by decide)
  refine (zc_manA he hm hN hK0 (by rw [q10]; exact hwd) (by rw [q10]; exact hwd0) f15 f14 f13).post ?_
  intro rv hp1 hh
  obtain ⟨r, C', v1, v2, v3⟩ := hh
  rw [q10] at v3
  exact ⟨r, C', v1, v2, zCMn_tr v3 hg hq (by rw [zrnd_e h6, h6])⟩
abbrev zovcr (l f w h : Int32) (C : Nat → Nat → Int32) (y : Nat) : Prop := l.toInt < (C 8 y + C 10 y).toInt ∧ (C 8 y).toInt < (l + w).toInt ∧ f.toInt < (C 9 y + C 11 y).toInt ∧ (C 9 y).toInt < (f + h).toInt
def zThC (T : Nat → Int32) (m n : Nat) (C : Nat → Nat → Int32) (i : Nat) : Int × Nat × Int32 × Int32 × Int32 := zThing T m n (C 7) (fun u => decide (zovcr (zmw T m (i + 2)) (zmw T m (i + 3)) (zmw T m (i + 4)) (zmw T m (i + 5)) C u)) i
def zThCR (T : Nat → Int32) (m K n i : Nat) (C C' : Nat → Nat → Int32) (r : Int32) : Prop :=
  ((zThC T m n C i).1 ≠ 0 ∧ r.toInt = 0 ∧ C' 0 4 = Int32.ofInt (zThC T m n C i).1 ∧ C' 0 5 = Int32.ofInt (zpl T m (zThC T m n C i).2.1 : Nat)) ∨
  ((zThC T m n C i).1 = 0 ∧ r.toInt ≠ 0 ∧ zScT T m K ((zThC T m n C i).2.1 + 1) C' ∧ C' 6 10 = Int32.ofInt ((n + 1 : Nat) : Int) ∧ (∀ f, f ≠ 6 → C' 0 f = C 0 f) ∧ (∀ q, q = 2 ∨ q = 3 ∨ q = 4 ∨ q = 5 ∨ 15 < q → C' q = C q) ∧ (∀ f, f ≠ 9 → f ≠ 10 → C' 6 f = C 6 f) ∧ (∀ q u, 7 ≤ q → q ≤ 15 → u ≠ n → C' q u = C q u) ∧ C' 7 n = zmw T m (i + 1) ∧ C' 8 n = zmw T m (i + 2) ∧ C' 9 n = zmw T m (i + 3) ∧ C' 10 n = zmw T m (i + 4) ∧ C' 11 n = zmw T m (i + 5) ∧ C' 12 n = zmw T m (i + 6) ∧ C' 15 n = (zThC T m n C i).2.2.1 ∧ C' 14 n = (zThC T m n C i).2.2.2.1 ∧ C' 13 n = (zThC T m n C i).2.2.2.2 ∧ C' 6 9 = if zManR T m (zmw T m (i + 4)) 5 (i + 7) 0 = true then zrnd C n else C 6 9)
theorem zThing_mea {n i : Nat} {nm : Nat → Int32} {ov : Nat → Bool} (h9 : ¬ n = 9) (hk : ¬ zmk T m (i + 1) ≠ 2) (hf : ¬ 0 ≤ zfindA nm 0 (zmw T m (i + 1)) n 0) : ((zMeaF T m (i + 2)).1 ≠ 0 → (zThing T m n nm ov i).1 = (zMeaF T m (i + 2)).1 ∧ (zThing T m n nm ov i).2.1 = (zMeaF T m (i + 2)).2) ∧ ((zMeaF T m (i + 2)).1 = 0 → zThing T m n nm ov i = zThB T m n ov i (zManT T m (zmw T m (i + 4)) 5 (i + 7) 0 (zmw T m (i + 4)) (Int32.ofInt 0) (Int32.ofInt 5)) ∧ zsNum T m (i + 4) 1 12 = 0) := by
  unfold zThing zMeaF
  dsimp only
  rw [if_neg h9, if_neg hk, if_neg hf, show i + 2 + 1 = i + 3 from rfl, show i + 2 + 2 = i + 4 from rfl, show i + 2 + 3 = i + 5 from rfl, show i + 2 + 4 = i + 6 from rfl]
  by_cases g0 : zsNum T m (i + 2) 0 39 ≠ 0
  · rw [if_pos g0, if_pos g0]
    exact ⟨fun _ => ⟨rfl, rfl⟩, fun q => absurd q g0⟩
  rw [if_neg g0, if_neg g0]
  by_cases g1 : zsNum T m (i + 3) 0 39 ≠ 0
  · rw [if_pos g1, if_pos g1]
    exact ⟨fun _ => ⟨rfl, rfl⟩, fun q => absurd q g1⟩
  rw [if_neg g1, if_neg g1]
  by_cases g2 : zsNum T m (i + 4) 1 12 ≠ 0
  · rw [if_pos g2, if_pos g2]
    exact ⟨fun _ => ⟨rfl, rfl⟩, fun q => absurd q g2⟩
  rw [if_neg g2, if_neg g2]
  by_cases g3 : zsNum T m (i + 5) 1 12 ≠ 0
  · rw [if_pos g3, if_pos g3]
    exact ⟨fun _ => ⟨rfl, rfl⟩, fun q => absurd q g3⟩
  rw [if_neg g3, if_neg g3]
  by_cases g4 : zsNum T m (i + 6) 1 99 ≠ 0
  · rw [if_pos g4, if_pos g4]
    exact ⟨fun _ => ⟨rfl, rfl⟩, fun q => absurd q g4⟩
  rw [if_neg g4, if_neg g4]
  exact ⟨fun q => absurd rfl q, fun _ => ⟨rfl, Classical.not_not.mp g2⟩⟩
theorem zc_thing (he : zeI e hp (zDC 7 6 x3 x4).length) {N i : Nat} (hm : m ≤ 600) (hN : N ≤ 9) (hC : C 6 10 = Int32.ofInt (N : Int)) (hK : zScT T m K i C) (hk0 : zmk T m i ≠ 0) : zPn Lx xs n 54 (0, lv_args 0 [.ref (e 0)], [], zHS e (zDC 7 6 x3 x4) C hp, 0, 0) (fun rv hp1 => ∃ r C', rv = some (.int r) ∧ hp1 = zHS e (zDC 7 6 x3 x4) C' hp ∧ zThCR T m K N i C C' r) := by
  have yn : (C 6 10).toInt = N := by rw [hC]; exact zof_ix (by omega)
  have cn : (Int32.ofInt (N : Int)).toNatClampNeg = N := zof_cl (by omega)
  have hlt := zScT_lt hK hm hk0
  have hK1 := zScT_nx hK hlt
  have hI1 := zScT_i hK1 hm
  have f1 : ∀ q, q ≠ 1 → zcnx C (i + 1) q = C q := fun q hq => zcnx_ne hq
  have z9 : zcnx C (i + 1) 1 9 = Int32.ofInt (zpl T m (i + 1) : Nat) := hK1.2.2.2.2.2.2.2.2.1
  have hnx := zc_nx (Lx := Lx) (xs := xs) (n := n) (hp := hp) (x1 := 7) (x2 := 6) (x3 := x3) (x4 := x4) he hK hlt
  generalize zcnx C (i + 1) = C1 at hK1 hI1 f1 z9 hnx
  refine zp0 (by rfl) rfl rfl ?_
  refine zy_ref (r := 6) he (by rfl) (by rfl) (by rfl) (by rfl) ?_
  refine zy_get (b := 10) he (by rfl) (by rfl) (by rfl) (by rfl) ?_
  iterate 2 refine zp0 (by rfl) rfl rfl ?_
  refine zq_bip (by rfl) (by decide) ?_
  refine zy_icmpC (by rfl) (by rfl) ⟨by decide, by decide⟩ (fun h1 => ?_) (fun h1 => ?_)
  · refine zp0 (by rfl) rfl rfl ?_
    refine zy_ref (r := 1) he (by rfl) (by rfl) (by rfl) (by rfl) ?_
    refine zy_v0n (by rfl) (hnx) ?_
    simp only [zcf, yn] at h1
    have n9 : ¬ N = 9 := by omega
    refine zp0 (by rfl) rfl rfl ?_
    refine zy_ref (r := 1) he (by rfl) (by rfl) (by rfl) (by rfl) ?_
    refine zy_get (b := 9) he (by rfl) (by rfl) (by rfl) (by rfl) ?_
    iterate 2 refine zp0 (by rfl) rfl rfl ?_
    refine zy_ref (r := 1) he (by rfl) (by rfl) (by rfl) (by rfl) ?_
    refine zy_get (b := 8) he (by rfl) (by rfl) (by rfl) (by rfl) ?_
    refine zp0 (by rfl) rfl rfl ?_
    refine zy_icmpC (by rfl) (by rfl) ⟨by decide, by decide⟩ (fun h21 => ?_) (fun h21 => ?_)
    · iterate 2 refine zp0 (by rfl) rfl rfl ?_
      refine zy_v1e (by rfl) (zc_refuse he _) ?_
      refine zp_retI (by rfl) ?_
      simp only [zcf] at h21
      have nk : zmk T m (i + 1) ≠ 2 := by
        rcases hI1 with h | ⟨v, h⟩ | h | h | h | h | h <;> omega
      have hO : (zThC T m N C i).1 = 1 ∧ (zThC T m N C i).2.1 = i + 1 := by
        unfold zThC zThing
        dsimp only
        rw [if_neg n9, if_pos nk]
        exact ⟨rfl, rfl⟩
      have hx := zcref_x (f := Int32.ofInt 1) hK1
      refine ⟨_, _, rfl, rfl, Or.inl ⟨?_, by decide, ?_, ?_⟩⟩
      · rw [hO.1]
        decide
      · rw [hO.1]
        exact hx.1
      · rw [hO.2]
        exact hx.2
    · refine zp0 (by rfl) rfl rfl ?_
      refine zy_ref (r := 1) he (by rfl) (by rfl) (by rfl) (by rfl) ?_
      refine zy_v0 (by rfl) (zc_lang he) ?_
      intro rv hp1 hq
      obtain ⟨r, q1, q2, hl⟩ := hq
      rw [q1, q2]
      refine zy_if (by rfl) (by rfl) (fun h22 => ?_) (fun h22 => ?_)
      · simp only [zcf] at h21
        have hl2 : ¬ ∃ w, w < 17 ∧ (C1 1 10).toInt = (zWpk.getD w 0 : Nat) := fun q => (hl.mpr q) h22
        have nk : ¬ zmk T m (i + 1) ≠ 2 := by
          rcases hI1 with h | ⟨v, h⟩ | h | h | h | h | h
          · omega
          · exact absurd ⟨v, h.1, h.2.2.2.2⟩ hl2
          · omega
          · omega
          · omega
          · omega
          · omega
        have hv : C1 1 10 = zmw T m (i + 1) := by
          have e1 : (C1 1 10).toInt = (zmw T m (i + 1)).toInt := by
            rcases hI1 with h | ⟨v, h⟩ | h | h | h | h | h <;> omega
          rw [← Int32.ofInt_toInt (C1 1 10), e1, Int32.ofInt_toInt]
        have hC1 : C1 6 10 = Int32.ofInt (N : Int) := by rw [f1 6 (by decide)]; exact hC
        have hfi := zc_find (Lx := Lx) (xs := xs) (n := n) (hp := hp) (C := C1) (x3 := x3) (x4 := x4) he hC1 hN (zmw T m (i + 1))
        rw [f1 7 (by decide)] at hfi
        have frg := zfindA_rg (T := C 7) (x := zmw T m (i + 1)) N 0
        have fx : (Int32.ofInt (zfindA (C 7) 0 (zmw T m (i + 1)) N 0)).toInt = zfindA (C 7) 0 (zmw T m (i + 1)) N 0 := zRt ⟨by omega, by omega⟩
        show zPn Lx xs n 54 (62, [(2, .int (C1 1 9)), (1, .int (C 6 10)), (0, .ref (e 0))], [], zHS e (zDC 7 6 x3 x4) C1 hp, _, _) _
        rw [z9, hC]
        refine zp0 (by rfl) rfl rfl ?_
        refine zy_ref (r := 6) he (by rfl) (by rfl) (by rfl) (by rfl) ?_
        refine zp0 (by rfl) rfl rfl ?_
        refine zy_ref (r := 1) he (by rfl) (by rfl) (by rfl) (by rfl) ?_
        refine zy_get (b := 10) he (by rfl) (by rfl) (by rfl) (by rfl) ?_
        rw [hv]
        refine zy_v1e (by rfl) (hfi) ?_
        refine zy_if (by rfl) (by rfl) (fun h31 => ?_) (fun h31 => ?_)
        · simp only [zcf, fx] at h31
          have nf : ¬ 0 ≤ zfindA (C 7) 0 (zmw T m (i + 1)) N 0 := by omega
          refine zp0 (by rfl) rfl rfl ?_
          refine zy_ref (r := 6) he (by rfl) (by rfl) (by rfl) (by rfl) ?_
          refine zy_ref (r := 7) he (by rfl) (by rfl) (by rfl) (by rfl) ?_
          iterate 2 refine zp0 (by rfl) rfl rfl ?_
          refine zy_ref (r := 1) he (by rfl) (by rfl) (by rfl) (by rfl) ?_
          refine zy_get (b := 10) he (by rfl) (by rfl) (by rfl) (by rfl) ?_
          refine zy_ast he (by rfl) (by rfl) (fun u41 w41 => ?_)
          have hU : zuS C1 7 (Int32.ofInt (N : Int)).toNatClampNeg (C1 1 10) = zuS C1 7 N (zmw T m (i + 1)) := by rw [cn, hv]
          show zPn Lx xs n 54 (101, [(2, .int (Int32.ofInt (zpl T m (i + 1) : Nat))), (1, .int (Int32.ofInt (N : Int))), (0, .ref (e 0))], [], zHS e (zDC 7 6 x3 x4) (zuS C1 7 (Int32.ofInt (N : Int)).toNatClampNeg (C1 1 10)) hp, _, _) _
          rw [hU]
          have hK2 : zScT T m K (i + 1) (zuS C1 7 N (zmw T m (i + 1))) := zScT_fr hK1 rfl rfl rfl rfl
          have hlt2 := zScT_lt hK1 hm (by omega)
          have hK3 := zScT_nx hK2 hlt2
          have hnx2 := zc_nx (Lx := Lx) (xs := xs) (n := n) (hp := hp) (x1 := 7) (x2 := 6) (x3 := x3) (x4 := x4) he hK2 hlt2
          have g3 : zCg N C (zcnx (zuS C1 7 N (zmw T m (i + 1))) (i + 1 + 1)) := ⟨fun f _ => by rw [zcnx_ne (by decide), zuS_ne (by decide), f1 0 (by decide)], fun q hq => by rw [zcnx_ne (by omega), zuS_ne (by omega), f1 q (by omega)], fun f _ => by rw [zcnx_ne (by decide), zuS_ne (by decide), f1 6 (by decide)], fun q u h1 h2 h3 => by rw [zcnx_ne (by omega), zuS_off (Or.inr h3), f1 q (by omega)]⟩
          have x6 : zcnx (zuS C1 7 N (zmw T m (i + 1))) (i + 1 + 1) 6 = C 6 := by rw [zcnx_ne (by decide), zuS_ne (by decide), f1 6 (by decide)]
          have v7 : zcnx (zuS C1 7 N (zmw T m (i + 1))) (i + 1 + 1) 7 N = zmw T m (i + 1) := by rw [zcnx_ne (by decide), zuS_at]
          generalize zcnx (zuS C1 7 N (zmw T m (i + 1))) (i + 1 + 1) = C3 at hK3 hnx2 g3 v7 x6
          have hmea := zThing_mea (T := T) (m := m) (nm := C 7) (ov := fun u => decide (zovcr (zmw T m (i + 2)) (zmw T m (i + 3)) (zmw T m (i + 4)) (zmw T m (i + 5)) C u)) n9 nk nf
          refine zp0 (by rfl) rfl rfl ?_
          refine zy_ref (r := 1) he (by rfl) (by rfl) (by rfl) (by rfl) ?_
          refine zy_v0n (by rfl) (hnx2) ?_
          iterate 2 refine zp0 (by rfl) rfl rfl ?_
          refine zy_v1 (by rfl) (zc_meas he hm (by omega) hK3) ?_
          intro rv hp1 hq
          obtain ⟨r4, C4, q1, q2, dm⟩ := hq
          rw [q1, q2]
          refine zy_if (by rfl) (by rfl) (fun h51 => ?_) (fun h51 => ?_)
          · refine zp0 (by rfl) rfl rfl ?_
            refine zp_retI (by rfl) ?_
            rcases dm with ⟨d1, d2, d3, d4⟩ | ⟨d1, d2, d3⟩
            · obtain ⟨o1, o2⟩ := hmea.1 d1
              refine ⟨_, _, rfl, rfl, Or.inl ⟨?_, by decide, ?_, ?_⟩⟩
              · show (zThing _ _ _ _ _ _).1 ≠ 0
                rw [o1]
                exact d1
              · show C4 0 4 = Int32.ofInt (zThing _ _ _ _ _ _).1
                rw [o1]
                exact d3
              · show C4 0 5 = Int32.ofInt (zpl T m (zThing _ _ _ _ _ _).2.1 : Nat)
                rw [o2]
                exact d4
            · exact absurd h51 d2
          · rcases dm with ⟨d1, d2, d3, d4⟩ | ⟨d1, d2, hK4, g4, u6, u7, v8, v9, v10, v11, v12⟩
            · exact absurd d2 h51
            obtain ⟨hO, hw12⟩ := hmea.2 d1
            have v10b : C4 10 N = zmw T m (i + 4) := v10
            have hwd : 1 ≤ (zmw T m (i + 4)).toInt ∧ (zmw T m (i + 4)).toInt ≤ 12 := by
              unfold zsNum at hw12
              by_cases q1 : zmk T m (i + 4) ≠ 3
              · rw [if_pos q1] at hw12
                exact absurd hw12 (by decide)
              · rw [if_neg q1] at hw12
                by_cases q2 : 1 ≤ (zmw T m (i + 4)).toInt ∧ (zmw T m (i + 4)).toInt ≤ 12
                · exact q2
                · rw [if_neg q2] at hw12
                  exact absurd hw12 (by decide)
            have hman := zc_manners (Lx := Lx) (xs := xs) (n := n) (hp := hp) (x3 := x3) (x4 := x4) (N := N) he hm (by omega) hK4 (by rw [v10b]; omega) (by rw [v10b]; omega)
            rw [v10b] at hman
            have hO2 : zThC T m N C i = zThB T m N (fun u => decide (zovcr (zmw T m (i + 2)) (zmw T m (i + 3)) (zmw T m (i + 4)) (zmw T m (i + 5)) C u)) i (zManT T m (zmw T m (i + 4)) 5 (i + 7) 0 (zmw T m (i + 4)) (Int32.ofInt 0) (Int32.ofInt 5)) := hO
            generalize hMo : zManT T m (zmw T m (i + 4)) 5 (i + 7) 0 (zmw T m (i + 4)) (Int32.ofInt 0) (Int32.ofInt 5) = o at hO2 hO
            have hman2 : zPn Lx xs n 57 (0, lv_args 0 [.ref (e 0), .int (Int32.ofInt (N : Int))], [], zHS e (zDC 7 6 x3 x4) C4 hp, 0, 0) (fun rv hp1 => ∃ r C', rv = some (.int r) ∧ hp1 = zHS e (zDC 7 6 x3 x4) C' hp ∧ zCMn T m K N C4 C' r o (zManR T m (zmw T m (i + 4)) 5 (i + 7) 0)) := by
              rw [← hMo]
              exact hman
            iterate 2 refine zp0 (by rfl) rfl rfl ?_
            refine zy_v1 (by rfl) (hman2) ?_
            intro rv hp1 hq
            obtain ⟨r5, C5, q1, q2, dn⟩ := hq
            rw [q1, q2]
            refine zy_if (by rfl) (by rfl) (fun h61 => ?_) (fun h61 => ?_)
            · rcases dn with ⟨e1, e2, e3, e4⟩ | ⟨e1, e2, hK5, g5, e3, w15, w14, w13, wr⟩
              · exact absurd e2 h61
              have hI5 := zScT_i hK5 hm
              have k59 : (Int32.ofInt 59).toInt = 59 := by decide
              have hsg := zTRi_sg hI5 (x := 59) (by decide)
              rw [← k59] at hsg
              have x46 : C4 6 = C 6 := by rw [u6, x6]
              rw [zrnd_e x46, x46] at wr
              have gg : zCg N C C5 := zCg_tr (zCg_tr g3 g4) g5
              have y7 : C5 7 N = zmw T m (i + 1) := by rw [e3 7 (by decide) (by decide), u7]; exact v7
              have y8 : C5 8 N = zmw T m (i + 2) := by rw [e3 8 (by decide) (by decide)]; exact v8
              have y9 : C5 9 N = zmw T m (i + 3) := by rw [e3 9 (by decide) (by decide)]; exact v9
              have y10 : C5 10 N = zmw T m (i + 4) := by rw [e3 10 (by decide) (by decide)]; exact v10
              have y11 : C5 11 N = zmw T m (i + 5) := by rw [e3 11 (by decide) (by decide)]; exact v11
              have y12 : C5 12 N = zmw T m (i + 6) := by rw [e3 12 (by decide) (by decide)]; exact v12
              have hov : zanyF (fun u => decide (zovc C5 N u)) N 0 = zanyF (fun u => decide (zovcr (zmw T m (i + 2)) (zmw T m (i + 3)) (zmw T m (i + 4)) (zmw T m (i + 5)) C u)) N 0 := by
                refine zanyF_congr N 0 (fun u _ hu => ?_)
                have gq := fun q (h1 : 7 ≤ q) (h2 : q ≤ 15) => gg.2.2.2 q u h1 h2 (by omega)
                show decide (zovc C5 N u) = decide (zovcr _ _ _ _ C u)
                unfold zovc zovcr
                rw [y8, y9, y10, y11, gq 8 (by decide) (by decide), gq 9 (by decide) (by decide), gq 10 (by decide) (by decide), gq 11 (by decide) (by decide)]
              have hz : zThC T m N C i = if ¬ (zmk T m o.2.1 = 4 ∧ (zmw T m o.2.1).toInt = 59) then (1, o.2) else if zanyF (fun u => decide (zovc C5 N u)) N 0 = true then (4, i + 1, o.2.2) else o := by
                rw [hO2, hov]
                unfold zThB
                rw [if_neg (fun q => q e1)]
              have c610 : C5 6 10 = Int32.ofInt (N : Int) := by rw [gg.2.2.1 10 (by decide)]; exact hC
              have hup : Int32.ofInt (N : Int) + Int32.ofInt 1 = Int32.ofInt ((N + 1 : Nat) : Int) := zof_up N
              have hK6 : zScT T m K o.2.1 (zuS C5 6 10 (Int32.ofInt ((N + 1 : Nat) : Int))) := zScT_fr hK5 rfl rfl rfl rfl
              refine zp0 (by rfl) rfl rfl ?_
              refine zy_ref (r := 1) he (by rfl) (by rfl) (by rfl) (by rfl) ?_
              refine zq_bip (by rfl) (by decide) ?_
              refine zy_v1e (by rfl) (zc_isSign he _) ?_
              refine zy_if (by rfl) (by rfl) (fun h71 => ?_) (fun h71 => ?_)
              · refine zp0 (by rfl) rfl rfl ?_
                refine zy_ref (r := 6) he (by rfl) (by rfl) (by rfl) (by rfl) ?_
                iterate 3 refine zp0 (by rfl) rfl rfl ?_
                refine zy_put (b := 10) he (by rfl) (by rfl) (by rfl) ?_
                refine zp0 (by rfl) rfl rfl ?_
                show zPn Lx xs n 54 (_, _, [.ref (e 0)], zHS e (zDC 7 6 x3 x4) (zuS C5 6 10 (Int32.ofInt (N : Int) + Int32.ofInt 1)) hp, _, _) _
                rw [hup]
                refine zy_v0 (by rfl) (zc_end he hm hK6) ?_
                intro rv hp1 hq
                obtain ⟨r7, C7, q1, q2, de⟩ := hq
                rw [q1, q2]
                refine zp_retI (by rfl) ?_
                have ns : ¬ (zmk T m o.2.1 = 4 ∧ (zmw T m o.2.1).toInt = 59) := fun q => zite0 h71 (hsg.mpr (by rw [k59]; exact q))
                rcases de with ⟨a1, a2, a3⟩ | ⟨a1, a2⟩
                · have hx := zcref_x (f := Int32.ofInt 1) hK6
                  rw [if_pos ns] at hz
                  refine ⟨_, _, rfl, rfl, Or.inl ⟨?_, by rw [a2]; decide, ?_, ?_⟩⟩
                  · rw [hz]
                    exact (show (1 : Int) ≠ 0 by decide)
                  · rw [hz, a3]
                    exact hx.1
                  · rw [hz, a3]
                    exact hx.2
                · exact absurd a1 ns
              · iterate 2 refine zp0 (by rfl) rfl rfl ?_
                refine zy_v1e (by rfl) (zc_takes he hN) ?_
                refine zy_if (by rfl) (by rfl) (fun h72 => ?_) (fun h72 => ?_)
                · refine zp0 (by rfl) rfl rfl ?_
                  refine zy_ref (r := 6) he (by rfl) (by rfl) (by rfl) (by rfl) ?_
                  iterate 3 refine zp0 (by rfl) rfl rfl ?_
                  refine zy_put (b := 10) he (by rfl) (by rfl) (by rfl) ?_
                  refine zp0 (by rfl) rfl rfl ?_
                  show zPn Lx xs n 54 (_, _, [.ref (e 0)], zHS e (zDC 7 6 x3 x4) (zuS C5 6 10 (Int32.ofInt (N : Int) + Int32.ofInt 1)) hp, _, _) _
                  rw [hup]
                  refine zy_v0 (by rfl) (zc_end he hm hK6) ?_
                  intro rv hp1 hq
                  obtain ⟨r7, C7, q1, q2, de⟩ := hq
                  rw [q1, q2]
                  refine zp_retI (by rfl) ?_
                  have ns := hsg.mp (zite1 h71)
                  rw [k59] at ns
                  have na : ¬ zanyF (fun u => decide (zovc C5 N u)) N 0 = true := zite0 h72
                  rcases de with ⟨a1, a2⟩ | ⟨a1, a2, a3, a4⟩
                  · exact absurd ns a1
                  · rw [if_neg (fun q => q ns), if_neg na] at hz
                    have h1 : ∀ q, q ≠ 1 → q ≠ 6 → C7 q = C5 q := fun q h1 h2 => by rw [a3, zcnx_ne h1, zuS_ne h2]
                    refine ⟨_, _, rfl, rfl, Or.inr ⟨?_, by rw [a2]; decide, ?_, ?_, ?_, ?_, ?_, ?_, ?_, ?_, ?_, ?_, ?_, ?_, ?_, ?_, ?_, ?_⟩⟩
                    · rw [hz]
                      exact e1
                    · rw [hz, a3]
                      exact zScT_nx hK6 a4
                    · rw [a3, zcnx_ne (by decide), zuS_at]
                    · intro f f3
                      rw [h1 0 (by decide) (by decide)]
                      exact gg.1 f f3
                    · intro q hq
                      rw [h1 q (by omega) (by omega)]
                      exact gg.2.1 q hq
                    · intro f f1 f2
                      rw [a3, zcnx_ne (by decide), zuS_off (Or.inr f2)]
                      exact gg.2.2.1 f f1
                    · intro q u b1 b2 b3
                      rw [h1 q (by omega) (by omega)]
                      exact gg.2.2.2 q u b1 b2 b3
                    · rw [h1 7 (by decide) (by decide)]
                      exact y7
                    · rw [h1 8 (by decide) (by decide)]
                      exact y8
                    · rw [h1 9 (by decide) (by decide)]
                      exact y9
                    · rw [h1 10 (by decide) (by decide)]
                      exact y10
                    · rw [h1 11 (by decide) (by decide)]
                      exact y11
                    · rw [h1 12 (by decide) (by decide)]
                      exact y12
                    · rw [h1 15 (by decide) (by decide), hz]
                      exact w15
                    · rw [h1 14 (by decide) (by decide), hz]
                      exact w14
                    · rw [h1 13 (by decide) (by decide), hz]
                      exact w13
                    · rw [a3, zcnx_ne (by decide), zuS_off (Or.inr (by decide))]
                      exact wr
                · iterate 2 refine zp0 (by rfl) rfl rfl ?_
                  refine zy_v1e (by rfl) (zc_refuse he _) ?_
                  iterate 3 refine zp0 (by rfl) rfl rfl ?_
                  refine zy_put (b := 5) he (by rfl) (by rfl) (by rfl) ?_
                  refine zp0 (by rfl) rfl rfl ?_
                  refine zp_retI (by rfl) ?_
                  have ns := hsg.mp (zite1 h71)
                  rw [k59] at ns
                  have na : zanyF (fun u => decide (zovc C5 N u)) N 0 = true := zite1 h72
                  rw [if_neg (fun q => q ns), if_pos na] at hz
                  refine ⟨_, _, rfl, rfl, Or.inl ⟨?_, by decide, ?_, ?_⟩⟩
                  · rw [hz]
                    exact (show (4 : Int) ≠ 0 by decide)
                  · rw [hz]
                    rfl
                  · rw [hz]
                    rfl
            · refine zp0 (by rfl) rfl rfl ?_
              refine zp_retI (by rfl) ?_
              rcases dn with ⟨e1, e2, e3, e4⟩ | ⟨e1, e2, e3⟩
              · have hz : zThC T m N C i = o := by
                  rw [hO2]
                  exact if_pos e1
                refine ⟨_, _, rfl, rfl, Or.inl ⟨?_, by decide, ?_, ?_⟩⟩
                · rw [hz]
                  exact e1
                · rw [hz]
                  exact e3
                · rw [hz]
                  exact e4
              · exact absurd (Classical.not_not.mp h61) e2
        · iterate 2 refine zp0 (by rfl) rfl rfl ?_
          refine zy_v1e (by rfl) (zc_refuse he _) ?_
          refine zp_retI (by rfl) ?_
          simp only [zcf, fx] at h31
          have hO : (zThC T m N C i).1 = 3 ∧ (zThC T m N C i).2.1 = i + 1 := by
            unfold zThC zThing
            dsimp only
            rw [if_neg n9, if_neg nk, if_pos (show 0 ≤ zfindA (C 7) 0 (zmw T m (i + 1)) N 0 by omega)]
            exact ⟨rfl, rfl⟩
          have hx := zcref_x (f := Int32.ofInt 3) hK1
          refine ⟨_, _, rfl, rfl, Or.inl ⟨?_, by decide, ?_, ?_⟩⟩
          · rw [hO.1]
            decide
          · rw [hO.1]
            exact hx.1
          · rw [hO.2]
            exact hx.2
      · iterate 2 refine zp0 (by rfl) rfl rfl ?_
        refine zy_v1e (by rfl) (zc_refuse he _) ?_
        refine zp_retI (by rfl) ?_
        simp only [zcf] at h21
        have hl2 := hl.mp h22
        have nk : zmk T m (i + 1) ≠ 2 := by
          obtain ⟨w, hw, hv⟩ := hl2
          rcases hI1 with h | ⟨v, h⟩ | h | h | h | h | h
          · omega
          · omega
          · exact absurd hv (h.2.2.2.2.2 w hw)
          · omega
          · omega
          · omega
          · omega
        have hO : (zThC T m N C i).1 = 1 ∧ (zThC T m N C i).2.1 = i + 1 := by
          unfold zThC zThing
          dsimp only
          rw [if_neg n9, if_pos nk]
          exact ⟨rfl, rfl⟩
        have hx := zcref_x (f := Int32.ofInt 1) hK1
        refine ⟨_, _, rfl, rfl, Or.inl ⟨?_, by decide, ?_, ?_⟩⟩
        · rw [hO.1]
          decide
        · rw [hO.1]
          exact hx.1
        · rw [hO.2]
          exact hx.2
  · iterate 2 refine zp0 (by rfl) rfl rfl ?_
    refine zy_v1e (by rfl) (zc_refuse he _) ?_
    refine zp_retI (by rfl) ?_
    simp only [zcf, yn] at h1
    have hO : (zThC T m N C i).1 = 2 ∧ (zThC T m N C i).2.1 = i := by
      unfold zThC zThing
      dsimp only
      rw [if_pos (show N = 9 by omega)]
      exact ⟨rfl, rfl⟩
    have hx := zcref_x (f := Int32.ofInt 2) hK
    refine ⟨_, _, rfl, rfl, Or.inl ⟨?_, by decide, ?_, ?_⟩⟩
    · rw [hO.1]
      decide
    · rw [hO.1]
      exact hx.1
    · rw [hO.2]
      exact hx.2
end ZCLH
