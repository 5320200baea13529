/-! a thing's line in the model -/
abbrev zovr (l f w h : Int32) (S : Nat → Nat → Int32) (y : Nat) : Prop := l.toInt < (S 4 y + S 6 y).toInt ∧ (S 4 y).toInt < (l + w).toInt ∧ f.toInt < (S 5 y + S 7 y).toInt ∧ (S 5 y).toInt < (f + h).toInt
def zThM (T : Nat → Int32) (m n : Nat) (S : Nat → Nat → Int32) (i : Nat) : Int × Nat × Int32 × Int32 × Int32 := zThing T m n (fun u => S 3 (10 + u)) (fun u => decide (zovr (zmw T m (i + 2)) (zmw T m (i + 3)) (zmw T m (i + 4)) (zmw T m (i + 5)) S (10 + u))) i
def zThR (T : Nat → Int32) (m n i : Nat) (S S' : Nat → Nat → Int32) (r : Int32) : Prop :=
  ((zThM T m n S i).1 ≠ 0 ∧ r.toInt = 0 ∧ S' 0 4 = Int32.ofInt (zThM T m n S i).1 ∧ S' 0 5 = Int32.ofInt (zpl T m (zThM T m n S i).2.1 : Nat) ∧ zFx S S') ∨
  ((zThM T m n S i).1 = 0 ∧ r.toInt ≠ 0 ∧ n ≤ 8 ∧ zMd T m (zThM T m n S i).2.1 S' ∧ S' 0 15 = Int32.ofInt ((n + 1 : Nat) : Int) ∧ (∀ f, f ≠ 7 → f ≠ 8 → f ≠ 9 → f ≠ 10 → f ≠ 11 → f ≠ 15 → S' 0 f = S 0 f) ∧ (∀ q, q = 1 ∨ q = 2 ∨ 13 ≤ q → S' q = S q) ∧ (∀ q u, q ≠ 0 → u ≠ 10 + n → S' q u = S q u) ∧ S' 3 (10 + n) = zmw T m (i + 1) ∧ S' 4 (10 + n) = zmw T m (i + 2) ∧ S' 5 (10 + n) = zmw T m (i + 3) ∧ S' 6 (10 + n) = zmw T m (i + 4) ∧ S' 7 (10 + n) = zmw T m (i + 5) ∧ S' 8 (10 + n) = zmw T m (i + 6) ∧ S' 12 (10 + n) = (zThM T m n S i).2.2.1 ∧ S' 11 (10 + n) = (zThM T m n S i).2.2.2.1 ∧ S' 10 (10 + n) = (zThM T m n S i).2.2.2.2 ∧ S' 9 (10 + n) = if zManR T m (zmw T m (i + 4)) 5 (i + 7) 0 = true then Int32.ofInt 1 else Int32.ofInt 0)
theorem zanyF_congr {p q : Nat → Bool} : ∀ d k, (∀ u, k ≤ u → u < k + d → p u = q u) → zanyF p d k = zanyF q d k
  | 0, _, _ => rfl
  | d + 1, k, h => by
    show (p k || zanyF p d (k + 1)) = (q k || zanyF q d (k + 1))
    rw [h k (by omega) (by omega), zanyF_congr d (k + 1) (fun u h1 h2 => h u (by omega) (by omega))]
theorem zThB_congr {T : Nat → Int32} {m n i : Nat} {p q : Nat → Bool} {o : Int × Nat × Int32 × Int32 × Int32} (h : ∀ u, u < n → p u = q u) : zThB T m n p i o = zThB T m n q i o := by
  unfold zThB
  rw [zanyF_congr n 0 (fun u _ h2 => h u (by omega))]
theorem zfindA_0 {T : Nat → Int32} {f : Nat} {x : Int32} : ∀ d k, zfindA T f x d k = zfindA (fun u => T (f + u)) 0 x d k
  | 0, _ => rfl
  | d + 1, k => by
    show (if (T (f + k)).toInt = x.toInt then (k : Int) else zfindA T f x d (k + 1)) = (if (T (f + (0 + k))).toInt = x.toInt then (k : Int) else zfindA (fun u => T (f + u)) 0 x d (k + 1))
    rw [Nat.zero_add, zfindA_0 d (k + 1)]
theorem zfindA_congr {T U : Nat → Int32} {x : Int32} : ∀ d k, (∀ u, k ≤ u → u < k + d → T u = U u) → zfindA T 0 x d k = zfindA U 0 x d k
  | 0, _, _ => rfl
  | d + 1, k, h => by
    show (if (T (0 + k)).toInt = x.toInt then (k : Int) else zfindA T 0 x d (k + 1)) = (if (U (0 + k)).toInt = x.toInt then (k : Int) else zfindA U 0 x d (k + 1))
    rw [Nat.zero_add, h k (by omega) (by omega), zfindA_congr d (k + 1) (fun u h1 h2 => h u (by omega) (by omega))]
theorem zfindA_rg {T : Nat → Int32} {x : Int32} : ∀ d k, -1 ≤ zfindA T 0 x d k ∧ zfindA T 0 x d k ≤ k + d
  | 0, k => by
    show (-1 : Int) ≤ -1 ∧ (-1 : Int) ≤ _
    omega
  | d + 1, k => by
    have := zfindA_rg (T := T) (x := x) d (k + 1)
    show -1 ≤ (if _ then (k : Int) else zfindA T 0 x d (k + 1)) ∧ (if _ then (k : Int) else zfindA T 0 x d (k + 1)) ≤ _
    split <;> omega
section ZTKE
variable {Lx : Nat} {xs : Nat → Int32} {hp : List zhE} {e : Nat → Nat} {m : Nat} {T : Nat → Int32} {S : Nat → Nat → Int32} {k : Nat}
/-- while a thing's line is read -/
def zSg (n : Nat) (S S1 : Nat → Nat → Int32) : Prop := (∀ f, f ≠ 7 → f ≠ 8 → f ≠ 9 → f ≠ 10 → f ≠ 11 → S1 0 f = S 0 f) ∧ (∀ q, q = 1 ∨ q = 2 ∨ 13 ≤ q → S1 q = S q) ∧ ∀ q u, q ≠ 0 → u ≠ 10 + n → S1 q u = S q u
theorem zSg_tf {n : Nat} {S1 S2 : Nat → Nat → Int32} (h : zSg n S S1) (g : zTf S1 S2) : zSg n S S2 :=
  ⟨fun f h1 h2 h3 h4 h5 => (g.2 f h1 h2 h3 h4 h5).trans (h.1 f h1 h2 h3 h4 h5), fun q hq => (g.1 q (by omega)).trans (h.2.1 q hq), fun q u h1 h2 => by rw [g.1 q h1, h.2.2 q u h1 h2]⟩
theorem zSg_put {n q0 : Nat} {x : Int32} {S1 : Nat → Nat → Int32} (h : zSg n S S1) (hq : 3 ≤ q0 ∧ q0 ≤ 12) : zSg n S (zuS S1 q0 (10 + n) x) :=
  ⟨fun f h1 h2 h3 h4 h5 => by rw [zuS_ne (by omega), h.1 f h1 h2 h3 h4 h5], fun q hq => by rw [zuS_ne (by omega), h.2.1 q hq], fun q u h1 h2 => by rw [zuS_off (Or.inr h2), h.2.2 q u h1 h2]⟩
theorem zFx_s {n : Nat} {S1 : Nat → Nat → Int32} (h : zSg n S S1) : zFx S S1 := ⟨h.2.1 1 (by decide), h.2.1 2 (by decide), h.1 1 (by decide) (by decide) (by decide) (by decide) (by decide)⟩
theorem zt_thing (he : zeI e hp zDM.length) {n i : Nat} (hn : n ≤ 9) (hM : zMd T m i S) (hS : S 0 15 = Int32.ofInt (n : Int)) : zPn Lx xs k 178 (0, lv_args 0 [.ref (e 0)], [], zHS e zDM S hp, 0, 0) (fun rv hp1 => ∃ r S', rv = some (.int r) ∧ hp1 = zHS e zDM S' hp ∧ zThR T m n i S S' r) := by
  have yn : (S 0 15).toInt = n := by rw [hS]; exact zof_ix (by omega)
  have cn : (Int32.ofInt ((10 + n : Nat) : Int)).toNatClampNeg = 10 + n := zof_cl (by omega)
  refine zp0 (by rfl) rfl rfl ?_
  refine zy_get (b := 15) he (by rfl) (by rfl) (by rfl) (by rfl) ?_
  refine zq_bip (by rfl) (by decide) ?_
  refine zy_icmpC (by rfl) (by rfl) ⟨by decide, by decide⟩ (fun h1 => ?_) (fun h1 => ?_)
  · refine zp0 (by rfl) rfl rfl ?_
    refine zy_v0 (by rfl) (zt_tokM he hM) ?_
    intro rv hp1 hq
    obtain ⟨q1, Sa, q2, hMa, fa⟩ := hq
    rw [q1, q2]
    have a15 : Sa 0 15 = Int32.ofInt (n : Int) := (fa.2 15 (by decide) (by decide) (by decide) (by decide) (by decide)).trans hS
    have e10 : Int32.ofInt 10 + Sa 0 15 = Int32.ofInt ((10 + n : Nat) : Int) := by
      rw [a15, ← Int32.ofInt_add]
      congr 1
    have ka := zMd_k hMa
    have za : Sa 0 10 = Int32.ofInt (zpl T m (i + 1) : Nat) := hMa.2.2.2.1
    refine zq_bip (by rfl) (by decide) ?_
    refine zp0 (by rfl) rfl rfl ?_
    refine zy_get (b := 15) he (by rfl) (by rfl) (by rfl) (by rfl) ?_
    iterate 2 refine zp0 (by rfl) rfl rfl ?_
    simp only [zcf, yn] at h1
    have n9 : ¬ n = 9 := by omega
    show zPn Lx xs k 178 (27, [(1, .int (Int32.ofInt 10 + Sa 0 15)), (0, .ref (e 0))], [], zHS e zDM Sa hp, _, _) _
    rw [e10]
    refine zp0 (by rfl) rfl rfl ?_
    refine zy_get (b := 10) he (by rfl) (by rfl) (by rfl) (by rfl) ?_
    refine zp0 (by rfl) rfl rfl ?_
    show zPn Lx xs k 178 (32, [(2, .int (Sa 0 10)), (1, .int (Int32.ofInt ((10 + n : Nat) : Int))), (0, .ref (e 0))], [], zHS e zDM Sa hp, _, _) _
    rw [za]
    refine zp0 (by rfl) rfl rfl ?_
    refine zy_get (b := 8) he (by rfl) (by rfl) (by rfl) (by rfl) ?_
    refine zp0 (by rfl) rfl rfl ?_
    refine zy_icmpC (by rfl) (by rfl) ⟨by decide, by decide⟩ (fun h31 => ?_) (fun h31 => ?_)
    · simp only [zcf] at h31
      have nk : ¬ (zmk T m (i + 1) ≠ 2) := by omega
      have wa := zMd_w hMa (by omega)
      have hfi := zt_find (Lx := Lx) (xs := xs) (n := k) (S := Sa) (hp := hp) he (f := 10) (N := n) (zmw T m (i + 1)) (by decide) (by omega)
      have hf3 : zfindA (Sa 3) 10 (zmw T m (i + 1)) n 0 = zfindA (fun u => S 3 (10 + u)) 0 (zmw T m (i + 1)) n 0 := by rw [fa.1 3 (by decide), zfindA_0]
      rw [hf3] at hfi
      have frg := zfindA_rg (T := fun u => S 3 (10 + u)) (x := zmw T m (i + 1)) n 0
      have fx : (Int32.ofInt (zfindA (fun u => S 3 (10 + u)) 0 (zmw T m (i + 1)) n 0)).toInt = zfindA (fun u => S 3 (10 + u)) 0 (zmw T m (i + 1)) n 0 := zRt ⟨by omega, by omega⟩
      refine zp0 (by rfl) rfl rfl ?_
      refine zq_bip (by rfl) (by decide) ?_
      refine zp0 (by rfl) rfl rfl ?_
      refine zy_get (b := 15) he (by rfl) (by rfl) (by rfl) (by rfl) ?_
      refine zp0 (by rfl) rfl rfl ?_
      refine zy_get (b := 9) he (by rfl) (by rfl) (by rfl) (by rfl) ?_
      rw [a15, wa]
      refine zy_v3e (by rfl) (hfi) ?_
      refine zy_if (by rfl) (by rfl) (fun h41 => ?_) (fun h41 => ?_)
      · simp only [zcf, fx] at h41
        have nf : ¬ 0 ≤ zfindA (fun u => S 3 (10 + u)) 0 (zmw T m (i + 1)) n 0 := by omega
        refine zp0 (by rfl) rfl rfl ?_
        refine zy_ref (r := 3) he (by rfl) (by rfl) (by rfl) (by rfl) ?_
        iterate 2 refine zp0 (by rfl) rfl rfl ?_
        refine zy_get (b := 9) he (by rfl) (by rfl) (by rfl) (by rfl) ?_
        refine zy_ast he (by rfl) (by rfl) (fun u46 w46 => ?_)
        have hU : zuS Sa 3 (Int32.ofInt ((10 + n : Nat) : Int)).toNatClampNeg (Sa 0 9) = zuS Sa 3 (10 + n) (zmw T m (i + 1)) := by rw [cn, wa]
        show zPn Lx xs k 178 (79, [(2, .int (Int32.ofInt (zpl T m (i + 1) : Nat))), (1, .int (Int32.ofInt ((10 + n : Nat) : Int))), (0, .ref (e 0))], [], zHS e zDM (zuS Sa 3 (Int32.ofInt ((10 + n : Nat) : Int)).toNatClampNeg (Sa 0 9)) hp, _, _) _
        rw [hU]
        have sga : zSg n S Sa := ⟨fa.2, fun q hq => fa.1 q (by omega), fun q u h1 _ => by rw [fa.1 q h1]⟩
        have hMb : zMd T m (i + 1) (zuS Sa 3 (10 + n) (zmw T m (i + 1))) := zMd_of hMa rfl rfl (fun f _ => rfl)
        have sgb : zSg n S (zuS Sa 3 (10 + n) (zmw T m (i + 1))) := zSg_put sga (by decide)
        have v3 : zuS Sa 3 (10 + n) (zmw T m (i + 1)) 3 (10 + n) = zmw T m (i + 1) := zuS_at
        generalize zuS Sa 3 (10 + n) (zmw T m (i + 1)) = Sb at hMb sgb v3
        refine zp0 (by rfl) rfl rfl ?_
        refine zy_v0 (by rfl) (zt_tokM he hMb) ?_
        intro rv hp1 hq
        obtain ⟨q1, S0, q2, hM0, fb⟩ := hq
        rw [q1, q2]
        have sg0 : zSg n S S0 := zSg_tf sgb fb
        rw [← fb.1 3 (by decide)] at v3
        iterate 2 refine zp0 (by rfl) rfl rfl ?_
        refine zq_bip (by rfl) (by decide) ?_
        refine zy_v2 (by rfl) (zt_numM he 0 39 ⟨by decide, by decide⟩ ⟨by decide, by decide⟩ hM0) ?_
        intro rv hp1 hq
        obtain ⟨r0, T0, q1, q2, dj0⟩ := hq
        rw [q1, q2]
        refine zy_if (by rfl) (by rfl) (fun h51 => ?_) (fun h51 => ?_)
        · rcases dj0 with ⟨d1, d2, d3, d4⟩ | ⟨d1, d2, d3, d4, d5⟩
          · exact absurd d2 h51
          have m0 : ¬ (zsNum T m (i + 2) 0 39 ≠ 0) := fun q => q d1
          refine zp0 (by rfl) rfl rfl ?_
          refine zy_ref (r := 4) he (by rfl) (by rfl) (by rfl) (by rfl) ?_
          iterate 2 refine zp0 (by rfl) rfl rfl ?_
          refine zy_get (b := 11) he (by rfl) (by rfl) (by rfl) (by rfl) ?_
          refine zy_ast he (by rfl) (by rfl) (fun u101 w101 => ?_)
          have hU : zuS T0 4 (Int32.ofInt ((10 + n : Nat) : Int)).toNatClampNeg (T0 0 11) = zuS T0 4 (10 + n) (zmw T m (i + 2)) := by rw [cn, d4]
          show zPn Lx xs k 178 (105, [(2, .int (Int32.ofInt (zpl T m (i + 1) : Nat))), (1, .int (Int32.ofInt ((10 + n : Nat) : Int))), (0, .ref (e 0))], [], zHS e zDM (zuS T0 4 (Int32.ofInt ((10 + n : Nat) : Int)).toNatClampNeg (T0 0 11)) hp, _, _) _
          rw [hU]
          have hM1 : zMd T m (i + 3) (zuS T0 4 (10 + n) (zmw T m (i + 2))) := zMd_of d3 rfl rfl (fun f _ => rfl)
          have sg1 : zSg n S (zuS T0 4 (10 + n) (zmw T m (i + 2))) := zSg_put (zSg_tf sg0 d5) (by decide)
          have v3 : zuS T0 4 (10 + n) (zmw T m (i + 2)) 3 (10 + n) = zmw T m (i + 1) := by rw [zuS_ne (by decide), d5.1 3 (by decide), v3]
          have v4 : zuS T0 4 (10 + n) (zmw T m (i + 2)) 4 (10 + n) = zmw T m (i + 2) := zuS_at
          generalize zuS T0 4 (10 + n) (zmw T m (i + 2)) = S1 at hM1 sg1 v3 v4
          iterate 2 refine zp0 (by rfl) rfl rfl ?_
          refine zq_bip (by rfl) (by decide) ?_
          refine zy_v2 (by rfl) (zt_numM he 0 39 ⟨by decide, by decide⟩ ⟨by decide, by decide⟩ hM1) ?_
          intro rv hp1 hq
          obtain ⟨r1, T1, q1, q2, dj1⟩ := hq
          rw [q1, q2]
          refine zy_if (by rfl) (by rfl) (fun h61 => ?_) (fun h61 => ?_)
          · rcases dj1 with ⟨d1, d2, d3, d4⟩ | ⟨d1, d2, d3, d4, d5⟩
            · exact absurd d2 h61
            have m1 : ¬ (zsNum T m (i + 3) 0 39 ≠ 0) := fun q => q d1
            refine zp0 (by rfl) rfl rfl ?_
            refine zy_ref (r := 5) he (by rfl) (by rfl) (by rfl) (by rfl) ?_
            iterate 2 refine zp0 (by rfl) rfl rfl ?_
            refine zy_get (b := 11) he (by rfl) (by rfl) (by rfl) (by rfl) ?_
            refine zy_ast he (by rfl) (by rfl) (fun u111 w111 => ?_)
            have hU : zuS T1 5 (Int32.ofInt ((10 + n : Nat) : Int)).toNatClampNeg (T1 0 11) = zuS T1 5 (10 + n) (zmw T m (i + 3)) := by rw [cn, d4]
            show zPn Lx xs k 178 (127, [(2, .int (Int32.ofInt (zpl T m (i + 1) : Nat))), (1, .int (Int32.ofInt ((10 + n : Nat) : Int))), (0, .ref (e 0))], [], zHS e zDM (zuS T1 5 (Int32.ofInt ((10 + n : Nat) : Int)).toNatClampNeg (T1 0 11)) hp, _, _) _
            rw [hU]
            have hM2 : zMd T m (i + 4) (zuS T1 5 (10 + n) (zmw T m (i + 3))) := zMd_of d3 rfl rfl (fun f _ => rfl)
            have sg2 : zSg n S (zuS T1 5 (10 + n) (zmw T m (i + 3))) := zSg_put (zSg_tf sg1 d5) (by decide)
            have v3 : zuS T1 5 (10 + n) (zmw T m (i + 3)) 3 (10 + n) = zmw T m (i + 1) := by rw [zuS_ne (by decide), d5.1 3 (by decide), v3]
            have v4 : zuS T1 5 (10 + n) (zmw T m (i + 3)) 4 (10 + n) = zmw T m (i + 2) := by rw [zuS_ne (by decide), d5.1 4 (by decide), v4]
            have v5 : zuS T1 5 (10 + n) (zmw T m (i + 3)) 5 (10 + n) = zmw T m (i + 3) := zuS_at
            generalize zuS T1 5 (10 + n) (zmw T m (i + 3)) = S2 at hM2 sg2 v3 v4 v5
            iterate 2 refine zp0 (by rfl) rfl rfl ?_
            refine zq_bip (by rfl) (by decide) ?_
            refine zy_v2 (by rfl) (zt_numM he 1 12 ⟨by decide, by decide⟩ ⟨by decide, by decide⟩ hM2) ?_
            intro rv hp1 hq
            obtain ⟨r2, T2, q1, q2, dj2⟩ := hq
            rw [q1, q2]
            refine zy_if (by rfl) (by rfl) (fun h71 => ?_) (fun h71 => ?_)
            · rcases dj2 with ⟨d1, d2, d3, d4⟩ | ⟨d1, d2, d3, d4, d5⟩
              · exact absurd d2 h71
              have m2 : ¬ (zsNum T m (i + 4) 1 12 ≠ 0) := fun q => q d1
              refine zp0 (by rfl) rfl rfl ?_
              refine zy_ref (r := 6) he (by rfl) (by rfl) (by rfl) (by rfl) ?_
              iterate 2 refine zp0 (by rfl) rfl rfl ?_
              refine zy_get (b := 11) he (by rfl) (by rfl) (by rfl) (by rfl) ?_
              refine zy_ast he (by rfl) (by rfl) (fun u121 w121 => ?_)
              have hU : zuS T2 6 (Int32.ofInt ((10 + n : Nat) : Int)).toNatClampNeg (T2 0 11) = zuS T2 6 (10 + n) (zmw T m (i + 4)) := by rw [cn, d4]
              show zPn Lx xs k 178 (149, [(2, .int (Int32.ofInt (zpl T m (i + 1) : Nat))), (1, .int (Int32.ofInt ((10 + n : Nat) : Int))), (0, .ref (e 0))], [], zHS e zDM (zuS T2 6 (Int32.ofInt ((10 + n : Nat) : Int)).toNatClampNeg (T2 0 11)) hp, _, _) _
              rw [hU]
              have hM3 : zMd T m (i + 5) (zuS T2 6 (10 + n) (zmw T m (i + 4))) := zMd_of d3 rfl rfl (fun f _ => rfl)
              have sg3 : zSg n S (zuS T2 6 (10 + n) (zmw T m (i + 4))) := zSg_put (zSg_tf sg2 d5) (by decide)
              have v3 : zuS T2 6 (10 + n) (zmw T m (i + 4)) 3 (10 + n) = zmw T m (i + 1) := by rw [zuS_ne (by decide), d5.1 3 (by decide), v3]
              have v4 : zuS T2 6 (10 + n) (zmw T m (i + 4)) 4 (10 + n) = zmw T m (i + 2) := by rw [zuS_ne (by decide), d5.1 4 (by decide), v4]
              have v5 : zuS T2 6 (10 + n) (zmw T m (i + 4)) 5 (10 + n) = zmw T m (i + 3) := by rw [zuS_ne (by decide), d5.1 5 (by decide), v5]
              have v6 : zuS T2 6 (10 + n) (zmw T m (i + 4)) 6 (10 + n) = zmw T m (i + 4) := zuS_at
              generalize zuS T2 6 (10 + n) (zmw T m (i + 4)) = S3 at hM3 sg3 v3 v4 v5 v6
              iterate 2 refine zp0 (by rfl) rfl rfl ?_
              refine zq_bip (by rfl) (by decide) ?_
              refine zy_v2 (by rfl) (zt_numM he 1 12 ⟨by decide, by decide⟩ ⟨by decide, by decide⟩ hM3) ?_
              intro rv hp1 hq
              obtain ⟨r3, T3, q1, q2, dj3⟩ := hq
              rw [q1, q2]
              refine zy_if (by rfl) (by rfl) (fun h81 => ?_) (fun h81 => ?_)
              · rcases dj3 with ⟨d1, d2, d3, d4⟩ | ⟨d1, d2, d3, d4, d5⟩
                · exact absurd d2 h81
                have m3 : ¬ (zsNum T m (i + 5) 1 12 ≠ 0) := fun q => q d1
                refine zp0 (by rfl) rfl rfl ?_
                refine zy_ref (r := 7) he (by rfl) (by rfl) (by rfl) (by rfl) ?_
                iterate 2 refine zp0 (by rfl) rfl rfl ?_
                refine zy_get (b := 11) he (by rfl) (by rfl) (by rfl) (by rfl) ?_
                refine zy_ast he (by rfl) (by rfl) (fun u131 w131 => ?_)
                have hU : zuS T3 7 (Int32.ofInt ((10 + n : Nat) : Int)).toNatClampNeg (T3 0 11) = zuS T3 7 (10 + n) (zmw T m (i + 5)) := by rw [cn, d4]
                show zPn Lx xs k 178 (171, [(2, .int (Int32.ofInt (zpl T m (i + 1) : Nat))), (1, .int (Int32.ofInt ((10 + n : Nat) : Int))), (0, .ref (e 0))], [], zHS e zDM (zuS T3 7 (Int32.ofInt ((10 + n : Nat) : Int)).toNatClampNeg (T3 0 11)) hp, _, _) _
                rw [hU]
                have hM4 : zMd T m (i + 6) (zuS T3 7 (10 + n) (zmw T m (i + 5))) := zMd_of d3 rfl rfl (fun f _ => rfl)
                have sg4 : zSg n S (zuS T3 7 (10 + n) (zmw T m (i + 5))) := zSg_put (zSg_tf sg3 d5) (by decide)
                have v3 : zuS T3 7 (10 + n) (zmw T m (i + 5)) 3 (10 + n) = zmw T m (i + 1) := by rw [zuS_ne (by decide), d5.1 3 (by decide), v3]
                have v4 : zuS T3 7 (10 + n) (zmw T m (i + 5)) 4 (10 + n) = zmw T m (i + 2) := by rw [zuS_ne (by decide), d5.1 4 (by decide), v4]
                have v5 : zuS T3 7 (10 + n) (zmw T m (i + 5)) 5 (10 + n) = zmw T m (i + 3) := by rw [zuS_ne (by decide), d5.1 5 (by decide), v5]
                have v6 : zuS T3 7 (10 + n) (zmw T m (i + 5)) 6 (10 + n) = zmw T m (i + 4) := by rw [zuS_ne (by decide), d5.1 6 (by decide), v6]
                have v7 : zuS T3 7 (10 + n) (zmw T m (i + 5)) 7 (10 + n) = zmw T m (i + 5) := zuS_at
                generalize zuS T3 7 (10 + n) (zmw T m (i + 5)) = S4 at hM4 sg4 v3 v4 v5 v6 v7
                iterate 2 refine zp0 (by rfl) rfl rfl ?_
                refine zq_bip (by rfl) (by decide) ?_
                refine zy_v2 (by rfl) (zt_numM he 1 99 ⟨by decide, by decide⟩ ⟨by decide, by decide⟩ hM4) ?_
                intro rv hp1 hq
                obtain ⟨r4, T4, q1, q2, dj4⟩ := hq
                rw [q1, q2]
                refine zy_if (by rfl) (by rfl) (fun h91 => ?_) (fun h91 => ?_)
                · rcases dj4 with ⟨d1, d2, d3, d4⟩ | ⟨d1, d2, d3, d4, d5⟩
                  · exact absurd d2 h91
                  have m4 : ¬ (zsNum T m (i + 6) 1 99 ≠ 0) := fun q => q d1
                  refine zp0 (by rfl) rfl rfl ?_
                  refine zy_ref (r := 8) he (by rfl) (by rfl) (by rfl) (by rfl) ?_
                  iterate 2 refine zp0 (by rfl) rfl rfl ?_
                  refine zy_get (b := 11) he (by rfl) (by rfl) (by rfl) (by rfl) ?_
                  refine zy_ast he (by rfl) (by rfl) (fun u141 w141 => ?_)
                  have hU : zuS T4 8 (Int32.ofInt ((10 + n : Nat) : Int)).toNatClampNeg (T4 0 11) = zuS T4 8 (10 + n) (zmw T m (i + 6)) := by rw [cn, d4]
                  show zPn Lx xs k 178 (193, [(2, .int (Int32.ofInt (zpl T m (i + 1) : Nat))), (1, .int (Int32.ofInt ((10 + n : Nat) : Int))), (0, .ref (e 0))], [], zHS e zDM (zuS T4 8 (Int32.ofInt ((10 + n : Nat) : Int)).toNatClampNeg (T4 0 11)) hp, _, _) _
                  rw [hU]
                  have hM5 : zMd T m (i + 7) (zuS T4 8 (10 + n) (zmw T m (i + 6))) := zMd_of d3 rfl rfl (fun f _ => rfl)
                  have sg5 : zSg n S (zuS T4 8 (10 + n) (zmw T m (i + 6))) := zSg_put (zSg_tf sg4 d5) (by decide)
                  have v3 : zuS T4 8 (10 + n) (zmw T m (i + 6)) 3 (10 + n) = zmw T m (i + 1) := by rw [zuS_ne (by decide), d5.1 3 (by decide), v3]
                  have v4 : zuS T4 8 (10 + n) (zmw T m (i + 6)) 4 (10 + n) = zmw T m (i + 2) := by rw [zuS_ne (by decide), d5.1 4 (by decide), v4]
                  have v5 : zuS T4 8 (10 + n) (zmw T m (i + 6)) 5 (10 + n) = zmw T m (i + 3) := by rw [zuS_ne (by decide), d5.1 5 (by decide), v5]
                  have v6 : zuS T4 8 (10 + n) (zmw T m (i + 6)) 6 (10 + n) = zmw T m (i + 4) := by rw [zuS_ne (by decide), d5.1 6 (by decide), v6]
                  have v7 : zuS T4 8 (10 + n) (zmw T m (i + 6)) 7 (10 + n) = zmw T m (i + 5) := by rw [zuS_ne (by decide), d5.1 7 (by decide), v7]
                  have v8 : zuS T4 8 (10 + n) (zmw T m (i + 6)) 8 (10 + n) = zmw T m (i + 6) := zuS_at
                  generalize zuS T4 8 (10 + n) (zmw T m (i + 6)) = S5 at hM5 sg5 v3 v4 v5 v6 v7 v8
                  refine zp0 (by rfl) rfl rfl ?_
                  refine zy_ref (r := 9) he (by rfl) (by rfl) (by rfl) (by rfl) ?_
                  iterate 2 refine zp0 (by rfl) rfl rfl ?_
                  refine zy_ast he (by rfl) (by rfl) (fun u201 w201 => ?_)
                  refine zp0 (by rfl) rfl rfl ?_
                  refine zy_ref (r := 12) he (by rfl) (by rfl) (by rfl) (by rfl) ?_
                  iterate 2 refine zp0 (by rfl) rfl rfl ?_
                  refine zy_ref (r := 6) he (by rfl) (by rfl) (by rfl) (by rfl) ?_
                  refine zp0 (by rfl) rfl rfl ?_
                  refine zy_ald he (by rfl) (by rfl) (fun u202 w202 => ?_)
                  refine zy_ast he (by rfl) (by rfl) (fun u203 w203 => ?_)
                  refine zp0 (by rfl) rfl rfl ?_
                  refine zy_ref (r := 11) he (by rfl) (by rfl) (by rfl) (by rfl) ?_
                  iterate 2 refine zp0 (by rfl) rfl rfl ?_
                  refine zy_ast he (by rfl) (by rfl) (fun u204 w204 => ?_)
                  refine zp0 (by rfl) rfl rfl ?_
                  refine zy_ref (r := 10) he (by rfl) (by rfl) (by rfl) (by rfl) ?_
                  iterate 2 refine zp0 (by rfl) rfl rfl ?_
                  refine zy_ast he (by rfl) (by rfl) (fun u205 w205 => ?_)
                  iterate 2 refine zp0 (by rfl) rfl rfl ?_
                  have hU : zuS (zuS (zuS (zuS S5 9 (Int32.ofInt ((10 + n : Nat) : Int)).toNatClampNeg (Int32.ofInt 0)) 12 (Int32.ofInt ((10 + n : Nat) : Int)).toNatClampNeg (S5 6 (Int32.ofInt ((10 + n : Nat) : Int)).toNatClampNeg)) 11 (Int32.ofInt ((10 + n : Nat) : Int)).toNatClampNeg (Int32.ofInt 0)) 10 (Int32.ofInt ((10 + n : Nat) : Int)).toNatClampNeg (Int32.ofInt 5) = zuS (zuS (zuS (zuS S5 9 (10 + n) (Int32.ofInt 0)) 12 (10 + n) (zmw T m (i + 4))) 11 (10 + n) (Int32.ofInt 0)) 10 (10 + n) (Int32.ofInt 5) := by rw [cn, v6]
                  show zPn Lx xs k 178 (228, [(3, .int (Int32.ofInt ((0 : Nat) : Int))), (2, .int (Int32.ofInt (zpl T m (i + 1) : Nat))), (1, .int (Int32.ofInt ((10 + n : Nat) : Int))), (0, .ref (e 0))], [], zHS e zDM (zuS (zuS (zuS (zuS S5 9 (Int32.ofInt ((10 + n : Nat) : Int)).toNatClampNeg (Int32.ofInt 0)) 12 (Int32.ofInt ((10 + n : Nat) : Int)).toNatClampNeg (S5 6 (Int32.ofInt ((10 + n : Nat) : Int)).toNatClampNeg)) 11 (Int32.ofInt ((10 + n : Nat) : Int)).toNatClampNeg (Int32.ofInt 0)) 10 (Int32.ofInt ((10 + n : Nat) : Int)).toNatClampNeg (Int32.ofInt 5)) hp, _, _) _
                  rw [hU]
                  have hM6 : zMd T m (i + 7) (zuS (zuS (zuS (zuS S5 9 (10 + n) (Int32.ofInt 0)) 12 (10 + n) (zmw T m (i + 4))) 11 (10 + n) (Int32.ofInt 0)) 10 (10 + n) (Int32.ofInt 5)) := zMd_of hM5 rfl rfl (fun f _ => rfl)
                  have sg6 : zSg n S (zuS (zuS (zuS (zuS S5 9 (10 + n) (Int32.ofInt 0)) 12 (10 + n) (zmw T m (i + 4))) 11 (10 + n) (Int32.ofInt 0)) 10 (10 + n) (Int32.ofInt 5)) := zSg_put (zSg_put (zSg_put (zSg_put sg5 (by decide)) (by decide)) (by decide)) (by decide)
                  have w12 : zuS (zuS (zuS (zuS S5 9 (10 + n) (Int32.ofInt 0)) 12 (10 + n) (zmw T m (i + 4))) 11 (10 + n) (Int32.ofInt 0)) 10 (10 + n) (Int32.ofInt 5) 12 (10 + n) = zmw T m (i + 4) := by rw [zuS_ne (by decide), zuS_ne (by decide), zuS_at]
                  have w11 : zuS (zuS (zuS (zuS S5 9 (10 + n) (Int32.ofInt 0)) 12 (10 + n) (zmw T m (i + 4))) 11 (10 + n) (Int32.ofInt 0)) 10 (10 + n) (Int32.ofInt 5) 11 (10 + n) = Int32.ofInt 0 := by rw [zuS_ne (by decide), zuS_at]
                  have w9 : zuS (zuS (zuS (zuS S5 9 (10 + n) (Int32.ofInt 0)) 12 (10 + n) (zmw T m (i + 4))) 11 (10 + n) (Int32.ofInt 0)) 10 (10 + n) (Int32.ofInt 5) 9 (10 + n) = Int32.ofInt 0 := by rw [zuS_ne (by decide), zuS_ne (by decide), zuS_ne (by decide), zuS_at]
                  have w10 : zuS (zuS (zuS (zuS S5 9 (10 + n) (Int32.ofInt 0)) 12 (10 + n) (zmw T m (i + 4))) 11 (10 + n) (Int32.ofInt 0)) 10 (10 + n) (Int32.ofInt 5) 10 (10 + n) = Int32.ofInt 5 := zuS_at
                  have vv : ∀ q, 3 ≤ q → q ≤ 8 → zuS (zuS (zuS (zuS S5 9 (10 + n) (Int32.ofInt 0)) 12 (10 + n) (zmw T m (i + 4))) 11 (10 + n) (Int32.ofInt 0)) 10 (10 + n) (Int32.ofInt 5) q = S5 q := fun q q1 q2 => by rw [zuS_ne (by omega), zuS_ne (by omega), zuS_ne (by omega), zuS_ne (by omega)]
                  generalize zuS (zuS (zuS (zuS S5 9 (10 + n) (Int32.ofInt 0)) 12 (10 + n) (zmw T m (i + 4))) 11 (10 + n) (Int32.ofInt 0)) 10 (10 + n) (Int32.ofInt 5) = S6 at hM6 sg6 w12 w11 w10 w9 vv
                  rw [← vv 3 (by decide) (by decide)] at v3
                  rw [← vv 4 (by decide) (by decide)] at v4
                  rw [← vv 5 (by decide) (by decide)] at v5
                  rw [← vv 6 (by decide) (by decide)] at v6
                  rw [← vv 7 (by decide) (by decide)] at v7
                  rw [← vv 8 (by decide) (by decide)] at v8
                  refine zp0 (by rfl) rfl rfl ?_
                  refine zy_v0e (by rfl) (zt_hasW he hM6) ?_
                  refine zp0 (by rfl) rfl rfl ?_
                  have hO : zThM T m n S i = zThB T m n (fun u => decide (zover S6 (10 + n) (10 + u))) i (zManT T m (S6 6 (10 + n)) 5 (i + 7) 0 (zmw T m (i + 4)) (Int32.ofInt 0) (Int32.ofInt 5)) := by
                    unfold zThM zThing
                    dsimp only
                    rw [if_neg n9, if_neg nk, if_neg nf, if_neg m0, if_neg m1, if_neg m2, if_neg m3, if_neg m4]
                    have hz : zManT T m (S6 6 (10 + n)) 5 (i + 7) 0 (zmw T m (i + 4)) (Int32.ofInt 0) (Int32.ofInt 5) = zManT T m (zmw T m (i + 4)) 5 (i + 7) 0 (zmw T m (i + 4)) (Int32.ofInt 0) (Int32.ofInt 5) := by rw [v6]
                    rw [hz]
                    refine zThB_congr (fun u hu => ?_)
                    have g := fun q (hq : q ≠ 0) => sg6.2.2 q (10 + u) hq (by omega)
                    show decide (zovr _ _ _ _ S (10 + u)) = decide (zover S6 (10 + n) (10 + u))
                    unfold zovr zover
                    rw [v4, v5, v6, v7, g 4 (by decide), g 5 (by decide), g 6 (by decide), g 7 (by decide)]
                  refine (zt_man (i0 := i) he hn 5 (i + 7) 0 _ _ _ S6 _ _ rfl (by decide) hM6 (by rw [sg6.1 15 (by decide) (by decide) (by decide) (by decide) (by decide)]; exact hS) w12 w11 w10).post ?_
                  intro rv hp1 hq
                  obtain ⟨r, S', q1, q2, q3⟩ := hq
                  rw [← hO] at q3
                  refine ⟨r, S', q1, q2, ?_⟩
                  rcases q3 with ⟨b1, b2, b3, b4, b5⟩ | ⟨a1, a2, a3, a4, a5, a6, a7, a8, a9, a10, a11⟩
                  · exact Or.inl ⟨b1, b2, b3, b4, zFx_tr (zFx_s sg6) b5⟩
                  · have a63 := fun q (h1 : 3 ≤ q) (h2 : q ≤ 8) => congrFun (a6 q (by omega) (by omega) (by omega) (by omega) (by omega)) (10 + n)
                    exact Or.inr ⟨a1, a2, by omega, a3, a4, fun f h3 h4 h5 h6 h7 h8 => (a5 f h3 h4 h5 h6 h7 h8).trans (sg6.1 f h3 h4 h5 h6 h7), fun q hq => (a6 q (by omega) (by omega) (by omega) (by omega) (by omega)).trans (sg6.2.1 q hq), fun q u h1 h2 => (a7 q u h1 h2).trans (sg6.2.2 q u h1 h2), (a63 3 (by decide) (by decide)).trans v3, (a63 4 (by decide) (by decide)).trans v4, (a63 5 (by decide) (by decide)).trans v5, (a63 6 (by decide) (by decide)).trans v6, (a63 7 (by decide) (by decide)).trans v7, (a63 8 (by decide) (by decide)).trans v8, a8, a9, a10, by rw [a11, v6, w9]⟩
                · refine zp0 (by rfl) rfl rfl ?_
                  refine zp_retI (by rfl) ?_
                  rcases dj4 with ⟨d1, d2, d3, d4, d5⟩ | ⟨d1, d2, d3⟩
                  · have hO : (zThM T m n S i).1 = zsNum T m (i + 6) 1 99 ∧ (zThM T m n S i).2.1 = i + 6 := by
                      unfold zThM zThing
                      dsimp only
                      rw [if_neg n9, if_neg nk, if_neg nf, if_neg m0, if_neg m1, if_neg m2, if_neg m3, if_pos d1]
                      exact ⟨rfl, rfl⟩
                    refine ⟨_, _, rfl, rfl, Or.inl ⟨?_, ?_, ?_, ?_, zFx_tr (zFx_s sg4) d5⟩⟩
                    · rw [hO.1]
                      exact d1
                    · decide
                    · rw [hO.1]
                      exact d3
                    · rw [hO.2]
                      exact d4
                  · exact absurd (Classical.not_not.mp h91) d2
              · refine zp0 (by rfl) rfl rfl ?_
                refine zp_retI (by rfl) ?_
                rcases dj3 with ⟨d1, d2, d3, d4, d5⟩ | ⟨d1, d2, d3⟩
                · have hO : (zThM T m n S i).1 = zsNum T m (i + 5) 1 12 ∧ (zThM T m n S i).2.1 = i + 5 := by
                    unfold zThM zThing
                    dsimp only
                    rw [if_neg n9, if_neg nk, if_neg nf, if_neg m0, if_neg m1, if_neg m2, if_pos d1]
                    exact ⟨rfl, rfl⟩
                  refine ⟨_, _, rfl, rfl, Or.inl ⟨?_, ?_, ?_, ?_, zFx_tr (zFx_s sg3) d5⟩⟩
                  · rw [hO.1]
                    exact d1
                  · decide
                  · rw [hO.1]
                    exact d3
                  · rw [hO.2]
                    exact d4
                · exact absurd (Classical.not_not.mp h81) d2
            · refine zp0 (by rfl) rfl rfl ?_
              refine zp_retI (by rfl) ?_
              rcases dj2 with ⟨d1, d2, d3, d4, d5⟩ | ⟨d1, d2, d3⟩
              · have hO : (zThM T m n S i).1 = zsNum T m (i + 4) 1 12 ∧ (zThM T m n S i).2.1 = i + 4 := by
                  unfold zThM zThing
                  dsimp only
                  rw [if_neg n9, if_neg nk, if_neg nf, if_neg m0, if_neg m1, if_pos d1]
                  exact ⟨rfl, rfl⟩
                refine ⟨_, _, rfl, rfl, Or.inl ⟨?_, ?_, ?_, ?_, zFx_tr (zFx_s sg2) d5⟩⟩
                · rw [hO.1]
                  exact d1
                · decide
                · rw [hO.1]
                  exact d3
                · rw [hO.2]
                  exact d4
              · exact absurd (Classical.not_not.mp h71) d2
          · refine zp0 (by rfl) rfl rfl ?_
            refine zp_retI (by rfl) ?_
            rcases dj1 with ⟨d1, d2, d3, d4, d5⟩ | ⟨d1, d2, d3⟩
            · have hO : (zThM T m n S i).1 = zsNum T m (i + 3) 0 39 ∧ (zThM T m n S i).2.1 = i + 3 := by
                unfold zThM zThing
                dsimp only
                rw [if_neg n9, if_neg nk, if_neg nf, if_neg m0, if_pos d1]
                exact ⟨rfl, rfl⟩
              refine ⟨_, _, rfl, rfl, Or.inl ⟨?_, ?_, ?_, ?_, zFx_tr (zFx_s sg1) d5⟩⟩
              · rw [hO.1]
                exact d1
              · decide
              · rw [hO.1]
                exact d3
              · rw [hO.2]
                exact d4
            · exact absurd (Classical.not_not.mp h61) d2
        · refine zp0 (by rfl) rfl rfl ?_
          refine zp_retI (by rfl) ?_
          rcases dj0 with ⟨d1, d2, d3, d4, d5⟩ | ⟨d1, d2, d3⟩
          · have hO : (zThM T m n S i).1 = zsNum T m (i + 2) 0 39 ∧ (zThM T m n S i).2.1 = i + 2 := by
              unfold zThM zThing
              dsimp only
              rw [if_neg n9, if_neg nk, if_neg nf, if_pos d1]
              exact ⟨rfl, rfl⟩
            refine ⟨_, _, rfl, rfl, Or.inl ⟨?_, ?_, ?_, ?_, zFx_tr (zFx_s sg0) d5⟩⟩
            · rw [hO.1]
              exact d1
            · decide
            · rw [hO.1]
              exact d3
            · rw [hO.2]
              exact d4
          · exact absurd (Classical.not_not.mp h51) d2
      · iterate 2 refine zp0 (by rfl) rfl rfl ?_
        refine zy_v1e (by rfl) (zt_wrong he _) ?_
        refine zp_retI (by rfl) ?_
        simp only [zcf, fx] at h41
        have hO : (zThM T m n S i).1 = 3 ∧ (zThM T m n S i).2.1 = i + 1 := by
          unfold zThM zThing
          dsimp only
          rw [if_neg n9, if_neg nk, if_pos (show 0 ≤ zfindA (fun u => S 3 (10 + u)) 0 (zmw T m (i + 1)) n 0 by omega)]
          exact ⟨rfl, rfl⟩
        refine ⟨_, _, rfl, rfl, Or.inl ⟨?_, ?_, ?_, ?_, ⟨fa.1 1 (by decide), fa.1 2 (by decide), fa.2 1 (by decide) (by decide) (by decide) (by decide) (by decide)⟩⟩⟩
        · rw [hO.1]
          decide
        · decide
        · rw [hO.1]
          rfl
        · rw [hO.2]
          exact za
    · iterate 2 refine zp0 (by rfl) rfl rfl ?_
      refine zy_v1e (by rfl) (zt_wrong he _) ?_
      refine zp_retI (by rfl) ?_
      simp only [zcf] at h31
      have hO : (zThM T m n S i).1 = 1 ∧ (zThM T m n S i).2.1 = i + 1 := by
        unfold zThM zThing
        dsimp only
        rw [if_neg n9, if_pos (show zmk T m (i + 1) ≠ 2 by omega)]
        exact ⟨rfl, rfl⟩
      refine ⟨_, _, rfl, rfl, Or.inl ⟨?_, ?_, ?_, ?_, ⟨fa.1 1 (by decide), fa.1 2 (by decide), fa.2 1 (by decide) (by decide) (by decide) (by decide) (by decide)⟩⟩⟩
      · rw [hO.1]
        decide
      · decide
      · rw [hO.1]
        rfl
      · rw [hO.2]
        exact za
  · iterate 2 refine zp0 (by rfl) rfl rfl ?_
    refine zy_v1e (by rfl) (zt_wrong he _) ?_
    refine zp_retI (by rfl) ?_
    simp only [zcf, yn] at h1
    have hO : (zThM T m n S i).1 = 2 ∧ (zThM T m n S i).2.1 = i := by
      unfold zThM zThing
      dsimp only
      rw [if_pos (show n = 9 by omega)]
      exact ⟨rfl, rfl⟩
    refine ⟨_, _, rfl, rfl, Or.inl ⟨?_, ?_, ?_, ?_, ⟨rfl, rfl, rfl⟩⟩⟩
    · rw [hO.1]
      decide
    · decide
    · rw [hO.1]
      rfl
    · rw [hO.2]
      exact hM.2.2.2.1
end ZTKE
