/-! between two sides of E: the class does as the model -/
theorem zWt_drop {S C S2 C2 : Nat → Nat → Int32} {d br kn : Nat} (h : zWt S C (d + 1) br kn) (h0 : (S 16 d).toInt = 0) (a1 : S2 0 35 = Int32.ofInt (d : Int)) (a2 : C2 18 2 = Int32.ofInt (d : Int)) (a3 : S2 0 37 = Int32.ofInt ((br - 1 : Nat) : Int)) (a4 : C2 18 3 = Int32.ofInt ((br - 1 : Nat) : Int)) (a5 : S2 0 38 = S 0 38) (a6 : C2 18 4 = C 18 4) (c1 : S2 16 = S 16) (c2 : C2 19 = C 19) : zWt S2 C2 d (br - 1) kn := by
  have hz := h.2.2.2.2.2.2.2.2.2.2
  have hz : zbrk (S 16) d + (if (S 16 d).toInt = 0 then 1 else 0) = br := hz
  rw [if_pos h0] at hz
  have q1 := h.2.2.2.2.2.2.1
  have q2 := h.2.2.2.2.2.2.2.1
  refine ⟨a1, a2, a3, a4, a5.trans h.2.2.2.2.1, a6.trans h.2.2.2.2.2.1, by omega, by omega, h.2.2.2.2.2.2.2.2.1, fun j hj => ?_, ?_⟩
  · rw [c1, c2]
    exact h.2.2.2.2.2.2.2.2.2.1 j (by omega)
  · rw [c1]
    omega
theorem zrank_0 {k : Int} (h : k = 0 ∨ 2 ≤ k) (h2 : k ≤ 14) (g : ¬ 1 ≤ zrank k) : k = 0 := by
  unfold zrank at g
  (repeat' split at g) <;> omega
section ZCL9
variable {Lx : Nat} {xs : Nat → Int32} {n : Nat} {hp : List zhE} {e : Nat → Nat} {x1 m : Nat} {S C : Nat → Nat → Int32} {d br kn l : Nat}
theorem zc_close (he : zeI e hp (zDC x1 6 2 17).length) (hR : zTR (S 0 8) (S 0 9) (C 1 8) (C 1 10)) (hE : zEq S C d br kn l) (hw : (S 0 39).toInt = 0) (hg : zsg S 41) : zPn Lx xs n 113 (0, lv_args 0 [.ref (e 18)], [], zHS e (zDC x1 6 2 17) C hp, 0, 0) (fun rv hp1 => ∃ f C', rv = some (.int f) ∧ hp1 = zHS e (zDC x1 6 2 17) C' hp ∧ zFrC C C' ∧ zSo (zsnO d S) C' f) := by
  have hI := zTR_i hR
  obtain ⟨hW, hl, hl64, hl1, -⟩ := hE
  have hl1 := hl1 hw
  have w1 := hW.1
  have w2 := hW.2.1
  have w3 := hW.2.2.1
  have w4 := hW.2.2.2.1
  have w7 := hW.2.2.2.2.2.2.1
  have w8 := hW.2.2.2.2.2.2.2.1
  have w9 := hW.2.2.2.2.2.2.2.2.1
  have wz := hW.2.2.2.2.2.2.2.2.2.2
  have y3 : (S 0 37).toInt = br := by rw [w3]; exact zof_ix (by omega)
  have y4 : (C 18 3).toInt = br := by rw [w4]; exact zof_ix (by omega)
  have k41 : (Int32.ofInt 41).toInt = 41 := by decide
  have hg2 : (S 0 8).toInt = 4 ∧ (S 0 9).toInt = 41 := by
    have hg2 : (S 0 8).toInt = 4 ∧ (S 0 9).toInt = (Int32.ofInt 41).toInt := hg
    rwa [k41] at hg2
  have hk0 : (zsnK S).toInt = 0 := by
    rw [zsnK_i hI, hg2.1, hg2.2]
    rfl
  have hst := zc_settle (Lx := Lx) (xs := xs) (n := n) (x1 := x1) he (Int32.ofInt (-1)) (C := zuS C 18 3 (C 18 3 - Int32.ofInt 1)) w2 (by omega) hl hl64
  have hstr : zstr (Int32.ofInt (-1)).toInt = 1 := by decide
  rw [hstr] at hst
  have hres : 0 < br → ∀ C', zStl (zuS C 18 3 (C 18 3 - Int32.ofInt 1)) C' (zpopG (zpC (zuS C 18 3 (C 18 3 - Int32.ofInt 1)) 1) d) → 0 < (C' 18 2).toInt ∧ zFrC C (zuS C' 18 2 (C' 18 2 - Int32.ofInt 1)) ∧ zSo (zsnO d S) (zuS C' 18 2 (C' 18 2 - Int32.ofInt 1)) (Int32.ofInt 0) := by
    intro hb C' hC
    have e19 : zpC (zuS C 18 3 (C 18 3 - Int32.ofInt 1)) 1 = zpC C 1 := rfl
    rw [e19] at hC
    have hfr : zFrC C C' := fun q q1 q2 q3 q4 => by rw [hC.2.2.1 q q1 q2 q3, zuS_ne q3]
    have c3 : C' 18 3 = C 18 3 - Int32.ofInt 1 := by rw [hC.2.1 3 (by decide), zuS_at]
    have hC2 : zStl C (zuS C' 18 3 (C 18 3)) (zpopG (zpC C 1) d) := by
      obtain ⟨s1, s2, s3, s4⟩ := hC
      refine ⟨?_, fun f hf => ?_, fun q q1 q2 q3 => ?_, ?_⟩
      · rw [zuS_off (Or.inr (by decide))]
        exact s1
      · by_cases g : f = 3
        · rw [g, zuS_at]
        · rw [zuS_off (Or.inr g), s2 f hf, zuS_off (Or.inr g)]
      · rw [zuS_ne q3, s3 q q1 q2 q3, zuS_ne q3]
      · obtain ⟨la, lb, t1, t2, t3⟩ := s4
        exact ⟨la, lb, t1, t2, t3⟩
    obtain ⟨d', p1, p2, p3⟩ := zWt_pop hW (by decide) hC2
    have hz' := p2.2.2.2.2.2.2.2.2.2.2
    have hle := zbrk_le (W := zbindA 1 d S 16) d'
    have hd1 : d' = (d' - 1) + 1 := by omega
    have hd2 : C' 18 2 = Int32.ofInt (d' : Int) := by
      have := p2.2.1
      rwa [zuS_off (Or.inr (by decide))] at this
    have p9 := p3.resolve_left (by omega)
    clear p3
    generalize d' - 1 = d1 at hd1 p9
    subst hd1
    obtain ⟨k, k1, k2, k3, k4⟩ := zWt_j p2 (j := d1) (by omega)
    rw [k3] at p9
    have hk := zrank_0 k1 k2 p9
    obtain ⟨g1, g2⟩ := zbindA_k (l := 1) d S
    obtain ⟨la, lb, t1, t2, t3, t4⟩ := hC.2.2.2
    have hla : la = l := by
      have t1 : C 16 3 = Int32.ofInt (la : Int) := t1
      rw [hl] at t1
      have := congrArg Int32.toInt t1
      rw [zof_ix (by omega)] at this
      have h2 : (Int32.ofInt (la : Int)).toInt = la := zof_ix (by omega)
      omega
    refine ⟨?_, fun q q1 q2 q3 q4 => ?_, ?_⟩
    · rw [hd2, zof_ix (by omega)]
      omega
    · rw [zuS_ne q3]
      exact hfr q q1 q2 q3 q4
    · have hO : zsnO d S = (none, zsnC d S) := by
        unfold zsnO
        rw [if_pos ⟨hg, by omega⟩]
      rw [hO]
      have e37 : zbindA 1 d S 0 37 = Int32.ofInt (br : Int) := p2.2.2.1
      refine ⟨rfl, d1, br - 1, kn, lb, zWt_drop p2 (by rw [k3, hk]) ?_ ?_ ?_ ?_ rfl ?_ rfl ?_, ?_, t4, fun _ => by omega, fun q => absurd ?_ q⟩
      · show zbindA 1 d S 0 35 - Int32.ofInt 1 = _
        rw [p2.1, zof_dn (by omega) (by omega)]
        rfl
      · rw [zuS_at, hd2, zof_dn (by omega) (by omega)]
        rfl
      · show zbindA 1 d S 0 37 - Int32.ofInt 1 = _
        rw [e37, zof_dn (by omega) (by omega)]
      · rw [zuS_off (Or.inr (by decide)), c3, w4, zof_dn (by omega) (by omega)]
      · rw [zuS_off (Or.inr (by decide)), zuS_off (Or.inr (by decide))]
      · rw [zuS_ne (by decide), zuS_ne (by decide)]
      · rw [zuS_off (Or.inl (by decide))]
        exact t2
      · show (zbindA 1 d S 0 39).toInt = 0
        rw [g2 39 (by decide) (by decide) (by decide)]
        exact hw
  refine zp0 (by rfl) rfl rfl ?_
  refine zy_get (b := 3) he (by rfl) (by rfl) (by rfl) (by rfl) ?_
  refine zy_if (by rfl) (by rfl) (fun h1 => ?_) (fun h1 => ?_)
  · iterate 2 refine zp0 (by rfl) rfl rfl ?_
    refine zy_get (b := 3) he (by rfl) (by rfl) (by rfl) (by rfl) ?_
    iterate 2 refine zp0 (by rfl) rfl rfl ?_
    refine zy_put (b := 3) he (by rfl) (by rfl) (by rfl) ?_
    iterate 2 refine zp0 (by rfl) rfl rfl ?_
    refine zy_v1 (by rfl) (hst) ?_
    intro rv hp1 hq
    obtain ⟨r1, C2, r2, hC⟩ := hq
    rw [r1, r2]
    obtain ⟨hr1, hr2, hr3⟩ := hres (by simp only [zcf, y4] at h1; omega) C2 hC
    refine zp0 (by rfl) rfl rfl ?_
    refine zy_get (b := 2) he (by rfl) (by rfl) (by rfl) (by rfl) ?_
    refine zy_if (by rfl) (by rfl) (fun h2 => ?_) (fun h2 => ?_)
    · refine zp0 (by rfl) rfl rfl ?_
      refine zp_retI (by rfl) ?_
      exfalso
      simp only [zcf] at h2
      omega
    · iterate 2 refine zp0 (by rfl) rfl rfl ?_
      refine zy_get (b := 2) he (by rfl) (by rfl) (by rfl) (by rfl) ?_
      iterate 2 refine zp0 (by rfl) rfl rfl ?_
      refine zy_put (b := 2) he (by rfl) (by rfl) (by rfl) ?_
      refine zp0 (by rfl) rfl rfl ?_
      refine zp_retI (by rfl) ?_
      exact ⟨_, _, rfl, rfl, hr2, hr3⟩
  · refine zp0 (by rfl) rfl rfl ?_
    refine zp_retI (by rfl) ?_
    simp only [zcf, y4] at h1
    have hO : zsnO d S = (some (Int32.ofInt 1), S) := by
      unfold zsnO
      rw [if_neg (by omega), if_pos hk0]
    refine ⟨_, _, rfl, rfl, fun _ _ _ _ _ => rfl, ?_⟩
    rw [hO]
    exact ⟨rfl, by decide⟩
theorem zc_btw (he : zeI e hp (zDC x1 6 2 17).length) (hR : zTR (S 0 8) (S 0 9) (C 1 8) (C 1 10)) (hE : zEq S C d br kn l) (hw : (S 0 39).toInt = 0) (hg : ¬ zsg S 41) : zPn Lx xs n 111 (0, lv_args 0 [.ref (e 18)], [], zHS e (zDC x1 6 2 17) C hp, 0, 0) (fun rv hp1 => ∃ f C', rv = some (.int f) ∧ hp1 = zHS e (zDC x1 6 2 17) C' hp ∧ zFrC C C' ∧ zSo (zsnO d S) C' f) := by
  have hI := zTR_i hR
  obtain ⟨hW, hl, hl64, hl1, -⟩ := hE
  have hl1 := hl1 hw
  have w1 := hW.1
  have w2 := hW.2.1
  have w7 := hW.2.2.2.2.2.2.1
  have w8 := hW.2.2.2.2.2.2.2.1
  have w9 := hW.2.2.2.2.2.2.2.2.1
  have hk := zsnK_i hI
  have hbs := zTRi_bs hI
  have hrg := zsnI_rg hI
  generalize hkk : zsnI (S 0 8).toInt (S 0 9).toInt = k at hk hbs hrg
  have hwr := zcw_rg (k := k) (by omega) (by omega)
  have hz0 := zcw_0 (k := k) (by omega)
  have hst := zcw_str (k := k) (by omega)
  have kx : (Int32.ofInt (zcw k)).toInt = zcw k := zRt ⟨by omega, by omega⟩
  have hrk := zrank_rg k
  have krk : (Int32.ofInt (zrank k)).toInt = zrank k := zrank_ix k
  have hO1 : k ≠ 0 → zsnO d S = zsnE (zsnK S) (zbindA (zsnB (zsnK S)) d S) := by
    intro g
    unfold zsnO
    rw [if_neg (fun q => hg q.1), if_neg (by omega)]
  have hbet := zc_between (Lx := Lx) (xs := xs) (n := n) (x1 := x1) (x4 := 17) (C := C) he
  rw [hbs] at hbet
  -- the sign waits
  have h50 : 3 ≤ k → ∀ (S1 C1 : Nat → Nat → Int32) (d1 l1 c s : Nat), zWt S1 C1 d1 br kn → C1 16 3 = Int32.ofInt (l1 : Int) → 1 ≤ l1 → l1 ≤ 64 → zFrC C C1 → zsnO d S = zsnE (zsnK S) S1 → ¬ (zrank (zsnK S).toInt = 4 ∧ 0 < (S1 0 35).toInt ∧ zrank (S1 16 (S1 0 35 - Int32.ofInt 1).toNatClampNeg).toInt = 4) → zPn Lx xs n 111 (50, [(1, .int (Int32.ofInt (zcw k))), (0, .ref (e 18))], [], zHS e (zDC x1 6 2 17) C1 hp, c, s) (fun rv hp1 => ∃ f C', rv = some (.int f) ∧ hp1 = zHS e (zDC x1 6 2 17) C' hp ∧ zFrC C C' ∧ zSo (zsnO d S) C' f) := by
    intro hk3 S1 C1 d1 l1 c s v0 v1 v2 v3 v4 v5 v6
    have u1 := v0.1
    have u2 := v0.2.1
    have u3 := v0.2.2.1
    have u4 := v0.2.2.2.1
    have u5 := v0.2.2.2.2.1
    have u6 := v0.2.2.2.2.2.1
    have u7 := v0.2.2.2.2.2.2.1
    have y5 : (S1 0 38).toInt = kn := by rw [u5]; exact zof_ix (by omega)
    have y6 : (C1 18 4 + Int32.ofInt 1).toInt = kn + 1 := by rw [u6, zof_up]; exact zof_ix (by omega)
    iterate 2 refine zp0 (by rfl) rfl rfl ?_
    refine zy_v1n (by rfl) (zc_await he u2 (by omega) _) ?_
    refine zp0 (by rfl) rfl rfl ?_
    refine zy_v0e (by rfl) (zc_count he) ?_
    refine zp_retI (by rfl) ?_
    refine ⟨_, _, rfl, rfl, fun q q1 q2 q3 q4 => ?_, ?_⟩
    · rw [zuS_ne q3]
      unfold zcaw
      split
      · rw [zuS_ne q3, zuS_ne q4]
        exact v4 q q1 q2 q3 q4
      · exact v4 q q1 q2 q3 q4
    · have y7 : zcaw C1 d1 (Int32.ofInt (zcw k)) 18 4 = C1 18 4 := by
        unfold zcaw
        split <;> rfl
      rw [y7, y6, v5]
      unfold zsnE
      rw [if_neg v6]
      by_cases hn : kn = 64
      · rw [if_pos (show (64 : Int) < (kn : Int) + 1 by omega), if_pos (by omega)]
        exact ⟨rfl, by decide⟩
      · have hC : zcaw C1 d1 (Int32.ofInt (zcw k)) = zuS (zuS C1 19 d1 (Int32.ofInt (zcw k))) 18 2 (Int32.ofInt ((d1 + 1 : Nat) : Int)) := if_pos (by omega)
        rw [if_neg (show ¬ (64 : Int) < (kn : Int) + 1 by omega), if_neg (by omega), hC]
        have ek : zsnK S = Int32.ofInt k := by rw [← hk, Int32.ofInt_toInt]
        have e16 : zuS (zuS (zwt (zcntd S1) (zsnK S)) 0 39 (Int32.ofInt 1)) 0 40 (if zrank (zsnK S).toInt < 3 then Int32.ofInt 1 else Int32.ofInt 0) 16 = va_up (S1 16) d1 (Int32.ofInt k) := by
          show va_up (S1 16) (S1 0 35).toNatClampNeg _ = _
          rw [u1, zof_cl (by omega), ek]
        refine ⟨rfl, d1 + 1, br, kn + 1, l1, zWt_push v0 (x := k) (by omega) (by omega) ?_ rfl u3 u4 ?_ ?_ (by omega) w8 (by omega) e16 rfl (by rw [if_neg (by omega)]; rfl), v1, v3, fun _ => v2, fun _ => ?_⟩
        · show S1 0 35 + Int32.ofInt 1 = _
          rw [u1, zof_up]
        · show S1 0 38 + Int32.ofInt 1 = _
          rw [u5, zof_up]
        · show C1 18 4 + Int32.ofInt 1 = _
          rw [u6, zof_up]
        · show ((if zrank (zsnK S).toInt < 3 then Int32.ofInt 1 else Int32.ofInt 0 : Int32).toInt ≠ 0) ↔ (d1 + 1 = 0 ∨ zden (zuS (zuS (zwt (zcntd S1) (zsnK S)) 0 39 (Int32.ofInt 1)) 0 40 (if zrank (zsnK S).toInt < 3 then Int32.ofInt 1 else Int32.ofInt 0) 16 d1).toInt)
          rw [e16]
          have e1 : va_up (S1 16) d1 (Int32.ofInt k) d1 = Int32.ofInt k := if_pos rfl
          have e2 : (Int32.ofInt k).toInt = k := zRt ⟨by omega, by omega⟩
          rw [e1, e2, hk]
          by_cases g : zrank k < 3
          · rw [if_pos g]
            refine ⟨fun _ => Or.inr ?_, fun _ => by decide⟩
            unfold zrank at g
            unfold zden
            (repeat' split at g) <;> omega
          · rw [if_neg g]
            refine ⟨fun q => absurd (by decide) q, fun q => ?_⟩
            exfalso
            have q := q.resolve_left (by omega)
            unfold zrank at g
            unfold zden at q
            (repeat' split at g) <;> omega
  have hset : ∀ x : Int32, 1 ≤ zstr x.toInt → ∀ C', zStl C C' (zpopG (zpC C (zstr x.toInt)) d) → ∃ d' l' : Nat, zWt (zbindA (zstr x.toInt) d S) C' d' br kn ∧ C' 16 3 = Int32.ofInt (l' : Int) ∧ 1 ≤ l' ∧ l' ≤ 64 ∧ zFrC C C' := by
    intro x hx C' hC
    obtain ⟨d', p1, p2, p3⟩ := zWt_pop hW hx hC
    obtain ⟨s1, s2, s3, la, lb, t1, t2, t3, t4⟩ := hC
    have hla : la = l := by
      rw [hl] at t1
      have := congrArg Int32.toInt t1
      rw [zof_ix (by omega)] at this
      have h2 : (Int32.ofInt (la : Int)).toInt = la := zof_ix (by omega)
      omega
    exact ⟨d', lb, p2, t2, by omega, t4, fun q q1 q2 q3 q4 => s3 q q1 q2 q3⟩
  have h10 : zstr (Int32.ofInt (-10)).toInt = 5 := by decide
  have hB : zsnB (zsnK S) = if zrank k = 4 then 5 else zrank k := by
    unfold zsnB
    rw [hk]
  have hr1 : k ≠ 0 → 1 ≤ zrank k := by
    intro g
    apply Classical.byContradiction
    intro q
    exact g (zrank_0 (by omega) (by omega) q)
  refine zp0 (by rfl) rfl rfl ?_
  refine zy_v0e (by rfl) (hbet) ?_
  iterate 2 refine zp0 (by rfl) rfl rfl ?_
  refine zy_if (by rfl) (by rfl) (fun h1 => ?_) (fun h1 => ?_)
  · refine zp0 (by rfl) rfl rfl ?_
    refine zy_s1e (by rfl) (by rfl) (zc_str _) ?_
    refine zp0 (by rfl) rfl rfl ?_
    refine zy_icmpC (by rfl) (by rfl) ⟨by decide, by decide⟩ (fun h2 => ?_) (fun h2 => ?_)
    · iterate 2 refine zp0 (by rfl) rfl rfl ?_
      refine zy_v1 (by rfl) (zc_settle he (Int32.ofInt (zcw k)) w2 (by omega) hl hl64) ?_
      intro rv hp1 hq
      obtain ⟨r1, C2, r2, hC⟩ := hq
      rw [r1, r2]
      simp only [zcf, kx, hst, krk] at h1 h2
      have hk3 : 3 ≤ k := by omega
      have hk0 : k ≠ 0 := by omega
      obtain ⟨d', l', p1, p2, p3, p4, p5⟩ := hset (Int32.ofInt (zcw k)) (by rw [kx, hst]; exact hr1 hk0) C2 hC
      rw [kx, hst] at p1
      refine h50 hk3 _ C2 d' l' _ _ p1 p2 p3 p4 p5 ?_ ?_
      · rw [hO1 hk0, hB, if_neg (by omega)]
      · rw [hk]
        omega
    · refine zp0 (by rfl) rfl rfl ?_
      refine zq_bip (by rfl) (by decide) ?_
      refine zy_v1 (by rfl) (zc_settle he (Int32.ofInt (-10)) w2 (by omega) hl hl64) ?_
      intro rv hp1 hq
      obtain ⟨r1, C2, r2, hC⟩ := hq
      rw [r1, r2]
      refine zp0 (by rfl) rfl rfl ?_
      refine zy_get (b := 2) he (by rfl) (by rfl) (by rfl) (by rfl) ?_
      refine zy_if (by rfl) (by rfl) (fun h3 => ?_) (fun h3 => ?_)
      · simp only [zcf, kx, hst, krk] at h1 h2 h3
        have hk3 : 3 ≤ k := by omega
        have hk0 : k ≠ 0 := by omega
        obtain ⟨d', l', p1, p2, p3, p4, p5⟩ := hset (Int32.ofInt (-10)) (by rw [h10]; decide) C2 hC
        rw [h10] at p1
        have y9 : (C2 18 2).toInt = d' := by rw [p1.2.1]; exact zof_ix (by have := p1.2.2.2.2.2.2.1; omega)
        have y8 : (zbindA 5 d S 0 35).toInt = d' := by rw [p1.1]; exact zof_ix (by have := p1.2.2.2.2.2.2.1; omega)
        refine h50 hk3 _ C2 d' l' _ _ p1 p2 p3 p4 p5 ?_ ?_
        · rw [hO1 hk0, hB, if_pos (by omega)]
        · omega
      · refine zp0 (by rfl) rfl rfl ?_
        have hk3 : 3 ≤ k := by
          simp only [zcf, kx] at h1
          omega
        have hk0 : k ≠ 0 := by omega
        obtain ⟨d', l', p1, p2, p3, p4, p5⟩ := hset (Int32.ofInt (-10)) (by rw [h10]; decide) C2 hC
        rw [h10] at p1
        have q7 := p1.2.2.2.2.2.2.1
        have y9 : (C2 18 2).toInt = d' := by rw [p1.2.1]; exact zof_ix (by omega)
        have hd' : 0 < d' := by
          simp only [zcf, y9] at h3
          omega
        have yi : (zbindA 5 d S 0 35 - Int32.ofInt 1).toNatClampNeg = d' - 1 := by
          rw [p1.1, zof_dn (by omega) (by omega), zof_cl (by omega)]
        obtain ⟨kk, j1, j2, kj, j4⟩ := zWt_j p1 (j := d' - 1) (by omega)
        have hj := zcw_str j1
        have hl9 : zlast C2 d' = C2 19 (d' - 1) := if_pos hd'
        have zrl : (Int32.ofInt (zstr (zlast C2 d').toInt)).toInt = zrank kk := by
          rw [hl9, j4, hj]
          exact zrank_ix kk
        have y8 : (zbindA 5 d S 0 35).toInt = d' := by rw [p1.1]; exact zof_ix (by omega)
        refine zy_v0e (by rfl) (zc_last he p1.2.1 (by omega)) ?_
        refine zy_s1e (by rfl) (by rfl) (zc_str _) ?_
        refine zp0 (by rfl) rfl rfl ?_
        refine zy_icmpC (by rfl) (by rfl) ⟨by decide, by decide⟩ (fun h4 => ?_) (fun h4 => ?_)
        · simp only [zcf, kx, hst, krk, zrl] at h1 h2 h3 h4
          refine h50 hk3 _ C2 d' l' _ _ p1 p2 p3 p4 p5 ?_ ?_
          · rw [hO1 hk0, hB, if_pos (by omega)]
          · rw [yi, kj, ← hj]
            omega
        · refine zp0 (by rfl) rfl rfl ?_
          refine zp_retI (by rfl) ?_
          simp only [zcf, kx, hst, krk, zrl] at h1 h2 h3 h4
          have hO : zsnO d S = (some (Int32.ofInt 1), zbindA 5 d S) := by
            rw [hO1 hk0, hB, if_pos (by omega)]
            unfold zsnE
            rw [yi, kj, hk, if_pos (by omega)]
          refine ⟨_, _, rfl, rfl, p5, ?_⟩
          rw [hO]
          exact ⟨rfl, by decide⟩
  · refine zp0 (by rfl) rfl rfl ?_
    refine zp_retI (by rfl) ?_
    simp only [zcf, kx] at h1
    have hO : zsnO d S = (some (Int32.ofInt 1), S) := by
      unfold zsnO
      rw [if_neg (fun q => hg q.1), if_pos (by omega)]
    refine ⟨_, _, rfl, rfl, fun _ _ _ _ _ => rfl, ?_⟩
    rw [hO]
    exact ⟨rfl, by decide⟩
end ZCL9
