/-! the class's lines: its small methods -/
section ZCLF
variable {Lx : Nat} {xs : Nat → Int32} {n : Nat} {hp : List zhE} {e : Nat → Nat} {C : Nat → Nat → Int32} {x3 x4 m K : Nat} {T : Nat → Int32}
theorem zy_v4 {k pc : Nat} {L : zL} {st : List Value} {c s : Nat} {Q : ZP} {p0 q a j : Nat} {v : Int} {x y z u : Value} {hp2 : List zhE} {P : ZP} (h : zatp k pc = some (p0, .invokevirtual q, a, 4, v)) (hP : zPn Lx xs n a (0, lv_args 0 [.ref j, x, y, z, u], [], hp2, 0, 0) P) (hn : ∀ rv hp', P rv hp' → zPn Lx xs n k (pc + 3, L, rv.toList ++ st, hp', c + (zrm a).cells, s + (zrm a).slots) Q) : zPn Lx xs n k (pc, L, u :: z :: y :: x :: .ref j :: st, hp2, c, s) Q := zp_virt (vs := [x, y, z, u]) h rfl hP hn
theorem zy_v4e {k pc : Nat} {L : zL} {st : List Value} {c s : Nat} {Q : ZP} {p0 q a j : Nat} {v : Int} {x y z u : Value} {w : Value} {hp2 hp3 : List zhE} (h : zatp k pc = some (p0, .invokevirtual q, a, 4, v)) (hP : zPn Lx xs n a (0, lv_args 0 [.ref j, x, y, z, u], [], hp2, 0, 0) (fun rv hp1 => rv = some w ∧ hp1 = hp3)) (hn : zPn Lx xs n k (pc + 3, L, w :: st, hp3, c + (zrm a).cells, s + (zrm a).slots) Q) : zPn Lx xs n k (pc, L, u :: z :: y :: x :: .ref j :: st, hp2, c, s) Q := zp_virt (vs := [x, y, z, u]) h rfl hP (fun rv hp1 hq => by
  obtain ⟨q1, q2⟩ := hq
  rw [q1, q2]
  exact hn)
theorem zy_v6e {k pc : Nat} {L : zL} {st : List Value} {c s : Nat} {Q : ZP} {p0 q a j : Nat} {v : Int} {x y z u x2 y2 : Value} {w : Value} {hp2 hp3 : List zhE} (h : zatp k pc = some (p0, .invokevirtual q, a, 6, v)) (hP : zPn Lx xs n a (0, lv_args 0 [.ref j, x, y, z, u, x2, y2], [], hp2, 0, 0) (fun rv hp1 => rv = some w ∧ hp1 = hp3)) (hn : zPn Lx xs n k (pc + 3, L, w :: st, hp3, c + (zrm a).cells, s + (zrm a).slots) Q) : zPn Lx xs n k (pc, L, y2 :: x2 :: u :: z :: y :: x :: .ref j :: st, hp2, c, s) Q := zp_virt (vs := [x, y, z, u, x2, y2]) h rfl hP (fun rv hp1 hq => by
  obtain ⟨q1, q2⟩ := hq
  rw [q1, q2]
  exact hn)
def zcref (C : Nat → Nat → Int32) (f : Int32) : Nat → Nat → Int32 := zuS (zuS C 0 4 f) 0 5 (C 1 9)
theorem zc_refuse (he : zeI e hp (zDC 7 6 x3 x4).length) (f : Int32) : zPn Lx xs n 49 (0, lv_args 0 [.ref (e 0), .int f], [], zHS e (zDC 7 6 x3 x4) C hp, 0, 0) (fun rv hp1 => rv = some (.int 0) ∧ hp1 = zHS e (zDC 7 6 x3 x4) (zcref C f) hp) := by
  iterate 2 refine zp0 (by rfl) rfl rfl ?_
  refine zy_put (b := 4) he (by rfl) (by rfl) (by rfl) ?_
  iterate 2 refine zp0 (by rfl) rfl rfl ?_
  refine zy_ref (r := 1) he (by rfl) (by rfl) (by rfl) (by rfl) ?_
  refine zy_get (b := 9) he (by rfl) (by rfl) (by rfl) (by rfl) ?_
  refine zy_put (b := 5) he (by rfl) (by rfl) (by rfl) ?_
  refine zp0 (by rfl) rfl rfl ?_
  refine zp_retI (by rfl) ?_
  exact ⟨rfl, rfl⟩
theorem zScT_i {i : Nat} (h : zScT T m K i C) (hm : m ≤ 600) : zTRi (zmk T m i) (zmw T m i).toInt (C 1 8).toInt (C 1 10).toInt := by
  rw [h.2.2.2.2.2.2.2.1, h.2.2.2.2.2.2.2.2.2]
  exact zTRi_at hm i
theorem zScT_lt {i : Nat} (h : zScT T m K i C) (hm : m ≤ 600) (hk : zmk T m i ≠ 0) : i < K := by
  apply Classical.byContradiction
  intro q
  have e : i = K := by have := h.2.2.2.2.2.1; omega
  have hI := zScT_i h hm
  have e8 : C 1 8 = Int32.ofInt 0 := by
    have h1 : zcE T m m = (m, Int32.ofInt 0, Int32.ofInt 0) := if_pos (Nat.le_refl m)
    rw [h.2.2.2.2.2.2.2.1, e, h.2.2.1, h1]
  have e9 : (C 1 8).toInt = 0 := by
    rw [e8]
    decide
  rcases hI with h | ⟨v, h⟩ | h | h | h | h | h <;> omega
theorem zc_rdnum (he : zeI e hp (zDC 7 6 x3 x4).length) {i : Nat} (hm : m ≤ 600) (h : zScT T m K i C) (lo hi : Int32) (h0 : 0 ≤ lo.toInt) (h9 : hi.toInt ≤ 9999) : zPn Lx xs n 50 (0, lv_args 0 [.ref (e 0), .int lo, .int hi], [], zHS e (zDC 7 6 x3 x4) C hp, 0, 0) (fun rv hp1 => ∃ r C', rv = some (.int r) ∧ hp1 = zHS e (zDC 7 6 x3 x4) C' hp ∧ ((zsNum T m i lo.toInt hi.toInt ≠ 0 ∧ r = 0 ∧ C' = zcref C (Int32.ofInt (zsNum T m i lo.toInt hi.toInt))) ∨ (zsNum T m i lo.toInt hi.toInt = 0 ∧ r = Int32.ofInt 1 ∧ C' = zcnx (zuS C 0 6 (zmw T m i)) (i + 1) ∧ i < K))) := by
  have hI := zScT_i h hm
  have h3 : (C 1 8).toInt = 2 ↔ zmk T m i = 3 := by rcases hI with h | ⟨v, h⟩ | h | h | h | h | h <;> omega
  have hr : zmk T m i = 3 → ((lo.toInt ≤ (C 1 10).toInt ∧ (C 1 10).toInt ≤ hi.toInt) ↔ (lo.toInt ≤ (zmw T m i).toInt ∧ (zmw T m i).toInt ≤ hi.toInt)) := by
    intro q
    rcases hI with h | ⟨v, h⟩ | h | h | h | h | h <;> omega
  have he3 : zmk T m i = 3 → (C 1 10).toInt ≤ hi.toInt → C 1 10 = zmw T m i := by
    intro q q2
    have e1 : (C 1 10).toInt = (zmw T m i).toInt := by
      rcases hI with h | ⟨v, h⟩ | h | h | h | h | h <;> omega
    rw [← Int32.ofInt_toInt (C 1 10), e1, Int32.ofInt_toInt]
  refine zp0 (by rfl) rfl rfl ?_
  refine zy_ref (r := 1) he (by rfl) (by rfl) (by rfl) (by rfl) ?_
  refine zy_get (b := 8) he (by rfl) (by rfl) (by rfl) (by rfl) ?_
  refine zp0 (by rfl) rfl rfl ?_
  refine zy_icmpC (by rfl) (by rfl) ⟨by decide, by decide⟩ (fun h1 => ?_) (fun h1 => ?_)
  · refine zp0 (by rfl) rfl rfl ?_
    refine zy_ref (r := 1) he (by rfl) (by rfl) (by rfl) (by rfl) ?_
    refine zy_get (b := 10) he (by rfl) (by rfl) (by rfl) (by rfl) ?_
    refine zp0 (by rfl) rfl rfl ?_
    refine zy_icmp (by rfl) (by rfl) (fun h2 => ?_) (fun h2 => ?_)
    · iterate 2 refine zp0 (by rfl) rfl rfl ?_
      refine zy_v1e (by rfl) (zc_refuse he _) ?_
      refine zp_retI (by rfl) ?_
      simp only [zcf] at h1 h2
      have g := hr (by omega)
      have hO : zsNum T m i lo.toInt hi.toInt = 2 := by
        unfold zsNum
        rw [if_neg (by omega), if_neg (by omega)]
      refine ⟨_, _, rfl, rfl, Or.inl ⟨by omega, rfl, ?_⟩⟩
      rw [hO]
    · refine zp0 (by rfl) rfl rfl ?_
      refine zy_ref (r := 1) he (by rfl) (by rfl) (by rfl) (by rfl) ?_
      refine zy_get (b := 10) he (by rfl) (by rfl) (by rfl) (by rfl) ?_
      refine zp0 (by rfl) rfl rfl ?_
      refine zy_icmp (by rfl) (by rfl) (fun h3 => ?_) (fun h3 => ?_)
      · iterate 2 refine zp0 (by rfl) rfl rfl ?_
        refine zy_ref (r := 1) he (by rfl) (by rfl) (by rfl) (by rfl) ?_
        refine zy_get (b := 10) he (by rfl) (by rfl) (by rfl) (by rfl) ?_
        refine zy_put (b := 6) he (by rfl) (by rfl) (by rfl) ?_
        refine zp0 (by rfl) rfl rfl ?_
        refine zy_ref (r := 1) he (by rfl) (by rfl) (by rfl) (by rfl) ?_
        have hk3 : zmk T m i = 3 := by
          simp only [zcf] at h1
          omega
        have hlt := zScT_lt h hm (by omega)
        have hv : C 1 10 = zmw T m i := he3 hk3 (by simp only [zcf] at h3; omega)
        show zPn Lx xs n 50 (_, _, [.ref (e 1)], zHS e (zDC 7 6 x3 x4) (zuS C 0 6 (C 1 10)) hp, _, _) _
        rw [hv]
        refine zy_v0n (by rfl) (zc_nx (C := zuS C 0 6 (zmw T m i)) he (zScT_fr h rfl rfl rfl rfl) hlt) ?_
        refine zp0 (by rfl) rfl rfl ?_
        refine zp_retI (by rfl) ?_
        simp only [zcf] at h1 h2 h3
        have g := hr (by omega)
        have hO : zsNum T m i lo.toInt hi.toInt = 0 := by
          unfold zsNum
          rw [if_neg (by omega), if_pos (by omega)]
        exact ⟨_, _, rfl, rfl, Or.inr ⟨hO, rfl, rfl, hlt⟩⟩
      · iterate 2 refine zp0 (by rfl) rfl rfl ?_
        refine zy_v1e (by rfl) (zc_refuse he _) ?_
        refine zp_retI (by rfl) ?_
        simp only [zcf] at h1 h2 h3
        have g := hr (by omega)
        have hO : zsNum T m i lo.toInt hi.toInt = 2 := by
          unfold zsNum
          rw [if_neg (by omega), if_neg (by omega)]
        refine ⟨_, _, rfl, rfl, Or.inl ⟨by omega, rfl, ?_⟩⟩
        rw [hO]
  · iterate 2 refine zp0 (by rfl) rfl rfl ?_
    refine zy_v1e (by rfl) (zc_refuse he _) ?_
    refine zp_retI (by rfl) ?_
    simp only [zcf] at h1
    have hO : zsNum T m i lo.toInt hi.toInt = 1 := if_pos (by omega)
    refine ⟨_, _, rfl, rfl, Or.inl ⟨by omega, rfl, ?_⟩⟩
    rw [hO]
theorem zc_into (he : zeI e hp (zDC 7 6 x3 x4).length) {i q t : Nat} (hD : (zDC 7 6 x3 x4)[q]? = some (.inr (0, 9))) (ht : t < 9) (hm : m ≤ 600) (h : zScT T m K i C) (lo hi : Int32) (h0 : 0 ≤ lo.toInt) (h9 : hi.toInt ≤ 9999) : zPn Lx xs n 56 (0, lv_args 0 [.ref (e 0), .ref (e q), .int (Int32.ofInt (t : Int)), .int lo, .int hi], [], zHS e (zDC 7 6 x3 x4) C hp, 0, 0) (fun rv hp1 => ∃ r C', rv = some (.int r) ∧ hp1 = zHS e (zDC 7 6 x3 x4) C' hp ∧ ((zsNum T m i lo.toInt hi.toInt ≠ 0 ∧ r = Int32.ofInt 0 ∧ C' = zcref C (Int32.ofInt (zsNum T m i lo.toInt hi.toInt))) ∨ (zsNum T m i lo.toInt hi.toInt = 0 ∧ r = Int32.ofInt 1 ∧ C' = zuS (zcnx (zuS C 0 6 (zmw T m i)) (i + 1)) q t (zmw T m i) ∧ i < K))) := by
  have yt : (Int32.ofInt (t : Int)).toInt = t := zof_ix (by omega)
  have ct : (Int32.ofInt (t : Int)).toNatClampNeg = t := zof_cl (by omega)
  have k9 : (Int32.ofInt ((9 : Nat) : Int)).toInt = 9 := by decide
  iterate 3 refine zp0 (by rfl) rfl rfl ?_
  refine zy_v2 (by rfl) (zc_rdnum he hm h lo hi h0 h9) ?_
  intro rv hp1 hq
  obtain ⟨r, C1, q1, q2, dj⟩ := hq
  rw [q1, q2]
  refine zy_if (by rfl) (by rfl) (fun h1 => ?_) (fun h1 => ?_)
  · iterate 3 refine zp0 (by rfl) rfl rfl ?_
    refine zy_if (by rfl) (by rfl) (fun h2 => ?_) (fun h2 => ?_)
    · refine zp0 (by rfl) rfl rfl ?_
      refine zp_retI (by rfl) ?_
      exfalso
      simp only [zcf, yt] at h2
      omega
    · iterate 2 refine zp0 (by rfl) rfl rfl ?_
      refine zy_len he (by rfl) hD ?_
      refine zy_icmp (by rfl) (by rfl) (fun h3 => ?_) (fun h3 => ?_)
      · refine zp0 (by rfl) rfl rfl ?_
        refine zp_retI (by rfl) ?_
        exfalso
        simp only [zcf, yt, k9] at h3
        omega
      · iterate 3 refine zp0 (by rfl) rfl rfl ?_
        refine zy_get (b := 6) he (by rfl) (by rfl) (by rfl) (by rfl) ?_
        refine zy_ast he (by rfl) hD (fun u4 w4 => ?_)
        refine zp0 (by rfl) rfl rfl ?_
        refine zp_retI (by rfl) ?_
        rcases dj with ⟨d1, d2, d3⟩ | ⟨d1, d2, d3, d4⟩
        · exact absurd (show (0 : Int32).toInt = 0 by decide) (by rw [← d2]; exact h1)
        · refine ⟨_, _, rfl, rfl, Or.inr ⟨d1, rfl, ?_, d4⟩⟩
          rw [ct, d3]
          rfl
  · refine zp0 (by rfl) rfl rfl ?_
    refine zp_retI (by rfl) ?_
    rcases dj with ⟨d1, d2, d3⟩ | ⟨d1, d2, d3, d4⟩
    · exact ⟨_, C1, rfl, rfl, Or.inl ⟨d1, rfl, d3⟩⟩
    · exact absurd (Classical.not_not.mp h1) (by rw [d2]; decide)
theorem zc_end (he : zeI e hp (zDC 7 6 x3 x4).length) {i : Nat} (hm : m ≤ 600) (h : zScT T m K i C) : zPn Lx xs n 52 (0, lv_args 0 [.ref (e 0)], [], zHS e (zDC 7 6 x3 x4) C hp, 0, 0) (fun rv hp1 => ∃ r C', rv = some (.int r) ∧ hp1 = zHS e (zDC 7 6 x3 x4) C' hp ∧ ((¬ (zmk T m i = 4 ∧ (zmw T m i).toInt = 59) ∧ r = 0 ∧ C' = zcref C (Int32.ofInt 1)) ∨ ((zmk T m i = 4 ∧ (zmw T m i).toInt = 59) ∧ r = Int32.ofInt 1 ∧ C' = zcnx C (i + 1) ∧ i < K))) := by
  have hI := zScT_i h hm
  have k59 : (Int32.ofInt 59).toInt = 59 := by decide
  have hsg := zTRi_sg hI (x := 59) (by decide)
  rw [← k59] at hsg
  refine zp0 (by rfl) rfl rfl ?_
  refine zy_ref (r := 1) he (by rfl) (by rfl) (by rfl) (by rfl) ?_
  refine zq_bip (by rfl) (by decide) ?_
  refine zy_v1e (by rfl) (zc_isSign he _) ?_
  refine zy_if (by rfl) (by rfl) (fun h1 => ?_) (fun h1 => ?_)
  · refine zp0 (by rfl) rfl rfl ?_
    refine zy_ref (r := 1) he (by rfl) (by rfl) (by rfl) (by rfl) ?_
    have g5 := hsg.mp (zite2 h1)
    rw [k59] at g5
    have hlt := zScT_lt h hm (by omega)
    refine zy_v0n (by rfl) (zc_nx he h hlt) ?_
    refine zp0 (by rfl) rfl rfl ?_
    refine zp_retI (by rfl) ?_
    exact ⟨_, _, rfl, rfl, Or.inr ⟨g5, rfl, rfl, hlt⟩⟩
  · iterate 2 refine zp0 (by rfl) rfl rfl ?_
    refine zy_v1e (by rfl) (zc_refuse he _) ?_
    refine zp_retI (by rfl) ?_
    refine ⟨_, _, rfl, rfl, Or.inl ⟨fun q => zite3 h1 (hsg.mpr (by rw [k59]; exact q)), rfl, rfl⟩⟩
def zcmb (c d : Int) : Int := if c ≠ 1 then 0 else if d = 620411008 then 1 else if d = 620403968 then 2 else if d = 273730176 then 4 else if d = 150637184 then 8 else 0
def zmb (w : Int) : Int := if w = 0 then 1 else if w = 1 then 4 else if w = 2 then 8 else if w = 3 then 2 else 0
theorem zcmb_w : ∀ w : Nat, w < 17 → zcmb 1 (zWpk.getD w 0 : Nat) = zmb (if 3 ≤ (w : Int) ∧ (w : Int) ≤ 6 then (w : Int) - 3 else -1) := by decide
theorem zcmb_x {a b c d : Int} (h : zTRi a b c d) : zcmb c d = zmb (if a = 1 ∧ 3 ≤ b ∧ b ≤ 6 then b - 3 else -1) := by
  rcases h with h | ⟨w, hw, h1, h2, h3, h4⟩ | ⟨h1, h2, h3, h4, h5, h6⟩ | h | h | h | h
  · rw [if_neg (by omega)]
    exact if_pos (by omega)
  · rw [h1, h2, h3, h4, zcmb_w w hw]
    simp only [true_and]
  · rw [if_neg (by omega)]
    unfold zcmb
    rw [if_neg (by omega), if_neg (show d ≠ 620411008 from h6 3 (by decide)), if_neg (show d ≠ 620403968 from h6 6 (by decide)), if_neg (show d ≠ 273730176 from h6 4 (by decide)), if_neg (show d ≠ 150637184 from h6 5 (by decide))]
    rfl
  · rw [if_neg (by omega)]
    exact if_pos (by omega)
  · rw [if_neg (by omega)]
    exact if_pos (by omega)
  · rw [if_neg (by omega)]
    exact if_pos (by omega)
  · rw [if_neg (by omega)]
    exact if_pos (by omega)
theorem zc_mbit (he : zeI e hp (zDC 7 6 x3 x4).length) {i : Nat} (hm : m ≤ 600) (h : zScT T m K i C) : zPn Lx xs n 58 (0, lv_args 0 [.ref (e 0)], [], zHS e (zDC 7 6 x3 x4) C hp, 0, 0) (fun rv hp1 => rv = some (.int (Int32.ofInt (zmb (zhw T m i)))) ∧ hp1 = zHS e (zDC 7 6 x3 x4) C hp) := by
  have hx : zmb (zhw T m i) = zcmb (C 1 8).toInt (C 1 10).toInt := (zcmb_x (zScT_i h hm)).symm
  rw [hx]
  refine zp0 (by rfl) rfl rfl ?_
  refine zy_ref (r := 1) he (by rfl) (by rfl) (by rfl) (by rfl) ?_
  refine zy_get (b := 8) he (by rfl) (by rfl) (by rfl) (by rfl) ?_
  refine zp0 (by rfl) rfl rfl ?_
  refine zy_icmpC (by rfl) (by rfl) ⟨by decide, by decide⟩ (fun h1 => ?_) (fun h1 => ?_)
  · refine zp0 (by rfl) rfl rfl ?_
    refine zy_ref (r := 1) he (by rfl) (by rfl) (by rfl) (by rfl) ?_
    refine zy_get (b := 10) he (by rfl) (by rfl) (by rfl) (by rfl) ?_
    simp only [zcf] at h1
    by_cases g0 : (C 1 10).toInt = 620411008
    · refine zy_lsw (t := 64) (by rfl) (by rw [g0]; rfl) ?_
      have hz : zcmb (C 1 8).toInt (C 1 10).toInt = 1 := by
        unfold zcmb
        rw [if_neg (by omega), if_pos g0]
      rw [hz]
      refine zp0 (by rfl) rfl rfl ?_
      refine zp_retI (by rfl) ?_
      exact ⟨rfl, rfl⟩
    by_cases g1 : (C 1 10).toInt = 620403968
    · refine zy_lsw (t := 66) (by rfl) (by rw [g1]; rfl) ?_
      have hz : zcmb (C 1 8).toInt (C 1 10).toInt = 2 := by
        unfold zcmb
        rw [if_neg (by omega), if_neg g0, if_pos g1]
      rw [hz]
      refine zp0 (by rfl) rfl rfl ?_
      refine zp_retI (by rfl) ?_
      exact ⟨rfl, rfl⟩
    by_cases g2 : (C 1 10).toInt = 273730176
    · refine zy_lsw (t := 68) (by rfl) (by rw [g2]; rfl) ?_
      have hz : zcmb (C 1 8).toInt (C 1 10).toInt = 4 := by
        unfold zcmb
        rw [if_neg (by omega), if_neg g0, if_neg g1, if_pos g2]
      rw [hz]
      refine zp0 (by rfl) rfl rfl ?_
      refine zp_retI (by rfl) ?_
      exact ⟨rfl, rfl⟩
    by_cases g3 : (C 1 10).toInt = 150637184
    · refine zy_lsw (t := 70) (by rfl) (by rw [g3]; rfl) ?_
      have hz : zcmb (C 1 8).toInt (C 1 10).toInt = 8 := by
        unfold zcmb
        rw [if_neg (by omega), if_neg g0, if_neg g1, if_neg g2, if_pos g3]
      rw [hz]
      refine zq_bip (by rfl) (by decide) ?_
      refine zp_retI (by rfl) ?_
      exact ⟨rfl, rfl⟩
    have hoff : Op.lookupswitch.offset [(150637184, 50), (273730176, 48), (620403968, 46), (620411008, 44)] 53 (C 1 10).toInt = 53 := by
      rw [Op.lookupswitch.offset_cons, if_neg (fun q => g3 q.symm), Op.lookupswitch.offset_cons, if_neg (fun q => g2 q.symm), Op.lookupswitch.offset_cons, if_neg (fun q => g1 q.symm), Op.lookupswitch.offset_cons, if_neg (fun q => g0 q.symm)]
      rfl
    refine zy_lsw (t := 73) (by rfl) ((congrArg (zJ 20) hoff).trans rfl) ?_
    have hz : zcmb (C 1 8).toInt (C 1 10).toInt = 0 := by
      unfold zcmb
      rw [if_neg (by omega), if_neg g0, if_neg g1, if_neg g2, if_neg g3]
    rw [hz]
    refine zp0 (by rfl) rfl rfl ?_
    refine zp_retI (by rfl) ?_
    exact ⟨rfl, rfl⟩
  · refine zp0 (by rfl) rfl rfl ?_
    refine zp_retI (by rfl) ?_
    simp only [zcf] at h1
    have hz : zcmb (C 1 8).toInt (C 1 10).toInt = 0 := if_pos (by omega)
    rw [hz]
    exact ⟨rfl, rfl⟩
theorem zc_lang (he : zeI e hp (zDC 7 6 x3 x4).length) : zPn Lx xs n 75 (0, lv_args 0 [.ref (e 1)], [], zHS e (zDC 7 6 x3 x4) C hp, 0, 0) (fun rv hp1 => ∃ r, rv = some (.int r) ∧ hp1 = zHS e (zDC 7 6 x3 x4) C hp ∧ (r.toInt ≠ 0 ↔ ∃ w, w < 17 ∧ (C 1 10).toInt = (zWpk.getD w 0 : Nat))) := by
  iterate 1 refine zp0 (by rfl) rfl rfl ?_
  refine zy_get (b := 10) he (by rfl) (by rfl) (by rfl) (by rfl) ?_
  by_cases g : ∃ w, w < 17 ∧ (C 1 10).toInt = (zWpk.getD w 0 : Nat)
  · obtain ⟨w, hw, hv⟩ := g
    have hJ : ∀ w : Nat, w < 17 → zJ 4 (Op.lookupswitch.offset [(36165792, 148), (48365568, 148), (109359232, 148), (150637184, 148), (217567232, 148), (273730176, 148), (278110208, 148), (408113152, 148), (418418688, 148), (486146048, 148), (522190848, 148), (620403968, 148), (620411008, 148), (646099136, 148), (679786720, 148), (777297172, 148), (781325312, 148)] 150 (zWpk.getD w 0 : Nat)) = some 152 := by decide
    refine zy_lsw (t := 152) (by rfl) ((congrArg (fun q => zJ 4 (Op.lookupswitch.offset [(36165792, 148), (48365568, 148), (109359232, 148), (150637184, 148), (217567232, 148), (273730176, 148), (278110208, 148), (408113152, 148), (418418688, 148), (486146048, 148), (522190848, 148), (620403968, 148), (620411008, 148), (646099136, 148), (679786720, 148), (777297172, 148), (781325312, 148)] 150 q)) hv).trans (hJ w hw)) ?_
    refine zp0 (by rfl) rfl rfl ?_
    refine zp_retI (by rfl) ?_
    exact ⟨_, rfl, rfl, fun _ => ⟨w, hw, hv⟩, fun _ => by decide⟩
  · have hoff : Op.lookupswitch.offset [(36165792, 148), (48365568, 148), (109359232, 148), (150637184, 148), (217567232, 148), (273730176, 148), (278110208, 148), (408113152, 148), (418418688, 148), (486146048, 148), (522190848, 148), (620403968, 148), (620411008, 148), (646099136, 148), (679786720, 148), (777297172, 148), (781325312, 148)] 150 (C 1 10).toInt = 150 := by
      rw [Op.lookupswitch.offset_cons, if_neg (fun q => g ⟨15, by decide, q.symm⟩), Op.lookupswitch.offset_cons, if_neg (fun q => g ⟨7, by decide, q.symm⟩), Op.lookupswitch.offset_cons, if_neg (fun q => g ⟨2, by decide, q.symm⟩), Op.lookupswitch.offset_cons, if_neg (fun q => g ⟨5, by decide, q.symm⟩), Op.lookupswitch.offset_cons, if_neg (fun q => g ⟨14, by decide, q.symm⟩), Op.lookupswitch.offset_cons, if_neg (fun q => g ⟨4, by decide, q.symm⟩), Op.lookupswitch.offset_cons, if_neg (fun q => g ⟨12, by decide, q.symm⟩), Op.lookupswitch.offset_cons, if_neg (fun q => g ⟨13, by decide, q.symm⟩), Op.lookupswitch.offset_cons, if_neg (fun q => g ⟨16, by decide, q.symm⟩), Op.lookupswitch.offset_cons, if_neg (fun q => g ⟨9, by decide, q.symm⟩), Op.lookupswitch.offset_cons, if_neg (fun q => g ⟨8, by decide, q.symm⟩), Op.lookupswitch.offset_cons, if_neg (fun q => g ⟨6, by decide, q.symm⟩), Op.lookupswitch.offset_cons, if_neg (fun q => g ⟨3, by decide, q.symm⟩), Op.lookupswitch.offset_cons, if_neg (fun q => g ⟨0, by decide, q.symm⟩), Op.lookupswitch.offset_cons, if_neg (fun q => g ⟨1, by decide, q.symm⟩), Op.lookupswitch.offset_cons, if_neg (fun q => g ⟨10, by decide, q.symm⟩), Op.lookupswitch.offset_cons, if_neg (fun q => g ⟨11, by decide, q.symm⟩)]
      rfl
    refine zy_lsw (t := 154) (by rfl) ((congrArg (zJ 4) hoff).trans rfl) ?_
    refine zp0 (by rfl) rfl rfl ?_
    refine zp_retI (by rfl) ?_
    exact ⟨_, rfl, rfl, fun q => absurd (by decide) q, fun q => absurd q g⟩
theorem zc_findA (he : zeI e hp (zDC 7 6 x3 x4).length) {N : Nat} (hN : C 6 10 = Int32.ofInt (N : Int)) (h9 : N ≤ 9) (x : Int32) : ∀ (d k c s : Nat), d + k = N → zPn Lx xs n 92 (2, [(2, .int (Int32.ofInt (k : Int))), (0, .ref (e 6)), (1, .int x)], [], zHS e (zDC 7 6 x3 x4) C hp, c, s) (fun rv hp1 => rv = some (.int (Int32.ofInt (zfindA (C 7) 0 x d k))) ∧ hp1 = zHS e (zDC 7 6 x3 x4) C hp) := by
  have yn : (C 6 10).toInt = N := by rw [hN]; exact zof_ix (by omega)
  intro d
  induction d with
  | zero =>
    intro k c s hk
    have yk : (Int32.ofInt (k : Int)).toInt = k := zof_ix (by omega)
    iterate 2 refine zp0 (by rfl) rfl rfl ?_
    refine zy_get (b := 10) he (by rfl) (by rfl) (by rfl) (by rfl) ?_
    refine zy_icmp (by rfl) (by rfl) (fun h1 => ?_) (fun h1 => ?_)
    · refine zp0 (by rfl) rfl rfl ?_
      refine zp_retI (by rfl) ?_
      exact ⟨rfl, rfl⟩
    · exfalso
      simp only [zcf, yn, yk] at h1
      omega
  | succ d ih =>
    intro k c s hk
    have yk : (Int32.ofInt (k : Int)).toInt = k := zof_ix (by omega)
    have ck : (Int32.ofInt (k : Int)).toNatClampNeg = k := zof_cl (by omega)
    have hz : zfindA (C 7) 0 x (d + 1) k = if (C 7 k).toInt = x.toInt then (k : Int) else zfindA (C 7) 0 x d (k + 1) := by
      show (if (C 7 (0 + k)).toInt = x.toInt then _ else _) = _
      rw [Nat.zero_add]
    iterate 2 refine zp0 (by rfl) rfl rfl ?_
    refine zy_get (b := 10) he (by rfl) (by rfl) (by rfl) (by rfl) ?_
    refine zy_icmp (by rfl) (by rfl) (fun h1 => ?_) (fun h1 => ?_)
    · refine zp0 (by rfl) rfl rfl ?_
      refine zp_retI (by rfl) ?_
      exfalso
      simp only [zcf, yn, yk] at h1
      omega
    · refine zp0 (by rfl) rfl rfl ?_
      refine zy_ref (r := 7) he (by rfl) (by rfl) (by rfl) (by rfl) ?_
      refine zp0 (by rfl) rfl rfl ?_
      refine zy_ald he (by rfl) (by rfl) (fun u2 w2 => ?_)
      refine zp0 (by rfl) rfl rfl ?_
      refine zy_icmp (by rfl) (by rfl) (fun h3 => ?_) (fun h3 => ?_)
      · iterate 2 refine zp0 (by rfl) rfl rfl ?_
        simp only [zcf, ck] at h3
        rw [hz, if_neg (by omega)]
        rw [zof_up]
        exact ih (k + 1) _ _ (by omega)
      · refine zp0 (by rfl) rfl rfl ?_
        refine zp_retI (by rfl) ?_
        simp only [zcf, ck] at h3
        rw [hz, if_pos (by omega)]
        exact ⟨rfl, rfl⟩
theorem zc_find (he : zeI e hp (zDC 7 6 x3 x4).length) {N : Nat} (hN : C 6 10 = Int32.ofInt (N : Int)) (h9 : N ≤ 9) (x : Int32) : zPn Lx xs n 92 (0, lv_args 0 [.ref (e 6), .int x], [], zHS e (zDC 7 6 x3 x4) C hp, 0, 0) (fun rv hp1 => rv = some (.int (Int32.ofInt (zfindA (C 7) 0 x N 0))) ∧ hp1 = zHS e (zDC 7 6 x3 x4) C hp) := by
  iterate 2 refine zp0 (by rfl) rfl rfl ?_
  exact zc_findA he hN h9 x N 0 _ _ (Nat.add_zero N)
abbrev zovc (C : Nat → Nat → Int32) (x y : Nat) : Prop := (C 8 x).toInt < (C 8 y + C 10 y).toInt ∧ (C 8 y).toInt < (C 8 x + C 10 x).toInt ∧ (C 9 x).toInt < (C 9 y + C 11 y).toInt ∧ (C 9 y).toInt < (C 9 x + C 11 x).toInt
theorem zc_meet (he : zeI e hp (zDC 7 6 x3 x4).length) (a al b bl : Int32) : zPn Lx xs n 94 (0, lv_args 0 [.ref (e 6), .int a, .int al, .int b, .int bl], [], zHS e (zDC 7 6 x3 x4) C hp, 0, 0) (fun rv hp1 => rv = some (.int (if al.toInt < (bl + C 10 b.toNatClampNeg).toInt ∧ bl.toInt < (al + C 10 a.toNatClampNeg).toInt then 1 else 0)) ∧ hp1 = zHS e (zDC 7 6 x3 x4) C hp) := by
  iterate 3 refine zp0 (by rfl) rfl rfl ?_
  refine zy_ref (r := 10) he (by rfl) (by rfl) (by rfl) (by rfl) ?_
  refine zp0 (by rfl) rfl rfl ?_
  refine zy_ald he (by rfl) (by rfl) (fun u1 w1 => ?_)
  refine zp0 (by rfl) rfl rfl ?_
  refine zy_icmp (by rfl) (by rfl) (fun h2 => ?_) (fun h2 => ?_)
  · refine zp0 (by rfl) rfl rfl ?_
    refine zp_retI (by rfl) ?_
    refine ⟨?_, rfl⟩
    simp only [zcf] at h2
    split
    all_goals first | rfl | (exfalso; omega)
  · iterate 3 refine zp0 (by rfl) rfl rfl ?_
    refine zy_ref (r := 10) he (by rfl) (by rfl) (by rfl) (by rfl) ?_
    refine zp0 (by rfl) rfl rfl ?_
    refine zy_ald he (by rfl) (by rfl) (fun u3 w3 => ?_)
    refine zp0 (by rfl) rfl rfl ?_
    refine zy_icmp (by rfl) (by rfl) (fun h4 => ?_) (fun h4 => ?_)
    · refine zp0 (by rfl) rfl rfl ?_
      refine zp_retI (by rfl) ?_
      refine ⟨?_, rfl⟩
      simp only [zcf] at h2 h4
      split
      all_goals first | rfl | (exfalso; omega)
    · iterate 2 refine zp0 (by rfl) rfl rfl ?_
      refine zp_retI (by rfl) ?_
      refine ⟨?_, rfl⟩
      simp only [zcf] at h2 h4
      split
      all_goals first | rfl | (exfalso; omega)
theorem zc_collide (he : zeI e hp (zDC 7 6 x3 x4).length) (a al af b bl bf : Int32) : zPn Lx xs n 95 (0, lv_args 0 [.ref (e 6), .int a, .int al, .int af, .int b, .int bl, .int bf], [], zHS e (zDC 7 6 x3 x4) C hp, 0, 0) (fun rv hp1 => rv = some (.int (if (al.toInt < (bl + C 10 b.toNatClampNeg).toInt ∧ bl.toInt < (al + C 10 a.toNatClampNeg).toInt) ∧ af.toInt < (bf + C 11 b.toNatClampNeg).toInt ∧ bf.toInt < (af + C 11 a.toNatClampNeg).toInt then 1 else 0)) ∧ hp1 = zHS e (zDC 7 6 x3 x4) C hp) := by
  iterate 5 refine zp0 (by rfl) rfl rfl ?_
  refine zy_v4e (by rfl) (zc_meet he _ _ _ _) ?_
  refine zy_if (by rfl) (by rfl) (fun h1 => ?_) (fun h1 => ?_)
  · refine zp0 (by rfl) rfl rfl ?_
    refine zp_retI (by rfl) ?_
    refine ⟨?_, rfl⟩
    have g := zite0 h1
    rw [if_neg (fun q => g q.1)]
    rfl
  · iterate 3 refine zp0 (by rfl) rfl rfl ?_
    refine zy_ref (r := 11) he (by rfl) (by rfl) (by rfl) (by rfl) ?_
    refine zp0 (by rfl) rfl rfl ?_
    refine zy_ald he (by rfl) (by rfl) (fun u2 w2 => ?_)
    refine zp0 (by rfl) rfl rfl ?_
    refine zy_icmp (by rfl) (by rfl) (fun h3 => ?_) (fun h3 => ?_)
    · refine zp0 (by rfl) rfl rfl ?_
      refine zp_retI (by rfl) ?_
      refine ⟨?_, rfl⟩
      have g := zite1 h1
      simp only [zcf] at h3
      split
      all_goals first | rfl | (exfalso; omega)
    · iterate 3 refine zp0 (by rfl) rfl rfl ?_
      refine zy_ref (r := 11) he (by rfl) (by rfl) (by rfl) (by rfl) ?_
      refine zp0 (by rfl) rfl rfl ?_
      refine zy_ald he (by rfl) (by rfl) (fun u4 w4 => ?_)
      refine zp0 (by rfl) rfl rfl ?_
      refine zy_icmp (by rfl) (by rfl) (fun h5 => ?_) (fun h5 => ?_)
      · refine zp0 (by rfl) rfl rfl ?_
        refine zp_retI (by rfl) ?_
        refine ⟨?_, rfl⟩
        have g := zite1 h1
        simp only [zcf] at h3 h5
        split
        all_goals first | rfl | (exfalso; omega)
      · iterate 2 refine zp0 (by rfl) rfl rfl ?_
        refine zp_retI (by rfl) ?_
        refine ⟨?_, rfl⟩
        have g := zite1 h1
        simp only [zcf] at h3 h5
        split
        all_goals first | rfl | (exfalso; omega)
end ZCLF
