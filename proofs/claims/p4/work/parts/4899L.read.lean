/-! the class reads a text as the model does -/
section ZCLL
variable {Lx : Nat} {xs : Nat → Int32} {n : Nat} {hp : List zhE} {e : Nat → Nat} {x1 x2 x3 x4 m K : Nat} {T : Nat → Int32}
def zRdO (S' : Nat → Nat → Int32) (r : Int32) (C' : Nat → Nat → Int32) (g : Int32) : Prop := (g.toInt ≠ 0 ∧ r = C' 0 3 ∧ ∃ N', N' ≤ 9 ∧ zLs2 S' C' N') ∨ (g.toInt = 0 ∧ r = Int32.ofInt (-1) ∧ S' 0 4 = C' 0 4 ∧ S' 0 5 = C' 0 5)
theorem zc_lines : ∀ (j : Nat) (S S' : Nat → Nat → Int32) (a : Nat) (r : Int32) (C : Nat → Nat → Int32) (i N x3 x4 : Nat) (v4 y2 : Int32) (c s : Nat), zeI e hp (zDC 7 6 x3 x4).length → m ≤ 600 → zTxR T m j S a r S' → zMd T m i S → zScT T m K i C → zLs2 S C N → N ≤ 9 → a ≤ i → C 0 3 = Int32.ofInt (a : Int) → v4.toInt ≠ 0 → zPn Lx xs n 48 (36, [(4, .int v4), (0, .ref (e 0)), (1, .ref (e 5)), (2, .int y2), (3, .ref (e 6))], [], zHS e (zDC 7 6 x3 x4) C hp, c, s) (fun rv hp1 => ∃ g C' y3 y4, rv = some (.int g) ∧ hp1 = zHS e (zDC 7 6 y3 y4) C' hp ∧ zRdO S' r C' g) := by
  intro j
  induction j with
  | zero =>
    intro S S' a r C i N x3 x4 v4 y2 c s he hm hT
    exact hT.elim
  | succ j ih =>
    intro S S' a r C i N x3 x4 v4 y2 c s he hm hT hM hK hL hN hai hl hv4
    have hI := zScT_i hK hm
    have hk := zMd_k hM
    have hKK := hK.2.2.2.2.1
    have hiK := hK.2.2.2.2.2.1
    have yl : (C 0 3).toInt = a := by rw [hl]; exact zof_ix (by omega)
    have hc0 : (C 1 8).toInt = 0 ↔ zmk T m i = 0 := by rcases hI with h | ⟨v, h⟩ | h | h | h | h | h <;> omega
    have k6 : (Int32.ofInt 600).toInt = 600 := by decide
    have w0 : (Int32.ofInt 646099136).toInt = 646099136 := by decide
    have w1 : (Int32.ofInt 679786720).toInt = 679786720 := by decide
    have w2 : (Int32.ofInt 109359232).toInt = 109359232 := by decide
    have ky0 : ((C 1 8).toInt = 1 ∧ (C 1 10).toInt = (Int32.ofInt 646099136).toInt) ↔ (zmk T m i = 1 ∧ (zmw T m i).toInt = ((0 : Nat) : Int)) := by
      rw [w0]
      exact zTRi_ky hI (w := 0) (by decide)
    have ky1 : ((C 1 8).toInt = 1 ∧ (C 1 10).toInt = (Int32.ofInt 679786720).toInt) ↔ (zmk T m i = 1 ∧ (zmw T m i).toInt = ((1 : Nat) : Int)) := by
      rw [w1]
      exact zTRi_ky hI (w := 1) (by decide)
    have ky2 : ((C 1 8).toInt = 1 ∧ (C 1 10).toInt = (Int32.ofInt 109359232).toInt) ↔ (zmk T m i = 1 ∧ (zmw T m i).toInt = ((2 : Nat) : Int)) := by
      rw [w2]
      exact zTRi_ky hI (w := 2) (by decide)
    have hw0 : zmk T m i = 1 → 0 ≤ (zmw T m i).toInt := by
      intro q
      have hI2 := zTRi_at (T := T) (m := m) hm i
      rcases hI2 with h | ⟨v, h⟩ | h | h | h | h | h <;> omega
    have hline : zmk T m i ≠ 0 → ∃ r1 S1, zLnR T m i N S S1 r1 ∧ ((r1.toInt = 0 ∧ r = Int32.ofInt (-1) ∧ S' = S1) ∨ (r1.toInt ≠ 0 ∧ zTxR T m j S1 (a + 1) r S')) := by
      intro q
      rcases hT with ⟨h0, _⟩ | ⟨_, i2, n2, r1, S1, h1, h2, h3, h4, h5⟩
      · exact absurd (hk.symm.trans h0) q
      · have e1 := zMd_uniq hM h1 q
        subst e1
        have e2 : N = n2 := by
          have := hL.1.1.symm.trans h3
          have := congrArg Int32.toInt this
          rw [zof_ix (by omega), zof_ix (by omega)] at this
          omega
        subst e2
        exact ⟨r1, S1, h4, h5⟩
    -- behind a line
    have hback : ∀ (S1 : Nat → Nat → Int32) (r1 g : Int32) (C1 : Nat → Nat → Int32) (y3 y4 c s : Nat), zLnO T m K i S1 r1 C C1 g → ((r1.toInt = 0 ∧ r = Int32.ofInt (-1) ∧ S' = S1) ∨ (r1.toInt ≠ 0 ∧ zTxR T m j S1 (a + 1) r S')) → zPn Lx xs n 48 (131, [(4, .int g), (0, .ref (e 0)), (1, .ref (e 5)), (2, .int y2), (3, .ref (e 6))], [], zHS e (zDC 7 6 y3 y4) C1 hp, c, s) (fun rv hp1 => ∃ g C' y3 y4, rv = some (.int g) ∧ hp1 = zHS e (zDC 7 6 y3 y4) C' hp ∧ zRdO S' r C' g) := by
      intro S1 r1 g C1 y3 y4 c s hO hT1
      have he : zeI e hp (zDC 7 6 y3 y4).length := he
      iterate 2 refine zp0 (by rfl) rfl rfl ?_
      refine zy_get (b := 3) he (by rfl) (by rfl) (by rfl) (by rfl) ?_
      iterate 2 refine zp0 (by rfl) rfl rfl ?_
      refine zy_put (b := 3) he (by rfl) (by rfl) (by rfl) ?_
      refine zp0 (by rfl) rfl rfl ?_
      rcases hO with ⟨o1, o2, i2, N2, o3, o4, o5, o6, o7, o8⟩ | ⟨o1, o2, o3, o4⟩
      · rcases hT1 with ⟨t1, _⟩ | ⟨_, hT1⟩
        · exact absurd t1 o1
        · have e3 : C1 0 3 + Int32.ofInt 1 = Int32.ofInt ((a + 1 : Nat) : Int) := by rw [o8, hl, zof_up]
          show zPn Lx xs n 48 (36, [(4, .int g), (0, .ref (e 0)), (1, .ref (e 5)), (2, .int y2), (3, .ref (e 6))], [], zHS e (zDC 7 6 y3 y4) (zuS C1 0 3 (C1 0 3 + Int32.ofInt 1)) hp, _, _) _
          rw [e3]
          exact ih S1 S' (a + 1) r (zuS C1 0 3 (Int32.ofInt ((a + 1 : Nat) : Int))) i2 N2 y3 y4 g y2 _ _ he hm hT1 o4 (zScT_fr o5 rfl rfl rfl rfl) o7 o6 (by omega) zuS_at o2
      · rcases hT1 with ⟨_, t2, t3⟩ | ⟨t1, _⟩
        · have hfin : ∃ g9 C' y3' y4', some (Value.int g) = some (Value.int g9) ∧ zHS e (zDC 7 6 y3 y4) (zuS C1 0 3 (C1 0 3 + Int32.ofInt 1)) hp = zHS e (zDC 7 6 y3' y4') C' hp ∧ zRdO S' r C' g9 := by
            refine ⟨g, _, y3, y4, rfl, rfl, Or.inr ⟨o2, t2, ?_, ?_⟩⟩
            · rw [t3, o3]
              rfl
            · rw [t3, o4]
              rfl
          refine zp0 (by rfl) rfl rfl ?_
          refine zy_if (by rfl) (by rfl) (fun h31 => ?_) (fun h31 => ?_)
          · refine zp0 (by rfl) rfl rfl ?_
            refine zp_retI (by rfl) ?_
            exact hfin
          · exfalso
            exact h31 o2
        · exact absurd o1 t1
    refine zp0 (by rfl) rfl rfl ?_
    refine zy_if (by rfl) (by rfl) (fun h1 => ?_) (fun h1 => ?_)
    · refine zp0 (by rfl) rfl rfl ?_
      refine zp_retI (by rfl) ?_
      exfalso
      exact hv4 h1
    · refine zp0 (by rfl) rfl rfl ?_
      refine zy_ref (r := 1) he (by rfl) (by rfl) (by rfl) (by rfl) ?_
      refine zy_get (b := 8) he (by rfl) (by rfl) (by rfl) (by rfl) ?_
      refine zy_if (by rfl) (by rfl) (fun h2 => ?_) (fun h2 => ?_)
      · refine zp0 (by rfl) rfl rfl ?_
        refine zp_retI (by rfl) ?_
        have hz0 : zmk T m i = 0 := hc0.mp h2
        rcases hT with ⟨_, t1, t2⟩ | ⟨t1, _⟩
        · refine ⟨_, _, x3, x4, rfl, rfl, Or.inl ⟨hv4, ?_, N, hN, ?_⟩⟩
          · rw [t1, hl]
          · rw [t2]
            exact hL
        · exact absurd (hk.trans hz0) t1
      · refine zp0 (by rfl) rfl rfl ?_
        refine zy_get (b := 3) he (by rfl) (by rfl) (by rfl) (by rfl) ?_
        refine zq_sip (by rfl) (by decide) ?_
        refine zy_icmpC (by rfl) (by rfl) ⟨by decide, by decide⟩ (fun h3 => ?_) (fun h3 => ?_)
        · refine zp0 (by rfl) rfl rfl ?_
          refine zp_retI (by rfl) ?_
          exfalso
          simp only [zcf, yl] at h3
          have hz0 : zmk T m i ≠ 0 := fun q => h2 (hc0.mpr q)
          have := zScT_lt hK hm hz0
          omega
        · refine zp0 (by rfl) rfl rfl ?_
          refine zy_ref (r := 1) he (by rfl) (by rfl) (by rfl) (by rfl) ?_
          refine zp0 (by rfl) rfl rfl ?_
          refine zy_v1e (by rfl) (zc_isWord he _) ?_
          refine zy_if (by rfl) (by rfl) (fun h4 => ?_) (fun h4 => ?_)
          · refine zp0 (by rfl) rfl rfl ?_
            refine zy_ref (r := 1) he (by rfl) (by rfl) (by rfl) (by rfl) ?_
            refine zp0 (by rfl) rfl rfl ?_
            refine zy_v1e (by rfl) (zc_isWord he _) ?_
            refine zy_if (by rfl) (by rfl) (fun h5 => ?_) (fun h5 => ?_)
            · refine zp0 (by rfl) rfl rfl ?_
              refine zy_ref (r := 1) he (by rfl) (by rfl) (by rfl) (by rfl) ?_
              refine zp0 (by rfl) rfl rfl ?_
              refine zy_v1e (by rfl) (zc_isWord he _) ?_
              refine zy_if (by rfl) (by rfl) (fun h6 => ?_) (fun h6 => ?_)
              · have hz0 : zmk T m i ≠ 0 := fun q => h2 (hc0.mpr q)
                have k0 : ¬ (zmk T m i = 1 ∧ (zmw T m i).toInt = ((0 : Nat) : Int)) := fun q => zite0 h4 (ky0.mpr q)
                have k1 : ¬ (zmk T m i = 1 ∧ (zmw T m i).toInt = ((1 : Nat) : Int)) := fun q => zite0 h5 (ky1.mpr q)
                have k2 : ¬ (zmk T m i = 1 ∧ (zmw T m i).toInt = ((2 : Nat) : Int)) := fun q => zite0 h6 (ky2.mpr q)
                obtain ⟨r1, S1, hR, hT1⟩ := hline hz0
                have hx := zcref_x (f := Int32.ofInt 1) hK
                have hO : zLnO T m K i S1 r1 C (zcref C (Int32.ofInt 1)) 0 := by
                  rcases hR with ⟨_, q1, q2⟩ | ⟨_, q, _⟩ | ⟨_, q, _⟩ | ⟨_, q1, q2, _⟩
                  · refine Or.inr ⟨q1, by decide, ?_, ?_⟩
                    · rw [q2, hx.1]
                      rfl
                    · rw [q2, hx.2, ← hM.2.2.2.1]
                      rfl
                  · omega
                  · omega
                  · omega
                iterate 2 refine zp0 (by rfl) rfl rfl ?_
                refine zy_v1e (by rfl) (zc_refuse he _) ?_
                refine zp0 (by rfl) rfl rfl ?_
                exact hback S1 r1 0 _ x3 x4 _ _ hO hT1
              · have hz0 : zmk T m i ≠ 0 := fun q => h2 (hc0.mpr q)
                have ks := ky2.mp (zite1 h6)
                obtain ⟨r1, S1, hR, hT1⟩ := hline hz0
                have hR2 : ((S 0 19).toInt ≠ 0 ∧ r1.toInt = 0 ∧ S1 = zwrong S (Int32.ofInt 3)) ∨ ((S 0 19).toInt = 0 ∧ ∃ S2, zMd T m (i + 1) S2 ∧ S2 0 19 = Int32.ofInt 1 ∧ (∀ q, q ≠ 0 → S2 q = S q) ∧ (∀ f, f = 1 ∨ f = 4 ∨ f = 5 ∨ f = 15 ∨ f = 16 ∨ f = 18 → S2 0 f = S 0 f) ∧ ∃ k r2 S3, zSum m k (zsm0 S2) S3 r2 ∧ ((r2.toInt = 0 ∧ r1.toInt = 0 ∧ S1 = S3) ∨ (r2.toInt ≠ 0 ∧ zEndR S3 S1 r1 m))) := by
                  rcases hR with ⟨q, _⟩ | ⟨_, q, _⟩ | ⟨_, q, _⟩ | ⟨_, _, _, q⟩
                  · omega
                  · omega
                  · omega
                  · exact q
                refine zp0 (by rfl) rfl rfl ?_
                refine zy_v0 (by rfl) (zc_lchild he hm hN hM hK hL hz0 hR2) ?_
                intro rv hp1 hq
                obtain ⟨g, C1, y3, y4, q1, q2, hO⟩ := hq
                rw [q1, q2]
                iterate 2 refine zp0 (by rfl) rfl rfl ?_
                exact hback S1 r1 g C1 y3 y4 _ _ hO hT1
            · have hz0 : zmk T m i ≠ 0 := fun q => h2 (hc0.mpr q)
              have ks := ky1.mp (zite1 h5)
              obtain ⟨r1, S1, hR, hT1⟩ := hline hz0
              have hR2 : ∃ r2 S2, zThR T m N i S S2 r2 ∧ ((r2.toInt = 0 ∧ r1.toInt = 0 ∧ S1 = S2) ∨ (r2.toInt ≠ 0 ∧ zEndR S2 S1 r1 m)) := by
                rcases hR with ⟨q, _⟩ | ⟨_, _, q⟩ | ⟨_, q, _⟩ | ⟨_, q, _⟩
                · omega
                · exact q
                · omega
                · omega
              refine zp0 (by rfl) rfl rfl ?_
              refine zy_v0 (by rfl) (zc_lthing he hm hN hM hK hL hz0 hR2) ?_
              intro rv hp1 hq
              obtain ⟨g, C1, q1, q2, hO⟩ := hq
              rw [q1, q2]
              iterate 2 refine zp0 (by rfl) rfl rfl ?_
              exact hback S1 r1 g C1 x3 x4 _ _ hO hT1
          · have hz0 : zmk T m i ≠ 0 := fun q => h2 (hc0.mpr q)
            have ks := ky0.mp (zite1 h4)
            obtain ⟨r1, S1, hR, hT1⟩ := hline hz0
            have hR2 : ((S 0 18).toInt ≠ 0 ∧ r1.toInt = 0 ∧ S1 = zwrong S (Int32.ofInt 3)) ∨ ((S 0 18).toInt = 0 ∧ ((zsNum T m (i + 1) 1 40 ≠ 0 ∧ r1.toInt = 0 ∧ S1 0 4 = Int32.ofInt (zsNum T m (i + 1) 1 40) ∧ S1 0 5 = Int32.ofInt (zpl T m (i + 1) : Nat) ∧ zFx S S1) ∨ (zsNum T m (i + 1) 1 40 = 0 ∧ ∃ S2, zMd T m (i + 2) S2 ∧ S2 0 16 = zmw T m (i + 1) ∧ S2 0 18 = Int32.ofInt 1 ∧ (∀ q, q ≠ 0 → S2 q = S q) ∧ (∀ f, f = 1 ∨ f = 4 ∨ f = 5 ∨ f = 15 ∨ f = 19 → S2 0 f = S 0 f) ∧ zEndR S2 S1 r1 m))) := by
              rcases hR with ⟨q, _⟩ | ⟨_, q, _⟩ | ⟨_, _, q⟩ | ⟨_, q, _⟩
              · omega
              · omega
              · exact q
              · omega
            refine zp0 (by rfl) rfl rfl ?_
            refine zy_v0 (by rfl) (zc_lshelf he hm hN hM hK hL hz0 hR2) ?_
            intro rv hp1 hq
            obtain ⟨g, C1, q1, q2, hO⟩ := hq
            rw [q1, q2]
            iterate 2 refine zp0 (by rfl) rfl rfl ?_
            exact hback S1 r1 g C1 x3 x4 _ _ hO hT1
theorem zc_clear (he : zeI e hp (zDC x1 x2 x3 x4).length) {C : Nat → Nat → Int32} : zPn Lx xs n 90 (0, lv_args 0 [.ref (e 6)], [], zHS e (zDC x1 x2 x3 x4) C hp, 0, 0) (fun rv hp1 => rv = none ∧ hp1 = zHS e (zDC x1 x2 x3 x4) (zuS (zuS (zuS (zuS (zuS C 6 10 (Int32.ofInt 0)) 6 9 (Int32.ofInt 0)) 6 11 (Int32.ofInt 20)) 6 12 (Int32.ofInt 0)) 16 3 (Int32.ofInt 0)) hp) := by
  iterate 2 refine zp0 (by rfl) rfl rfl ?_
  refine zy_put (b := 10) he (by rfl) (by rfl) (by rfl) ?_
  iterate 2 refine zp0 (by rfl) rfl rfl ?_
  refine zy_put (b := 9) he (by rfl) (by rfl) (by rfl) ?_
  refine zp0 (by rfl) rfl rfl ?_
  refine zq_bip (by rfl) (by decide) ?_
  refine zy_put (b := 11) he (by rfl) (by rfl) (by rfl) ?_
  iterate 2 refine zp0 (by rfl) rfl rfl ?_
  refine zy_put (b := 12) he (by rfl) (by rfl) (by rfl) ?_
  refine zp0 (by rfl) rfl rfl ?_
  refine zy_ref (r := 16) he (by rfl) (by rfl) (by rfl) (by rfl) ?_
  refine zp0 (by rfl) rfl rfl ?_
  refine zy_put (b := 3) he (by rfl) (by rfl) (by rfl) ?_
  refine zp_retV (by rfl) ?_
  exact ⟨rfl, rfl⟩
theorem zc_read (he : zeI e hp (zDC x1 x2 x3 x4).length) {C : Nat → Nat → Int32} (hm : m ≤ 600) (hT : ∀ q, q < m → zTc C q = T q) {S1 S' : Nat → Nat → Int32} {j : Nat} {r : Int32} (hM : zMd T m 0 S1) (h15 : S1 0 15 = Int32.ofInt 0) (h16 : S1 0 16 = Int32.ofInt 20) (h04 : S1 0 4 = Int32.ofInt 0) (h05 : S1 0 5 = Int32.ofInt (-1)) (h18 : S1 0 18 = Int32.ofInt 0) (h19 : S1 0 19 = Int32.ofInt 0) (hR : zTxR T m j S1 0 r S') : zPn Lx xs n 48 (0, lv_args 0 [.ref (e 0), .ref (e 5), .int (Int32.ofInt (m : Int)), .ref (e 6)], [], zHS e (zDC x1 x2 x3 x4) C hp, 0, 0) (fun rv hp1 => ∃ g C' y3 y4, rv = some (.int g) ∧ hp1 = zHS e (zDC 7 6 y3 y4) C' hp ∧ zRdO S' r C' g) := by
  have he7 : zeI e hp (zDC 7 x2 x3 x4).length := he
  have he6 : zeI e hp (zDC 7 6 x3 x4).length := he
  iterate 2 refine zp0 (by rfl) rfl rfl ?_
  refine zy_putR (r := 6) (D' := zDC 7 x2 x3 x4) he (by rfl) (by rfl) (by rfl) (by rfl) rfl ?_
  refine zp0 (by rfl) rfl rfl ?_
  refine zy_v0n (by rfl) (zc_clear he7) ?_
  iterate 2 refine zp0 (by rfl) rfl rfl ?_
  refine zy_put (b := 3) he7 (by rfl) (by rfl) (by rfl) ?_
  iterate 2 refine zp0 (by rfl) rfl rfl ?_
  refine zy_put (b := 4) he7 (by rfl) (by rfl) (by rfl) ?_
  iterate 2 refine zp0 (by rfl) rfl rfl ?_
  refine zy_put (b := 5) he7 (by rfl) (by rfl) (by rfl) ?_
  refine zp0 (by rfl) rfl rfl ?_
  refine zy_ref (r := 1) he7 (by rfl) (by rfl) (by rfl) (by rfl) ?_
  iterate 2 refine zp0 (by rfl) rfl rfl ?_
  refine zy_v2 (by rfl) (zc_cut (m := m) he7 hm) ?_
  intro rv hp1 hq
  obtain ⟨q1, C9, K, q2, hcut⟩ := hq
  rw [q1, q2]
  iterate 2 refine zp0 (by rfl) rfl rfl ?_
  obtain ⟨hS, hTc, hfr⟩ := hcut
  have hK : zScT T m K 0 C9 := by
    refine zScT_of (T := zTc C9) (fun q hq => ?_) hS
    rw [hTc]
    exact hT q hq
  have hL : zLs2 S1 C9 0 := by
    refine ⟨⟨h15, ?_, fun u hu => absurd hu (Nat.not_lt_zero u), ?_, ?_, ?_⟩, ⟨?_, ?_⟩, 0, by decide, ?_, fun u hu => absurd hu (Nat.not_lt_zero u)⟩
    · rw [hfr 6 (by decide) (by decide) (by decide) (by decide)]
      rfl
    · rw [hfr 6 (by decide) (by decide) (by decide) (by decide), h16]
      rfl
    · rw [hfr 6 (by decide) (by decide) (by decide) (by decide), h18]
      rfl
    · rw [hfr 16 (by decide) (by decide) (by decide) (by decide), h19]
      exact ⟨fun _ => show ¬ 0 < (Int32.ofInt 0).toInt by decide, fun _ => by decide⟩
    · rw [hfr 0 (by decide) (by decide) (by decide) (by decide), h04]
      rfl
    · rw [hfr 0 (by decide) (by decide) (by decide) (by decide), h05]
      rfl
    · rw [hfr 6 (by decide) (by decide) (by decide) (by decide)]
      rfl
  exact zc_lines j S1 S' 0 r C9 0 0 x3 x4 _ _ _ _ he6 hm hR hM hK hL (by decide) (Nat.le_refl 0) (by rw [hfr 0 (by decide) (by decide) (by decide) (by decide)]; rfl) (show (Int32.ofInt 1).toInt ≠ 0 by decide)
end ZCLL
