/-! E, read on both sides -/
section ZCLB
variable {Lx : Nat} {xs : Nat → Int32} {hp : List zhE} {e : Nat → Nat} {x1 m K : Nat} {T : Nat → Int32}
/-- what comes of E -/
def zEpo (e : Nat → Nat) (hp : List zhE) (x1 m K : Nat) (T : Nat → Int32) (a : Nat) (C0 S' : Nat → Nat → Int32) (r : Int32) (rv : Option Value) (hp1 : List zhE) : Prop := ∃ f C', rv = some (.int f) ∧ hp1 = zHS e (zDC x1 6 2 17) C' hp ∧ zFrE C0 C' ∧ ((r.toInt ≠ 0 ∧ f.toInt = 0 ∧ ∃ i l : Nat, a ≤ i ∧ zMd T m i S' ∧ zScT T m K i C' ∧ zsg S' 59 ∧ C' 16 3 = Int32.ofInt (l : Int) ∧ 1 ≤ l ∧ l ≤ 64) ∨ (r.toInt = 0 ∧ f.toInt ≠ 0 ∧ S' 0 4 = f ∧ S' 0 5 = C' 1 9))
def zEgo (Lx : Nat) (xs : Nat → Int32) (hp : List zhE) (e : Nat → Nat) (x1 m K : Nat) (T : Nat → Int32) (n k a : Nat) (C0 : Nat → Nat → Int32) : Prop := ∀ (S S' : Nat → Nat → Int32) (r : Int32) (C : Nat → Nat → Int32) (i j d br kn l : Nat) (v4 v7 : Int32) (c s : Nat), zSum m k S S' r → zMd T m i S → zScT T m K i C → zEq S C d br kn l → j + 1 ≤ i → a ≤ i → zFrE C0 C → (v4.toInt = 0 ↔ (S 0 39).toInt = 0) → zPn Lx xs n 107 (41, [(6, .int (Int32.ofInt (j : Int))), (4, .int v4), (3, .int (Int32.ofInt 0)), (7, .int v7), (5, .int (Int32.ofInt 0)), (0, .ref (e 18)), (1, .ref (e 1)), (2, .ref (e 16))], [], zHS e (zDC x1 6 2 17) C hp, c, s) (zEpo e hp x1 m K T a C0 S' r)
/-- behind a side, a sign or a bracket -/
theorem zc_E177 (he : zeI e hp (zDC x1 6 2 17).length) {n k a : Nat} {C0 S S' C C' : Nat → Nat → Int32} {r f r1 v4 v7 : Int32} {S1 : Nat → Nat → Int32} {i j : Nat} (hgo : zEgo Lx xs hp e x1 m K T n k a C0) (hM : zMd T m i S) (hC : zScT T m K i C) (hj : j + 1 ≤ i) (ha : a ≤ i) (hF : zFrE C0 C) (hFC : zFrC C C') (hso : zSo (zstO S) C' f) (hkind : (zstO S).1 = none → (S 0 8).toInt ≠ 0) (hv4 : (zstO S).1 = none → (v4.toInt = 0 ↔ ((zstO S).2 0 39).toInt = 0)) (hout : zOut (zstO S).1 (zstO S).2 S1 m (S 0 7).toNatClampNeg r1) (hsum : (r1.toInt = 0 ∧ r = Int32.ofInt 0 ∧ S' = S1) ∨ (r1.toInt ≠ 0 ∧ zSum m k S1 S' r)) {c s : Nat} : zPn Lx xs n 107 (177, [(4, .int v4), (3, .int f), (7, .int v7), (6, .int (Int32.ofInt (j : Int))), (5, .int (Int32.ofInt 0)), (0, .ref (e 18)), (1, .ref (e 1)), (2, .ref (e 16))], [], zHS e (zDC x1 6 2 17) C' hp, c, s) (zEpo e hp x1 m K T a C0 S' r) := by
  have e1 : C' 1 = C 1 := hFC 1 (by decide) (by decide) (by decide) (by decide)
  have hC' : zScT T m K i C' := zScT_fr hC e1 (hFC 2 (by decide) (by decide) (by decide) (by decide)) (hFC 3 (by decide) (by decide) (by decide) (by decide)) (hFC 4 (by decide) (by decide) (by decide) (by decide))
  have hF' : zFrE C0 C' := fun q q1 q2 q3 q4 q5 => (hFC q q2 q3 q4 q5).trans (hF q q1 q2 q3 q4 q5)
  have k0 : (0 : Int32).toInt = 0 := by decide
  have hi := hC.2.2.2.2.2.1
  have hK := hC.2.2.2.2.1
  cases hO : (zstO S).1 with
  | some g =>
    unfold zSo at hso
    rw [hO] at hso hout
    have hso : f = g ∧ g.toInt ≠ 0 := hso
    have hout : r1 = 0 ∧ S1 = zwrong (zstO S).2 g := hout
    have hsum : r = Int32.ofInt 0 ∧ S' = S1 := by
      rcases hsum with q | q
      · exact q.2
      · exact absurd (by rw [hout.1]; exact k0) q.1
    have hfin : ∀ C2, zFrC C' C2 → zEpo e hp x1 m K T a C0 S' r (some (.int f)) (zHS e (zDC x1 6 2 17) C2 hp) := by
      intro C2 h2
      refine ⟨f, C2, rfl, rfl, fun q q1 q2 q3 q4 q5 => (h2 q q2 q3 q4 q5).trans (hF' q q1 q2 q3 q4 q5), Or.inr ⟨?_, ?_, ?_, ?_⟩⟩
      · rw [hsum.1]
        decide
      · rw [hso.1]
        exact hso.2
      · rw [hsum.2, hout.2, hso.1]
        rfl
      · rw [hsum.2, hout.2, h2 1 (by decide) (by decide) (by decide) (by decide), hC'.2.2.2.2.2.2.2.2.1, ← hM.2.2.2.1]
        show (zstO S).2 0 10 = _
        exact zstO_10
    have hf0 : f.toInt ≠ 0 := by
      rw [hso.1]
      exact hso.2
    refine zp0 (by rfl) rfl rfl ?_
    refine zy_if (by rfl) (by rfl) (fun h1 => ?_) (fun h1 => ?_)
    · iterate 2 refine zp0 (by rfl) rfl rfl ?_
      refine zp0 (by rfl) rfl rfl ?_
      refine zq_sip (by rfl) (by decide) ?_
      refine zy_icmpC (by rfl) (by rfl) ⟨by decide, by decide⟩ (fun h11 => ?_) (fun h11 => ?_)
      · iterate 2 refine zp0 (by rfl) rfl rfl ?_
        refine zy_v1 (by rfl) (zc_settleV he _) ?_
        intro rv hp1 hq
        obtain ⟨q1, C2, q2, q3⟩ := hq
        rw [q1, q2]
        refine zp0 (by rfl) rfl rfl ?_
        refine zp_retI (by rfl) ?_
        exact hfin C2 q3
      · refine zp0 (by rfl) rfl rfl ?_
        refine zy_if (by rfl) (by rfl) (fun h12 => ?_) (fun h12 => ?_)
        · iterate 2 refine zp0 (by rfl) rfl rfl ?_
          refine zy_v1 (by rfl) (zc_settleV he _) ?_
          intro rv hp1 hq
          obtain ⟨q1, C2, q2, q3⟩ := hq
          rw [q1, q2]
          refine zp0 (by rfl) rfl rfl ?_
          refine zp_retI (by rfl) ?_
          exact hfin C2 q3
        · exfalso
          simp only [zcf] at h11 h12
          omega
    · exfalso
      simp only [zcf] at h1
      omega
  | none =>
    unfold zSo at hso
    rw [hO] at hso hout
    have hso : f = Int32.ofInt 0 ∧ ∃ d br kn l, zEq (zstO S).2 C' d br kn l := hso
    have hout : r1 = Int32.ofInt 1 ∧ zTok2 (zstO S).2 S1 m (zend (fun q => zcb1 ((zstO S).2 1 q)) m (S 0 7).toNatClampNeg) := hout
    have hsum : zSum m k S1 S' r := by
      rcases hsum with q | q
      · exact absurd q.1 (by rw [hout.1]; decide)
      · exact q.2
    obtain ⟨hf, d, br, kn, l, hE⟩ := hso
    have hlt := zMS_lt hM hC (hkind hO)
    have hkp : zKp S (zstO S).2 := by
      unfold zstO
      split
      · exact zlfO_keep
      · exact zsnO_keep
    have hM1 : zMd T m (i + 1) S1 := zMd_nx hM hkp.1 hkp.2.1 hkp.2.2.1 rfl hout.2
    have hC1 : zScT T m K (i + 1) (zcnx C' (i + 1)) := zScT_nx hC' hlt
    have nxq : ∀ q, q ≠ 1 → zcnx C' (i + 1) q = C' q := fun q hq => by
      unfold zcnx
      rw [zuS_ne hq, zuS_ne hq, zuS_ne hq, zuS_ne hq]
    have hE1 : zEq S1 (zcnx C' (i + 1)) d br kn l := zEq_tr hE (hout.2.1 16 (by decide)) hout.2.2.1 (nxq 16 (by decide)) (nxq 18 (by decide)) (nxq 19 (by decide))
    have hF1 : zFrE C0 (zcnx C' (i + 1)) := fun q q1 q2 q3 q4 q5 => (nxq q q1).trans (hF' q q1 q2 q3 q4 q5)
    have hw1 : v4.toInt = 0 ↔ (S1 0 39).toInt = 0 := by
      rw [hout.2.2.1 39 (by decide) (by decide) (by decide) (by decide)]
      exact hv4 hO
    subst hf
    refine zp0 (by rfl) rfl rfl ?_
    refine zy_if (by rfl) (by rfl) (fun h1 => ?_) (fun h1 => ?_)
    · iterate 2 refine zp0 (by rfl) rfl rfl ?_
      exfalso
      exact h1 (by decide)
    · refine zp0 (by rfl) rfl rfl ?_
      refine zy_if (by rfl) (by rfl) (fun h2 => ?_) (fun h2 => ?_)
      · iterate 2 refine zp0 (by rfl) rfl rfl ?_
        exfalso
        exact h2 (by decide)
      · refine zp0 (by rfl) rfl rfl ?_
        refine zy_ref (r := 1) he (by rfl) (by rfl) (by rfl) (by rfl) ?_
        refine zy_v0n (by rfl) (zc_nx he hC' hlt) ?_
        iterate 2 refine zp0 (by rfl) rfl rfl ?_
        have hij : Int32.ofInt (j : Int) + Int32.ofInt 1 = Int32.ofInt ((j + 1 : Nat) : Int) := zof_up j
        show zPn Lx xs n 107 (41, [(6, .int (Int32.ofInt (j : Int) + Int32.ofInt 1)), (4, .int v4), (3, .int (Int32.ofInt 0)), (7, .int v7), (5, .int (Int32.ofInt 0)), (0, .ref (e 18)), (1, .ref (e 1)), (2, .ref (e 16))], [], zHS e (zDC x1 6 2 17) (zcnx C' (i + 1)) hp, _, _) _
        rw [hij]
        exact hgo S1 S' r _ (i + 1) (j + 1) d br kn l v4 v7 _ _ hsum hM1 hC1 hE1 (by omega) (by omega) hF1 hw1
theorem zc_EA (he : zeI e hp (zDC x1 6 2 17).length) {n k a : Nat} {C0 : Nat → Nat → Int32} (hgo : zEgo Lx xs hp e x1 m K T n k a C0) (S S' : Nat → Nat → Int32) (r : Int32) (C : Nat → Nat → Int32) (i j d br kn l : Nat) (v4 : Int32) (c s : Nat) (hsum : zSum m (k + 1) S S' r) (hM : zMd T m i S) (hC : zScT T m K i C) (hE : zEq S C d br kn l) (hj : j + 1 ≤ i) (ha : a ≤ i) (hF : zFrE C0 C) (hv : v4.toInt = 0 ↔ (S 0 39).toInt = 0) : zPn Lx xs n 107 (41, [(6, .int (Int32.ofInt (j : Int))), (5, .int (Int32.ofInt 0)), (4, .int v4), (3, .int (Int32.ofInt 0)), (0, .ref (e 18)), (1, .ref (e 1)), (2, .ref (e 16))], [], zHS e (zDC x1 6 2 17) C hp, c, s) (zEpo e hp x1 m K T a C0 S' r) := by
  have hi := hC.2.2.2.2.2.1
  have hK := hC.2.2.2.2.1
  have yj : (Int32.ofInt (j : Int)).toInt = j := zof_ix (by omega)
  have hR := zMS_R hM hC
  have hI := zTR_i hR
  have k59 : (Int32.ofInt 59).toInt = 59 := by decide
  have k41 : (Int32.ofInt 41).toInt = 41 := by decide
  have k9 : (Int32.ofInt 9).toInt = 9 := by decide
  have kN : (Int32.ofInt 486146048).toInt = 486146048 := by decide
  have hsg : ∀ x, (x = 59 ∨ x = 40 ∨ x = 41) → (((C 1 8).toInt = 3 ∧ (C 1 10).toInt = (Int32.ofInt x).toInt) ↔ zsg S x) := by
    intro x hx
    show _ ↔ ((S 0 8).toInt = 4 ∧ (S 0 9).toInt = (Int32.ofInt x).toInt)
    rw [show (Int32.ofInt x).toInt = x from zRt ⟨by omega, by omega⟩]
    exact zTRi_sg hI (by omega)
  have hky : ((C 1 8).toInt = 1 ∧ (C 1 10).toInt = (Int32.ofInt 486146048).toInt) ↔ zky S 9 := by
    show _ ↔ ((S 0 8).toInt = 1 ∧ (S 0 9).toInt = (Int32.ofInt 9).toInt)
    rw [k9, kN]
    exact zTRi_ky hI (w := 9) (by decide)
  have hW := hE.1
  have hw7 := hW.2.2.2.2.2.2.1
  have hw8 := hW.2.2.2.2.2.2.2.1
  have hw9 := hW.2.2.2.2.2.2.2.2.1
  have hd : (S 0 35).toNatClampNeg = d := by rw [hW.1]; exact zof_cl (by omega)
  have y4 : (C 18 3).toInt = br := by rw [hW.2.2.2.1]; exact zof_ix (by omega)
  have y3 : (S 0 37).toInt = br := by rw [hW.2.2.1]; exact zof_ix (by omega)
  have z0 : (Int32.ofInt 0).toInt = 0 := by decide
  have hstep : ¬ zEnd S → ∃ r1 S1, zOut (zstO S).1 (zstO S).2 S1 m (S 0 7).toNatClampNeg r1 ∧ ((r1.toInt = 0 ∧ r = Int32.ofInt 0 ∧ S' = S1) ∨ (r1.toInt ≠ 0 ∧ zSum m k S1 S' r)) := by
    intro g
    rcases hsum with q | q
    · exact absurd q.1 g
    · exact q.2
  refine zp0 (by rfl) rfl rfl ?_
  refine zq_sip (by rfl) (by decide) ?_
  refine zy_icmpC (by rfl) (by rfl) ⟨by decide, by decide⟩ (fun h1 => ?_) (fun h1 => ?_)
  · iterate 2 refine zp0 (by rfl) rfl rfl ?_
    refine zy_v1 (by rfl) (zc_settleV he _) ?_
    intro rv hp1 hq
    obtain ⟨q1, C2, q2, q3⟩ := hq
    rw [q1, q2]
    refine zp0 (by rfl) rfl rfl ?_
    refine zp_retI (by rfl) ?_
    exfalso
    simp only [zcf, yj] at h1
    omega
  · refine zp0 (by rfl) rfl rfl ?_
    refine zy_if (by rfl) (by rfl) (fun h2 => ?_) (fun h2 => ?_)
    · iterate 2 refine zp0 (by rfl) rfl rfl ?_
      refine zy_v1 (by rfl) (zc_settleV he _) ?_
      intro rv hp1 hq
      obtain ⟨q1, C2, q2, q3⟩ := hq
      rw [q1, q2]
      refine zp0 (by rfl) rfl rfl ?_
      refine zp_retI (by rfl) ?_
      exfalso
      exact h2 z0
    · refine zp0 (by rfl) rfl rfl ?_
      refine zy_if (by rfl) (by rfl) (fun h3 => ?_) (fun h3 => ?_)
      · iterate 2 refine zp0 (by rfl) rfl rfl ?_
        refine zy_v1 (by rfl) (zc_settleV he _) ?_
        intro rv hp1 hq
        obtain ⟨q1, C2, q2, q3⟩ := hq
        rw [q1, q2]
        refine zp0 (by rfl) rfl rfl ?_
        refine zp_retI (by rfl) ?_
        exfalso
        exact h3 z0
      · refine zp0 (by rfl) rfl rfl ?_
        refine zy_if (by rfl) (by rfl) (fun h4 => ?_) (fun h4 => ?_)
        · have hwants : (S 0 39).toInt = 0 := hv.mp h4
          refine zp0 (by rfl) rfl rfl ?_
          refine zy_ref (r := 1) he (by rfl) (by rfl) (by rfl) (by rfl) ?_
          refine zq_bip (by rfl) (by decide) ?_
          refine zy_v1e (by rfl) (zc_isSign he _) ?_
          refine zy_if (by rfl) (by rfl) (fun h26 => ?_) (fun h26 => ?_)
          · have hend : ¬ zsg S 59 := fun q => zite0 h26 ((hsg 59 (by decide)).mpr q)
            refine zp0 (by rfl) rfl rfl ?_
            refine zy_ref (r := 1) he (by rfl) (by rfl) (by rfl) (by rfl) ?_
            refine zq_bip (by rfl) (by decide) ?_
            refine zy_v1e (by rfl) (zc_isSign he _) ?_
            iterate 2 refine zp0 (by rfl) rfl rfl ?_
            refine zy_if (by rfl) (by rfl) (fun h41 => ?_) (fun h41 => ?_)
            · have hclo : ¬ zsg S 41 := fun q => zite0 h41 ((hsg 41 (by decide)).mpr q)
              refine zp0 (by rfl) rfl rfl ?_
              refine zy_v0 (by rfl) (zc_btw he hR hE hwants hclo) ?_
              intro rv hp1 hq
              obtain ⟨f, C2, q1, q2, q3, q4⟩ := hq
              rw [q1, q2]
              iterate 2 refine zp0 (by rfl) rfl rfl ?_
              refine zy_if (by rfl) (by rfl) (fun h61 => ?_) (fun h61 => ?_)
              · iterate 2 refine zp0 (by rfl) rfl rfl ?_
                exfalso
                exact hclo ((hsg 41 (by decide)).mp (zite2 h61))
              · iterate 3 refine zp0 (by rfl) rfl rfl ?_
                obtain ⟨r1, S1, o1, o2⟩ := hstep (fun q => hend q.1)
                have hO : zstO S = zsnO d S := by
                  rw [← hd]
                  exact if_neg (fun q => q hwants)
                rw [← hO] at q4
                refine zc_E177 he hgo hM hC hj ha hF q3 q4 (fun g => zsnO_kind (d := d) (by rw [← hO]; exact g)) (fun g => ?_) o1 o2
                rw [hO] at g ⊢
                have g2 := zsnO_wants hI g hwants
                exact ⟨fun q => absurd q (by decide), fun q => absurd (g2.mp q) hclo⟩
            · have hclo := (hsg 41 (by decide)).mp (zite1 h41)
              refine zp0 (by rfl) rfl rfl ?_
              refine zy_v0 (by rfl) (zc_close he hR hE hwants hclo) ?_
              intro rv hp1 hq
              obtain ⟨f, C2, q1, q2, q3, q4⟩ := hq
              rw [q1, q2]
              iterate 3 refine zp0 (by rfl) rfl rfl ?_
              refine zy_if (by rfl) (by rfl) (fun h51 => ?_) (fun h51 => ?_)
              · iterate 2 refine zp0 (by rfl) rfl rfl ?_
                obtain ⟨r1, S1, o1, o2⟩ := hstep (fun q => hend q.1)
                have hO : zstO S = zsnO d S := by
                  rw [← hd]
                  exact if_neg (fun q => q hwants)
                rw [← hO] at q4
                refine zc_E177 he hgo hM hC hj ha hF q3 q4 (fun g => zsnO_kind (d := d) (by rw [← hO]; exact g)) (fun g => ?_) o1 o2
                rw [hO] at g ⊢
                have g2 := zsnO_wants hI g hwants
                exact ⟨fun _ => g2.mpr hclo, fun _ => by decide⟩
              · iterate 3 refine zp0 (by rfl) rfl rfl ?_
                exfalso
                exact zite3 h51 ((hsg 41 (by decide)).mpr hclo)
          · have hend := (hsg 59 (by decide)).mp (zite1 h26)
            refine zp0 (by rfl) rfl rfl ?_
            refine zy_get (b := 3) he (by rfl) (by rfl) (by rfl) (by rfl) ?_
            refine zy_if (by rfl) (by rfl) (fun h31 => ?_) (fun h31 => ?_)
            · iterate 5 refine zp0 (by rfl) rfl rfl ?_
              simp only [zcf, y4] at h31
              have hZ : zEnd S := ⟨hend, hwants, by omega⟩
              have hS' : r = Int32.ofInt 1 ∧ S' = zbindA 1 (S 0 35).toNatClampNeg S := by
                rcases hsum with q | q
                · exact q.2
                · exact absurd hZ q.1
              have hfin : ∀ C2 d', zStl C C2 d' → zEpo e hp x1 m K T a C0 S' r (some (.int (Int32.ofInt 0))) (zHS e (zDC x1 6 2 17) C2 hp) := by
                intro C2 d' h2
                obtain ⟨s1, s2, s3, la, lb, t1, t2, t3, t4⟩ := h2
                have hl1 := hE.2.2.2.1 hwants
                have hl2 := hE.2.2.1
                have hla : la = l := by
                  have t5 := hE.2.1
                  rw [t1] at t5
                  have := congrArg Int32.toInt t5
                  have h3 : (Int32.ofInt (l : Int)).toInt = l := zof_ix (by omega)
                  have h2 : (Int32.ofInt (la : Int)).toInt = la := zof_ix (by omega)
                  omega
                obtain ⟨b1, b2⟩ := zbindA_k (l := 1) (S 0 35).toNatClampNeg S
                refine ⟨_, C2, rfl, rfl, fun q q1 q2 q3 q4 q5 => (s3 q q2 q3 q4).trans (hF q q1 q2 q3 q4 q5), Or.inl ⟨?_, by decide, i, lb, ha, ?_, ?_, ?_, t2, by omega, t4⟩⟩
                · rw [hS'.1]
                  decide
                · rw [hS'.2]
                  obtain ⟨m1, m2, m3, m4, m5⟩ := hM
                  refine ⟨?_, ?_, ⟨?_, ?_, m3.2.2⟩, ?_, ?_⟩
                  · rw [b1 1 (by decide) (by decide) (by decide) (by decide) (by decide)]
                    exact m1
                  · rw [b1 2 (by decide) (by decide) (by decide) (by decide) (by decide)]
                    exact m2
                  · rw [b2 6 (by decide) (by decide) (by decide)]
                    exact m3.1
                  · rw [b2 7 (by decide) (by decide) (by decide)]
                    exact m3.2.1
                  · rw [b2 10 (by decide) (by decide) (by decide)]
                    exact m4
                  · rw [b2 8 (by decide) (by decide) (by decide), b2 9 (by decide) (by decide) (by decide)]
                    exact m5
                · exact zScT_fr hC (s3 1 (by decide) (by decide) (by decide)) (s3 2 (by decide) (by decide) (by decide)) (s3 3 (by decide) (by decide) (by decide)) (s3 4 (by decide) (by decide) (by decide))
                · rw [hS'.2]
                  show (zbindA 1 _ S 0 8).toInt = 4 ∧ (zbindA 1 _ S 0 9).toInt = _
                  rw [b2 8 (by decide) (by decide) (by decide), b2 9 (by decide) (by decide) (by decide)]
                  exact hend
              refine zp0 (by rfl) rfl rfl ?_
              refine zy_if (by rfl) (by rfl) (fun h71 => ?_) (fun h71 => ?_)
              · iterate 3 refine zp0 (by rfl) rfl rfl ?_
                refine zq_sip (by rfl) (by decide) ?_
                refine zy_icmpC (by rfl) (by rfl) ⟨by decide, by decide⟩ (fun h72 => ?_) (fun h72 => ?_)
                · iterate 2 refine zp0 (by rfl) rfl rfl ?_
                  refine zy_v1 (by rfl) (zc_settle he (Int32.ofInt (-1)) hW.2.1 (by omega) hE.2.1 hE.2.2.1) ?_
                  intro rv hp1 hq
                  obtain ⟨q1, C2, q2, q3⟩ := hq
                  rw [q1, q2]
                  refine zp0 (by rfl) rfl rfl ?_
                  refine zp_retI (by rfl) ?_
                  exact hfin C2 _ q3
                · refine zp0 (by rfl) rfl rfl ?_
                  refine zy_if (by rfl) (by rfl) (fun h73 => ?_) (fun h73 => ?_)
                  · iterate 2 refine zp0 (by rfl) rfl rfl ?_
                    refine zy_v1 (by rfl) (zc_settle he (Int32.ofInt (-1)) hW.2.1 (by omega) hE.2.1 hE.2.2.1) ?_
                    intro rv hp1 hq
                    obtain ⟨q1, C2, q2, q3⟩ := hq
                    rw [q1, q2]
                    refine zp0 (by rfl) rfl rfl ?_
                    refine zp_retI (by rfl) ?_
                    exact hfin C2 _ q3
                  · refine zp0 (by rfl) rfl rfl ?_
                    refine zy_if (by rfl) (by rfl) (fun h74 => ?_) (fun h74 => ?_)
                    · iterate 2 refine zp0 (by rfl) rfl rfl ?_
                      refine zy_v1 (by rfl) (zc_settle he (Int32.ofInt (-1)) hW.2.1 (by omega) hE.2.1 hE.2.2.1) ?_
                      intro rv hp1 hq
                      obtain ⟨q1, C2, q2, q3⟩ := hq
                      rw [q1, q2]
                      refine zp0 (by rfl) rfl rfl ?_
                      refine zp_retI (by rfl) ?_
                      exact hfin C2 _ q3
                    · exfalso
                      exact absurd (show (Int32.ofInt 1).toInt ≠ 0 by decide) h74
              · refine zp0 (by rfl) rfl rfl ?_
                refine zy_if (by rfl) (by rfl) (fun h75 => ?_) (fun h75 => ?_)
                · iterate 3 refine zp0 (by rfl) rfl rfl ?_
                  refine zq_sip (by rfl) (by decide) ?_
                  refine zy_icmpC (by rfl) (by rfl) ⟨by decide, by decide⟩ (fun h76 => ?_) (fun h76 => ?_)
                  · iterate 2 refine zp0 (by rfl) rfl rfl ?_
                    refine zy_v1 (by rfl) (zc_settle he (Int32.ofInt (-1)) hW.2.1 (by omega) hE.2.1 hE.2.2.1) ?_
                    intro rv hp1 hq
                    obtain ⟨q1, C2, q2, q3⟩ := hq
                    rw [q1, q2]
                    refine zp0 (by rfl) rfl rfl ?_
                    refine zp_retI (by rfl) ?_
                    exact hfin C2 _ q3
                  · refine zp0 (by rfl) rfl rfl ?_
                    refine zy_if (by rfl) (by rfl) (fun h77 => ?_) (fun h77 => ?_)
                    · iterate 2 refine zp0 (by rfl) rfl rfl ?_
                      refine zy_v1 (by rfl) (zc_settle he (Int32.ofInt (-1)) hW.2.1 (by omega) hE.2.1 hE.2.2.1) ?_
                      intro rv hp1 hq
                      obtain ⟨q1, C2, q2, q3⟩ := hq
                      rw [q1, q2]
                      refine zp0 (by rfl) rfl rfl ?_
                      refine zp_retI (by rfl) ?_
                      exact hfin C2 _ q3
                    · refine zp0 (by rfl) rfl rfl ?_
                      refine zy_if (by rfl) (by rfl) (fun h78 => ?_) (fun h78 => ?_)
                      · iterate 2 refine zp0 (by rfl) rfl rfl ?_
                        refine zy_v1 (by rfl) (zc_settle he (Int32.ofInt (-1)) hW.2.1 (by omega) hE.2.1 hE.2.2.1) ?_
                        intro rv hp1 hq
                        obtain ⟨q1, C2, q2, q3⟩ := hq
                        rw [q1, q2]
                        refine zp0 (by rfl) rfl rfl ?_
                        refine zp_retI (by rfl) ?_
                        exact hfin C2 _ q3
                      · exfalso
                        exact absurd (show (Int32.ofInt 1).toInt ≠ 0 by decide) h78
                · exfalso
                  exact absurd (show (Int32.ofInt 1).toInt ≠ 0 by decide) h75
            · iterate 6 refine zp0 (by rfl) rfl rfl ?_
              simp only [zcf, y4] at h31
              have hO : zstO S = (some (Int32.ofInt 1), S) := by
                have h1 : zstO S = zsnO d S := by
                  rw [← hd]
                  exact if_neg (fun q => q hwants)
                rw [h1]
                have h2 : (S 0 8).toInt = 4 ∧ (S 0 9).toInt = (Int32.ofInt 59).toInt := hend
                rw [k59] at h2
                have h3 : (zsnK S).toInt = 0 := by
                  rw [zsnK_i hI, h2.1, h2.2]
                  rfl
                have h4 : ¬ (zsg S 41 ∧ 0 < (S 0 37).toInt) := by
                  intro q
                  have q1 : (S 0 8).toInt = 4 ∧ (S 0 9).toInt = (Int32.ofInt 41).toInt := q.1
                  rw [k41] at q1
                  omega
                unfold zsnO
                rw [if_neg h4, if_pos h3]
              obtain ⟨r1, S1, o1, o2⟩ := hstep (fun q => by have := q.2.2; omega)
              rw [hO] at o1
              have o1 : r1 = 0 ∧ S1 = zwrong S (Int32.ofInt 1) := o1
              have o2 : r = Int32.ofInt 0 ∧ S' = S1 := by
                rcases o2 with q | q
                · exact q.2
                · exact absurd (by rw [o1.1]; decide) q.1
              have hfin : ∀ C2, zFrC C C2 → zEpo e hp x1 m K T a C0 S' r (some (.int (Int32.ofInt 1))) (zHS e (zDC x1 6 2 17) C2 hp) := by
                intro C2 h2
                refine ⟨_, C2, rfl, rfl, fun q q1 q2 q3 q4 q5 => (h2 q q2 q3 q4 q5).trans (hF q q1 q2 q3 q4 q5), Or.inr ⟨?_, by decide, ?_, ?_⟩⟩
                · rw [o2.1]
                  decide
                · rw [o2.2, o1.2]
                  rfl
                · rw [o2.2, o1.2, h2 1 (by decide) (by decide) (by decide) (by decide), hC.2.2.2.2.2.2.2.2.1, ← hM.2.2.2.1]
                  rfl
              refine zp0 (by rfl) rfl rfl ?_
              refine zy_if (by rfl) (by rfl) (fun h81 => ?_) (fun h81 => ?_)
              · iterate 3 refine zp0 (by rfl) rfl rfl ?_
                refine zq_sip (by rfl) (by decide) ?_
                refine zy_icmpC (by rfl) (by rfl) ⟨by decide, by decide⟩ (fun h82 => ?_) (fun h82 => ?_)
                · iterate 2 refine zp0 (by rfl) rfl rfl ?_
                  refine zy_v1 (by rfl) (zc_settleV he _) ?_
                  intro rv hp1 hq
                  obtain ⟨q1, C2, q2, q3⟩ := hq
                  rw [q1, q2]
                  refine zp0 (by rfl) rfl rfl ?_
                  refine zp_retI (by rfl) ?_
                  exact hfin C2 q3
                · refine zp0 (by rfl) rfl rfl ?_
                  refine zy_if (by rfl) (by rfl) (fun h83 => ?_) (fun h83 => ?_)
                  · iterate 2 refine zp0 (by rfl) rfl rfl ?_
                    refine zy_v1 (by rfl) (zc_settleV he _) ?_
                    intro rv hp1 hq
                    obtain ⟨q1, C2, q2, q3⟩ := hq
                    rw [q1, q2]
                    refine zp0 (by rfl) rfl rfl ?_
                    refine zp_retI (by rfl) ?_
                    exact hfin C2 q3
                  · refine zp0 (by rfl) rfl rfl ?_
                    refine zy_if (by rfl) (by rfl) (fun h84 => ?_) (fun h84 => ?_)
                    · iterate 2 refine zp0 (by rfl) rfl rfl ?_
                      refine zy_v1 (by rfl) (zc_settleV he _) ?_
                      intro rv hp1 hq
                      obtain ⟨q1, C2, q2, q3⟩ := hq
                      rw [q1, q2]
                      refine zp0 (by rfl) rfl rfl ?_
                      refine zp_retI (by rfl) ?_
                      exact hfin C2 q3
                    · exfalso
                      exact absurd (show (Int32.ofInt 1).toInt ≠ 0 by decide) h84
              · refine zp0 (by rfl) rfl rfl ?_
                refine zy_if (by rfl) (by rfl) (fun h85 => ?_) (fun h85 => ?_)
                · iterate 3 refine zp0 (by rfl) rfl rfl ?_
                  refine zq_sip (by rfl) (by decide) ?_
                  refine zy_icmpC (by rfl) (by rfl) ⟨by decide, by decide⟩ (fun h86 => ?_) (fun h86 => ?_)
                  · iterate 2 refine zp0 (by rfl) rfl rfl ?_
                    refine zy_v1 (by rfl) (zc_settleV he _) ?_
                    intro rv hp1 hq
                    obtain ⟨q1, C2, q2, q3⟩ := hq
                    rw [q1, q2]
                    refine zp0 (by rfl) rfl rfl ?_
                    refine zp_retI (by rfl) ?_
                    exact hfin C2 q3
                  · refine zp0 (by rfl) rfl rfl ?_
                    refine zy_if (by rfl) (by rfl) (fun h87 => ?_) (fun h87 => ?_)
                    · iterate 2 refine zp0 (by rfl) rfl rfl ?_
                      refine zy_v1 (by rfl) (zc_settleV he _) ?_
                      intro rv hp1 hq
                      obtain ⟨q1, C2, q2, q3⟩ := hq
                      rw [q1, q2]
                      refine zp0 (by rfl) rfl rfl ?_
                      refine zp_retI (by rfl) ?_
                      exact hfin C2 q3
                    · refine zp0 (by rfl) rfl rfl ?_
                      refine zy_if (by rfl) (by rfl) (fun h88 => ?_) (fun h88 => ?_)
                      · iterate 2 refine zp0 (by rfl) rfl rfl ?_
                        refine zy_v1 (by rfl) (zc_settleV he _) ?_
                        intro rv hp1 hq
                        obtain ⟨q1, C2, q2, q3⟩ := hq
                        rw [q1, q2]
                        refine zp0 (by rfl) rfl rfl ?_
                        refine zp_retI (by rfl) ?_
                        exact hfin C2 q3
                      · exfalso
                        exact absurd (show (Int32.ofInt 1).toInt ≠ 0 by decide) h88
                · exfalso
                  exact absurd (show (Int32.ofInt 1).toInt ≠ 0 by decide) h85
        · have hwants : (S 0 39).toInt ≠ 0 := fun q => h4 (hv.mpr q)
          refine zp0 (by rfl) rfl rfl ?_
          refine zy_ref (r := 1) he (by rfl) (by rfl) (by rfl) (by rfl) ?_
          refine zq_bip (by rfl) (by decide) ?_
          refine zy_v1e (by rfl) (zc_isSign he _) ?_
          refine zy_if (by rfl) (by rfl) (fun h21 => ?_) (fun h21 => ?_)
          · iterate 4 refine zp0 (by rfl) rfl rfl ?_
            refine zy_v0 (by rfl) (zc_side he hR hE hwants) ?_
            intro rv hp1 hq
            obtain ⟨f, C2, q1, q2, q3, q4⟩ := hq
            rw [q1, q2]
            iterate 4 refine zp0 (by rfl) rfl rfl ?_
            obtain ⟨r1, S1, o1, o2⟩ := hstep (fun q => hwants q.2.1)
            have hO : zstO S = zlfO S := if_pos hwants
            rw [← hO] at q4
            refine zc_E177 he hgo hM hC hj ha hF q3 q4 (fun g => zlfO_kind (by rw [← hO]; exact g)) (fun g => ?_) o1 o2
            rw [hO] at g ⊢
            have g2 := zlfO_wants g hwants
            have g3 := (hsg 40 (by decide)).mp (zite2 h21)
            exact ⟨fun q => absurd q (by decide), fun q => absurd q (g2.mpr (Or.inl g3))⟩
          · refine zp0 (by rfl) rfl rfl ?_
            refine zy_ref (r := 1) he (by rfl) (by rfl) (by rfl) (by rfl) ?_
            refine zp0 (by rfl) rfl rfl ?_
            refine zy_v1e (by rfl) (zc_isWord he _) ?_
            refine zy_if (by rfl) (by rfl) (fun h22 => ?_) (fun h22 => ?_)
            · iterate 3 refine zp0 (by rfl) rfl rfl ?_
              refine zy_v0 (by rfl) (zc_side he hR hE hwants) ?_
              intro rv hp1 hq
              obtain ⟨f, C2, q1, q2, q3, q4⟩ := hq
              rw [q1, q2]
              iterate 4 refine zp0 (by rfl) rfl rfl ?_
              obtain ⟨r1, S1, o1, o2⟩ := hstep (fun q => hwants q.2.1)
              have hO : zstO S = zlfO S := if_pos hwants
              rw [← hO] at q4
              refine zc_E177 he hgo hM hC hj ha hF q3 q4 (fun g => zlfO_kind (by rw [← hO]; exact g)) (fun g => ?_) o1 o2
              rw [hO] at g ⊢
              have g2 := zlfO_wants g hwants
              have g3 : ¬ zsg S 40 := fun q => zite3 h21 ((hsg 40 (by decide)).mpr q)
              have g4 : ¬ zky S 9 := fun q => zite0 h22 (hky.mpr q)
              exact ⟨fun _ => Classical.byContradiction (fun q => (g2.mp q).elim g3 g4), fun _ => by decide⟩
            · iterate 4 refine zp0 (by rfl) rfl rfl ?_
              refine zy_v0 (by rfl) (zc_side he hR hE hwants) ?_
              intro rv hp1 hq
              obtain ⟨f, C2, q1, q2, q3, q4⟩ := hq
              rw [q1, q2]
              iterate 4 refine zp0 (by rfl) rfl rfl ?_
              obtain ⟨r1, S1, o1, o2⟩ := hstep (fun q => hwants q.2.1)
              have hO : zstO S = zlfO S := if_pos hwants
              rw [← hO] at q4
              refine zc_E177 he hgo hM hC hj ha hF q3 q4 (fun g => zlfO_kind (by rw [← hO]; exact g)) (fun g => ?_) o1 o2
              rw [hO] at g ⊢
              have g2 := zlfO_wants g hwants
              have g3 := hky.mp (zite1 h22)
              exact ⟨fun q => absurd q (by decide), fun q => absurd q (g2.mpr (Or.inr g3))⟩
theorem zc_EB (he : zeI e hp (zDC x1 6 2 17).length) {n k a : Nat} {C0 : Nat → Nat → Int32} (hgo : zEgo Lx xs hp e x1 m K T n k a C0) (S S' : Nat → Nat → Int32) (r : Int32) (C : Nat → Nat → Int32) (i j d br kn l : Nat) (v4 v7 : Int32) (c s : Nat) (hsum : zSum m (k + 1) S S' r) (hM : zMd T m i S) (hC : zScT T m K i C) (hE : zEq S C d br kn l) (hj : j + 1 ≤ i) (ha : a ≤ i) (hF : zFrE C0 C) (hv : v4.toInt = 0 ↔ (S 0 39).toInt = 0) : zPn Lx xs n 107 (41, [(6, .int (Int32.ofInt (j : Int))), (4, .int v4), (3, .int (Int32.ofInt 0)), (7, .int v7), (5, .int (Int32.ofInt 0)), (0, .ref (e 18)), (1, .ref (e 1)), (2, .ref (e 16))], [], zHS e (zDC x1 6 2 17) C hp, c, s) (zEpo e hp x1 m K T a C0 S' r) := by
  have hi := hC.2.2.2.2.2.1
  have hK := hC.2.2.2.2.1
  have yj : (Int32.ofInt (j : Int)).toInt = j := zof_ix (by omega)
  have hR := zMS_R hM hC
  have hI := zTR_i hR
  have k59 : (Int32.ofInt 59).toInt = 59 := by decide
  have k41 : (Int32.ofInt 41).toInt = 41 := by decide
  have k9 : (Int32.ofInt 9).toInt = 9 := by decide
  have kN : (Int32.ofInt 486146048).toInt = 486146048 := by decide
  have hsg : ∀ x, (x = 59 ∨ x = 40 ∨ x = 41) → (((C 1 8).toInt = 3 ∧ (C 1 10).toInt = (Int32.ofInt x).toInt) ↔ zsg S x) := by
    intro x hx
    show _ ↔ ((S 0 8).toInt = 4 ∧ (S 0 9).toInt = (Int32.ofInt x).toInt)
    rw [show (Int32.ofInt x).toInt = x from zRt ⟨by omega, by omega⟩]
    exact zTRi_sg hI (by omega)
  have hky : ((C 1 8).toInt = 1 ∧ (C 1 10).toInt = (Int32.ofInt 486146048).toInt) ↔ zky S 9 := by
    show _ ↔ ((S 0 8).toInt = 1 ∧ (S 0 9).toInt = (Int32.ofInt 9).toInt)
    rw [k9, kN]
    exact zTRi_ky hI (w := 9) (by decide)
  have hW := hE.1
  have hw7 := hW.2.2.2.2.2.2.1
  have hw8 := hW.2.2.2.2.2.2.2.1
  have hw9 := hW.2.2.2.2.2.2.2.2.1
  have hd : (S 0 35).toNatClampNeg = d := by rw [hW.1]; exact zof_cl (by omega)
  have y4 : (C 18 3).toInt = br := by rw [hW.2.2.2.1]; exact zof_ix (by omega)
  have y3 : (S 0 37).toInt = br := by rw [hW.2.2.1]; exact zof_ix (by omega)
  have z0 : (Int32.ofInt 0).toInt = 0 := by decide
  have hstep : ¬ zEnd S → ∃ r1 S1, zOut (zstO S).1 (zstO S).2 S1 m (S 0 7).toNatClampNeg r1 ∧ ((r1.toInt = 0 ∧ r = Int32.ofInt 0 ∧ S' = S1) ∨ (r1.toInt ≠ 0 ∧ zSum m k S1 S' r)) := by
    intro g
    rcases hsum with q | q
    · exact absurd q.1 g
    · exact q.2
  refine zp0 (by rfl) rfl rfl ?_
  refine zq_sip (by rfl) (by decide) ?_
  refine zy_icmpC (by rfl) (by rfl) ⟨by decide, by decide⟩ (fun h1 => ?_) (fun h1 => ?_)
  · iterate 2 refine zp0 (by rfl) rfl rfl ?_
    refine zy_v1 (by rfl) (zc_settleV he _) ?_
    intro rv hp1 hq
    obtain ⟨q1, C2, q2, q3⟩ := hq
    rw [q1, q2]
    refine zp0 (by rfl) rfl rfl ?_
    refine zp_retI (by rfl) ?_
    exfalso
    simp only [zcf, yj] at h1
    omega
  · refine zp0 (by rfl) rfl rfl ?_
    refine zy_if (by rfl) (by rfl) (fun h2 => ?_) (fun h2 => ?_)
    · iterate 2 refine zp0 (by rfl) rfl rfl ?_
      refine zy_v1 (by rfl) (zc_settleV he _) ?_
      intro rv hp1 hq
      obtain ⟨q1, C2, q2, q3⟩ := hq
      rw [q1, q2]
      refine zp0 (by rfl) rfl rfl ?_
      refine zp_retI (by rfl) ?_
      exfalso
      exact h2 z0
    · refine zp0 (by rfl) rfl rfl ?_
      refine zy_if (by rfl) (by rfl) (fun h3 => ?_) (fun h3 => ?_)
      · iterate 2 refine zp0 (by rfl) rfl rfl ?_
        refine zy_v1 (by rfl) (zc_settleV he _) ?_
        intro rv hp1 hq
        obtain ⟨q1, C2, q2, q3⟩ := hq
        rw [q1, q2]
        refine zp0 (by rfl) rfl rfl ?_
        refine zp_retI (by rfl) ?_
        exfalso
        exact h3 z0
      · refine zp0 (by rfl) rfl rfl ?_
        refine zy_if (by rfl) (by rfl) (fun h4 => ?_) (fun h4 => ?_)
        · have hwants : (S 0 39).toInt = 0 := hv.mp h4
          refine zp0 (by rfl) rfl rfl ?_
          refine zy_ref (r := 1) he (by rfl) (by rfl) (by rfl) (by rfl) ?_
          refine zq_bip (by rfl) (by decide) ?_
          refine zy_v1e (by rfl) (zc_isSign he _) ?_
          refine zy_if (by rfl) (by rfl) (fun h26 => ?_) (fun h26 => ?_)
          · have hend : ¬ zsg S 59 := fun q => zite0 h26 ((hsg 59 (by decide)).mpr q)
            refine zp0 (by rfl) rfl rfl ?_
            refine zy_ref (r := 1) he (by rfl) (by rfl) (by rfl) (by rfl) ?_
            refine zq_bip (by rfl) (by decide) ?_
            refine zy_v1e (by rfl) (zc_isSign he _) ?_
            iterate 2 refine zp0 (by rfl) rfl rfl ?_
            refine zy_if (by rfl) (by rfl) (fun h41 => ?_) (fun h41 => ?_)
            · have hclo : ¬ zsg S 41 := fun q => zite0 h41 ((hsg 41 (by decide)).mpr q)
              refine zp0 (by rfl) rfl rfl ?_
              refine zy_v0 (by rfl) (zc_btw he hR hE hwants hclo) ?_
              intro rv hp1 hq
              obtain ⟨f, C2, q1, q2, q3, q4⟩ := hq
              rw [q1, q2]
              iterate 2 refine zp0 (by rfl) rfl rfl ?_
              refine zy_if (by rfl) (by rfl) (fun h61 => ?_) (fun h61 => ?_)
              · iterate 2 refine zp0 (by rfl) rfl rfl ?_
                exfalso
                exact hclo ((hsg 41 (by decide)).mp (zite2 h61))
              · iterate 3 refine zp0 (by rfl) rfl rfl ?_
                obtain ⟨r1, S1, o1, o2⟩ := hstep (fun q => hend q.1)
                have hO : zstO S = zsnO d S := by
                  rw [← hd]
                  exact if_neg (fun q => q hwants)
                rw [← hO] at q4
                refine zc_E177 he hgo hM hC hj ha hF q3 q4 (fun g => zsnO_kind (d := d) (by rw [← hO]; exact g)) (fun g => ?_) o1 o2
                rw [hO] at g ⊢
                have g2 := zsnO_wants hI g hwants
                exact ⟨fun q => absurd q (by decide), fun q => absurd (g2.mp q) hclo⟩
            · have hclo := (hsg 41 (by decide)).mp (zite1 h41)
              refine zp0 (by rfl) rfl rfl ?_
              refine zy_v0 (by rfl) (zc_close he hR hE hwants hclo) ?_
              intro rv hp1 hq
              obtain ⟨f, C2, q1, q2, q3, q4⟩ := hq
              rw [q1, q2]
              iterate 3 refine zp0 (by rfl) rfl rfl ?_
              refine zy_if (by rfl) (by rfl) (fun h51 => ?_) (fun h51 => ?_)
              · iterate 2 refine zp0 (by rfl) rfl rfl ?_
                obtain ⟨r1, S1, o1, o2⟩ := hstep (fun q => hend q.1)
                have hO : zstO S = zsnO d S := by
                  rw [← hd]
                  exact if_neg (fun q => q hwants)
                rw [← hO] at q4
                refine zc_E177 he hgo hM hC hj ha hF q3 q4 (fun g => zsnO_kind (d := d) (by rw [← hO]; exact g)) (fun g => ?_) o1 o2
                rw [hO] at g ⊢
                have g2 := zsnO_wants hI g hwants
                exact ⟨fun _ => g2.mpr hclo, fun _ => by decide⟩
              · iterate 3 refine zp0 (by rfl) rfl rfl ?_
                exfalso
                exact zite3 h51 ((hsg 41 (by decide)).mpr hclo)
          · have hend := (hsg 59 (by decide)).mp (zite1 h26)
            refine zp0 (by rfl) rfl rfl ?_
            refine zy_get (b := 3) he (by rfl) (by rfl) (by rfl) (by rfl) ?_
            refine zy_if (by rfl) (by rfl) (fun h31 => ?_) (fun h31 => ?_)
            · iterate 5 refine zp0 (by rfl) rfl rfl ?_
              simp only [zcf, y4] at h31
              have hZ : zEnd S := ⟨hend, hwants, by omega⟩
              have hS' : r = Int32.ofInt 1 ∧ S' = zbindA 1 (S 0 35).toNatClampNeg S := by
                rcases hsum with q | q
                · exact q.2
                · exact absurd hZ q.1
              have hfin : ∀ C2 d', zStl C C2 d' → zEpo e hp x1 m K T a C0 S' r (some (.int (Int32.ofInt 0))) (zHS e (zDC x1 6 2 17) C2 hp) := by
                intro C2 d' h2
                obtain ⟨s1, s2, s3, la, lb, t1, t2, t3, t4⟩ := h2
                have hl1 := hE.2.2.2.1 hwants
                have hl2 := hE.2.2.1
                have hla : la = l := by
                  have t5 := hE.2.1
                  rw [t1] at t5
                  have := congrArg Int32.toInt t5
                  have h3 : (Int32.ofInt (l : Int)).toInt = l := zof_ix (by omega)
                  have h2 : (Int32.ofInt (la : Int)).toInt = la := zof_ix (by omega)
                  omega
                obtain ⟨b1, b2⟩ := zbindA_k (l := 1) (S 0 35).toNatClampNeg S
                refine ⟨_, C2, rfl, rfl, fun q q1 q2 q3 q4 q5 => (s3 q q2 q3 q4).trans (hF q q1 q2 q3 q4 q5), Or.inl ⟨?_, by decide, i, lb, ha, ?_, ?_, ?_, t2, by omega, t4⟩⟩
                · rw [hS'.1]
                  decide
                · rw [hS'.2]
                  obtain ⟨m1, m2, m3, m4, m5⟩ := hM
                  refine ⟨?_, ?_, ⟨?_, ?_, m3.2.2⟩, ?_, ?_⟩
                  · rw [b1 1 (by decide) (by decide) (by decide) (by decide) (by decide)]
                    exact m1
                  · rw [b1 2 (by decide) (by decide) (by decide) (by decide) (by decide)]
                    exact m2
                  · rw [b2 6 (by decide) (by decide) (by decide)]
                    exact m3.1
                  · rw [b2 7 (by decide) (by decide) (by decide)]
                    exact m3.2.1
                  · rw [b2 10 (by decide) (by decide) (by decide)]
                    exact m4
                  · rw [b2 8 (by decide) (by decide) (by decide), b2 9 (by decide) (by decide) (by decide)]
                    exact m5
                · exact zScT_fr hC (s3 1 (by decide) (by decide) (by decide)) (s3 2 (by decide) (by decide) (by decide)) (s3 3 (by decide) (by decide) (by decide)) (s3 4 (by decide) (by decide) (by decide))
                · rw [hS'.2]
                  show (zbindA 1 _ S 0 8).toInt = 4 ∧ (zbindA 1 _ S 0 9).toInt = _
                  rw [b2 8 (by decide) (by decide) (by decide), b2 9 (by decide) (by decide) (by decide)]
                  exact hend
              refine zp0 (by rfl) rfl rfl ?_
              refine zy_if (by rfl) (by rfl) (fun h71 => ?_) (fun h71 => ?_)
              · iterate 3 refine zp0 (by rfl) rfl rfl ?_
                refine zq_sip (by rfl) (by decide) ?_
                refine zy_icmpC (by rfl) (by rfl) ⟨by decide, by decide⟩ (fun h72 => ?_) (fun h72 => ?_)
                · iterate 2 refine zp0 (by rfl) rfl rfl ?_
                  refine zy_v1 (by rfl) (zc_settle he (Int32.ofInt (-1)) hW.2.1 (by omega) hE.2.1 hE.2.2.1) ?_
                  intro rv hp1 hq
                  obtain ⟨q1, C2, q2, q3⟩ := hq
                  rw [q1, q2]
                  refine zp0 (by rfl) rfl rfl ?_
                  refine zp_retI (by rfl) ?_
                  exact hfin C2 _ q3
                · refine zp0 (by rfl) rfl rfl ?_
                  refine zy_if (by rfl) (by rfl) (fun h73 => ?_) (fun h73 => ?_)
                  · iterate 2 refine zp0 (by rfl) rfl rfl ?_
                    refine zy_v1 (by rfl) (zc_settle he (Int32.ofInt (-1)) hW.2.1 (by omega) hE.2.1 hE.2.2.1) ?_
                    intro rv hp1 hq
                    obtain ⟨q1, C2, q2, q3⟩ := hq
                    rw [q1, q2]
                    refine zp0 (by rfl) rfl rfl ?_
                    refine zp_retI (by rfl) ?_
                    exact hfin C2 _ q3
                  · refine zp0 (by rfl) rfl rfl ?_
                    refine zy_if (by rfl) (by rfl) (fun h74 => ?_) (fun h74 => ?_)
                    · iterate 2 refine zp0 (by rfl) rfl rfl ?_
                      refine zy_v1 (by rfl) (zc_settle he (Int32.ofInt (-1)) hW.2.1 (by omega) hE.2.1 hE.2.2.1) ?_
                      intro rv hp1 hq
                      obtain ⟨q1, C2, q2, q3⟩ := hq
                      rw [q1, q2]
                      refine zp0 (by rfl) rfl rfl ?_
                      refine zp_retI (by rfl) ?_
                      exact hfin C2 _ q3
                    · exfalso
                      exact absurd (show (Int32.ofInt 1).toInt ≠ 0 by decide) h74
              · refine zp0 (by rfl) rfl rfl ?_
                refine zy_if (by rfl) (by rfl) (fun h75 => ?_) (fun h75 => ?_)
                · iterate 3 refine zp0 (by rfl) rfl rfl ?_
                  refine zq_sip (by rfl) (by decide) ?_
                  refine zy_icmpC (by rfl) (by rfl) ⟨by decide, by decide⟩ (fun h76 => ?_) (fun h76 => ?_)
                  · iterate 2 refine zp0 (by rfl) rfl rfl ?_
                    refine zy_v1 (by rfl) (zc_settle he (Int32.ofInt (-1)) hW.2.1 (by omega) hE.2.1 hE.2.2.1) ?_
                    intro rv hp1 hq
                    obtain ⟨q1, C2, q2, q3⟩ := hq
                    rw [q1, q2]
                    refine zp0 (by rfl) rfl rfl ?_
                    refine zp_retI (by rfl) ?_
                    exact hfin C2 _ q3
                  · refine zp0 (by rfl) rfl rfl ?_
                    refine zy_if (by rfl) (by rfl) (fun h77 => ?_) (fun h77 => ?_)
                    · iterate 2 refine zp0 (by rfl) rfl rfl ?_
                      refine zy_v1 (by rfl) (zc_settle he (Int32.ofInt (-1)) hW.2.1 (by omega) hE.2.1 hE.2.2.1) ?_
                      intro rv hp1 hq
                      obtain ⟨q1, C2, q2, q3⟩ := hq
                      rw [q1, q2]
                      refine zp0 (by rfl) rfl rfl ?_
                      refine zp_retI (by rfl) ?_
                      exact hfin C2 _ q3
                    · refine zp0 (by rfl) rfl rfl ?_
                      refine zy_if (by rfl) (by rfl) (fun h78 => ?_) (fun h78 => ?_)
                      · iterate 2 refine zp0 (by rfl) rfl rfl ?_
                        refine zy_v1 (by rfl) (zc_settle he (Int32.ofInt (-1)) hW.2.1 (by omega) hE.2.1 hE.2.2.1) ?_
                        intro rv hp1 hq
                        obtain ⟨q1, C2, q2, q3⟩ := hq
                        rw [q1, q2]
                        refine zp0 (by rfl) rfl rfl ?_
                        refine zp_retI (by rfl) ?_
                        exact hfin C2 _ q3
                      · exfalso
                        exact absurd (show (Int32.ofInt 1).toInt ≠ 0 by decide) h78
                · exfalso
                  exact absurd (show (Int32.ofInt 1).toInt ≠ 0 by decide) h75
            · iterate 6 refine zp0 (by rfl) rfl rfl ?_
              simp only [zcf, y4] at h31
              have hO : zstO S = (some (Int32.ofInt 1), S) := by
                have h1 : zstO S = zsnO d S := by
                  rw [← hd]
                  exact if_neg (fun q => q hwants)
                rw [h1]
                have h2 : (S 0 8).toInt = 4 ∧ (S 0 9).toInt = (Int32.ofInt 59).toInt := hend
                rw [k59] at h2
                have h3 : (zsnK S).toInt = 0 := by
                  rw [zsnK_i hI, h2.1, h2.2]
                  rfl
                have h4 : ¬ (zsg S 41 ∧ 0 < (S 0 37).toInt) := by
                  intro q
                  have q1 : (S 0 8).toInt = 4 ∧ (S 0 9).toInt = (Int32.ofInt 41).toInt := q.1
                  rw [k41] at q1
                  omega
                unfold zsnO
                rw [if_neg h4, if_pos h3]
              obtain ⟨r1, S1, o1, o2⟩ := hstep (fun q => by have := q.2.2; omega)
              rw [hO] at o1
              have o1 : r1 = 0 ∧ S1 = zwrong S (Int32.ofInt 1) := o1
              have o2 : r = Int32.ofInt 0 ∧ S' = S1 := by
                rcases o2 with q | q
                · exact q.2
                · exact absurd (by rw [o1.1]; decide) q.1
              have hfin : ∀ C2, zFrC C C2 → zEpo e hp x1 m K T a C0 S' r (some (.int (Int32.ofInt 1))) (zHS e (zDC x1 6 2 17) C2 hp) := by
                intro C2 h2
                refine ⟨_, C2, rfl, rfl, fun q q1 q2 q3 q4 q5 => (h2 q q2 q3 q4 q5).trans (hF q q1 q2 q3 q4 q5), Or.inr ⟨?_, by decide, ?_, ?_⟩⟩
                · rw [o2.1]
                  decide
                · rw [o2.2, o1.2]
                  rfl
                · rw [o2.2, o1.2, h2 1 (by decide) (by decide) (by decide) (by decide), hC.2.2.2.2.2.2.2.2.1, ← hM.2.2.2.1]
                  rfl
              refine zp0 (by rfl) rfl rfl ?_
              refine zy_if (by rfl) (by rfl) (fun h81 => ?_) (fun h81 => ?_)
              · iterate 3 refine zp0 (by rfl) rfl rfl ?_
                refine zq_sip (by rfl) (by decide) ?_
                refine zy_icmpC (by rfl) (by rfl) ⟨by decide, by decide⟩ (fun h82 => ?_) (fun h82 => ?_)
                · iterate 2 refine zp0 (by rfl) rfl rfl ?_
                  refine zy_v1 (by rfl) (zc_settleV he _) ?_
                  intro rv hp1 hq
                  obtain ⟨q1, C2, q2, q3⟩ := hq
                  rw [q1, q2]
                  refine zp0 (by rfl) rfl rfl ?_
                  refine zp_retI (by rfl) ?_
                  exact hfin C2 q3
                · refine zp0 (by rfl) rfl rfl ?_
                  refine zy_if (by rfl) (by rfl) (fun h83 => ?_) (fun h83 => ?_)
                  · iterate 2 refine zp0 (by rfl) rfl rfl ?_
                    refine zy_v1 (by rfl) (zc_settleV he _) ?_
                    intro rv hp1 hq
                    obtain ⟨q1, C2, q2, q3⟩ := hq
                    rw [q1, q2]
                    refine zp0 (by rfl) rfl rfl ?_
                    refine zp_retI (by rfl) ?_
                    exact hfin C2 q3
                  · refine zp0 (by rfl) rfl rfl ?_
                    refine zy_if (by rfl) (by rfl) (fun h84 => ?_) (fun h84 => ?_)
                    · iterate 2 refine zp0 (by rfl) rfl rfl ?_
                      refine zy_v1 (by rfl) (zc_settleV he _) ?_
                      intro rv hp1 hq
                      obtain ⟨q1, C2, q2, q3⟩ := hq
                      rw [q1, q2]
                      refine zp0 (by rfl) rfl rfl ?_
                      refine zp_retI (by rfl) ?_
                      exact hfin C2 q3
                    · exfalso
                      exact absurd (show (Int32.ofInt 1).toInt ≠ 0 by decide) h84
              · refine zp0 (by rfl) rfl rfl ?_
                refine zy_if (by rfl) (by rfl) (fun h85 => ?_) (fun h85 => ?_)
                · iterate 3 refine zp0 (by rfl) rfl rfl ?_
                  refine zq_sip (by rfl) (by decide) ?_
                  refine zy_icmpC (by rfl) (by rfl) ⟨by decide, by decide⟩ (fun h86 => ?_) (fun h86 => ?_)
                  · iterate 2 refine zp0 (by rfl) rfl rfl ?_
                    refine zy_v1 (by rfl) (zc_settleV he _) ?_
                    intro rv hp1 hq
                    obtain ⟨q1, C2, q2, q3⟩ := hq
                    rw [q1, q2]
                    refine zp0 (by rfl) rfl rfl ?_
                    refine zp_retI (by rfl) ?_
                    exact hfin C2 q3
                  · refine zp0 (by rfl) rfl rfl ?_
                    refine zy_if (by rfl) (by rfl) (fun h87 => ?_) (fun h87 => ?_)
                    · iterate 2 refine zp0 (by rfl) rfl rfl ?_
                      refine zy_v1 (by rfl) (zc_settleV he _) ?_
                      intro rv hp1 hq
                      obtain ⟨q1, C2, q2, q3⟩ := hq
                      rw [q1, q2]
                      refine zp0 (by rfl) rfl rfl ?_
                      refine zp_retI (by rfl) ?_
                      exact hfin C2 q3
                    · refine zp0 (by rfl) rfl rfl ?_
                      refine zy_if (by rfl) (by rfl) (fun h88 => ?_) (fun h88 => ?_)
                      · iterate 2 refine zp0 (by rfl) rfl rfl ?_
                        refine zy_v1 (by rfl) (zc_settleV he _) ?_
                        intro rv hp1 hq
                        obtain ⟨q1, C2, q2, q3⟩ := hq
                        rw [q1, q2]
                        refine zp0 (by rfl) rfl rfl ?_
                        refine zp_retI (by rfl) ?_
                        exact hfin C2 q3
                      · exfalso
                        exact absurd (show (Int32.ofInt 1).toInt ≠ 0 by decide) h88
                · exfalso
                  exact absurd (show (Int32.ofInt 1).toInt ≠ 0 by decide) h85
        · have hwants : (S 0 39).toInt ≠ 0 := fun q => h4 (hv.mpr q)
          refine zp0 (by rfl) rfl rfl ?_
          refine zy_ref (r := 1) he (by rfl) (by rfl) (by rfl) (by rfl) ?_
          refine zq_bip (by rfl) (by decide) ?_
          refine zy_v1e (by rfl) (zc_isSign he _) ?_
          refine zy_if (by rfl) (by rfl) (fun h21 => ?_) (fun h21 => ?_)
          · iterate 4 refine zp0 (by rfl) rfl rfl ?_
            refine zy_v0 (by rfl) (zc_side he hR hE hwants) ?_
            intro rv hp1 hq
            obtain ⟨f, C2, q1, q2, q3, q4⟩ := hq
            rw [q1, q2]
            iterate 4 refine zp0 (by rfl) rfl rfl ?_
            obtain ⟨r1, S1, o1, o2⟩ := hstep (fun q => hwants q.2.1)
            have hO : zstO S = zlfO S := if_pos hwants
            rw [← hO] at q4
            refine zc_E177 he hgo hM hC hj ha hF q3 q4 (fun g => zlfO_kind (by rw [← hO]; exact g)) (fun g => ?_) o1 o2
            rw [hO] at g ⊢
            have g2 := zlfO_wants g hwants
            have g3 := (hsg 40 (by decide)).mp (zite2 h21)
            exact ⟨fun q => absurd q (by decide), fun q => absurd q (g2.mpr (Or.inl g3))⟩
          · refine zp0 (by rfl) rfl rfl ?_
            refine zy_ref (r := 1) he (by rfl) (by rfl) (by rfl) (by rfl) ?_
            refine zp0 (by rfl) rfl rfl ?_
            refine zy_v1e (by rfl) (zc_isWord he _) ?_
            refine zy_if (by rfl) (by rfl) (fun h22 => ?_) (fun h22 => ?_)
            · iterate 3 refine zp0 (by rfl) rfl rfl ?_
              refine zy_v0 (by rfl) (zc_side he hR hE hwants) ?_
              intro rv hp1 hq
              obtain ⟨f, C2, q1, q2, q3, q4⟩ := hq
              rw [q1, q2]
              iterate 4 refine zp0 (by rfl) rfl rfl ?_
              obtain ⟨r1, S1, o1, o2⟩ := hstep (fun q => hwants q.2.1)
              have hO : zstO S = zlfO S := if_pos hwants
              rw [← hO] at q4
              refine zc_E177 he hgo hM hC hj ha hF q3 q4 (fun g => zlfO_kind (by rw [← hO]; exact g)) (fun g => ?_) o1 o2
              rw [hO] at g ⊢
              have g2 := zlfO_wants g hwants
              have g3 : ¬ zsg S 40 := fun q => zite3 h21 ((hsg 40 (by decide)).mpr q)
              have g4 : ¬ zky S 9 := fun q => zite0 h22 (hky.mpr q)
              exact ⟨fun _ => Classical.byContradiction (fun q => (g2.mp q).elim g3 g4), fun _ => by decide⟩
            · iterate 4 refine zp0 (by rfl) rfl rfl ?_
              refine zy_v0 (by rfl) (zc_side he hR hE hwants) ?_
              intro rv hp1 hq
              obtain ⟨f, C2, q1, q2, q3, q4⟩ := hq
              rw [q1, q2]
              iterate 4 refine zp0 (by rfl) rfl rfl ?_
              obtain ⟨r1, S1, o1, o2⟩ := hstep (fun q => hwants q.2.1)
              have hO : zstO S = zlfO S := if_pos hwants
              rw [← hO] at q4
              refine zc_E177 he hgo hM hC hj ha hF q3 q4 (fun g => zlfO_kind (by rw [← hO]; exact g)) (fun g => ?_) o1 o2
              rw [hO] at g ⊢
              have g2 := zlfO_wants g hwants
              have g3 := hky.mp (zite1 h22)
              exact ⟨fun q => absurd q (by decide), fun q => absurd q (g2.mpr (Or.inr g3))⟩
theorem zc_Ego (he : zeI e hp (zDC x1 6 2 17).length) {n a : Nat} {C0 : Nat → Nat → Int32} : ∀ k, zEgo Lx xs hp e x1 m K T n k a C0
  | 0 => fun S S' r C i j d br kn l v4 v7 c s hsum _ _ _ _ _ _ _ => hsum.elim
  | k + 1 => fun S S' r C i j d br kn l v4 v7 c s hsum hM hC hE hj ha hF hv => zc_EB he (zc_Ego he k) S S' r C i j d br kn l v4 v7 c s hsum hM hC hE hj ha hF hv
end ZCLB
