/-! a side of E: the class does as the model -/
theorem zWt_push {S C S2 C2 : Nat → Nat → Int32} {d br kn br' kn' : Nat} (h : zWt S C d br kn) {x : Int} (x1 : x = 0 ∨ 2 ≤ x) (x2 : x ≤ 14) (a1 : S2 0 35 = Int32.ofInt ((d + 1 : Nat) : Int)) (a2 : C2 18 2 = Int32.ofInt ((d + 1 : Nat) : Int)) (a3 : S2 0 37 = Int32.ofInt (br' : Int)) (a4 : C2 18 3 = Int32.ofInt (br' : Int)) (a5 : S2 0 38 = Int32.ofInt (kn' : Int)) (a6 : C2 18 4 = Int32.ofInt (kn' : Int)) (b1 : d + 1 ≤ kn' + br') (b2 : br' ≤ 8) (b3 : kn' ≤ 64) (c1 : S2 16 = va_up (S 16) d (Int32.ofInt x)) (c2 : C2 19 = va_up (C 19) d (Int32.ofInt (zcw x))) (hb : br' = br + if x = 0 then 1 else 0) : zWt S2 C2 (d + 1) br' kn' := by
  have hx : (Int32.ofInt x).toInt = x := zRt ⟨by omega, by omega⟩
  refine ⟨a1, a2, a3, a4, a5, a6, b1, b2, b3, fun j hj => ?_, ?_⟩
  · rw [c1, c2]
    by_cases g : j = d
    · refine ⟨x, x1, x2, ?_, ?_⟩
      · rw [g]
        exact if_pos rfl
      · rw [g]
        exact if_pos rfl
    · obtain ⟨k, k1, k2, k3, k4⟩ := h.2.2.2.2.2.2.2.2.2.1 j (by omega)
      refine ⟨k, k1, k2, ?_, ?_⟩
      · exact (if_neg g).trans k3
      · exact (if_neg g).trans k4
  · show zbrk (S2 16) d + (if (S2 16 d).toInt = 0 then 1 else 0) = br'
    have e1 : S2 16 d = Int32.ofInt x := by
      rw [c1]
      exact if_pos rfl
    have e2 : zbrk (S2 16) d = zbrk (S 16) d := zbrk_congr d (fun j hj => by
      rw [c1]
      exact if_neg (by omega))
    rw [e1, e2, hx, h.2.2.2.2.2.2.2.2.2.2, hb]
theorem zWt_same {S C S2 C2 : Nat → Nat → Int32} {d br kn kn' : Nat} (h : zWt S C d br kn) (a1 : S2 0 35 = S 0 35) (a2 : C2 18 2 = C 18 2) (a3 : S2 0 37 = S 0 37) (a4 : C2 18 3 = C 18 3) (a5 : S2 0 38 = Int32.ofInt (kn' : Int)) (a6 : C2 18 4 = Int32.ofInt (kn' : Int)) (b1 : kn ≤ kn') (b3 : kn' ≤ 64) (c1 : S2 16 = S 16) (c2 : C2 19 = C 19) : zWt S2 C2 d br kn' := by
  have q := h.2.2.2.2.2.2.1
  refine ⟨a1.trans h.1, a2.trans h.2.1, a3.trans h.2.2.1, a4.trans h.2.2.2.1, a5, a6, by omega, h.2.2.2.2.2.2.2.1, b3, ?_, ?_⟩
  · rw [c1, c2]
    exact h.2.2.2.2.2.2.2.2.2.1
  · rw [c1]
    exact h.2.2.2.2.2.2.2.2.2.2
def zden (x : Int) : Prop := x = 0 ∨ x = 2 ∨ x = 3 ∨ x = 4
/-- while E is read, on both sides -/
def zEq (S C : Nat → Nat → Int32) (d br kn l : Nat) : Prop := zWt S C d br kn ∧ C 16 3 = Int32.ofInt (l : Int) ∧ l ≤ 64 ∧ ((S 0 39).toInt = 0 → 1 ≤ l) ∧ ((S 0 39).toInt ≠ 0 → ((S 0 40).toInt ≠ 0 ↔ (d = 0 ∨ zden (S 16 (d - 1)).toInt)))
def zSo (o : Option Int32 × (Nat → Nat → Int32)) (C' : Nat → Nat → Int32) (f : Int32) : Prop := match o.1 with
  | some g => f = g ∧ g.toInt ≠ 0
  | none => f = Int32.ofInt 0 ∧ ∃ d br kn l, zEq o.2 C' d br kn l
/-- what E's reader leaves as it was -/
def zFrC (C C' : Nat → Nat → Int32) : Prop := ∀ q, q ≠ 16 → q ≠ 17 → q ≠ 18 → q ≠ 19 → C' q = C q
section ZCL8
variable {Lx : Nat} {xs : Nat → Int32} {n : Nat} {hp : List zhE} {e : Nat → Nat} {x1 m : Nat} {S C : Nat → Nat → Int32} {d br kn l : Nat}
theorem zc_side (he : zeI e hp (zDC x1 6 2 17).length) (hR : zTR (S 0 8) (S 0 9) (C 1 8) (C 1 10)) (hE : zEq S C d br kn l) (hw : (S 0 39).toInt ≠ 0) : zPn Lx xs n 108 (0, lv_args 0 [.ref (e 18)], [], zHS e (zDC x1 6 2 17) C hp, 0, 0) (fun rv hp1 => ∃ f C', rv = some (.int f) ∧ hp1 = zHS e (zDC x1 6 2 17) C' hp ∧ zFrC C C' ∧ zSo (zlfO S) C' f) := by
  have hI := zTR_i hR
  obtain ⟨hW, hl, hl64, -, hmn⟩ := hE
  have hmn := hmn hw
  have w1 := hW.1
  have w2 := hW.2.1
  have w3 := hW.2.2.1
  have w4 := hW.2.2.2.1
  have w5 := hW.2.2.2.2.1
  have w6 := hW.2.2.2.2.2.1
  have w7 := hW.2.2.2.2.2.2.1
  have w8 := hW.2.2.2.2.2.2.2.1
  have w9 := hW.2.2.2.2.2.2.2.2.1
  have y3 : (S 0 37).toInt = br := by rw [w3]; exact zof_ix (by omega)
  have y4 : (C 18 3).toInt = br := by rw [w4]; exact zof_ix (by omega)
  have y5 : (S 0 38).toInt = kn := by rw [w5]; exact zof_ix (by omega)
  have y6 : (C 18 4 + Int32.ofInt 1).toInt = kn + 1 := by rw [w6, zof_up]; exact zof_ix (by omega)
  have k40 : (Int32.ofInt 40).toInt = 40 := by decide
  have k9 : (Int32.ofInt 9).toInt = 9 := by decide
  have kN : (Int32.ofInt 486146048).toInt = 486146048 := by decide
  have hsg : ((C 1 8).toInt = 3 ∧ (C 1 10).toInt = (Int32.ofInt 40).toInt) ↔ zsg S 40 := by
    show _ ↔ ((S 0 8).toInt = 4 ∧ (S 0 9).toInt = (Int32.ofInt 40).toInt)
    rw [k40]
    exact zTRi_sg hI (by decide)
  have hky : ((C 1 8).toInt = 1 ∧ (C 1 10).toInt = (Int32.ofInt 486146048).toInt) ↔ zky S 9 := by
    show _ ↔ ((S 0 8).toInt = 1 ∧ (S 0 9).toInt = (Int32.ofInt 9).toInt)
    rw [k9, kN]
    exact zTRi_ky hI (w := 9) (by decide)
  have hnm := znm_i hI
  have h3 : (C 1 8).toInt = 2 ↔ (S 0 8).toInt = 3 := by rcases hI with h | ⟨v, h⟩ | h | h | h | h | h <;> omega
  have hbig : (C 1 8).toInt = 2 → (9999 < (C 1 10).toInt ↔ 9999 < (S 0 9).toInt) := by
    intro q
    rcases hI with h | ⟨v, h⟩ | h | h | h | h | h <;> omega
  -- the last of its paths
  have h134 : ¬ zsg S 40 → ¬ (zky S 9 ∧ (S 0 40).toInt ≠ 0) → ¬ ((znm S).toInt < 0 ∧ (S 0 8).toInt ≠ 3) → ¬ ((znm S).toInt < 0 ∧ 9999 < (S 0 9).toInt) → ∀ (w : Int32) (c s : Nat), zPn Lx xs n 108 (134, [(1, .int w), (0, .ref (e 18))], [], zHS e (zDC x1 6 2 17) C hp, c, s) (fun rv hp1 => ∃ f C', rv = some (.int f) ∧ hp1 = zHS e (zDC x1 6 2 17) C' hp ∧ zFrC C C' ∧ zSo (zlfO S) C' f) := by
    intro g1 g2 g3 g4 w c s
    have hfin : ∀ z : Int32, ∃ f C', some (.int (if 64 < (zcput C z 18 4 + Int32.ofInt 1).toInt then Int32.ofInt 2 else Int32.ofInt 0)) = some (Value.int f) ∧ zHS e (zDC x1 6 2 17) (zuS (zcput C z) 18 4 (zcput C z 18 4 + Int32.ofInt 1)) hp = zHS e (zDC x1 6 2 17) C' hp ∧ zFrC C C' ∧ zSo (zlfO S) C' f := by
      intro z
      obtain ⟨p1, l', p2, p3, p4, p5⟩ := zcput_x (x := z) hl hl64
      refine ⟨_, _, rfl, rfl, fun q q1 q2 q3 q4 => ?_, ?_⟩
      · rw [zuS_ne q3, p1 q q1 q2]
      · rw [p1 18 (by decide) (by decide), y6]
        by_cases hk : kn = 64
        · have hO : zlfO S = (some (Int32.ofInt 2), S) := by
            unfold zlfO
            rw [if_neg g1, if_neg g2, if_neg g3, if_neg g4, if_pos (by omega)]
          rw [hO, if_pos (by omega)]
          exact ⟨rfl, by decide⟩
        · have hO : zlfO S = (none, zuS (zgrown (zcntd S) (if 0 ≤ (znm S).toInt then Int32.ofInt 1 else Int32.ofInt 0) (if 0 ≤ (znm S).toInt then znm S else S 0 9) (Int32.ofInt 0)) 0 39 (Int32.ofInt 0)) := by
            unfold zlfO
            rw [if_neg g1, if_neg g2, if_neg g3, if_neg g4, if_neg (by omega)]
          rw [if_neg (show ¬ (64 : Int) < (kn : Int) + 1 by omega), hO]
          refine ⟨rfl, d, br, kn + 1, l', zWt_same hW rfl ?_ rfl ?_ (show S 0 38 + Int32.ofInt 1 = _ by rw [w5, zof_up]) ?_ (by omega) (by omega) rfl ?_, ?_, p4, fun _ => p5, fun q => absurd (show (Int32.ofInt 0).toInt = 0 by decide) q⟩
          · rw [zuS_off (Or.inr (by decide)), p1 18 (by decide) (by decide)]
          · rw [zuS_off (Or.inr (by decide)), p1 18 (by decide) (by decide)]
          · rw [zuS_at, w6, zof_up]
          · rw [zuS_ne (by decide), p1 19 (by decide) (by decide)]
          · rw [zuS_off (Or.inl (by decide))]
            exact p2
    refine zp0 (by rfl) rfl rfl ?_
    refine zy_ref (r := 16) he (by rfl) (by rfl) (by rfl) (by rfl) ?_
    refine zp0 (by rfl) rfl rfl ?_
    refine zy_if (by rfl) (by rfl) (fun h1 => ?_) (fun h1 => ?_)
    · refine zq_sip (by rfl) (by decide) ?_
      iterate 2 refine zp0 (by rfl) rfl rfl ?_
      refine zy_v1n (by rfl) (zc_put he _) ?_
      refine zp0 (by rfl) rfl rfl ?_
      refine zy_v0e (by rfl) (zc_count he) ?_
      refine zp_retI (by rfl) ?_
      exact hfin _
    · refine zp0 (by rfl) rfl rfl ?_
      refine zy_ref (r := 1) he (by rfl) (by rfl) (by rfl) (by rfl) ?_
      refine zy_get (b := 10) he (by rfl) (by rfl) (by rfl) (by rfl) ?_
      refine zp0 (by rfl) rfl rfl ?_
      refine zy_v1n (by rfl) (zc_put he _) ?_
      refine zp0 (by rfl) rfl rfl ?_
      refine zy_v0e (by rfl) (zc_count he) ?_
      refine zp_retI (by rfl) ?_
      exact hfin _
  -- its last paths but for the name's number
  have h98 : ¬ zsg S 40 → ¬ (zky S 9 ∧ (S 0 40).toInt ≠ 0) → ∀ (w : Int32) (c s : Nat), w.toInt = (znm S).toInt → zPn Lx xs n 108 (98, [(1, .int w), (0, .ref (e 18))], [], zHS e (zDC x1 6 2 17) C hp, c, s) (fun rv hp1 => ∃ f C', rv = some (.int f) ∧ hp1 = zHS e (zDC x1 6 2 17) C' hp ∧ zFrC C C' ∧ zSo (zlfO S) C' f) := by
    intro g1 g2 w c s hw9
    refine zp0 (by rfl) rfl rfl ?_
    refine zy_if (by rfl) (by rfl) (fun h1 => ?_) (fun h1 => ?_)
    · refine zp0 (by rfl) rfl rfl ?_
      refine zy_if (by rfl) (by rfl) (fun h2 => ?_) (fun h2 => ?_)
      · simp only [zcf, hw9] at h1 h2
        exact h134 g1 g2 (by omega) (by omega) _ _ _
      · refine zp0 (by rfl) rfl rfl ?_
        refine zy_ref (r := 1) he (by rfl) (by rfl) (by rfl) (by rfl) ?_
        refine zy_get (b := 10) he (by rfl) (by rfl) (by rfl) (by rfl) ?_
        refine zq_sip (by rfl) (by decide) ?_
        refine zy_icmpC (by rfl) (by rfl) ⟨by decide, by decide⟩ (fun h3 => ?_) (fun h3 => ?_)
        · simp only [zcf, hw9] at h1 h2 h3
          exact h134 g1 g2 (by omega) (by omega) _ _ _
        · refine zp0 (by rfl) rfl rfl ?_
          refine zp_retI (by rfl) ?_
          simp only [zcf, hw9] at h1 h2 h3
          have hO : zlfO S = (some (Int32.ofInt 2), S) := by
            unfold zlfO
            rw [if_neg g1, if_neg g2, if_neg (by omega), if_pos (by omega)]
          refine ⟨_, _, rfl, rfl, fun _ _ _ _ _ => rfl, ?_⟩
          rw [hO]
          exact ⟨rfl, by decide⟩
    · refine zp0 (by rfl) rfl rfl ?_
      refine zy_ref (r := 1) he (by rfl) (by rfl) (by rfl) (by rfl) ?_
      refine zy_get (b := 8) he (by rfl) (by rfl) (by rfl) (by rfl) ?_
      refine zp0 (by rfl) rfl rfl ?_
      refine zy_icmpC (by rfl) (by rfl) ⟨by decide, by decide⟩ (fun h4 => ?_) (fun h4 => ?_)
      · refine zp0 (by rfl) rfl rfl ?_
        refine zy_if (by rfl) (by rfl) (fun h5 => ?_) (fun h5 => ?_)
        · simp only [zcf, hw9] at h1 h4 h5
          exact h134 g1 g2 (by omega) (by omega) _ _ _
        · refine zp0 (by rfl) rfl rfl ?_
          refine zy_ref (r := 1) he (by rfl) (by rfl) (by rfl) (by rfl) ?_
          refine zy_get (b := 10) he (by rfl) (by rfl) (by rfl) (by rfl) ?_
          refine zq_sip (by rfl) (by decide) ?_
          refine zy_icmpC (by rfl) (by rfl) ⟨by decide, by decide⟩ (fun h6 => ?_) (fun h6 => ?_)
          · simp only [zcf, hw9] at h1 h4 h5 h6
            exact h134 g1 g2 (by omega) (by omega) _ _ _
          · refine zp0 (by rfl) rfl rfl ?_
            refine zp_retI (by rfl) ?_
            simp only [zcf, hw9] at h1 h4 h5 h6
            have hO : zlfO S = (some (Int32.ofInt 2), S) := by
              unfold zlfO
              rw [if_neg g1, if_neg g2, if_neg (by omega), if_pos (by omega)]
            refine ⟨_, _, rfl, rfl, fun _ _ _ _ _ => rfl, ?_⟩
            rw [hO]
            exact ⟨rfl, by decide⟩
      · refine zp0 (by rfl) rfl rfl ?_
        refine zp_retI (by rfl) ?_
        simp only [zcf, hw9] at h1 h4
        have hO : zlfO S = (some (Int32.ofInt 1), S) := by
          unfold zlfO
          rw [if_neg g1, if_neg g2, if_pos (by omega)]
        refine ⟨_, _, rfl, rfl, fun _ _ _ _ _ => rfl, ?_⟩
        rw [hO]
        exact ⟨rfl, by decide⟩
  have hden : d ≤ 72 → ((d = 0 ∨ (zlast C d).toInt = 0 ∨ (zlast C d).toInt = -2 ∨ (zlast C d).toInt = -1 ∨ (zlast C d).toInt = -3) ↔ (S 0 40).toInt ≠ 0) := by
    intro _
    rw [hmn]
    by_cases g : d = 0
    · exact ⟨fun _ => Or.inl g, fun _ => Or.inl g⟩
    · have e1 : zlast C d = C 19 (d - 1) := if_pos (by omega)
      obtain ⟨k, k1, k2, k3, k4⟩ := zWt_j hW (j := d - 1) (by omega)
      rw [e1, k3, k4]
      unfold zden zcw
      (repeat' split) <;> omega
  have hden := hden (by omega)
  refine zp0 (by rfl) rfl rfl ?_
  refine zy_ref (r := 1) he (by rfl) (by rfl) (by rfl) (by rfl) ?_
  refine zq_bip (by rfl) (by decide) ?_
  refine zy_v1e (by rfl) (zc_isSign he _) ?_
  refine zy_if (by rfl) (by rfl) (fun h1 => ?_) (fun h1 => ?_)
  · refine zp0 (by rfl) rfl rfl ?_
    refine zy_ref (r := 1) he (by rfl) (by rfl) (by rfl) (by rfl) ?_
    refine zp0 (by rfl) rfl rfl ?_
    refine zy_v1e (by rfl) (zc_isWord he _) ?_
    refine zy_if (by rfl) (by rfl) (fun h2 => ?_) (fun h2 => ?_)
    · refine zp0 (by rfl) rfl rfl ?_
      refine zy_ref (r := 1) he (by rfl) (by rfl) (by rfl) (by rfl) ?_
      refine zy_get (b := 8) he (by rfl) (by rfl) (by rfl) (by rfl) ?_
      refine zp0 (by rfl) rfl rfl ?_
      refine zy_icmpC (by rfl) (by rfl) ⟨by decide, by decide⟩ (fun h3 => ?_) (fun h3 => ?_)
      · iterate 2 refine zp0 (by rfl) rfl rfl ?_
        have g1 : ¬ zsg S 40 := fun q => zite0 h1 (hsg.mpr q)
        have g2 : ¬ (zky S 9 ∧ (S 0 40).toInt ≠ 0) := fun q => zite0 h2 (hky.mpr q.1)
        simp only [zcf] at h3
        exact h98 g1 g2 _ _ _ (by
          rw [hnm, if_neg (by omega)]
          decide)
      · refine zp0 (by rfl) rfl rfl ?_
        refine zy_ref (r := 1) he (by rfl) (by rfl) (by rfl) (by rfl) ?_
        refine zy_get (b := 10) he (by rfl) (by rfl) (by rfl) (by rfl) ?_
        refine zy_s1e (by rfl) (by rfl) (zc_nameIndex _) ?_
        iterate 2 refine zp0 (by rfl) rfl rfl ?_
        have g1 : ¬ zsg S 40 := fun q => zite0 h1 (hsg.mpr q)
        have g2 : ¬ (zky S 9 ∧ (S 0 40).toInt ≠ 0) := fun q => zite0 h2 (hky.mpr q.1)
        simp only [zcf] at h3
        exact h98 g1 g2 _ _ _ (by
          rw [hnm, if_pos (by omega)]
          have := zcnI_rg (C 1 10).toInt
          exact zRt ⟨by omega, by omega⟩)
    · refine zp0 (by rfl) rfl rfl ?_
      refine zy_v0e (by rfl) (zc_mayDeny he w2 (by omega)) ?_
      refine zy_if (by rfl) (by rfl) (fun h4 => ?_) (fun h4 => ?_)
      · refine zp0 (by rfl) rfl rfl ?_
        refine zq_bip (by rfl) (by decide) ?_
        refine zy_v1n (by rfl) (zc_await he w2 (by omega) _) ?_
        refine zp0 (by rfl) rfl rfl ?_
        refine zy_v0e (by rfl) (zc_count he) ?_
        refine zp_retI (by rfl) ?_
        have g1 : ¬ zsg S 40 := fun q => zite0 h1 (hsg.mpr q)
        have g2 := hky.mp (zite1 h2)
        have g3 := hden.mp (zite2 h4)
        refine ⟨_, _, rfl, rfl, fun q q1 q2 q3 q4 => ?_, ?_⟩
        · rw [zuS_ne q3]
          unfold zcaw
          split
          · rw [zuS_ne q3, zuS_ne q4]
          · rfl
        · have y7 : zcaw C d (Int32.ofInt (-3)) 18 4 = C 18 4 := by
            unfold zcaw
            split <;> rfl
          rw [y7, y6]
          by_cases hk : kn = 64
          · have hO : zlfO S = (some (Int32.ofInt 2), S) := by
              unfold zlfO
              rw [if_neg g1, if_pos ⟨g2, g3⟩, if_pos (by omega)]
            rw [hO, if_pos (by omega)]
            exact ⟨rfl, by decide⟩
          · have hO : zlfO S = (none, zwt (zcntd S) (Int32.ofInt 2)) := by
              unfold zlfO
              rw [if_neg g1, if_pos ⟨g2, g3⟩, if_neg (by omega)]
            have hC : zcaw C d (Int32.ofInt (-3)) = zuS (zuS C 19 d (Int32.ofInt (-3))) 18 2 (Int32.ofInt ((d + 1 : Nat) : Int)) := if_pos (by omega)
            rw [hO, if_neg (by omega), hC]
            have e16 : zwt (zcntd S) (Int32.ofInt 2) 16 = va_up (S 16) d (Int32.ofInt 2) := by
              show va_up (S 16) (S 0 35).toNatClampNeg _ = _
              rw [w1, zof_cl (by omega)]
            refine ⟨rfl, d + 1, br, kn + 1, l, zWt_push hW (x := 2) (by decide) (by decide) ?_ rfl w3 w4 ?_ ?_ (by omega) w8 (by omega) e16 rfl (by simp), hl, hl64, fun q => absurd q hw, fun _ => ⟨fun _ => Or.inr ?_, fun _ => g3⟩⟩
            · show S 0 35 + Int32.ofInt 1 = _
              rw [w1, zof_up]
            · show S 0 38 + Int32.ofInt 1 = _
              rw [w5, zof_up]
            · show C 18 4 + Int32.ofInt 1 = _
              rw [w6, zof_up]
            · show zden (zwt (zcntd S) (Int32.ofInt 2) 16 d).toInt
              rw [e16]
              have : va_up (S 16) d (Int32.ofInt 2) d = Int32.ofInt 2 := if_pos rfl
              rw [this]
              exact Or.inr (Or.inl (by decide))
      · refine zp0 (by rfl) rfl rfl ?_
        refine zp_retI (by rfl) ?_
        have g1 : ¬ zsg S 40 := fun q => zite0 h1 (hsg.mpr q)
        have g2 := hky.mp (zite1 h2)
        have g3 := fun q => zite3 h4 (hden.mpr q)
        have hO : zlfO S = (some (Int32.ofInt 1), S) := by
          unfold zlfO
          have e1 : (znm S).toInt = -1 := by
            rw [hnm]
            have q1 := hky.mpr g2
            rw [if_pos q1.1, q1.2, kN]
            decide
          have g4 : (S 0 8).toInt = 1 := g2.1
          rw [if_neg g1, if_neg (fun q => g3 q.2), if_pos (by omega)]
        refine ⟨_, _, rfl, rfl, fun _ _ _ _ _ => rfl, ?_⟩
        rw [hO]
        exact ⟨rfl, by decide⟩
  · refine zp0 (by rfl) rfl rfl ?_
    refine zy_get (b := 3) he (by rfl) (by rfl) (by rfl) (by rfl) ?_
    refine zq_bip (by rfl) (by decide) ?_
    refine zy_icmpC (by rfl) (by rfl) ⟨by decide, by decide⟩ (fun h5 => ?_) (fun h5 => ?_)
    · iterate 2 refine zp0 (by rfl) rfl rfl ?_
      refine zy_get (b := 3) he (by rfl) (by rfl) (by rfl) (by rfl) ?_
      iterate 2 refine zp0 (by rfl) rfl rfl ?_
      refine zy_put (b := 3) he (by rfl) (by rfl) (by rfl) ?_
      iterate 2 refine zp0 (by rfl) rfl rfl ?_
      refine zy_v1n (by rfl) (zc_await he (C := zuS C 18 3 (C 18 3 + Int32.ofInt 1)) w2 (by omega) _) ?_
      refine zp0 (by rfl) rfl rfl ?_
      refine zp_retI (by rfl) ?_
      have g1 := hsg.mp (zite1 h1)
      simp only [zcf, y4] at h5
      have hO : zlfO S = (none, zuS (zwt (zuS S 0 37 (S 0 37 + Int32.ofInt 1)) (Int32.ofInt 0)) 0 40 (Int32.ofInt 1)) := by
        unfold zlfO
        rw [if_pos g1, if_neg (by omega)]
      have hC : zcaw (zuS C 18 3 (C 18 3 + Int32.ofInt 1)) d (Int32.ofInt 0) = zuS (zuS (zuS C 18 3 (C 18 3 + Int32.ofInt 1)) 19 d (Int32.ofInt 0)) 18 2 (Int32.ofInt ((d + 1 : Nat) : Int)) := if_pos (by omega)
      refine ⟨_, _, rfl, rfl, fun q q1 q2 q3 q4 => ?_, ?_⟩
      · rw [hC, zuS_ne q3, zuS_ne q4, zuS_ne q3]
      · rw [hO, hC]
        have e16 : zuS (zwt (zuS S 0 37 (S 0 37 + Int32.ofInt 1)) (Int32.ofInt 0)) 0 40 (Int32.ofInt 1) 16 = va_up (S 16) d (Int32.ofInt 0) := by
          show va_up (S 16) (S 0 35).toNatClampNeg _ = _
          rw [w1, zof_cl (by omega)]
        refine ⟨rfl, d + 1, br + 1, kn, l, zWt_push hW (x := 0) (by decide) (by decide) ?_ rfl ?_ ?_ w5 w6 (by omega) (by omega) w9 e16 rfl rfl, hl, hl64, fun q => absurd q hw, fun _ => ⟨fun _ => Or.inr ?_, fun _ => show (Int32.ofInt 1).toInt ≠ 0 by decide⟩⟩
        · show S 0 35 + Int32.ofInt 1 = _
          rw [w1, zof_up]
        · show S 0 37 + Int32.ofInt 1 = _
          rw [w3, zof_up]
        · show C 18 3 + Int32.ofInt 1 = _
          rw [w4, zof_up]
        · show zden (zuS (zwt (zuS S 0 37 (S 0 37 + Int32.ofInt 1)) (Int32.ofInt 0)) 0 40 (Int32.ofInt 1) 16 d).toInt
          rw [e16]
          have : va_up (S 16) d (Int32.ofInt 0) d = Int32.ofInt 0 := if_pos rfl
          rw [this]
          exact Or.inl (by decide)
    · refine zp0 (by rfl) rfl rfl ?_
      refine zp_retI (by rfl) ?_
      have g1 := hsg.mp (zite1 h1)
      simp only [zcf, y4] at h5
      have hO : zlfO S = (some (Int32.ofInt 2), S) := by
        unfold zlfO
        rw [if_pos g1, if_pos (by omega)]
      refine ⟨_, _, rfl, rfl, fun _ _ _ _ _ => rfl, ?_⟩
      rw [hO]
      exact ⟨rfl, by decide⟩
end ZCL8
