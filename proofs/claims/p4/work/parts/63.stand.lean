/-! goesOn, layBearing, fallen, isStanding by hand, from the model's shape -/
section ZST
variable {lk : ZLP} {Lx : Nat} {xs : Nat → Int32} {Q : ZP} {η : List Nat} {j iL iF iW iH iR : Nat} {ρ : List Int} {ev fl : Int32} {lf ff wf hf rf : Nat → Int32} {hp : List zhE}
theorem zne2 (H : zMO η j ρ hp) {c d a b : Nat} (ha : η[c]? = some a) (hb : η[d]? = some b) (hn : c ≠ d) : a ≠ b := fun e => hn (H.2.1.1 c d a ha (by rw [e]; exact hb))
theorem zIs_0 {k : Nat} (hk : k < 9) : zIs (Int32.ofInt 0) (Int32.ofInt (k : Int)) = 0 := by
  rcases (show k = 0 ∨ k = 1 ∨ k = 2 ∨ k = 3 ∨ k = 4 ∨ k = 5 ∨ k = 6 ∨ k = 7 ∨ k = 8 by omega) with rfl | rfl | rfl | rfl | rfl | rfl | rfl | rfl | rfl <;> decide
theorem zIs_r (x k : Int32) : 0 ≤ (zIs x k).toInt ∧ (zIs x k).toInt ≤ 1 := by
  rcases zIs01 x k with e | e <;> rw [e] <;> decide
def zrc0 (r : List AV) (G : AG) : Bool := match r with
  | [a] => Nat.beq a.1 0 && zbd G.2.1 a.2 (fun lo _ => zle 0 lo)
  | _ => false
theorem zgoes (H : zRXM η j iL iF iW iH iR ρ ev fl lf ff wf hf rf hp) {t : Nat} (ht : t < 9) {w : Int32} (w0 : 0 ≤ w.toInt) (w1 : w.toInt ≤ 1) {e : Nat} (he : ρ[28]? = some (e : Int)) : zWP lk Lx xs 204 (0, lv_args 0 [.ref j, .int (Int32.ofInt (t : Int)), .int w], [], hp, 0, 0) (fun rv hp' => ∃ x : Int32, rv = some (.int x) ∧ 0 ≤ x.toInt ∧ (x.toInt = 0 → e ≠ 0) ∧ zRXM η j iL iF iW iH iR ρ ev fl lf ff wf hf rf hp' ∧ zFm η [21, 22] hp hp') := by
  by_cases e0 : e = 0
  · obtain ⟨vs, HX⟩ := H.2.2.2.2.2.2.2.2
    obtain ⟨y, y1, -, -, y4⟩ := zMO_int H.1 48 28 (by rfl) (zfs0 (c := 0) (by rfl) (by rfl))
    rw [y1, e0] at he
    have ey := zb_of (Option.some.inj he)
    refine zs0 (by rfl) rfl rfl ?_
    refine zs_get (by rfl) HX.1 (y4 vs HX.1) ?_
    rw [ey]
    refine zs_if (by rfl) (t := 9) (by rfl) (fun hb => absurd hb (by decide)) (fun _ => ?_)
    refine zs0 (by rfl) rfl rfl ?_
    exact zs_retI (by rfl) ⟨Int32.ofInt 2, rfl, by decide, fun h => absurd h (by decide), H, zFm.refl⟩
  · have h := zcM_ok (lk := lk) (Lx := Lx) (xs := xs) (C := zu_204) (aE := [(0, 8), (0, 1)]) (W := [21, 22]) (kp := List.range 37) (rc := zrc0) zuh_204 (by decide +kernel) H.1 (by decide) (vals := [Int32.ofInt (t : Int), w]) ⟨by rw [zof_ix (by omega)]; simp only; omega, by rw [zof_ix (by omega)]; simp only; omega, w0, w1, trivial⟩
    refine zWP.post (show zWP lk Lx xs 204 _ _ from h) ?_
    rintro rv hp' ⟨ρ2, q1, q2, q3, q4, r, G, ρ3, q5, q6, q7⟩
    have hF : zFm η [21, 22] hp hp' := ⟨q3, q4⟩
    have er : ρ2 = ρ := by
      apply List.ext_getElem?
      intro i
      by_cases hi : i < 37
      · exact q2 i (List.mem_range.mpr hi)
      · rw [List.getElem?_eq_none (by rw [← q1.2.2.2.2.2.1.1]; exact Nat.le_of_not_lt hi), List.getElem?_eq_none (by rw [← H.1.2.2.2.2.2.1.1]; exact Nat.le_of_not_lt hi)]
    subst er
    match r, q5, q7 with
    | [a], q5, q7 =>
      simp only [zrc0, Bool.and_eq_true] at q5
      match rv, q7 with
      | some v, q7 =>
        obtain ⟨tg, ex⟩ := a
        have tg0 := Nat.eq_of_beq_eq_true q5.1
        have tg0 : tg = 0 := tg0
        subst tg0
        obtain ⟨⟨x, rfl, x2⟩, -⟩ := q7
        obtain ⟨lo, hi, b1, b2, -⟩ := zbd_at q6.2.1 q5.2 x2
        have b1 := zle_iff.mp b1
        exact ⟨x, rfl, by omega, fun _ => e0, zRXM_at7 H q1 (fun _ _ => rfl) (hF.mono (by decide)), hF⟩
      | none, q7 => exact q7.elim
    | [], q5, _ => cases q5
    | _ :: _ :: _, q5, _ => cases q5
theorem zhrt (H : zRXM η j iL iF iW iH iR ρ ev fl lf ff wf hf rf hp) {t : Nat} (ht : t < 20) : zWP lk Lx xs 198 (0, lv_args 0 [.ref j, .int (Int32.ofInt (t : Int))], [], hp, 0, 0) (fun rv hp' => (∃ x : Int32, rv = some (.int x)) ∧ hp' = hp) := by
  obtain ⟨vs, HX⟩ := H.2.2.2.2.2.2.2.2
  obtain ⟨h1, h2, h3, h4, h5, h6, h7, h8, h9, h10, h11, h12, h13, h14, h15⟩ := id HX
  obtain ⟨iT, f, r1, r2, -, r4⟩ := zMO_row H.1 12 29 (by rfl) (zfs0 (c := 0) (by rfl) (by rfl))
  iterate 2 refine zs0 (by rfl) rfl rfl ?_
  refine zs_get (by rfl) h1 h3 ?_
  refine zs0 (by rfl) rfl rfl ?_
  refine zs_aldN (by rfl) h11 ht (by decide) ?_
  refine zs_mul (by rfl) ?_
  refine zs0 (by rfl) rfl rfl ?_
  refine zs_get (by rfl) h1 (r4 vs h1) ?_
  refine zs0 (by rfl) rfl rfl ?_
  refine zs_aldN (by rfl) r2 ht (by decide) ?_
  refine zs_add (by rfl) ?_
  exact zs_retI (by rfl) ⟨⟨_, rfl⟩, rfl⟩
theorem zge9 {k : Nat} (hk : k < 9) : ¬ zcb .ge (Int32.ofInt (k : Int)) (Int8.ofInt 9).toInt32 = true := fun q => by
  have q : decide ((Int8.ofInt 9).toInt32 ≤ Int32.ofInt (k : Int)) = true := q
  rw [decide_eq_true_eq, Int32.le_iff_toInt_le, zof_ix (by omega)] at q
  have e : ((Int8.ofInt 9).toInt32).toInt = 9 := by decide
  omega
/-- the loop that clears -/
theorem zbr_c {s p h : Int32} {hp0 : List zhE} (hnext : ∀ hp, zRXM η j iL iF iW iH iR ρ ev fl lf ff wf hf rf hp → zFm η zW7 hp0 hp → zWP lk Lx xs 205 (40, [(4, .int (Int32.ofInt ((9 : Nat) : Int))), (0, .ref j), (1, .int s), (2, .int p), (3, .int h)], [], hp, 0, 0) Q) : ∀ (d k : Nat) (hp : List zhE), k + d = 9 → zRXM η j iL iF iW iH iR ρ ev fl lf ff wf hf rf hp → zFm η zW7 hp0 hp → zWP lk Lx xs 205 (3, [(4, .int (Int32.ofInt (k : Int))), (0, .ref j), (1, .int s), (2, .int p), (3, .int h)], [], hp, 0, 0) Q := by
  intro d
  induction d with
  | zero =>
    intro k hp hk H hF
    have hk : k = 9 := by omega
    subst hk
    iterate 2 refine zs0 (by rfl) rfl rfl ?_
    exact zs_icmp (by rfl) (t := 40) (by rfl) (fun _ => hnext hp H hF) (fun hb => absurd hb (by decide))
  | succ d ih =>
    intro k hp hk H hF
    iterate 2 refine zs0 (by rfl) rfl rfl ?_
    refine zs_icmp (by rfl) (t := 40) (by rfl) (fun hb => absurd hb (zge9 (by omega))) (fun _ => ?_)
    obtain ⟨vs, HX⟩ := H.2.2.2.2.2.2.2.2
    obtain ⟨i1, f1, a1, a2, a3⟩ := zMO_rowL H.1 21 49 (by rfl) (zfs0 (c := 0) (by rfl) (by rfl))
    refine zs0 (by rfl) rfl rfl ?_
    refine zs_get (by rfl) HX.1 (a3 vs HX.1) ?_
    iterate 2 refine zs0 (by rfl) rfl rfl ?_
    refine zs_astL (by rfl) a2 (zof_in (by omega) (by decide)) ?_
    obtain ⟨H2, F2⟩ := zRXM_rowg (g := .inr (.inl (va_up f1 (Int32.ofInt (k : Int)).toNatClampNeg (Int64.ofInt 0)))) H (by decide) a1 a2 (Or.inl ⟨rfl, _, rfl⟩)
    obtain ⟨vs2, HX2⟩ := H2.2.2.2.2.2.2.2.2
    obtain ⟨i2, f2, b1, b2, b3⟩ := zMO_rowL H2.1 22 50 (by rfl) (zfs0 (c := 0) (by rfl) (by rfl))
    refine zs0 (by rfl) rfl rfl ?_
    refine zs_get (by rfl) HX2.1 (b3 vs2 HX2.1) ?_
    iterate 2 refine zs0 (by rfl) rfl rfl ?_
    refine zs_astL (by rfl) b2 (zof_in (by omega) (by decide)) ?_
    obtain ⟨H3, F3⟩ := zRXM_rowg (g := .inr (.inl (va_up f2 (Int32.ofInt (k : Int)).toNatClampNeg (Int64.ofInt 0)))) H2 (by decide) b1 b2 (Or.inl ⟨rfl, _, rfl⟩)
    obtain ⟨vs3, HX3⟩ := H3.2.2.2.2.2.2.2.2
    obtain ⟨i3, f3, c1, c2, -, c3⟩ := zMO_row H3.1 23 51 (by rfl) (zfs0 (c := 0) (by rfl) (by rfl))
    refine zs0 (by rfl) rfl rfl ?_
    refine zs_get (by rfl) HX3.1 (c3 vs3 HX3.1) ?_
    iterate 2 refine zs0 (by rfl) rfl rfl ?_
    refine zs_astI (by rfl) c2 (zof_in (by omega) (by decide)) ?_
    obtain ⟨H4, F4⟩ := zRXM_rowg (g := .inl (va_up f3 (Int32.ofInt (k : Int)).toNatClampNeg (Int32.ofInt 0))) H3 (by decide) c1 c2 (Or.inr ⟨rfl, _, rfl⟩)
    have hn := ih (k + 1) _ (by omega) H4 (((hF.trans F2).trans F3).trans F4)
    rw [← zof_up] at hn
    iterate 2 refine zs0 (by rfl) rfl rfl ?_
    exact hn
/-- the lowest of those not yet done -/
theorem zbr_i (H : zRXM η j iL iF iW iH iR ρ ev fl lf ff wf hf rf hp) {s d p h : Int32} {n m : Nat} (hs : s.toInt = (n : Int)) (hn : n < 512) (hd : d.toInt = (m : Int)) (hm : m < 512) (hsub : ∀ k, k < 9 → Nat.testBit m k = true → Nat.testBit n k = true) (hne : m ≠ n) (hnext : ∀ o : Nat, o < 9 → Nat.testBit n o = true → Nat.testBit m o = false → zWP lk Lx xs 205 (108, [(6, .int (Int32.ofInt ((9 : Nat) : Int))), (5, .int (Int32.ofInt (o : Int))), (4, .int d), (0, .ref j), (1, .int s), (2, .int p), (3, .int h)], [], hp, 0, 0) Q) : ∀ (q k : Nat) (low : Int32), k + q = 9 → ((low = Int32.ofInt (-1) ∧ ∀ i, i < k → ¬ (Nat.testBit n i = true ∧ Nat.testBit m i = false)) ∨ ∃ o : Nat, o < 9 ∧ low = Int32.ofInt (o : Int) ∧ Nat.testBit n o = true ∧ Nat.testBit m o = false) → zWP lk Lx xs 205 (55, [(6, .int (Int32.ofInt (k : Int))), (5, .int low), (4, .int d), (0, .ref j), (1, .int s), (2, .int p), (3, .int h)], [], hp, 0, 0) Q := by
  obtain ⟨vs, HX⟩ := H.2.2.2.2.2.2.2.2
  obtain ⟨h1, h2, h3, h4, h5, h6, h7, h8, h9, h10, h11, h12, h13, h14, h15⟩ := id HX
  intro q
  induction q with
  | zero =>
    intro k low hk hlow
    have hk : k = 9 := by omega
    subst hk
    iterate 2 refine zs0 (by rfl) rfl rfl ?_
    refine zs_icmp (by rfl) (t := 108) (by rfl) (fun _ => ?_) (fun hb => absurd hb (by decide))
    rcases hlow with ⟨rfl, hno⟩ | ⟨o, o1, rfl, o3, o4⟩
    · obtain ⟨i, i1, i2, i3⟩ := zbit_more hm hn hsub hne
      exact absurd ⟨i2, i3⟩ (hno i i1)
    · exact hnext o o1 o3 o4
  | succ q ih =>
    intro k low hk hlow
    have go : ∀ low : Int32, ((low = Int32.ofInt (-1) ∧ ∀ i, i < k + 1 → ¬ (Nat.testBit n i = true ∧ Nat.testBit m i = false)) ∨ ∃ o : Nat, o < 9 ∧ low = Int32.ofInt (o : Int) ∧ Nat.testBit n o = true ∧ Nat.testBit m o = false) → zWP lk Lx xs 205 (102, [(6, .int (Int32.ofInt (k : Int))), (5, .int low), (4, .int d), (0, .ref j), (1, .int s), (2, .int p), (3, .int h)], [], hp, 0, 0) Q := fun low hl => by
      have hn := ih (k + 1) low (by omega) hl
      rw [← zof_up] at hn
      iterate 2 refine zs0 (by rfl) rfl rfl ?_
      exact hn
    iterate 2 refine zs0 (by rfl) rfl rfl ?_
    refine zs_icmp (by rfl) (t := 108) (by rfl) (fun hb => absurd hb (zge9 (by omega))) (fun _ => ?_)
    iterate 6 refine zs0 (by rfl) rfl rfl ?_
    refine zs_stat (vs := [.int (s &&& (d ^^^ Int32.ofInt (-1))), .int (Int32.ofInt (k : Int))]) (by rfl) (by rfl) rfl (Nat.le_of_ble_eq_true (by rfl)) (Nat.le_of_ble_eq_true (by rfl)) (by decide +kernel) (by decide +kernel) (zisOf _ _) ?_
    rintro rv hq ⟨rfl, rfl⟩
    have hb := zdif_bit hs hn hd hm (show k < 9 by omega)
    refine zs_if (by rfl) (t := 102) (by rfl) (fun q1 => go low ?_) (fun q1 => ?_)
    · rcases hlow with ⟨e, hno⟩ | ho
      · refine Or.inl ⟨e, fun i hi => ?_⟩
        by_cases ei : i = k
        · subst ei
          intro hc
          have hb := hb.mpr hc
          rw [hb] at q1
          exact absurd q1 (by decide)
        · exact hno i (by omega)
      · exact Or.inr ho
    · have hk1 : Nat.testBit n k = true ∧ Nat.testBit m k = false := by
        refine hb.mp ?_
        rcases zIs01 (s &&& (d ^^^ Int32.ofInt (-1))) (Int32.ofInt (k : Int)) with e | e
        · rw [e] at q1
          exact absurd q1 (by decide)
        · exact e
      have take : zWP lk Lx xs 205 (98, [(6, .int (Int32.ofInt (k : Int))), (5, .int low), (4, .int d), (0, .ref j), (1, .int s), (2, .int p), (3, .int h)], [], hq, 0, 0) Q := by
        have hn := ih (k + 1) (Int32.ofInt (k : Int)) (by omega) (Or.inr ⟨k, by omega, rfl, hk1.1, hk1.2⟩)
        rw [← zof_up] at hn
        iterate 4 refine zs0 (by rfl) rfl rfl ?_
        exact hn
      refine zs0 (by rfl) rfl rfl ?_
      refine zs_if (by rfl) (t := 98) (by rfl) (fun _ => take) (fun q2 => ?_)
      rcases id hlow with ⟨rfl, hno⟩ | ⟨o, o1, rfl, o3, o4⟩
      · exact absurd q2 (by decide)
      · refine zs0 (by rfl) rfl rfl ?_
        refine zs_get (by rfl) h1 h4 ?_
        refine zs0 (by rfl) rfl rfl ?_
        refine zs_aldN (by rfl) h12 (by omega) (by decide) ?_
        refine zs0 (by rfl) rfl rfl ?_
        refine zs_get (by rfl) h1 h4 ?_
        refine zs0 (by rfl) rfl rfl ?_
        refine zs_aldN (by rfl) h12 (by omega) (by decide) ?_
        exact zs_icmp (by rfl) (t := 102) (by rfl) (fun _ => go _ (Or.inr ⟨o, o1, rfl, o3, o4⟩)) (fun _ => take)
end ZST
