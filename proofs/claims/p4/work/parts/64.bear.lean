/-! layBearing's outer loop; fallen; isStanding; a thing that is there -/
section ZSU
variable {lk : ZLP} {Lx : Nat} {xs : Nat → Int32} {Q : ZP} {η : List Nat} {j iL iF iW iH iR : Nat} {ρ : List Int} {ev fl : Int32} {lf ff wf hf rf : Nat → Int32} {hp : List zhE}
/-- what the fates say of those done: who is said to stand has an edge -/
def zFate (η : List Nat) (lf ff wf hf rf : Nat → Int32) (ev fl : Int32) (s : Int32) (m : Nat) (hp : List zhE) : Prop := ∃ iT f, η[23]? = some iT ∧ hp[iT]? = some (.inl (0, 9, .inl f)) ∧ ∀ k, k < 9 → Nat.testBit m k = true → (f k).toInt ≤ 0 → ¬ zNo lf ff wf hf rf ev fl k s 9
/-- the local variables at the outer loop's head -/
def zbL (j : Nat) (s d h : Int32) (L : zL) : Prop := L = [(4, .int d), (0, .ref j), (1, .int s), (2, .int (Int32.ofInt 0)), (3, .int h)] ∨ ∃ (w : Int64) (x : Int32), L = [(6, .long w), (4, .int d), (5, .int x), (0, .ref j), (1, .int s), (2, .int (Int32.ofInt 0)), (3, .int h)]
set_option maxHeartbeats 4000000 in
theorem zbrO (hA : zAD lk Lx xs) {s h : Int32} {n : Nat} (hs : s.toInt = (n : Int)) (hn : n < 512) {ρ0 : List Int} {hp0 : List zhE} (hend : ∀ ρ hp, zRXM η j iL iF iW iH iR ρ ev fl lf ff wf hf rf hp → (∀ i ∈ zKP, ρ[i]? = ρ0[i]?) → zFm η zW7 hp0 hp → zFate η lf ff wf hf rf ev fl s n hp → Q none hp) : ∀ (q m : Nat) (ρ : List Int) (hp : List zhE) (d : Int32) (L : zL), 512 - m < q → m < 512 → d.toInt = (m : Int) → (∀ k, k < 9 → Nat.testBit m k = true → Nat.testBit n k = true) → zbL j s d h L → zRXM η j iL iF iW iH iR ρ ev fl lf ff wf hf rf hp → (∀ i ∈ zKP, ρ[i]? = ρ0[i]?) → zFm η zW7 hp0 hp → zFate η lf ff wf hf rf ev fl s m hp → zWP lk Lx xs 205 (43, L, [], hp, 0, 0) Q := by
  intro q
  induction q with
  | zero => exact fun m ρ hp d L hq => absurd hq (by omega)
  | succ q ih =>
    intro m ρ hp d L hq hm hd hsub hL H hkp hF hT
    have body : m ≠ n → ∀ o : Nat, o < 9 → Nat.testBit n o = true → Nat.testBit m o = false → zWP lk Lx xs 205 (108, [(6, .int (Int32.ofInt ((9 : Nat) : Int))), (5, .int (Int32.ofInt (o : Int))), (4, .int d), (0, .ref j), (1, .int s), (2, .int (Int32.ofInt 0)), (3, .int h)], [], hp, 0, 0) Q := by
      intro hne o o1 o2 o3
      have hor := zor_bit (k := o) hd hm o1
      have hol := zor_lt (k := o) hm o1
      obtain ⟨vs, HX⟩ := H.2.2.2.2.2.2.2.2
      obtain ⟨iG, gf, g1, g2, -, g4⟩ := zMO_row H.1 8 25 (by rfl) (zfs0 (c := 0) (by rfl) (by rfl))
      obtain ⟨y, y1, -, -, y4⟩ := zMO_int H.1 52 29 (by rfl) (zfs0 (c := 0) (by rfl) (by rfl))
      obtain ⟨y', y1', -, -, y4'⟩ := zMO_int H.1 53 30 (by rfl) (zfs0 (c := 0) (by rfl) (by rfl))
      obtain ⟨iT, f, t1, t2, t3⟩ := hT
      have on : ∀ (z x : Int32) (c : Int64), zWP lk Lx xs 205 (144, [(4, .int (d ||| (Int32.ofInt 1 <<< (Int32.ofInt (o : Int) &&& 31)))), (6, .int (Int32.ofInt ((9 : Nat) : Int))), (5, .int (Int32.ofInt (o : Int))), (0, .ref j), (1, .int s), (2, .int (Int32.ofInt 0)), (3, .int h)], [.int z, .int x, .long c], hp, 0, 0) Q := by
        intro z x c
        refine zs_add (by rfl) ?_
        iterate 3 refine zs0 (by rfl) rfl rfl ?_
        obtain ⟨i1, f1, a1, a2, a3⟩ := zMO_rowL H.1 21 49 (by rfl) (zfs0 (c := 0) (by rfl) (by rfl))
        refine zs0 (by rfl) rfl rfl ?_
        refine zs_get (by rfl) HX.1 (a3 vs HX.1) ?_
        iterate 2 refine zs0 (by rfl) rfl rfl ?_
        refine zs_aldL (by rfl) a2 (zof_in (by omega) (by decide)) ?_
        iterate 2 refine zs0 (by rfl) rfl rfl ?_
        refine zs_astL (by rfl) a2 (zof_in (by omega) (by decide)) ?_
        generalize hg1 : va_up f1 (Int32.ofInt (o : Int)).toNatClampNeg _ = F1
        obtain ⟨H2, F2⟩ := zRXM_rowg (g := .inr (.inl F1)) H (by decide) a1 a2 (Or.inl ⟨rfl, _, rfl⟩)
        have t2a : (hp.set i1 (.inl (1, 9, .inr (.inl F1))))[iT]? = some (.inl (0, 9, .inl f)) := by rw [List.getElem?_set_ne (zne2 H.1 a1 t1 (by decide))]; exact t2
        generalize hp.set i1 (.inl (1, 9, .inr (.inl F1))) = hp2 at H2 F2 t2a ⊢
        obtain ⟨vs2, HX2⟩ := H2.2.2.2.2.2.2.2.2
        obtain ⟨i2, f2, b1, b2, b3⟩ := zMO_rowL H2.1 22 50 (by rfl) (zfs0 (c := 0) (by rfl) (by rfl))
        refine zs0 (by rfl) rfl rfl ?_
        refine zs_get (by rfl) HX2.1 (b3 vs2 HX2.1) ?_
        iterate 2 refine zs0 (by rfl) rfl rfl ?_
        refine zs_aldL (by rfl) b2 (zof_in (by omega) (by decide)) ?_
        iterate 3 refine zs0 (by rfl) rfl rfl ?_
        refine zs_virt (vs := [.int (Int32.ofInt (o : Int))]) (by rfl) rfl HX2.1 (by rfl) (Nat.le_of_ble_eq_true (by rfl)) (Nat.le_of_ble_eq_true (by rfl)) (by decide +kernel) (by decide +kernel) (zhrt H2 (by omega)) ?_
        rintro rv hq3 ⟨⟨x2, rfl⟩, rfl⟩
        iterate 3 refine zs0 (by rfl) rfl rfl ?_
        refine zs_astL (by rfl) b2 (zof_in (by omega) (by decide)) ?_
        generalize hg2 : va_up f2 (Int32.ofInt (o : Int)).toNatClampNeg _ = G2
        obtain ⟨H3, F3⟩ := zRXM_rowg (g := .inr (.inl G2)) H2 (by decide) b1 b2 (Or.inl ⟨rfl, _, rfl⟩)
        have t2b : (hq3.set i2 (.inl (1, 9, .inr (.inl G2))))[iT]? = some (.inl (0, 9, .inl f)) := by rw [List.getElem?_set_ne (zne2 H2.1 b1 t1 (by decide))]; exact t2a
        generalize hq3.set i2 (.inl (1, 9, .inr (.inl G2))) = hp3 at H3 F3 t2b ⊢
        iterate 2 refine zs0 (by rfl) rfl rfl ?_
        refine zs_stat (vs := [.int (Int32.ofInt 0), .int (Int32.ofInt (o : Int))]) (by rfl) (by rfl) rfl (Nat.le_of_ble_eq_true (by rfl)) (Nat.le_of_ble_eq_true (by rfl)) (by decide +kernel) (by decide +kernel) (zisOf _ _) ?_
        rintro rv hq4 ⟨rfl, rfl⟩
        rw [zIs_0 o1]
        refine zs_if (by rfl) (t := 193) (by rfl) (fun _ => ?_) (fun hb => absurd hb (by decide))
        obtain ⟨vs3, HX3⟩ := H3.2.2.2.2.2.2.2.2
        iterate 3 refine zs0 (by rfl) rfl rfl ?_
        refine zs_virt (vs := [.int (Int32.ofInt (o : Int)), .int s]) (by rfl) rfl HX3.1 (by rfl) (Nat.le_of_ble_eq_true (by rfl)) (Nat.le_of_ble_eq_true (by rfl)) (by decide +kernel) (by decide +kernel) (zlayB hA H3 o1) ?_
        rintro rv hp4 ⟨rfl, ρ4, e, H4, e4, n4, k4, F4⟩
        have t2c : hp4[iT]? = some (.inl (0, 9, .inl f)) := by rw [F4.at H3.1 t1 (by decide)]; exact t2b
        obtain ⟨vs4, HX4⟩ := H4.2.2.2.2.2.2.2.2
        obtain ⟨iT', f', u1, u2, -, u4⟩ := zMO_row H4.1 23 51 (by rfl) (zfs0 (c := 0) (by rfl) (by rfl))
        cases t1.symm.trans u1
        refine zs0 (by rfl) rfl rfl ?_
        refine zs_get (by rfl) HX4.1 (u4 vs4 HX4.1) ?_
        iterate 5 refine zs0 (by rfl) rfl rfl ?_
        refine zs_stat (vs := [.int h, .int (Int32.ofInt (o : Int))]) (by rfl) (by rfl) rfl (Nat.le_of_ble_eq_true (by rfl)) (Nat.le_of_ble_eq_true (by rfl)) (by decide +kernel) (by decide +kernel) (zisOf _ _) ?_
        rintro rv hq5 ⟨rfl, rfl⟩
        refine zs_virt (vs := [.int (Int32.ofInt (o : Int)), .int (zIs h (Int32.ofInt (o : Int)))]) (by rfl) rfl HX4.1 (by rfl) (Nat.le_of_ble_eq_true (by rfl)) (Nat.le_of_ble_eq_true (by rfl)) (by decide +kernel) (by decide +kernel) (zgoes H4 o1 (zIs_r _ _).1 (zIs_r _ _).2 e4) ?_
        rintro rv hp5 ⟨x5, rfl, x6, x7, H5, F5⟩
        have t2d : hp5[iT]? = some (.inl (0, 9, .inl f)) := by rw [F5.at H4.1 t1 (by decide)]; exact t2c
        refine zs_astI (by rfl) t2d (zof_in (by omega) (by decide)) ?_
        rw [zof_cl (by omega)]
        obtain ⟨H6, F6⟩ := zRXM_rowg (g := .inl (va_up f o x5)) H5 (by decide) t1 t2d (Or.inr ⟨rfl, _, rfl⟩)
        refine zs0 (by rfl) rfl rfl ?_
        have lt : m < m ||| 2 ^ o := by
          refine Nat.lt_of_le_of_ne Nat.left_le_or (fun e => ?_)
          have : Nat.testBit (m ||| 2 ^ o) o = true := by rw [zor_tb]; simp
          rw [← e, o3] at this
          cases this
        refine ih (m ||| 2 ^ o) ρ4 _ (d ||| (Int32.ofInt 1 <<< (Int32.ofInt (o : Int) &&& 31))) _ (by omega) hol hor (fun k hk hb => ?_) (Or.inr ⟨_, _, rfl⟩) H6 (fun i hi => (k4 i hi).trans (hkp i hi)) (((((hF.trans F2).trans F3).trans (F4.mono (by decide))).trans (F5.mono (by decide))).trans F6) ?_
        · rw [zor_tb, Bool.or_eq_true] at hb
          rcases hb with hb | hb
          · exact hsub k hk hb
          · have hb := of_decide_eq_true hb
            rw [← hb]
            exact o2
        · refine ⟨iT, va_up f o x5, t1, List.getElem?_set_self (List.getElem?_eq_some_iff.mp t2d).1, fun k hk hb hx => ?_⟩
          by_cases ek : k = o
          · subst ek
            have e5 : va_up f k x5 k = x5 := by simp [va_up]
            rw [e5] at hx
            exact fun hno => x7 (by omega) (n4.mpr hno)
          · have e5 : va_up f o x5 k = f k := by unfold va_up; rw [if_neg ek]
            rw [e5] at hx
            refine t3 k hk ?_ hx
            rw [zor_tb, Bool.or_eq_true] at hb
            rcases hb with hb | hb
            · exact hb
            · exact absurd (of_decide_eq_true hb).symm ek
      iterate 7 refine zs0 (by rfl) rfl rfl ?_
      refine zs0 (by rfl) rfl rfl ?_
      refine zs_get (by rfl) HX.1 (g4 vs HX.1) ?_
      refine zs0 (by rfl) rfl rfl ?_
      refine zs_aldN (by rfl) g2 (by omega) (by decide) ?_
      iterate 2 refine zs0 (by rfl) rfl rfl ?_
      refine zs_get (by rfl) HX.1 (y4 vs HX.1) ?_
      refine zs_icmp (by rfl) (t := 143) (by rfl) (fun _ => ?_) (fun _ => ?_)
      · refine zs0 (by rfl) rfl rfl ?_
        exact on _ _ _
      · refine zs0 (by rfl) rfl rfl ?_
        refine zs_get (by rfl) HX.1 (y4' vs HX.1) ?_
        refine zs0 (by rfl) rfl rfl ?_
        exact on _ _ _
    rcases hL with rfl | ⟨w, x, rfl⟩
    all_goals
      iterate 2 refine zs0 (by rfl) rfl rfl ?_
      refine zs_icmp (by rfl) (t := 222) (by rfl) (fun hb => ?_) (fun hb => ?_)
      · have hb : decide (d = s) = true := hb
        have hb := of_decide_eq_true hb
        have e : m = n := by
          rw [hb, hs] at hd
          omega
        subst e
        exact zs_retV (by rfl) (hend ρ hp H hkp hF hT)
      · have hb : decide (d = s) = false := hb
        have hb := of_decide_eq_false hb
        have hne : m ≠ n := fun e => hb (Int32.toInt_inj.1 (by rw [hd, hs, e]))
        iterate 4 refine zs0 (by rfl) rfl rfl ?_
        exact zbr_i H hs hn hd hm hsub hne (body hne) 9 0 (Int32.ofInt (-1)) (by omega) (Or.inl ⟨rfl, fun i hi => absurd hi (by omega)⟩)
theorem zbear (hA : zAD lk Lx xs) (H : zRXM η j iL iF iW iH iR ρ ev fl lf ff wf hf rf hp) {s h : Int32} {n : Nat} (hs : s.toInt = (n : Int)) (hn : n < 512) : zWP lk Lx xs 205 (0, lv_args 0 [.ref j, .int s, .int (Int32.ofInt 0), .int h], [], hp, 0, 0) (fun rv hp' => rv = none ∧ ∃ ρ2, zRXM η j iL iF iW iH iR ρ2 ev fl lf ff wf hf rf hp' ∧ (∀ i ∈ zKP, ρ2[i]? = ρ[i]?) ∧ zFm η zW7 hp hp' ∧ zFate η lf ff wf hf rf ev fl s n hp') := by
  iterate 2 refine zs0 (by rfl) rfl rfl ?_
  refine zbr_c (ρ := ρ) (ev := ev) (fl := fl) (lf := lf) (ff := ff) (wf := wf) (hf := hf) (rf := rf) (iL := iL) (iF := iF) (iW := iW) (iH := iH) (iR := iR) (hp0 := hp) (fun hp2 H2 F2 => ?_) 9 0 hp (by omega) H zFm.refl
  iterate 2 refine zs0 (by rfl) rfl rfl ?_
  obtain ⟨iT, f, t1, t2, -, t4⟩ := zMO_row H2.1 23 51 (by rfl) (zfs0 (c := 0) (by rfl) (by rfl))
  exact zbrO hA hs hn (ρ0 := ρ) (hp0 := hp) (fun ρ2 hp3 H3 k3 F3 T3 => ⟨rfl, ρ2, H3, k3, F3, T3⟩) _ 0 ρ hp2 (Int32.ofInt 0) _ (Nat.lt_succ_self _) (by omega) (by decide) (fun k hk hb => absurd hb (by rw [Nat.zero_testBit]; decide)) (Or.inl rfl) H2 (fun _ _ => rfl) F2 ⟨iT, f, t1, t2, fun k hk hb => absurd hb (by rw [Nat.zero_testBit]; decide)⟩
theorem zor_0 (x : Int32) : x ||| Int32.ofInt 0 = x := by
  rw [zb_z0]
  exact Int32.or_zero
set_option maxHeartbeats 4000000 in
theorem zfal_k (H : zRXM η j iL iF iW iH iR ρ ev fl lf ff wf hf rf hp) {s : Int32} {iT : Nat} {f : Nat → Int32} (t1 : η[23]? = some iT) (t2 : hp[iT]? = some (.inl (0, 9, .inl f))) {vs : List Value} (hv : hp[j]? = some (.inr (12, vs))) (hv2 : vs[51]? = some (.ref iT)) : ∀ (d k a : Nat) (acc : Int32), k + d = 9 → a < 512 → acc.toInt = (a : Int) → (a = 0 → ∀ i : Nat, i < k → zIs s (Int32.ofInt (i : Int)) = 1 → (f i).toInt ≤ 0) → zWP lk Lx xs 206 (4, [(3, .int (Int32.ofInt (k : Int))), (2, .int acc), (0, .ref j), (1, .int s)], [], hp, 0, 0) (fun rv hp' => hp' = hp ∧ ∃ x : Int32, rv = some (.int x) ∧ (x.toInt = 0 → ∀ i : Nat, i < 9 → zIs s (Int32.ofInt (i : Int)) = 1 → (f i).toInt ≤ 0)) := by
  intro d
  induction d with
  | zero =>
    intro k a acc hk ha hacc hi
    have hk : k = 9 := by omega
    subst hk
    iterate 2 refine zs0 (by rfl) rfl rfl ?_
    refine zs_icmp (by rfl) (t := 43) (by rfl) (fun _ => ?_) (fun hb => absurd hb (by decide))
    refine zs0 (by rfl) rfl rfl ?_
    exact zs_retI (by rfl) ⟨rfl, acc, rfl, fun h => hi (by omega)⟩
  | succ d ih =>
    intro k a acc hk ha hacc hi
    iterate 2 refine zs0 (by rfl) rfl rfl ?_
    refine zs_icmp (by rfl) (t := 43) (by rfl) (fun hb => absurd hb (zge9 (by omega))) (fun _ => ?_)
    have skip : (zIs s (Int32.ofInt (k : Int)) = 1 → (f k).toInt ≤ 0) → zWP lk Lx xs 206 (34, [(3, .int (Int32.ofInt (k : Int))), (2, .int acc), (0, .ref j), (1, .int s)], [.int acc], hp, 0, 0) (fun rv hp' => hp' = hp ∧ ∃ x : Int32, rv = some (.int x) ∧ (x.toInt = 0 → ∀ i : Nat, i < 9 → zIs s (Int32.ofInt (i : Int)) = 1 → (f i).toInt ≤ 0)) := by
      intro hz
      have hn := ih (k + 1) a acc (by omega) ha hacc (fun h0 i hi2 hb => by
        by_cases e : i = k
        · subst e
          exact hz hb
        · exact hi h0 i (by omega) hb)
      rw [← zof_up] at hn
      refine zs0 (by rfl) rfl rfl ?_
      refine zs0 (by rfl) rfl rfl ?_
      show zWP lk Lx xs 206 (36, _, [.int (acc ||| Int32.ofInt 0)], hp, 0, 0) _
      rw [zor_0]
      iterate 3 refine zs0 (by rfl) rfl rfl ?_
      exact hn
    iterate 3 refine zs0 (by rfl) rfl rfl ?_
    refine zs_stat (vs := [.int s, .int (Int32.ofInt (k : Int))]) (by rfl) (by rfl) rfl (Nat.le_of_ble_eq_true (by rfl)) (Nat.le_of_ble_eq_true (by rfl)) (by decide +kernel) (by decide +kernel) (zisOf _ _) ?_
    rintro rv hq ⟨rfl, rfl⟩
    refine zs_if (by rfl) (t := 34) (by rfl) (fun q => skip (fun e => ?_)) (fun q => ?_)
    · rw [e] at q
      exact absurd q (by decide)
    · refine zs0 (by rfl) rfl rfl ?_
      refine zs_get (by rfl) hv hv2 ?_
      refine zs0 (by rfl) rfl rfl ?_
      refine zs_aldN (by rfl) t2 (by omega) (by decide) ?_
      refine zs_if (by rfl) (t := 34) (by rfl) (fun q2 => skip (fun _ => ?_)) (fun q2 => ?_)
      · have q2 : decide (f k ≤ 0) = true := q2
        have q2 := Int32.le_iff_toInt_le.mp (of_decide_eq_true q2)
        exact q2
      · have hn := ih (k + 1) (a ||| 2 ^ k) (acc ||| (Int32.ofInt 1 <<< (Int32.ofInt (k : Int) &&& 31))) (by omega) (zor_lt ha (by omega)) (zor_bit hacc ha (by omega)) (fun h0 => by
          have : Nat.testBit (a ||| 2 ^ k) k = true := by rw [zor_tb]; simp
          rw [h0, Nat.zero_testBit] at this
          cases this)
        rw [← zof_up] at hn
        iterate 8 refine zs0 (by rfl) rfl rfl ?_
        exact hn
theorem zstan (hA : zAD lk Lx xs) (H : zRXM η j iL iF iW iH iR ρ ev fl lf ff wf hf rf hp) {s h : Int32} {n : Nat} (hs : s.toInt = (n : Int)) (hn : n < 512) : zWP lk Lx xs 207 (0, lv_args 0 [.ref j, .int s, .int (Int32.ofInt 0), .int h], [], hp, 0, 0) (fun rv hp' => ∃ ρ2, zRXM η j iL iF iW iH iR ρ2 ev fl lf ff wf hf rf hp' ∧ (∀ i ∈ zKP, ρ2[i]? = ρ[i]?) ∧ zFm η zW7 hp hp' ∧ (rv = some (.int (Int32.ofInt 0)) ∨ (rv = some (.int (Int32.ofInt 1)) ∧ ∀ k : Nat, k < 9 → zIs s (Int32.ofInt (k : Int)) = 1 → ¬ zNo lf ff wf hf rf ev fl k s 9))) := by
  obtain ⟨vs, HX⟩ := H.2.2.2.2.2.2.2.2
  iterate 4 refine zs0 (by rfl) rfl rfl ?_
  refine zs_virt (vs := [.int s, .int (Int32.ofInt 0), .int h]) (by rfl) rfl HX.1 (by rfl) (Nat.le_of_ble_eq_true (by rfl)) (Nat.le_of_ble_eq_true (by rfl)) (by decide +kernel) (by decide +kernel) (zbear hA H hs hn) ?_
  rintro rv hp2 ⟨rfl, ρ2, H2, k2, F2, iT, f, t1, t2, t3⟩
  obtain ⟨vs2, HX2⟩ := H2.2.2.2.2.2.2.2.2
  obtain ⟨iT', f', u1, u2, -, u4⟩ := zMO_row H2.1 23 51 (by rfl) (zfs0 (c := 0) (by rfl) (by rfl))
  cases t1.symm.trans u1
  iterate 2 refine zs0 (by rfl) rfl rfl ?_
  refine zs_virt (P := fun rv hp' => hp' = hp2 ∧ ∃ x : Int32, rv = some (.int x) ∧ (x.toInt = 0 → ∀ i : Nat, i < 9 → zIs s (Int32.ofInt (i : Int)) = 1 → (f i).toInt ≤ 0)) (vs := [.int s]) (by rfl) rfl HX2.1 (by rfl) (Nat.le_of_ble_eq_true (by rfl)) (Nat.le_of_ble_eq_true (by rfl)) (by decide +kernel) (by decide +kernel) (?_) ?_
  · iterate 4 refine zs0 (by rfl) rfl rfl ?_
    exact zfal_k H2 t1 t2 HX2.1 (u4 vs2 HX2.1) 9 0 0 (Int32.ofInt 0) (by omega) (by omega) (by decide) (fun _ i hi => absurd hi (by omega))
  rintro rv hp3 ⟨rfl, x, rfl, hx⟩
  refine zs_if (by rfl) (t := 19) (by rfl) (fun _ => ?_) (fun q => ?_)
  · refine zs0 (by rfl) rfl rfl ?_
    exact zs_ret (by rfl) (Or.inr (Or.inl (by decide))) ⟨ρ2, H2, k2, F2, Or.inl rfl⟩
  · iterate 2 refine zs0 (by rfl) rfl rfl ?_
    refine zs_ret (by rfl) (Or.inr (Or.inr (by decide))) ⟨ρ2, H2, k2, F2, Or.inr ⟨rfl, fun k hk hb => t3 k hk ((zIs_bit hs hn hk).mp hb) (hx ?_ k hk hb)⟩⟩
    have q : (!decide (x = 0)) = false := q
    rw [Bool.not_eq_false', decide_eq_true_eq] at q
    rw [q]
    rfl
end ZSU
