/-! layEdges (202) by hand: whether it finds an edge -/
def zIs01 (x k : Int32) : zIs x k = 0 ∨ zIs x k = 1 := by
  unfold zIs
  split
  · exact Or.inr rfl
  · exact Or.inl rfl
/-- the symbols that addEdge leaves, and the edges' number -/
def zKA : List (Nat × Int × Nat) := zKP.map (fun i => (i, 0, i)) ++ [(26, 0, 26), (27, 0, 27), (28, 1, 28)]
def zAD (lk : ZLP) (Lx : Nat) (xs : Nat → Int32) : Prop := ∃ C : CT, C.1 = 201 ∧ zHolds lk Lx xs C ∧ zcMg C (zPM.2.2.2.1.set 28 (0, 9)) [(-1, 8)] [0, 18, 19, 20] zKA (fun r _ => r.isEmpty) = true
theorem zRXM_at {η : List Nat} {j iL iF iW iH iR : Nat} {ρ ρ2 : List Int} {ev fl : Int32} {lf ff wf hf rf : Nat → Int32} {hp hp' : List zhE} (H : zRXM η j iL iF iW iH iR ρ ev fl lf ff wf hf rf hp) (h2 : zMO η j ρ2 hp') (hk : ∀ i ∈ zKP, ρ2[i]? = ρ[i]?) (F : zFm η [0, 18, 19, 20] hp hp') : zRXM η j iL iF iW iH iR ρ2 ev fl lf ff wf hf rf hp' := by
  obtain ⟨hM, a1, b1, c1, d1, r1, -⟩ := id H
  exact zRXM_keep H h2 (hk 11 (by decide)) (hk 25 (by decide)) (F.at hM a1 (by decide)) (F.at hM b1 (by decide)) (F.at hM c1 (by decide)) (F.at hM d1 (by decide)) (F.at hM r1 (by decide))
section ZLY
variable {lk : ZLP} {Lx : Nat} {xs : Nat → Int32} {Q : ZP} {η : List Nat} {j iL iF iW iH iR : Nat} {ρ : List Int} {ev fl : Int32} {lf ff wf hf rf : Nat → Int32} {hp : List zhE}
theorem zadd (hA : zAD lk Lx xs) (H : zRXM η j iL iF iW iH iR ρ ev fl lf ff wf hf rf hp) {e : Nat} (he : ρ[28]? = some (e : Int)) (h9 : e ≤ 9) {v : Int32} (v1 : -1 ≤ v.toInt) (v2 : v.toInt ≤ 8) : zWP lk Lx xs 201 (0, lv_args 0 [.ref j, .int v], [], hp, 0, 0) (fun rv hp' => rv = none ∧ ∃ ρ2, zRXM η j iL iF iW iH iR ρ2 ev fl lf ff wf hf rf hp' ∧ ρ2[28]? = some ((e + 1 : Nat) : Int) ∧ (∀ i ∈ zKP, ρ2[i]? = ρ[i]?) ∧ zFm η [0, 18, 19, 20] hp hp') := by
  obtain ⟨C, c1, c2, c3⟩ := hA
  have h := zcMg_ok c2 c3 H.1 (zaE_nar H.1.2.2.2.2.2.1 he (by omega) (by omega)) (by decide) (vals := [v]) ⟨v1, v2, trivial⟩
  rw [c1] at h
  refine h.post ?_
  rintro rv hp' ⟨ρ2, q1, q2, q3, q4, r, G, ρ3, q5, -, q7⟩
  have hF : zFm η [0, 18, 19, 20] hp hp' := ⟨q3, q4⟩
  have hk : ∀ i ∈ zKP, ρ2[i]? = ρ[i]? := fun i hi => by
    obtain ⟨x, x1, x2⟩ := q2 (i, 0, i) (List.mem_append_left _ (List.mem_map.mpr ⟨i, hi, rfl⟩))
    have x1 : ρ2[i]? = some x := x1
    have x2 : ρ[i]? = some (x - 0) := x2
    rw [x1, x2, Int.sub_zero]
  refine ⟨?_, ρ2, zRXM_at H q1 hk hF, ?_, hk, hF⟩
  · have hr : r = [] := by
      cases r with
      | nil => rfl
      | cons a l => cases q5
    subst hr
    cases rv with
    | none => rfl
    | some v => exact q7.elim
  · obtain ⟨x, x1, x2⟩ := q2 (28, 1, 28) (by decide)
    have x1 : ρ2[28]? = some x := x1
    have x2 : ρ[28]? = some (x - 1) := x2
    rw [he] at x2
    have x3 := Option.some.inj x2
    have e2 : x = ((e + 1 : Nat) : Int) := by omega
    rw [x1, e2]
/-- after a look at one edge: the two ends set anew -/
theorem zRXM_pe (H : zRXM η j iL iF iW iH iR ρ ev fl lf ff wf hf rf hp) {vs : List Value} (hv : hp[j]? = some (.inr (12, vs))) (y z : Int32) : ∃ ρ2, zRXM η j iL iF iW iH iR ρ2 ev fl lf ff wf hf rf (hp.set j (.inr (12, (vs.set 43 (.int y)).set 44 (.int z)))) ∧ ρ2[28]? = ρ[28]? ∧ (∀ i ∈ zKP, ρ2[i]? = ρ[i]?) ∧ zFm η [0, 18, 19, 20] hp (hp.set j (.inr (12, (vs.set 43 (.int y)).set 44 (.int z)))) := by
  have hjl := (List.getElem?_eq_some_iff.mp hv).1
  have m1 := zMO_put H.1 hv (b := 43) (M := 26) (lo := -2147483648) (hi := 2147483647) (x := y) (by decide +kernel) (by decide +kernel) (zb_rng y).1 (zb_rng y).2 (by decide)
  have m2 := zMO_put m1 (List.getElem?_set_self hjl) (b := 44) (M := 27) (lo := -2147483648) (hi := 2147483647) (x := z) (by decide +kernel) (by decide +kernel) (zb_rng z).1 (zb_rng z).2 (by decide)
  rw [List.set_set] at m2
  have hk : ∀ i, i ≠ 26 → i ≠ 27 → ((ρ.set 26 y.toInt).set 27 z.toInt)[i]? = ρ[i]? := fun i n1 n2 => by rw [List.getElem?_set_ne (Ne.symm n2), List.getElem?_set_ne (Ne.symm n1)]
  have hk2 : ∀ i ∈ zKP, ((ρ.set 26 y.toInt).set 27 z.toInt)[i]? = ρ[i]? := fun i hi => hk i (fun e => absurd hi (by rw [e]; decide)) (fun e => absurd hi (by rw [e]; decide))
  have hj0 := (zMO_obj H.1).1
  have hF : zFm η [0, 18, 19, 20] hp (hp.set j (.inr (12, (vs.set 43 (.int y)).set 44 (.int z)))) := ⟨Nat.le_of_eq List.length_set.symm, fun i hi hw => List.getElem?_set_ne (fun e => hw 0 (by decide) (by rw [← e]; exact hj0))⟩
  exact ⟨_, zRXM_at H m2 hk2 hF, hk 28 (by decide) (by decide), hk2, hF⟩
/-- no edge -/
def zNo (lf ff wf hf rf : Nat → Int32) (ev fl : Int32) (t : Nat) (set : Int32) (n : Nat) : Prop := zcb .eq (zE1 lf ff wf rf ev fl t) 0 = true ∧ ∀ k, k < n → zcb .eq (zIs set (Int32.ofInt (k : Int))) 0 = false → zcb .eq (zE2 lf ff wf hf rf t k) 0 = true
set_option maxHeartbeats 4000000 in
theorem zlay_k (hA : zAD lk Lx xs) {t : Nat} (ht : t < 9) {set : Int32} {ρ0 : List Int} {hp0 : List zhE} (hend : ∀ (ρ : List Int) (hp : List zhE) (e : Nat), zRXM η j iL iF iW iH iR ρ ev fl lf ff wf hf rf hp → ρ[28]? = some (e : Int) → (e = 0 ↔ zNo lf ff wf hf rf ev fl t set 9) → (∀ i ∈ zKP, ρ[i]? = ρ0[i]?) → zFm η [0, 18, 19, 20] hp0 hp → Q none hp) : ∀ (d k : Nat) (ρ : List Int) (hp : List zhE) (e : Nat), k + d = 9 → zRXM η j iL iF iW iH iR ρ ev fl lf ff wf hf rf hp → ρ[28]? = some (e : Int) → e ≤ k + 1 → (e = 0 ↔ zNo lf ff wf hf rf ev fl t set k) → (∀ i ∈ zKP, ρ[i]? = ρ0[i]?) → zFm η [0, 18, 19, 20] hp0 hp → zWP lk Lx xs 202 (20, [(3, .int (Int32.ofInt (k : Int))), (0, .ref j), (1, .int (Int32.ofInt (t : Int))), (2, .int set)], [], hp, 0, 0) Q := by
  intro d
  induction d with
  | zero =>
    intro k ρ hp e hk H he hle hne hkp hF
    have hk : k = 9 := by omega
    subst hk
    iterate 2 refine zs0 (by rfl) rfl rfl ?_
    refine zs_icmp (by rfl) (t := 54) (by rfl) (fun _ => ?_) (fun hb => absurd hb (by decide))
    exact zs_retV (by rfl) (hend ρ hp e H he hne hkp hF)
  | succ d ih =>
    intro k ρ hp e hk H he hle hne hkp hF
    have hlt : ¬ zcb .ge (Int32.ofInt (k : Int)) (Int8.ofInt 9).toInt32 = true := fun q => by
      have q : decide ((Int8.ofInt 9).toInt32 ≤ Int32.ofInt (k : Int)) = true := q
      rw [decide_eq_true_eq, Int32.le_iff_toInt_le, zof_ix (by omega)] at q
      have e : ((Int8.ofInt 9).toInt32).toInt = 9 := by decide
      omega
    have go : ∀ (ρ : List Int) (hp : List zhE) (e : Nat), zRXM η j iL iF iW iH iR ρ ev fl lf ff wf hf rf hp → ρ[28]? = some (e : Int) → e ≤ k + 2 → (e = 0 ↔ zNo lf ff wf hf rf ev fl t set (k + 1)) → (∀ i ∈ zKP, ρ[i]? = ρ0[i]?) → zFm η [0, 18, 19, 20] hp0 hp → zWP lk Lx xs 202 (48, [(3, .int (Int32.ofInt (k : Int))), (0, .ref j), (1, .int (Int32.ofInt (t : Int))), (2, .int set)], [], hp, 0, 0) Q := by
      intro ρ hp e H he hle hne hkp hF
      have hn := ih (k + 1) ρ hp e (by omega) H he hle hne hkp hF
      rw [← zof_up] at hn
      iterate 2 refine zs0 (by rfl) rfl rfl ?_
      exact hn
    have st : ∀ {p : Prop}, (zcb .eq (zIs set (Int32.ofInt (k : Int))) 0 = false → zcb .eq (zE2 lf ff wf hf rf t k) 0 = true) → (p ↔ zNo lf ff wf hf rf ev fl t set k) → (p ↔ zNo lf ff wf hf rf ev fl t set (k + 1)) := fun hs hp2 => ⟨fun q => ⟨(hp2.mp q).1, fun i hi h1 => by
        by_cases ei : i = k
        · subst ei
          exact hs h1
        · exact (hp2.mp q).2 i (by omega) h1⟩, fun q => hp2.mpr ⟨q.1, fun i hi h1 => q.2 i (by omega) h1⟩⟩
    obtain ⟨vs, HX⟩ := H.2.2.2.2.2.2.2.2
    iterate 2 refine zs0 (by rfl) rfl rfl ?_
    refine zs_icmp (by rfl) (t := 54) (by rfl) (fun hb => absurd hb hlt) (fun _ => ?_)
    iterate 2 refine zs0 (by rfl) rfl rfl ?_
    refine zs_stat (vs := [.int set, .int (Int32.ofInt (k : Int))]) (by rfl) (by rfl) rfl (Nat.le_of_ble_eq_true (by rfl)) (Nat.le_of_ble_eq_true (by rfl)) (by decide +kernel) (by decide +kernel) (zisOf _ _) ?_
    rintro rv hq ⟨rfl, rfl⟩
    refine zs_if (by rfl) (t := 48) (by rfl) (fun q1 => go ρ hq e H he (by omega) (st (fun h => absurd (q1.symm.trans h) (by decide)) hne) hkp hF) (fun q1 => ?_)
    iterate 3 refine zs0 (by rfl) rfl rfl ?_
    refine zs_virt (vs := [.int (Int32.ofInt (t : Int)), .int (Int32.ofInt (k : Int))]) (by rfl) rfl HX.1 (by rfl) (Nat.le_of_ble_eq_true (by rfl)) (Nat.le_of_ble_eq_true (by rfl)) (by decide +kernel) (by decide +kernel) (zed HX ht (by omega)) ?_
    rintro rv hq2 ⟨rfl, y, z, rfl⟩
    obtain ⟨ρ2, H2, e2, k2, F2⟩ := zRXM_pe H HX.1 y z
    refine zs_if (by rfl) (t := 48) (by rfl) (fun q2 => go ρ2 _ e H2 (e2.trans he) (by omega) (st (fun _ => q2) hne) (fun i hi => (k2 i hi).trans (hkp i hi)) (hF.trans F2)) (fun q2 => ?_)
    obtain ⟨vs2, HX2⟩ := H2.2.2.2.2.2.2.2.2
    iterate 2 refine zs0 (by rfl) rfl rfl ?_
    refine zs_virt (vs := [.int (Int32.ofInt (k : Int))]) (by rfl) rfl HX2.1 (by rfl) (Nat.le_of_ble_eq_true (by rfl)) (Nat.le_of_ble_eq_true (by rfl)) (by decide +kernel) (by decide +kernel) (zadd hA H2 (e2.trans he) (by omega) (by rw [zof_ix (by omega)]; omega) (by rw [zof_ix (by omega)]; omega)) ?_
    rintro rv hq3 ⟨rfl, ρ3, H3, e3, k3, F3⟩
    refine go ρ3 hq3 (e + 1) H3 e3 (by omega) ⟨fun h => absurd h (by omega), fun h => ?_⟩ (fun i hi => (k3 i hi).trans ((k2 i hi).trans (hkp i hi))) ((hF.trans F2).trans F3)
    have := h.2 k (by omega) q1
    rw [q2] at this
    cases this
set_option maxHeartbeats 4000000 in
theorem zlayB (hA : zAD lk Lx xs) (H : zRXM η j iL iF iW iH iR ρ ev fl lf ff wf hf rf hp) {t : Nat} (ht : t < 9) {set : Int32} : zWP lk Lx xs 202 (0, lv_args 0 [.ref j, .int (Int32.ofInt (t : Int)), .int set], [], hp, 0, 0) (fun rv hp' => rv = none ∧ ∃ ρ2 e, zRXM η j iL iF iW iH iR ρ2 ev fl lf ff wf hf rf hp' ∧ ρ2[28]? = some ((e : Nat) : Int) ∧ (e = 0 ↔ zNo lf ff wf hf rf ev fl t set 9) ∧ (∀ i ∈ zKP, ρ2[i]? = ρ[i]?) ∧ zFm η [0, 18, 19, 20] hp hp') := by
  have lp := zlay_k (η := η) (j := j) (iL := iL) (iF := iF) (iW := iW) (iH := iH) (iR := iR) (ev := ev) (fl := fl) (lf := lf) (ff := ff) (wf := wf) (hf := hf) (rf := rf) hA ht (set := set) (ρ0 := ρ) (hp0 := hp) (Q := fun rv hp' => rv = none ∧ ∃ ρ2 e, zRXM η j iL iF iW iH iR ρ2 ev fl lf ff wf hf rf hp' ∧ ρ2[28]? = some ((e : Nat) : Int) ∧ (e = 0 ↔ zNo lf ff wf hf rf ev fl t set 9) ∧ (∀ i ∈ zKP, ρ2[i]? = ρ[i]?) ∧ zFm η [0, 18, 19, 20] hp hp') (fun ρ2 hp2 e a b c d f => ⟨rfl, ρ2, e, a, b, c, d, f⟩) 9 0
  obtain ⟨vs, HX⟩ := H.2.2.2.2.2.2.2.2
  have hj0 := (zMO_obj H.1).1
  have hjl := (List.getElem?_eq_some_iff.mp HX.1).1
  have hvl : vs.length = 71 := by
    obtain ⟨-, fs, us, h1, h2, h3⟩ := zMO_obj H.1
    cases HX.1.symm.trans h2
    have e : zPM.2.2.1[0]? = some (0, .inl (12, zobF zPM.2.2.1)) := rfl
    cases e.symm.trans h1
    have := zAll_len h3
    rw [← this]
    decide +kernel
  iterate 2 refine zs0 (by rfl) rfl rfl ?_
  refine zs_put (by rfl) HX.1 (by omega) (by rfl) ?_
  have m1 := zMO_put H.1 HX.1 (b := 48) (M := 28) (lo := 0) (hi := 10) (x := Int32.ofInt 0) (by decide +kernel) (by decide +kernel) (by decide) (by decide) (by decide)
  have hk1 : ∀ i ∈ zKP, (ρ.set 28 (Int32.ofInt 0).toInt)[i]? = ρ[i]? := fun i hi => List.getElem?_set_ne (fun e => absurd hi (by rw [← e]; decide))
  have F1 : zFm η [0, 18, 19, 20] hp (hp.set j (.inr (12, vs.set 48 (.int (Int32.ofInt 0))))) := ⟨Nat.le_of_eq List.length_set.symm, fun i hi hw => List.getElem?_set_ne (fun e => hw 0 (by decide) (by rw [← e]; exact hj0))⟩
  have H1 := zRXM_at H m1 hk1 F1
  have e1 : (ρ.set 28 (Int32.ofInt 0).toInt)[28]? = some ((0 : Nat) : Int) := List.getElem?_set_self (by rw [← H.1.2.2.2.2.2.1.1]; decide +kernel)
  generalize hp.set j (.inr (12, vs.set 48 (.int (Int32.ofInt 0)))) = hp1 at F1 H1 ⊢
  generalize ρ.set 28 (Int32.ofInt 0).toInt = ρ1 at hk1 H1 e1
  obtain ⟨vs1, HX1⟩ := H1.2.2.2.2.2.2.2.2
  iterate 2 refine zs0 (by rfl) rfl rfl ?_
  refine zs_virt (vs := [.int (Int32.ofInt (t : Int))]) (by rfl) rfl HX1.1 (by rfl) (Nat.le_of_ble_eq_true (by rfl)) (Nat.le_of_ble_eq_true (by rfl)) (by decide +kernel) (by decide +kernel) (zon HX1 ht) ?_
  rintro rv hq2 ⟨rfl, y, z, rfl⟩
  obtain ⟨ρ2, H2, e2, k2, F2⟩ := zRXM_pe H1 HX1.1 y z
  refine zs_if (by rfl) (t := 18) (by rfl) (fun q => ?_) (fun q => ?_)
  · iterate 2 refine zs0 (by rfl) rfl rfl ?_
    exact lp ρ2 _ 0 (by omega) H2 (e2.trans e1) (by omega) ⟨fun _ => ⟨q, fun k hk => absurd hk (by omega)⟩, fun _ => rfl⟩ (fun i hi => (k2 i hi).trans (hk1 i hi)) (F1.trans F2)
  · obtain ⟨vs2, HX2⟩ := H2.2.2.2.2.2.2.2.2
    iterate 2 refine zs0 (by rfl) rfl rfl ?_
    refine zs_virt (vs := [.int (Int32.ofInt (-1))]) (by rfl) rfl HX2.1 (by rfl) (Nat.le_of_ble_eq_true (by rfl)) (Nat.le_of_ble_eq_true (by rfl)) (by decide +kernel) (by decide +kernel) (zadd hA H2 (e2.trans e1) (by omega) (by decide) (by decide)) ?_
    rintro rv hq3 ⟨rfl, ρ3, H3, e3, k3, F3⟩
    iterate 2 refine zs0 (by rfl) rfl rfl ?_
    exact lp ρ3 _ 1 (by omega) H3 e3 (by omega) ⟨fun h => absurd h (by omega), fun h => absurd h.1 (by rw [q]; decide)⟩ (fun i hi => (k3 i hi).trans ((k2 i hi).trans (hk1 i hi))) ((F1.trans F2).trans F3)
end ZLY
