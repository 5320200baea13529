/-! push (231) by hand -/
theorem zdvE {x : Int32} (h1 : 1 ≤ x.toInt) (h2 : x.toInt ≤ 12) : Int64.ofInt 2 * x.toInt64 ≠ 0 := by
  rcases (show x.toInt = 1 ∨ x.toInt = 2 ∨ x.toInt = 3 ∨ x.toInt = 4 ∨ x.toInt = 5 ∨ x.toInt = 6 ∨ x.toInt = 7 ∨ x.toInt = 8 ∨ x.toInt = 9 ∨ x.toInt = 10 ∨ x.toInt = 11 ∨ x.toInt = 12 by omega) with h | h | h | h | h | h | h | h | h | h | h | h
  all_goals
    rw [zb_of h]
    decide
section ZPS
variable {lk : ZLP} {Lx : Nat} {xs : Nat → Int32} {Q : ZP} {η : List Nat} {j iL iF iW iH iR : Nat} {ρ : List Int} {ev fl : Int32} {lf ff wf hf rf : Nat → Int32} {hp : List zhE}
/-- 0 or 1, and nothing is written -/
def zP01 (hp : List zhE) : ZP := fun rv hp' => hp' = hp ∧ (rv = some (.int (Int32.ofInt 0)) ∨ rv = some (.int (Int32.ofInt 1)))
theorem zin3E (x y z : Int32) : zWP lk Lx xs 160 (0, lv_args 0 [.int x, .int y, .int z], [], hp, 0, 0) (zP01 hp) := by
  have no : zWP lk Lx xs 160 (14, lv_args 0 [.int x, .int y, .int z], [], hp, 0, 0) (zP01 hp) := by
    refine zs0 (by rfl) rfl rfl ?_
    exact zs_ret (by rfl) (Or.inr (Or.inl (by decide))) ⟨rfl, Or.inl rfl⟩
  iterate 2 refine zs0 (by rfl) rfl rfl ?_
  refine zs_icmp (by rfl) (t := 14) (by rfl) (fun _ => no) (fun _ => ?_)
  iterate 2 refine zs0 (by rfl) rfl rfl ?_
  refine zs_icmp (by rfl) (t := 14) (by rfl) (fun _ => no) (fun _ => ?_)
  iterate 2 refine zs0 (by rfl) rfl rfl ?_
  exact zs_ret (by rfl) (Or.inr (Or.inr (by decide))) ⟨rfl, Or.inr rfl⟩
theorem zistN {vs : List Value} {mn : Int32} (h1 : hp[j]? = some (.inr (12, vs))) (h2 : vs[12]? = some (.int mn)) (x : Int32) : zWP lk Lx xs 208 (0, lv_args 0 [.ref j, .int x], [], hp, 0, 0) (fun rv hp' => hp' = hp ∧ (rv = some (.int (Int32.ofInt 0)) ∨ (rv = some (.int (Int32.ofInt 1)) ∧ 0 ≤ x.toInt ∧ x.toInt < mn.toInt))) := by
  refine zs0 (by rfl) rfl rfl ?_
  refine zs_if (by rfl) (t := 16) (by rfl) (fun _ => ?_) (fun q => ?_)
  · refine zs0 (by rfl) rfl rfl ?_
    exact zs_ret (by rfl) (Or.inr (Or.inl (by decide))) ⟨rfl, Or.inl rfl⟩
  · iterate 2 refine zs0 (by rfl) rfl rfl ?_
    refine zs_get (by rfl) h1 h2 ?_
    refine zs_icmp (by rfl) (t := 16) (by rfl) (fun _ => ?_) (fun q2 => ?_)
    · refine zs0 (by rfl) rfl rfl ?_
      exact zs_ret (by rfl) (Or.inr (Or.inl (by decide))) ⟨rfl, Or.inl rfl⟩
    · iterate 2 refine zs0 (by rfl) rfl rfl ?_
      have q : decide (x < 0) = false := q
      have q2 : decide (mn ≤ x) = false := q2
      rw [decide_eq_false_iff_not, Int32.lt_iff_toInt_lt] at q
      rw [decide_eq_false_iff_not, Int32.le_iff_toInt_le] at q2
      have e0 : (0 : Int32).toInt = 0 := rfl
      exact zs_ret (by rfl) (Or.inr (Or.inr (by decide))) ⟨rfl, Or.inr ⟨rfl, by omega, by omega⟩⟩
theorem zistT {vs : List Value} {mn th : Int32} (h1 : hp[j]? = some (.inr (12, vs))) (h2 : vs[12]? = some (.int mn)) (h3 : vs[41]? = some (.int th)) (x : Int32) : zWP lk Lx xs 209 (0, lv_args 0 [.ref j, .int x], [], hp, 0, 0) (fun rv hp' => hp' = hp ∧ (rv = some (.int (Int32.ofInt 0)) ∨ (rv = some (.int (Int32.ofInt 1)) ∧ 0 ≤ x.toInt ∧ x.toInt < mn.toInt ∧ zIs th x = 1))) := by
  iterate 2 refine zs0 (by rfl) rfl rfl ?_
  refine zs_virt (vs := [.int x]) (by rfl) rfl h1 (by rfl) (Nat.le_of_ble_eq_true (by rfl)) (Nat.le_of_ble_eq_true (by rfl)) (by decide +kernel) (by decide +kernel) (zistN h1 h2 x) ?_
  rintro rv hq ⟨rfl, rfl | ⟨rfl, x1, x2⟩⟩
  · refine zs_if (by rfl) (t := 23) (by rfl) (fun _ => ?_) (fun hb => absurd hb (by decide))
    refine zs0 (by rfl) rfl rfl ?_
    exact zs_ret (by rfl) (Or.inr (Or.inl (by decide))) ⟨rfl, Or.inl rfl⟩
  · refine zs_if (by rfl) (t := 23) (by rfl) (fun hb => absurd hb (by decide)) (fun _ => ?_)
    refine zs0 (by rfl) rfl rfl ?_
    refine zs_get (by rfl) h1 h3 ?_
    refine zs0 (by rfl) rfl rfl ?_
    refine zs_stat (vs := [.int th, .int x]) (by rfl) (by rfl) rfl (Nat.le_of_ble_eq_true (by rfl)) (Nat.le_of_ble_eq_true (by rfl)) (by decide +kernel) (by decide +kernel) (zisOf _ _) ?_
    rintro rv hq2 ⟨rfl, rfl⟩
    rcases zIs01 th x with e | e
    · rw [e]
      refine zs_if (by rfl) (t := 23) (by rfl) (fun _ => ?_) (fun hb => absurd hb (by decide))
      refine zs0 (by rfl) rfl rfl ?_
      exact zs_ret (by rfl) (Or.inr (Or.inl (by decide))) ⟨rfl, Or.inl rfl⟩
    · rw [e]
      refine zs_if (by rfl) (t := 23) (by rfl) (fun hb => absurd hb (by decide)) (fun _ => ?_)
      iterate 2 refine zs0 (by rfl) rfl rfl ?_
      exact zs_ret (by rfl) (Or.inr (Or.inr (by decide))) ⟨rfl, Or.inr ⟨rfl, x1, x2, rfl⟩⟩
set_option maxHeartbeats 4000000 in
/-- behind the edges -/
theorem zpsh_t (H : zRXM η j iL iF iW iH iR ρ ev fl lf ff wf hf rf hp) {t e : Nat} (ht : t < 9) (he : ρ[28]? = some (e : Int)) (he0 : e ≠ 0) {mn : Int32} (hm : ρ[10]? = some mn.toInt) (htm : (t : Int) < mn.toInt) {a b : Int32} (hQ : ∀ x : Int32, Q (some (.int x)) hp) : zWP lk Lx xs 231 (67, [(0, .ref j), (1, .int (Int32.ofInt (t : Int))), (2, .int a), (3, .int b)], [], hp, 0, 0) Q := by
  obtain ⟨vs, HX⟩ := H.2.2.2.2.2.2.2.2
  obtain ⟨h1, h2, h3, h4, h5, h6, h7, h8, h9, h10, h11, h12, h13, h14, h15⟩ := id HX
  obtain ⟨i1, f1, a1, a2, a3⟩ := zMO_rowL H.1 21 49 (by rfl) (zfs0 (c := 0) (by rfl) (by rfl))
  obtain ⟨i2, f2, b1, b2, b3⟩ := zMO_rowL H.1 22 50 (by rfl) (zfs0 (c := 0) (by rfl) (by rfl))
  obtain ⟨i3, f3, c1, c2, -, c4⟩ := zMO_row H.1 10 27 (by rfl) (zfs0 (c := 0) (by rfl) (by rfl))
  obtain ⟨i4, f4, d1, d2, -, d4⟩ := zMO_row H.1 11 28 (by rfl) (zfs0 (c := 0) (by rfl) (by rfl))
  obtain ⟨i5, f5, e1, e2, -, e4⟩ := zMO_row H.1 19 46 (by rfl) (zfs0 (c := 0) (by rfl) (by rfl))
  obtain ⟨i6, f6, g1, g2, -, g4⟩ := zMO_row H.1 20 47 (by rfl) (zfs0 (c := 0) (by rfl) (by rfl))
  obtain ⟨i7, f7, k1, k2, k3, k4⟩ := zMO_row H.1 7 24 (by rfl) (zfs0 (c := 0) (by rfl) (by rfl))
  have a3 := a3 vs h1
  have b3 := b3 vs h1
  have c4 := c4 vs h1
  have d4 := d4 vs h1
  have e4 := e4 vs h1
  have g4 := g4 vs h1
  have k4 := k4 vs h1
  obtain ⟨y, y1, y2, y3, y4⟩ := zMO_int H.1 48 28 (by rfl) (zfs0 (c := 0) (by rfl) (by rfl))
  have y4 := y4 vs h1
  rw [he] at y1
  have ye := zb_of (Option.some.inj y1).symm
  have e10 : e ≤ 10 := by
    have := Option.some.inj y1
    omega
  obtain ⟨mn', m1, -, -, m4⟩ := zMO_int H.1 12 10 (by rfl) (zfs0 (c := 0) (by rfl) (by rfl))
  have m4 := m4 vs h1
  rw [hm] at m1
  have hmn : mn' = mn := Int32.toInt_inj.1 (Option.some.inj m1).symm
  subst hmn
  have hhi : 1 ≤ (f7 t).toInt := by
    obtain ⟨jo, o1, o2⟩ := H.1.2.2.2.2.2.2.2 0 List.mem_cons_self
    have o1 : η[0]? = some jo := o1
    cases (zMO_obj H.1).1.symm.trans o1
    have o2 : zOP 0 j hp := o2
    exact o2 mn' _ _ (zofi_at h1 m4) (by rw [zofa_at h1 k4, zofr_arr k2]) t htm
  have hhi2 := (k3 t (by omega)).2
  have dz : Int64.ofInt 2 * (f7 t).toInt64 ≠ 0 := zdvE hhi (by omega)
  rw [ye] at y4
  have t228 : ∀ (L : zL) (w : Int64), zWP lk Lx xs 231 (228, L, [.long w], hp, 0, 0) Q := by
    intro L w
    refine zs0 (by rfl) rfl rfl ?_
    refine zs_ldiv (by rfl) (by decide) ?_
    refine zs0 (by rfl) rfl rfl ?_
    exact zs_retI (by rfl) (hQ _)
  have t195 : ∀ (v w : Int64) (u : Int32), zWP lk Lx xs 231 (195, [(5, .long v), (4, .int u), (0, .ref j), (1, .int (Int32.ofInt (t : Int))), (2, .int a), (3, .int b)], [.long w], hp, 0, 0) Q := by
    intro v w u
    iterate 4 refine zs0 (by rfl) rfl rfl ?_
    refine zs_get (by rfl) h1 k4 ?_
    refine zs0 (by rfl) rfl rfl ?_
    refine zs_aldN (by rfl) k2 (by omega) (by decide) ?_
    iterate 2 refine zs0 (by rfl) rfl rfl ?_
    refine zs_ldiv (by rfl) dz ?_
    iterate 4 refine zs0 (by rfl) rfl rfl ?_
    refine zs_if (by rfl) (t := 226) (by rfl) (fun _ => ?_) (fun _ => ?_)
    · refine zs0 (by rfl) rfl rfl ?_
      exact t228 _ _
    · iterate 2 refine zs0 (by rfl) rfl rfl ?_
      exact t228 _ _
  have t127 : ∀ (r u : Int32), zWP lk Lx xs 231 (127, (4, .int u) :: [(0, .ref j), (1, .int (Int32.ofInt (t : Int))), (2, .int a), (3, .int b)], [.int r], hp, 0, 0) Q := by
    intro r u
    iterate 2 refine zs0 (by rfl) rfl rfl ?_
    refine zs_get (by rfl) h1 a3 ?_
    refine zs0 (by rfl) rfl rfl ?_
    refine zs_aldL (by rfl) a2 (zof_in (by omega) (by decide)) ?_
    iterate 2 refine zs0 (by rfl) rfl rfl ?_
    refine zs_ldiv (by rfl) (by decide) ?_
    iterate 2 refine zs0 (by rfl) rfl rfl ?_
    refine zs_if (by rfl) (t := 174) (by rfl) (fun _ => ?_) (fun _ => ?_)
    · refine zs0 (by rfl) rfl rfl ?_
      refine zs_get (by rfl) h1 b3 ?_
      refine zs0 (by rfl) rfl rfl ?_
      refine zs_aldL (by rfl) b2 (zof_in (by omega) (by decide)) ?_
      refine zs0 (by rfl) rfl rfl ?_
      refine zs_get (by rfl) h1 a3 ?_
      refine zs0 (by rfl) rfl rfl ?_
      refine zs_aldL (by rfl) a2 (zof_in (by omega) (by decide)) ?_
      refine zs0 (by rfl) rfl rfl ?_
      refine zs_get (by rfl) h1 e4 ?_
      refine zs0 (by rfl) rfl rfl ?_
      refine zs_aldN (o := 0) (by rfl) e2 (by omega) (by decide) ?_
      iterate 3 refine zs0 (by rfl) rfl rfl ?_
      exact t195 _ _ _
    · refine zs0 (by rfl) rfl rfl ?_
      refine zs_get (by rfl) h1 a3 ?_
      refine zs0 (by rfl) rfl rfl ?_
      refine zs_aldL (by rfl) a2 (zof_in (by omega) (by decide)) ?_
      refine zs0 (by rfl) rfl rfl ?_
      refine zs_get (by rfl) h1 g4 ?_
      refine zs0 (by rfl) rfl rfl ?_
      refine zs_get (by rfl) h1 y4 ?_
      refine zs0 (by rfl) rfl rfl ?_
      refine zs_sub (by rfl) ?_
      rw [zof_dn (by omega) (by omega)]
      refine zs_aldN (by rfl) g2 (by omega) (by decide) ?_
      iterate 3 refine zs0 (by rfl) rfl rfl ?_
      refine zs_get (by rfl) h1 b3 ?_
      refine zs0 (by rfl) rfl rfl ?_
      refine zs_aldL (by rfl) b2 (zof_in (by omega) (by decide)) ?_
      iterate 2 refine zs0 (by rfl) rfl rfl ?_
      exact t195 _ _ _
  have t114 : ∀ (r : Int32), zWP lk Lx xs 231 (114, [(0, .ref j), (1, .int (Int32.ofInt (t : Int))), (2, .int a), (3, .int b)], [.int r], hp, 0, 0) Q := by
    intro r
    iterate 2 refine zs0 (by rfl) rfl rfl ?_
    refine zs_if (by rfl) (t := 126) (by rfl) (fun _ => ?_) (fun _ => ?_)
    · refine zs0 (by rfl) rfl rfl ?_
      exact t127 _ _
    · iterate 2 refine zs0 (by rfl) rfl rfl ?_
      exact t127 _ _
  refine zs0 (by rfl) rfl rfl ?_
  refine zs_if (by rfl) (t := 80) (by rfl) (fun _ => ?_) (fun _ => ?_)
  · iterate 2 refine zs0 (by rfl) rfl rfl ?_
    refine zs_icmp (by rfl) (t := 101) (by rfl) (fun _ => ?_) (fun _ => ?_)
    · refine zs0 (by rfl) rfl rfl ?_
      refine zs_get (by rfl) h1 c4 ?_
      refine zs0 (by rfl) rfl rfl ?_
      refine zs_aldN (by rfl) c2 (by omega) (by decide) ?_
      refine zs0 (by rfl) rfl rfl ?_
      refine zs_get (by rfl) h1 d4 ?_
      refine zs0 (by rfl) rfl rfl ?_
      refine zs_aldN (by rfl) d2 (by omega) (by decide) ?_
      refine zs_add (by rfl) ?_
      exact t114 _
    · refine zs0 (by rfl) rfl rfl ?_
      refine zs_get (by rfl) h1 c4 ?_
      refine zs0 (by rfl) rfl rfl ?_
      refine zs_aldN (by rfl) c2 (by omega) (by decide) ?_
      refine zs0 (by rfl) rfl rfl ?_
      refine zs_get (by rfl) h1 d4 ?_
      refine zs0 (by rfl) rfl rfl ?_
      refine zs_aldN (by rfl) d2 (by omega) (by decide) ?_
      refine zs_sub (by rfl) ?_
      refine zs0 (by rfl) rfl rfl ?_
      exact t114 _
  · refine zs0 (by rfl) rfl rfl ?_
    refine zs_get (by rfl) h1 c4 ?_
    refine zs0 (by rfl) rfl rfl ?_
    refine zs_aldN (by rfl) c2 (by omega) (by decide) ?_
    refine zs0 (by rfl) rfl rfl ?_
    exact t114 _
end ZPS
def zu_231e : PT := (zu_231.2.2.2.2).headD zu_231.2.1
set_option maxHeartbeats 4000000 in
theorem zpushed {lk : ZLP} {Lx : Nat} {xs : Nat → Int32} (hA : zAD lk Lx xs) : zHolds lk Lx xs zu_231 := by
  intro η ρ hp av g1 g2 g3
  obtain ⟨j, b1, hM⟩ := zpreM_ok (P := zu_231.2.1) (n := 3) (by decide +kernel) rfl g1 g2 g3
  obtain ⟨-, p2, -, p4, -, -⟩ := g3
  match av, p2 with
  | [_, _, _, _], p2 =>
    obtain ⟨⟨i, i1, rfl⟩, ⟨t, rfl, -⟩, ⟨a, rfl, -⟩, ⟨b, rfl, -⟩, -⟩ := p2
    have i1 : η[0]? = some i := i1
    cases b1.symm.trans i1
    have fin : ∀ (ρ' : List Int) (hp' : List zhE), zMO η j ρ' hp' → ρ'[0]? = ρ[3]? → zFm η zW7 hp hp' → ∀ x : Int32, zPo zu_231 η ρ hp (some (.int x)) hp' := fun ρ' hp' h1 h2 h3 x => by
      refine ⟨zu_231e, List.mem_cons_self, x.toInt :: ρ'.drop 1, zpostM_ok (E := zu_231.2.1.2.2.2.1) (n := 3) (lo := -2147483648) (hi := 2147483647) (by decide +kernel) ?_ p4 h1 h2 (zb_rng x).1 (zb_rng x).2, h3.1, h3.2⟩
      intro q hq
      have hq : q ∈ zu_231e.2.2.1.drop 1 := hq
      rcases List.mem_cons.mp hq with rfl | hq
      · exact List.mem_of_getElem? (i := 18) rfl
      rcases List.mem_cons.mp hq with rfl | hq
      · exact List.mem_of_getElem? (i := 19) rfl
      rcases List.mem_cons.mp hq with rfl | hq
      · exact List.mem_of_getElem? (i := 20) rfl
      rcases List.mem_cons.mp hq with rfl | hq
      · exact List.mem_of_getElem? (i := 21) rfl
      rcases List.mem_cons.mp hq with rfl | hq
      · exact List.mem_of_getElem? (i := 22) rfl
      rcases List.mem_cons.mp hq with rfl | hq
      · exact List.mem_of_getElem? (i := 23) rfl
      exact absurd hq List.not_mem_nil
    obtain ⟨-, fs, vs, -, hv, hs⟩ := zMO_obj hM
    have hvl : 2 < vs.length := by
      obtain ⟨y, -, -, -, y4⟩ := zMO_int hM 12 10 (by rfl) (zfs0 (c := 0) (by rfl) (by rfl))
      have := (List.getElem?_eq_some_iff.mp (y4 vs hv)).1
      omega
    iterate 2 refine zs0 (by rfl) rfl rfl ?_
    refine zs_put (by rfl) hv hvl (by rfl) ?_
    have hM1 := zMO_put hM hv (b := 2) (M := 1) (lo := -2147483648) (hi := 2147483647) (x := Int32.ofInt 0) (by decide +kernel) (by decide +kernel) (by decide) (by decide) (by decide)
    have F1 : zFm η zW7 hp (hp.set j (.inr (12, vs.set 2 (.int (Int32.ofInt 0))))) := ⟨Nat.le_of_eq List.length_set.symm, fun i hi hw => List.getElem?_set_ne (fun e => hw 0 (by decide) (by rw [← e]; exact b1))⟩
    have r0 : ((ρ.drop 3).set 1 (Int32.ofInt 0).toInt)[0]? = ρ[3]? := by rw [List.getElem?_set_ne (by decide), List.getElem?_drop]
    generalize hp.set j (.inr (12, vs.set 2 (.int (Int32.ofInt 0)))) = hp1 at hM1 F1 ⊢
    generalize (ρ.drop 3).set 1 (Int32.ofInt 0).toInt = ρ1 at hM1 r0
    obtain ⟨iL, iF, iW, iH, iR, ev, fl, lf, ff, wf, hf, rf, H⟩ := zRXM_mk hM1
    obtain ⟨vs1, HX⟩ := H.2.2.2.2.2.2.2.2
    obtain ⟨mn, m1, m2, m3, m4⟩ := zMO_int hM1 12 10 (by rfl) (zfs0 (c := 0) (by rfl) (by rfl))
    obtain ⟨th, t1, t2, t3, t4⟩ := zMO_int hM1 41 24 (by rfl) (zfs0 (c := 0) (by rfl) (by rfl))
    have no : zWP lk Lx xs 231 (44, [(0, .ref j), (1, .int t), (2, .int a), (3, .int b)], [], hp1, 0, 0) (zPo zu_231 η ρ hp) := by
      refine zs0 (by rfl) rfl rfl ?_
      exact zs_retI (by rfl) (fin ρ1 hp1 hM1 r0 F1 _)
    iterate 2 refine zs0 (by rfl) rfl rfl ?_
    refine zs_virt (vs := [.int t]) (by rfl) rfl HX.1 (by rfl) (Nat.le_of_ble_eq_true (by rfl)) (Nat.le_of_ble_eq_true (by rfl)) (by decide +kernel) (by decide +kernel) (zistT HX.1 (m4 vs1 HX.1) (t4 vs1 HX.1) _) ?_
    rintro rv hq ⟨rfl, rfl | ⟨rfl, x1, x2, x3⟩⟩
    · exact zs_if (by rfl) (t := 44) (by rfl) (fun _ => no) (fun hb => absurd hb (by decide))
    refine zs_if (by rfl) (t := 44) (by rfl) (fun _ => no) (fun _ => ?_)
    obtain ⟨tn, htn⟩ := Int.eq_ofNat_of_zero_le x1
    have et := zb_of htn
    subst et
    have ht : tn < 9 := by omega
    iterate 3 refine zs0 (by rfl) rfl rfl ?_
    refine zs_stat (vs := [.int a, .int (Int32.ofInt 0), .int (Int32.ofInt 1)]) (by rfl) (by rfl) rfl (Nat.le_of_ble_eq_true (by rfl)) (Nat.le_of_ble_eq_true (by rfl)) (by decide +kernel) (by decide +kernel) (zin3E _ _ _) ?_
    rintro rv hq2 ⟨rfl, hrv⟩
    have hrv : ∃ x : Int32, rv = some (.int x) := by rcases hrv with e | e <;> exact ⟨_, e⟩
    obtain ⟨x, rfl⟩ := hrv
    refine zs_if (by rfl) (t := 44) (by rfl) (fun _ => no) (fun _ => ?_)
    iterate 3 refine zs0 (by rfl) rfl rfl ?_
    refine zs_stat (vs := [.int b, .int (Int32.ofInt 0), .int (Int32.ofInt 2)]) (by rfl) (by rfl) rfl (Nat.le_of_ble_eq_true (by rfl)) (Nat.le_of_ble_eq_true (by rfl)) (by decide +kernel) (by decide +kernel) (zin3E _ _ _) ?_
    rintro rv hq3 ⟨rfl, hrv⟩
    have hrv : ∃ x : Int32, rv = some (.int x) := by rcases hrv with e | e <;> exact ⟨_, e⟩
    obtain ⟨x, rfl⟩ := hrv
    refine zs_if (by rfl) (t := 44) (by rfl) (fun _ => no) (fun _ => ?_)
    iterate 2 refine zs0 (by rfl) rfl rfl ?_
    refine zs_get (by rfl) HX.1 (t4 vs1 HX.1) ?_
    iterate 2 refine zs0 (by rfl) rfl rfl ?_
    obtain ⟨thn, hth⟩ := Int.eq_ofNat_of_zero_le (show 0 ≤ th.toInt from t2)
    have t3 : th.toInt ≤ 511 := t3
    refine zs_virt (vs := [.int th, .int (Int32.ofInt 0), .int (Int32.ofInt 0)]) (by rfl) rfl HX.1 (by rfl) (Nat.le_of_ble_eq_true (by rfl)) (Nat.le_of_ble_eq_true (by rfl)) (by decide +kernel) (by decide +kernel) (zstan hA H hth (by omega)) ?_
    rintro rv hp2 ⟨ρ2, H2, k2, F2, hrv⟩
    have r2 : ρ2[0]? = ρ[3]? := (k2 0 (by decide)).trans r0
    have FF := F1.trans F2
    rcases hrv with rfl | ⟨rfl, hst⟩
    · refine zs_if (by rfl) (t := 46) (by rfl) (fun hb => absurd hb (by decide)) (fun _ => ?_)
      refine zs0 (by rfl) rfl rfl ?_
      exact zs_retI (by rfl) (fin ρ2 hp2 H2.1 r2 FF _)
    refine zs_if (by rfl) (t := 46) (by rfl) (fun _ => ?_) (fun hb => absurd hb (by decide))
    obtain ⟨vs2, HX2⟩ := H2.2.2.2.2.2.2.2.2
    obtain ⟨w1, w2, w3, w4, w5, w6, w7, w8, w9, w10, w11, w12, w13, w14, w15⟩ := id HX2
    refine zs0 (by rfl) rfl rfl ?_
    refine zs_get (by rfl) w1 w7 ?_
    refine zs0 (by rfl) rfl rfl ?_
    refine zs_aldN (by rfl) w15 (by omega) (by decide) ?_
    refine zs0 (by rfl) rfl rfl ?_
    refine zs_icmp (by rfl) (t := 58) (by rfl) (fun _ => ?_) (fun _ => ?_)
    · obtain ⟨th2, u1, -, -, u4⟩ := zMO_int H2.1 41 24 (by rfl) (zfs0 (c := 0) (by rfl) (by rfl))
      rw [k2 24 (by decide), t1] at u1
      have eth : th = th2 := Int32.toInt_inj.1 (Option.some.inj u1)
      iterate 3 refine zs0 (by rfl) rfl rfl ?_
      refine zs_get (by rfl) w1 (u4 vs2 w1) ?_
      rw [← eth]
      refine zs_virt (vs := [.int (Int32.ofInt (tn : Int)), .int th]) (by rfl) rfl w1 (by rfl) (Nat.le_of_ble_eq_true (by rfl)) (Nat.le_of_ble_eq_true (by rfl)) (by decide +kernel) (by decide +kernel) (zlayB hA H2 ht) ?_
      rintro rv hp3 ⟨rfl, ρ3, e, H3, e3, n3, k3, F3⟩
      have r3 : ρ3[0]? = ρ[3]? := (k3 0 (by decide)).trans r2
      exact zpsh_t H3 ht e3 (fun h => hst tn ht x3 (n3.mp h)) (mn := mn) ((k3 10 (by decide)).trans ((k2 10 (by decide)).trans m1)) (by omega) (fin ρ3 hp3 H3.1 r3 (FF.trans (F3.mono (by decide))))
    · refine zs0 (by rfl) rfl rfl ?_
      exact zs_retI (by rfl) (fin ρ2 hp2 H2.1 r2 FF _)
  | [], p2 => exact p2.elim
  | [_], p2 => exact p2.2.elim
  | [_, _], p2 => exact p2.2.2.elim
  | [_, _, _], p2 => exact p2.2.2.2.elim
  | _ :: _ :: _ :: _ :: _ :: _, p2 => exact p2.2.2.2.2.elim
