/-! layBearing by hand for any that are wedged, from the model's shape -/
section ZBP
variable {lk : ZLP} {Lx : Nat} {xs : Nat → Int32} {Q : ZP} {η : List Nat} {j iL iF iW iH iR : Nat} {ρ : List Int} {ev fl : Int32} {lf ff wf hf rf : Nat → Int32} {hp : List zhE}
/-- the local variables at the outer loop's head -/
def zbLp (j : Nat) (s d p h : Int32) (L : zL) : Prop := L = [(4, .int d), (0, .ref j), (1, .int s), (2, .int p), (3, .int h)] ∨ ∃ (w : Int64) (x : Int32), L = [(6, .long w), (4, .int d), (5, .int x), (0, .ref j), (1, .int s), (2, .int p), (3, .int h)]
set_option maxHeartbeats 4000000 in
theorem zbrP (hA : zAD lk Lx xs) {s p h : Int32} {n : Nat} (hs : s.toInt = (n : Int)) (hn : n < 512) {ρ0 : List Int} {hp0 : List zhE} (hend : ∀ ρ hp, zRXM η j iL iF iW iH iR ρ ev fl lf ff wf hf rf hp → (∀ i ∈ zKP, ρ[i]? = ρ0[i]?) → zFm η zW7 hp0 hp → Q none hp) : ∀ (q m : Nat) (ρ : List Int) (hp : List zhE) (d : Int32) (L : zL), 512 - m < q → m < 512 → d.toInt = (m : Int) → (∀ k, k < 9 → Nat.testBit m k = true → Nat.testBit n k = true) → zbLp j s d p h L → zRXM η j iL iF iW iH iR ρ ev fl lf ff wf hf rf hp → (∀ i ∈ zKP, ρ[i]? = ρ0[i]?) → zFm η zW7 hp0 hp → zWP lk Lx xs 205 (43, L, [], hp, 0, 0) Q := by
  intro q
  induction q with
  | zero => exact fun m ρ hp d L hq => absurd hq (by omega)
  | succ q ih =>
    intro m ρ hp d L hq hm hd hsub hL H hkp hF
    have body : m ≠ n → ∀ o : Nat, o < 9 → Nat.testBit n o = true → Nat.testBit m o = false → zWP lk Lx xs 205 (108, [(6, .int (Int32.ofInt ((9 : Nat) : Int))), (5, .int (Int32.ofInt (o : Int))), (4, .int d), (0, .ref j), (1, .int s), (2, .int p), (3, .int h)], [], hp, 0, 0) Q := by
      intro hne o o1 o2 o3
      have hor := zor_bit (k := o) hd hm o1
      have hol := zor_lt (k := o) hm o1
      obtain ⟨vs, HX⟩ := H.2.2.2.2.2.2.2.2
      obtain ⟨iG, gf, g1, g2, -, g4⟩ := zMO_row H.1 8 25 (by rfl) (zfs0 (c := 0) (by rfl) (by rfl))
      obtain ⟨y, y1, -, -, y4⟩ := zMO_int H.1 52 29 (by rfl) (zfs0 (c := 0) (by rfl) (by rfl))
      obtain ⟨y', y1', -, -, y4'⟩ := zMO_int H.1 53 30 (by rfl) (zfs0 (c := 0) (by rfl) (by rfl))
      have on : ∀ (z x : Int32) (c : Int64), zWP lk Lx xs 205 (144, [(4, .int (d ||| (Int32.ofInt 1 <<< (Int32.ofInt (o : Int) &&& 31)))), (6, .int (Int32.ofInt ((9 : Nat) : Int))), (5, .int (Int32.ofInt (o : Int))), (0, .ref j), (1, .int s), (2, .int p), (3, .int h)], [.int z, .int x, .long c], hp, 0, 0) Q := by
        intro z x c
        refine zs_add (by rfl) ?_
        iterate 3 refine zs0 (by rfl) rfl rfl ?_
        obtain ⟨i1, f1, a1, a2, a3⟩ := zMO_rowL H.1 21 49 (by rfl) (zfs0 (c := 0) (by rfl) (by rfl))
        refine zs0 (by rfl) rfl rfl ?_
        refine zs_get (by rfl) HX.1 (a3 vs HX.1) ?_
        iterate 2 refine zs0 (by rfl) rfl rfl ?_
        refine zs_aldL (by rfl) a2 (zof_in (by omega) (by decide)) ?_
        iterate 2 refine zs0 (by rfl) rfl rfl ?_
        refine zs_astL (by rfl) a2 (zof_in (by omega) (by decide)) ?_
        generalize hg1 : va_up f1 (Int32.ofInt (o : Int)).toNatClampNeg _ = F1
        obtain ⟨H2, F2⟩ := zRXM_rowg (g := .inr (.inl F1)) H (by decide) a1 a2 (Or.inl ⟨rfl, _, rfl⟩)
        generalize hp.set i1 (.inl (1, 9, .inr (.inl F1))) = hp2 at H2 F2 ⊢
        obtain ⟨vs2, HX2⟩ := H2.2.2.2.2.2.2.2.2
        obtain ⟨i2, f2, b1, b2, b3⟩ := zMO_rowL H2.1 22 50 (by rfl) (zfs0 (c := 0) (by rfl) (by rfl))
        refine zs0 (by rfl) rfl rfl ?_
        refine zs_get (by rfl) HX2.1 (b3 vs2 HX2.1) ?_
        iterate 2 refine zs0 (by rfl) rfl rfl ?_
        refine zs_aldL (by rfl) b2 (zof_in (by omega) (by decide)) ?_
        iterate 3 refine zs0 (by rfl) rfl rfl ?_
        refine zs_virt (vs := [.int (Int32.ofInt (o : Int))]) (by rfl) rfl HX2.1 (by rfl) (Nat.le_of_ble_eq_true (by rfl)) (Nat.le_of_ble_eq_true (by rfl)) (by decide +kernel) (by decide +kernel) (zhrt H2 (by omega)) ?_
        rintro rv hq3 ⟨⟨x2, rfl⟩, rfl⟩
        iterate 3 refine zs0 (by rfl) rfl rfl ?_
        refine zs_astL (by rfl) b2 (zof_in (by omega) (by decide)) ?_
        generalize hg2 : va_up f2 (Int32.ofInt (o : Int)).toNatClampNeg _ = G2
        obtain ⟨H3, F3⟩ := zRXM_rowg (g := .inr (.inl G2)) H2 (by decide) b1 b2 (Or.inl ⟨rfl, _, rfl⟩)
        generalize hq3.set i2 (.inl (1, 9, .inr (.inl G2))) = hp3 at H3 F3 ⊢
        iterate 2 refine zs0 (by rfl) rfl rfl ?_
        refine zs_stat (vs := [.int p, .int (Int32.ofInt (o : Int))]) (by rfl) (by rfl) rfl (Nat.le_of_ble_eq_true (by rfl)) (Nat.le_of_ble_eq_true (by rfl)) (by decide +kernel) (by decide +kernel) (zisOf _ _) ?_
        rintro rv hq4 ⟨rfl, rfl⟩
        have lt : m < m ||| 2 ^ o := by
          refine Nat.lt_of_le_of_ne Nat.left_le_or (fun e => ?_)
          have : Nat.testBit (m ||| 2 ^ o) o = true := by rw [zor_tb]; simp
          rw [← e, o3] at this
          cases this
        have sub2 : ∀ k, k < 9 → Nat.testBit (m ||| 2 ^ o) k = true → Nat.testBit n k = true := fun k hk hb => by
          rw [zor_tb, Bool.or_eq_true] at hb
          rcases hb with hb | hb
          · exact hsub k hk hb
          · have hb := of_decide_eq_true hb
            rw [← hb]
            exact o2
        refine zs_if (by rfl) (t := 193) (by rfl) (fun _ => ?_) (fun _ => by
          refine zs0 (by rfl) rfl rfl ?_
          exact ih (m ||| 2 ^ o) ρ _ (d ||| (Int32.ofInt 1 <<< (Int32.ofInt (o : Int) &&& 31))) _ (by omega) hol hor sub2 (Or.inr ⟨_, _, rfl⟩) H3 hkp ((hF.trans F2).trans F3))
        obtain ⟨vs3, HX3⟩ := H3.2.2.2.2.2.2.2.2
        iterate 3 refine zs0 (by rfl) rfl rfl ?_
        refine zs_virt (vs := [.int (Int32.ofInt (o : Int)), .int s]) (by rfl) rfl HX3.1 (by rfl) (Nat.le_of_ble_eq_true (by rfl)) (Nat.le_of_ble_eq_true (by rfl)) (by decide +kernel) (by decide +kernel) (zlayB hA H3 o1) ?_
        rintro rv hp4 ⟨rfl, ρ4, e, H4, e4, n4, k4, F4⟩
        obtain ⟨vs4, HX4⟩ := H4.2.2.2.2.2.2.2.2
        obtain ⟨iT', f', u1, u2, -, u4⟩ := zMO_row H4.1 23 51 (by rfl) (zfs0 (c := 0) (by rfl) (by rfl))
        refine zs0 (by rfl) rfl rfl ?_
        refine zs_get (by rfl) HX4.1 (u4 vs4 HX4.1) ?_
        iterate 5 refine zs0 (by rfl) rfl rfl ?_
        refine zs_stat (vs := [.int h, .int (Int32.ofInt (o : Int))]) (by rfl) (by rfl) rfl (Nat.le_of_ble_eq_true (by rfl)) (Nat.le_of_ble_eq_true (by rfl)) (by decide +kernel) (by decide +kernel) (zisOf _ _) ?_
        rintro rv hq5 ⟨rfl, rfl⟩
        refine zs_virt (vs := [.int (Int32.ofInt (o : Int)), .int (zIs h (Int32.ofInt (o : Int)))]) (by rfl) rfl HX4.1 (by rfl) (Nat.le_of_ble_eq_true (by rfl)) (Nat.le_of_ble_eq_true (by rfl)) (by decide +kernel) (by decide +kernel) (zgoes H4 o1 (zIs_r _ _).1 (zIs_r _ _).2 e4) ?_
        rintro rv hp5 ⟨x5, rfl, x6, x7, H5, F5⟩
        have t2d : ∃ f5, hp5[iT']? = some (.inl (0, 9, .inl f5)) := ⟨f', by rw [F5.at H4.1 u1 (by decide)]; exact u2⟩
        obtain ⟨f5, t2d⟩ := t2d
        refine zs_astI (by rfl) t2d (zof_in (by omega) (by decide)) ?_
        obtain ⟨H6, F6⟩ := zRXM_rowg (g := .inl (va_up f5 (Int32.ofInt (o : Int)).toNatClampNeg x5)) H5 (by decide) u1 t2d (Or.inr ⟨rfl, _, rfl⟩)
        refine zs0 (by rfl) rfl rfl ?_
        exact ih (m ||| 2 ^ o) ρ4 _ (d ||| (Int32.ofInt 1 <<< (Int32.ofInt (o : Int) &&& 31))) _ (by omega) hol hor sub2 (Or.inr ⟨_, _, rfl⟩) H6 (fun i hi => (k4 i hi).trans (hkp i hi)) (((((hF.trans F2).trans F3).trans (F4.mono (by decide))).trans (F5.mono (by decide))).trans F6)
      iterate 7 refine zs0 (by rfl) rfl rfl ?_
      refine zs0 (by rfl) rfl rfl ?_
      refine zs_get (by rfl) HX.1 (g4 vs HX.1) ?_
      refine zs0 (by rfl) rfl rfl ?_
      refine zs_aldN (by rfl) g2 (by omega) (by decide) ?_
      iterate 2 refine zs0 (by rfl) rfl rfl ?_
      refine zs_get (by rfl) HX.1 (y4 vs HX.1) ?_
      refine zs_icmp (by rfl) (t := 143) (by rfl) (fun _ => ?_) (fun _ => ?_)
      · refine zs0 (by rfl) rfl rfl ?_
        exact on _ _ _
      · refine zs0 (by rfl) rfl rfl ?_
        refine zs_get (by rfl) HX.1 (y4' vs HX.1) ?_
        refine zs0 (by rfl) rfl rfl ?_
        exact on _ _ _
    rcases hL with rfl | ⟨w, x, rfl⟩
    all_goals
      iterate 2 refine zs0 (by rfl) rfl rfl ?_
      refine zs_icmp (by rfl) (t := 222) (by rfl) (fun hb => ?_) (fun hb => ?_)
      · have hb : decide (d = s) = true := hb
        have hb := of_decide_eq_true hb
        have e : m = n := by
          rw [hb, hs] at hd
          omega
        subst e
        exact zs_retV (by rfl) (hend ρ hp H hkp hF)
      · have hb : decide (d = s) = false := hb
        have hb := of_decide_eq_false hb
        have hne : m ≠ n := fun e => hb (Int32.toInt_inj.1 (by rw [hd, hs, e]))
        iterate 4 refine zs0 (by rfl) rfl rfl ?_
        exact zbr_i H hs hn hd hm hsub hne (body hne) 9 0 (Int32.ofInt (-1)) (by omega) (Or.inl ⟨rfl, fun i hi => absurd hi (by omega)⟩)
theorem zbearP (hA : zAD lk Lx xs) (H : zRXM η j iL iF iW iH iR ρ ev fl lf ff wf hf rf hp) {s p h : Int32} {n : Nat} (hs : s.toInt = (n : Int)) (hn : n < 512) : zWP lk Lx xs 205 (0, lv_args 0 [.ref j, .int s, .int p, .int h], [], hp, 0, 0) (fun rv hp' => rv = none ∧ ∃ ρ2, zRXM η j iL iF iW iH iR ρ2 ev fl lf ff wf hf rf hp' ∧ (∀ i ∈ zKP, ρ2[i]? = ρ[i]?) ∧ zFm η zW7 hp hp') := by
  iterate 2 refine zs0 (by rfl) rfl rfl ?_
  refine zbr_c (ρ := ρ) (ev := ev) (fl := fl) (lf := lf) (ff := ff) (wf := wf) (hf := hf) (rf := rf) (iL := iL) (iF := iF) (iW := iW) (iH := iH) (iR := iR) (hp0 := hp) (fun hp2 H2 F2 => ?_) 9 0 hp (by omega) H zFm.refl
  iterate 2 refine zs0 (by rfl) rfl rfl ?_
  exact zbrP hA hs hn (ρ0 := ρ) (hp0 := hp) (fun ρ2 hp3 H3 k3 F3 => ⟨rfl, ρ2, H3, k3, F3⟩) _ 0 ρ hp2 (Int32.ofInt 0) _ (Nat.lt_succ_self _) (by omega) (by decide) (fun k hk hb => absurd hb (by rw [Nat.zero_testBit]; decide)) (Or.inl rfl) H2 (fun _ _ => rfl) F2
end ZBP
def zu_205e : PT := (zu_205.2.2.2.2).headD zu_205.2.1
def zr5 (m m' : Nat) : Bool := (Nat.beq m 26 && Nat.beq m' 49) || ((Nat.beq m 27 && Nat.beq m' 50) || ((Nat.beq m 28 && Nat.beq m' 51) || (zmemN m zKP && Nat.beq m' (m + 3))))
theorem zu_205e_E : zu_205e.2.2.2.1 = zu_205.2.1.2.2.2.1 ++ [(0, 1), (0, 1), (0, 1), (0, 1), (0, 1), (0, 1), (0, 1), (0, 1), (0, 1), (-2147483648, 2147483647), (-2147483648, 2147483647), (0, 10)] := by decide +kernel
theorem zu_205e_r : zren zr5 (zobF zPM.2.2.1) (zobF zu_205e.2.2.1) = true := by decide +kernel
theorem zu_205e_h : zhd12 zu_205e.2.2.1 = true := by decide +kernel
theorem zu_205e_0 : zrow0 (zu_205e.2.2.1.drop 1) = true := by decide +kernel
theorem zpost5 {η : List Nat} {j : Nat} {ρ ρ2 : List Int} {hp : List zhE} (hE : zaE ρ zu_205.2.1.2.2.2.1) (hM : zMO η j ρ2 hp) (hk : ∀ i ∈ zKP, ρ2[i]? = (ρ.drop 3)[i]?) : ∃ l, zptS η (ρ ++ l) zu_205e [] [] hp := by
  have hl : ρ.length = 40 := by rw [← hE.1]; rfl
  obtain ⟨-, -, -, -, p3, p4, -, p6⟩ := hM
  obtain ⟨a, a1, a2, a3⟩ := zaE_get p4 (i := 26) (q := (-2147483648, 2147483647)) (by rfl)
  obtain ⟨b, b1, b2, b3⟩ := zaE_get p4 (i := 27) (q := (-2147483648, 2147483647)) (by rfl)
  obtain ⟨e, e1, e2, e3⟩ := zaE_get p4 (i := 28) (q := (0, 10)) (by rfl)
  refine ⟨[0, 0, 0, 0, 0, 0, 0, 0, 0, a, b, e], fun q hq => absurd hq List.not_mem_nil, trivial, ?_, ?_, fun f hf => absurd hf List.not_mem_nil, p6⟩
  · obtain ⟨C, hC⟩ := zhd12_ok zu_205e_h
    rw [hC]
    have e0 : zPM.2.2.1 = (0, .inl (12, zobF zPM.2.2.1)) :: zPM.2.2.1.drop 1 := rfl
    obtain ⟨j', x, c1, c2, vs, rfl, c3⟩ := p3 (0, .inl (12, zobF zPM.2.2.1)) (by rw [e0]; exact List.mem_cons_self)
    refine zcl2_cons ⟨j', _, c1, c2, vs, rfl, zren_ok (ρ := ρ2) (fun m m' hm x hx => ?_) zu_205e_r c3⟩ ?_
    · simp only [zr5, Bool.or_eq_true, Bool.and_eq_true] at hm
      rcases hm with ⟨m1, m2⟩ | ⟨m1, m2⟩ | ⟨m1, m2⟩ | ⟨m1, m2⟩
      · have m1 := Nat.eq_of_beq_eq_true m1
        have m2 := Nat.eq_of_beq_eq_true m2
        subst m1; subst m2
        cases a1.symm.trans hx
        rw [List.getElem?_append_right (by omega), hl]
        rfl
      · have m1 := Nat.eq_of_beq_eq_true m1
        have m2 := Nat.eq_of_beq_eq_true m2
        subst m1; subst m2
        cases b1.symm.trans hx
        rw [List.getElem?_append_right (by omega), hl]
        rfl
      · have m1 := Nat.eq_of_beq_eq_true m1
        have m2 := Nat.eq_of_beq_eq_true m2
        subst m1; subst m2
        cases e1.symm.trans hx
        rw [List.getElem?_append_right (by omega), hl]
        rfl
      · have m2 := Nat.eq_of_beq_eq_true m2
        subst m2
        have h9 := hk m (zmemN_iff.mp m1)
        rw [hx, List.getElem?_drop, Nat.add_comm] at h9
        have hlt : m + 3 < ρ.length := (List.getElem?_eq_some_iff.mp h9.symm).1
        rw [List.getElem?_append_left hlt]
        exact h9.symm
    · have hD : C = zu_205e.2.2.1.drop 1 := by rw [hC]; rfl
      rw [hD]
      refine zrow0_ok (ρ := ρ2) zu_205e_0 (fun q hq => p3 q ?_)
      have hq : q ∈ zu_205e.2.2.1.drop 1 := hq
      rcases List.mem_cons.mp hq with rfl | hq
      · exact List.mem_of_getElem? (i := 18) rfl
      rcases List.mem_cons.mp hq with rfl | hq
      · exact List.mem_of_getElem? (i := 19) rfl
      rcases List.mem_cons.mp hq with rfl | hq
      · exact List.mem_of_getElem? (i := 20) rfl
      rcases List.mem_cons.mp hq with rfl | hq
      · exact List.mem_of_getElem? (i := 21) rfl
      rcases List.mem_cons.mp hq with rfl | hq
      · exact List.mem_of_getElem? (i := 22) rfl
      rcases List.mem_cons.mp hq with rfl | hq
      · exact List.mem_of_getElem? (i := 23) rfl
      exact absurd hq List.not_mem_nil
  · rw [zu_205e_E]
    refine zaE_app hE ?_
    iterate 9 refine zaE_cons ?_ (by decide) (by decide)
    exact zaE_cons (zaE_cons (zaE_cons ⟨rfl, fun i q x h => by simp at h⟩ e2 e3) b2 b3) a2 a3
theorem zuh_205 {lk : ZLP} {Lx : Nat} {xs : Nat → Int32} : zHolds lk Lx xs zu_205 := by
  intro η ρ hp av g1 g2 g3
  obtain ⟨j, b1, hM⟩ := zpreM_ok (P := zu_205.2.1) (n := 3) (by decide +kernel) rfl g1 g2 g3
  obtain ⟨-, p2, -, p4, -, -⟩ := g3
  match av, p2 with
  | [_, _, _, _], p2 =>
    obtain ⟨⟨i, i1, rfl⟩, ⟨s, rfl, hs⟩, ⟨p, rfl, -⟩, ⟨h, rfl, -⟩, -⟩ := p2
    have i1 : η[0]? = some i := i1
    cases b1.symm.trans i1
    obtain ⟨s0, s1⟩ := zE_rng p4 (i := 0) (lo := 0) (hi := 511) rfl hs
    obtain ⟨n, hn⟩ := Int.eq_ofNat_of_zero_le s0
    obtain ⟨iL, iF, iW, iH, iR, ev, fl, lf, ff, wf, hf, rf, H⟩ := zRXM_mk hM
    refine (zbearP (p := p) (h := h) zAD_ok H hn (by omega)).post ?_
    rintro rv hp' ⟨rfl, ρ2, H2, k2, F2⟩
    obtain ⟨l, hl⟩ := zpost5 p4 H2.1 k2
    exact ⟨zu_205e, List.mem_cons_self, l, hl, F2.1, F2.2⟩
  | [], p2 => exact p2.elim
  | [_], p2 => exact p2.2.elim
  | [_, _], p2 => exact p2.2.2.elim
  | [_, _, _], p2 => exact p2.2.2.2.elim
  | _ :: _ :: _ :: _ :: _ :: _, p2 => exact p2.2.2.2.2.elim
