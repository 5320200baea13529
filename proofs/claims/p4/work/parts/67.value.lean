/-! valueOf: by the kind of the knot -/
theorem zval_rng {C : CT} {fs : List AV} {p1 p2 p3 : Nat} {r1 r2 r3 : List (Int × Int)} {q1 q2 q3 : Nat} (c0 : C.2.1.2.2.1[0]? = some (0, .inl (12, fs))) (f14 : fs[14]? = some (0, (0, [(13, 1)]))) (f30 : fs[30]? = some (2, (((13 : Nat) : Int), []))) (f31 : fs[31]? = some (2, (((14 : Nat) : Int), []))) (f32 : fs[32]? = some (2, (((15 : Nat) : Int), [])))
    (c13 : C.2.1.2.2.1[13]? = some (13, .inr (.inl (0, q1, p1, r1, [((0, [(0, 1)]), (0, [(38, 1)]))])))) (c14 : C.2.1.2.2.1[14]? = some (14, .inr (.inl (0, q2, p2, r2, [((0, [(0, 1)]), (0, [(39, 1)]))])))) (c15 : C.2.1.2.2.1[15]? = some (15, .inr (.inl (0, q3, p3, r3, [((0, [(0, 1)]), (0, [(40, 1)]))]))))
    (e0 : C.2.1.2.2.2.1[0]? = some (0, 63)) (hF : ((-1, [(0, -1), (13, 1)]) : LX) ∈ C.2.1.2.2.2.2.1) (hO : 2000 ∈ C.2.1.2.2.2.2.2) {η : List Nat} {ρ : List Int} {hp : List zhE} {av : List Value} (h : zptS η ρ C.2.1 [] av hp) {x y z : Int} (hx : ρ[38]? = some x) (hy : ρ[39]? = some y) (hz : ρ[40]? = some z) : zkc x y z := by
  obtain ⟨-, -, p3', p4, p5, p6⟩ := h
  obtain ⟨j, vs, a1, a2, a3⟩ := zcelO p3' c0
  obtain ⟨i1, g1, b1, b2, ⟨f1, rfl⟩, b4⟩ := zcell p3' c13
  obtain ⟨i2, g2, d1, d2, ⟨f2, rfl⟩, d4⟩ := zcell p3' c14
  obtain ⟨i3, g3, l1, l2, ⟨f3, rfl⟩, l4⟩ := zcell p3' c15
  obtain ⟨jo, o1, o2⟩ := p6 _ hO
  have o1 : η[0]? = some jo := o1
  cases a1.symm.trans o1
  have o2 : zOP 2 j hp := o2
  obtain ⟨k, k1, k2, k3⟩ := zaE_get p4 e0
  have ent : ∀ {n p i : Nat} {rs : List (Int × Int)} {f : Nat → Int32} {w : Int}, zaA ρ n p rs [((0, [(0, 1)]), (0, [(i, 1)]))] (.inl f) → ρ[i]? = some w → (f k.toNat).toInt = w := by
    intro n p i rs f w hA hw
    obtain ⟨jj, j1, j2, j3⟩ := hA.2.2.2 _ List.mem_cons_self
    have e1 := zxr_fun j1 (zxr_s k1)
    have e2 := zxr_fun j3 (zxr_s hw)
    have e3 : jj = k.toNat := by omega
    rw [e3] at e2
    exact e2
  obtain ⟨v, v1, kn, rfl, v3⟩ := zAll_get a3 f14
  obtain ⟨zf, z1, z2⟩ := p5 _ hF
  obtain ⟨y1, ⟨xk, yk, w1, ⟨xn, yn, w2, w3, w4⟩, w5⟩, w6⟩ := z1
  have w3 : yn = 0 := w3
  cases k1.symm.trans w1
  have e5 := zxr_fun v3 (zxr_s w2)
  have hlt : ((k.toNat : Nat) : Int) < kn.toInt := by
    simp only at w4 w5 w6
    omega
  have h9 := o2 kn _ _ _ _ _ _ (zofi_at a2 v1) (by rw [zofa_at a2 (zfldR a3 f30 b1), zofr_arr b2]) (by rw [zofa_at a2 (zfldR a3 f31 d1), zofr_arr d2]) (by rw [zofa_at a2 (zfldR a3 f32 l1), zofr_arr l2]) k.toNat hlt (by omega)
  rw [ent b4 hx, ent d4 hy, ent l4 hz] at h9
  exact h9
theorem zuh_252 {lk : ZLP} {Lx : Nat} {xs : Nat → Int32} : zHolds lk Lx xs zu_252 := by
  refine zHolds_ent 13 (j := 13) (t := 0) (n := 128) (r := (0, 14)) (es := []) (0, [(0, 1)]) 38 (by rfl) (by rfl) (by decide) ?_
  refine zHolds_ent 14 (j := 14) (t := 0) (n := 128) (r := (-2147483648, 2147483647)) (es := []) (0, [(0, 1)]) 39 (by rfl) (by rfl) (by decide) ?_
  refine zHolds_ent 15 (j := 15) (t := 0) (n := 128) (r := (-2147483648, 2147483647)) (es := []) (0, [(0, 1)]) 40 (by rfl) (by rfl) (by decide) ?_
  refine zHolds_split (i := 38) (lo := 0) (hi := 14) [(0, 0), (1, 1), (2, 2), (3, 14)] (by rfl) (fun v h1 h2 => by simp only [List.mem_cons, List.not_mem_nil, or_false, exists_eq_or_imp, exists_eq_left]; omega) ?_
  refine List.forall_mem_cons.mpr ⟨?_, List.forall_mem_cons.mpr ⟨?_, List.forall_mem_cons.mpr ⟨?_, List.forall_mem_cons.mpr ⟨?_, List.forall_mem_nil _⟩⟩⟩⟩
  · exact zuh_252_a
  · refine zHolds_narrow 39 (lo := -2147483648) (hi := 2147483647) 0 7 (by rfl) (fun η ρ hp av x h hx => ?_) zuh_252_b
    obtain ⟨w, w1, w2, w3⟩ := zaE_get h.2.2.2.1 (i := 38) (q := (1, 1)) (by rfl)
    obtain ⟨z, z1, -⟩ := zaE_get h.2.2.2.1 (i := 40) (q := (-2147483648, 2147483647)) (by rfl)
    have := zval_rng (by rfl) (by rfl) (by rfl) (by rfl) (by rfl) (by rfl) (by rfl) (by rfl) (by rfl) List.mem_cons_self (by decide) h w1 hx z1
    exact this.1 (by simp only at w2 w3; omega)
  · refine zHolds_narrow 39 (lo := -2147483648) (hi := 2147483647) 0 63 (by rfl) (fun η ρ hp av x h hx => ?_) zuh_252_c
    obtain ⟨w, w1, w2, w3⟩ := zaE_get h.2.2.2.1 (i := 38) (q := (2, 2)) (by rfl)
    obtain ⟨z, z1, -⟩ := zaE_get h.2.2.2.1 (i := 40) (q := (-2147483648, 2147483647)) (by rfl)
    have := zval_rng (by rfl) (by rfl) (by rfl) (by rfl) (by rfl) (by rfl) (by rfl) (by rfl) (by rfl) List.mem_cons_self (by decide) h w1 hx z1
    exact this.2.1 (by simp only at w2 w3; omega)
  · refine zHolds_narrow 39 (lo := -2147483648) (hi := 2147483647) 0 63 (by rfl) (fun η ρ hp av x h hx => ?_) ?_
    · obtain ⟨w, w1, w2, w3⟩ := zaE_get h.2.2.2.1 (i := 38) (q := (3, 14)) (by rfl)
      obtain ⟨z, z1, -⟩ := zaE_get h.2.2.2.1 (i := 40) (q := (-2147483648, 2147483647)) (by rfl)
      have := zval_rng (by rfl) (by rfl) (by rfl) (by rfl) (by rfl) (by rfl) (by rfl) (by rfl) (by rfl) List.mem_cons_self (by decide) h w1 hx z1
      exact this.2.1 (by simp only at w2 w3; omega)
    · refine zHolds_narrow 40 (lo := -2147483648) (hi := 2147483647) 0 63 (by rfl) (fun η ρ hp av x h hx => ?_) zuh_252_d
      obtain ⟨w, w1, w2, w3⟩ := zaE_get h.2.2.2.1 (i := 38) (q := (3, 14)) (by rfl)
      obtain ⟨z, z1, -⟩ := zaE_get h.2.2.2.1 (i := 39) (q := (0, 63)) (by rfl)
      have := zval_rng (by rfl) (by rfl) (by rfl) (by rfl) (by rfl) (by rfl) (by rfl) (by rfl) (by rfl) List.mem_cons_self (by decide) h w1 z1 hx
      exact this.2.2 (by simp only at w2 w3; omega)
theorem zshr0 {x m : Int32} (h0 : 0 ≤ m.toInt) (h9 : m.toInt ≤ 9) (hx : 0 ≤ x.toInt) (hz : x >>> (m &&& 31) = 0) : x.toInt ≤ 511 := by
  have key : ∀ (n : Int32) (d : Nat), m = n → ((2 ^ ((n &&& 31).toBitVec.smod 32).toNat : Nat)) = d → x.toInt / (d : Int) = 0 := by
    intro n d e hd
    subst e
    have h := congrArg Int32.toInt hz
    have e2 : (x >>> (m &&& 31)).toInt = x.toInt / ((2 ^ ((m &&& 31).toBitVec.smod 32).toNat : Nat) : Int) := by
      show (x.toBitVec.sshiftRight' ((m &&& 31).toBitVec.smod 32)).toInt = x.toBitVec.toInt / _
      rw [BitVec.toInt_sshiftRight', Int.shiftRight_eq_div_pow]
    rw [e2, hd] at h
    exact h
  have hm : m.toInt = 0 ∨ m.toInt = 1 ∨ m.toInt = 2 ∨ m.toInt = 3 ∨ m.toInt = 4 ∨ m.toInt = 5 ∨ m.toInt = 6 ∨ m.toInt = 7 ∨ m.toInt = 8 ∨ m.toInt = 9 := by omega
  rcases hm with h | h | h | h | h | h | h | h | h | h
  · have := key 0 1 (Int32.toInt_inj.1 h) (by decide); omega
  · have := key 1 2 (Int32.toInt_inj.1 h) (by decide); omega
  · have := key 2 4 (Int32.toInt_inj.1 h) (by decide); omega
  · have := key 3 8 (Int32.toInt_inj.1 h) (by decide); omega
  · have := key 4 16 (Int32.toInt_inj.1 h) (by decide); omega
  · have := key 5 32 (Int32.toInt_inj.1 h) (by decide); omega
  · have := key 6 64 (Int32.toInt_inj.1 h) (by decide); omega
  · have := key 7 128 (Int32.toInt_inj.1 h) (by decide); omega
  · have := key 8 256 (Int32.toInt_inj.1 h) (by decide); omega
  · have := key 9 512 (Int32.toInt_inj.1 h) (by decide); omega
theorem zuh_210 {lk : ZLP} {Lx : Nat} {xs : Nat → Int32} : zHolds lk Lx xs zu_210 := by
  intro η ρ hp av h1 h2 h3
  obtain ⟨p1, p2, p3, p4, p5, p6⟩ := h3
  match av, p2 with
  | [v0, v1], p2 =>
    obtain ⟨⟨j, hj, rfl⟩, ⟨x, rfl, hx⟩, -⟩ := p2
    obtain ⟨j', c0, g1, g2, g3⟩ := p3 _ List.mem_cons_self
    cases hj.symm.trans g1
    obtain ⟨vs, rfl, g4⟩ := g3
    obtain ⟨w, g5, g6⟩ := zAll_get (i := 12) g4 rfl
    obtain ⟨m, rfl, hm⟩ := g6
    obtain ⟨m0, m9⟩ := zE_rng p4 (i := 11) (lo := 0) (hi := 9) rfl hm
    have fin0 : zPo zu_210 η ρ hp (some (.int 0)) hp := by
      refine ⟨_, List.mem_cons_of_mem _ List.mem_cons_self, [0], ⟨fun q hq => absurd hq List.not_mem_nil, ⟨⟨0, rfl, zxr_s (zsnoc_at p4 rfl)⟩, trivial⟩, fun q hq => absurd hq List.not_mem_nil, zaE_snoc p4 (by decide) (by decide), fun f hf => absurd hf List.not_mem_nil, fun o ho => absurd ho List.not_mem_nil⟩, Nat.le_refl _, fun i _ _ => rfl⟩
    have fin1 : 0 ≤ x.toInt → x.toInt ≤ 511 → zPo zu_210 η ρ hp (some (.int 1)) hp := by
      intro q1 q2
      have hx' := zxr_mono (l := [1]) hx
      refine ⟨_, List.mem_cons_self, [1], ⟨fun q hq => absurd hq List.not_mem_nil, ⟨⟨1, rfl, zxr_s (zsnoc_at p4 rfl)⟩, trivial⟩, fun q hq => absurd hq List.not_mem_nil, zaE_snoc p4 (by decide) (by decide), fun f hf => ?_, fun o ho => absurd ho List.not_mem_nil⟩, Nat.le_refl _, fun i _ _ => rfl⟩
      rcases List.mem_cons.mp hf with rfl | hf
      · exact ⟨_, hx', q1⟩
      · rcases List.mem_cons.mp hf with rfl | hf
        · obtain ⟨d, d1, d2⟩ := zaE_get (i := 0) p4 rfl
          have e0 := zxr_fun hx (zxr_s d1)
          have d3 : (ρ ++ [1])[0]? = some d := by
            rw [List.getElem?_append_left (List.getElem?_eq_some_iff.mp d1).1]
            exact d1
          refine ⟨511 - d, ⟨-d, ⟨d, 0, d3, rfl, by omega⟩, by omega⟩, by omega⟩
        · exact absurd hf List.not_mem_nil
    show zWP lk Lx xs 210 (0, [(0, .ref j), (1, .int x)], [], hp, 0, 0) (zPo zu_210 η ρ hp)
    refine zs0 (by rfl) rfl rfl ?_
    refine zs_if (by rfl) (t := 17) (by rfl) (fun hb => ?_) (fun hb => ?_)
    · refine zs0 (by rfl) rfl rfl ?_
      exact zs_ret (by rfl) (Or.inr (Or.inl rfl)) fin0
    · refine zs0 (by rfl) rfl rfl ?_
      refine zs0 (by rfl) rfl rfl ?_
      refine zs_get (by rfl) g2 g5 ?_
      refine zs0 (by rfl) rfl rfl ?_
      refine zs_if (by rfl) (t := 17) (by rfl) (fun hb2 => ?_) (fun hb2 => ?_)
      · refine zs0 (by rfl) rfl rfl ?_
        exact zs_ret (by rfl) (Or.inr (Or.inl rfl)) fin0
      · refine zs0 (by rfl) rfl rfl ?_
        refine zs0 (by rfl) rfl rfl ?_
        refine zs_ret (by rfl) (Or.inr (Or.inr rfl)) (fin1 ?_ ?_)
        · have hb : decide (x < 0) = false := hb
          rw [decide_eq_false_iff_not, Int32.lt_iff_toInt_lt] at hb
          have e : (0 : Int32).toInt = 0 := rfl
          omega
        · have hb : decide (x < 0) = false := hb
          rw [decide_eq_false_iff_not, Int32.lt_iff_toInt_lt] at hb
          have e : (0 : Int32).toInt = 0 := rfl
          have hb2 : (!decide (x >>> (m &&& 31) = 0)) = false := hb2
          rw [Bool.not_eq_false', decide_eq_true_eq] at hb2
          exact zshr0 m0 m9 (by omega) hb2
  | [], p2 => exact p2.elim
  | [_], p2 => exact p2.2.elim
  | _ :: _ :: _ :: _, p2 => exact p2.2.2.elim
