/-! contracts whose ends keep the fields that nobody writes -/
def zmxF (Fs : List Nat) : Nat → List AV → List AV → List AV
  | _, [], bs => bs
  | _, _ :: _, [] => []
  | i, a :: as, b :: bs => (cond (Fs.any (Nat.beq i)) a b) :: zmxF Fs (i + 1) as bs
theorem zmxF_ok {η : List Nat} {ρ ρ' : List Int} {Fs : List Nat} (hm : ∀ (a : AV) (v : Value), zav η ρ a v → zav η ρ' a v) : ∀ {as bs : List AV} {vs vs' : List Value} {i : Nat}, zaS η ρ as vs → zaS η ρ' bs vs' → (∀ j, Fs.any (Nat.beq (i + j)) = true → vs'[j]? = vs[j]?) → zaS η ρ' (zmxF Fs i as bs) vs'
  | [], bs, vs, vs', i, _, h2, _ => by
    unfold zmxF
    exact h2
  | _ :: _, [], vs, [], i, _, _, _ => trivial
  | _ :: _, [], vs, _ :: _, i, _, h2, _ => h2.elim
  | _ :: _, _ :: _, [], vs', i, h1, _, _ => h1.elim
  | _ :: _, _ :: _, _ :: _, [], i, _, h2, _ => h2.elim
  | a :: as, b :: bs, v :: vs, v' :: vs', i, h1, h2, hf => by
    have ih := zmxF_ok (Fs := Fs) hm (i := i + 1) h1.2 h2.2 (fun j hj => by
      have := hf (j + 1) (by rw [show i + (j + 1) = i + 1 + j by omega]; exact hj)
      simpa using this)
    refine ⟨?_, ih⟩
    cases hb : Fs.any (Nat.beq i) with
    | false => exact h2.1
    | true =>
      have e := hf 0 (by rw [Nat.add_zero]; exact hb)
      have e : v' = v := Option.some.inj e
      rw [e]
      exact hm _ _ h1.1
def zmxC (Fs : List Nat) (P0 P : PC) : PC := match P0, P with
  | (n0, .inl (c0, fs0)) :: _, (n, .inl (c, fs)) :: r => cond (Nat.beq n0 0 && (Nat.beq n 0 && (Nat.beq c0 12 && Nat.beq c 12))) ((n, .inl (c, zmxF Fs 0 fs0 fs)) :: r) ((n, .inl (c, fs)) :: r)
  | _, P => P
theorem zmxC_ok {η : List Nat} {ρ l : List Int} {hp hp' : List zhE} {Fs : List Nat} {P0 P : PC} (h1 : zcl2 η ρ P0 hp) (h2 : zcl2 η (ρ ++ l) P hp') (hf : ∀ f, Fs.any (Nat.beq f) = true → zKf 12 f hp hp') : zcl2 η (ρ ++ l) (zmxC Fs P0 P) hp' := by
  unfold zmxC
  split
  · rename_i n0 c0 fs0 t0 n c fs r
    cases hb : (Nat.beq n0 0 && (Nat.beq n 0 && (Nat.beq c0 12 && Nat.beq c 12))) with
    | false => exact h2
    | true =>
      simp only [Bool.and_eq_true] at hb
      obtain ⟨a1, a2, a3, a4⟩ := hb
      have a1 := Nat.eq_of_beq_eq_true a1
      have a2 := Nat.eq_of_beq_eq_true a2
      have a3 := Nat.eq_of_beq_eq_true a3
      have a4 := Nat.eq_of_beq_eq_true a4
      subst a1 a2 a3 a4
      intro q hq
      have hq : q ∈ ((0, .inl (12, zmxF Fs 0 fs0 fs)) : Nat × AC) :: r := hq
      rcases List.mem_cons.mp hq with rfl | hq
      · obtain ⟨x, h, g1, g2, vs, g4, g3⟩ := h1 _ List.mem_cons_self
        obtain ⟨x', h', k1, k2, vs', k4, k3⟩ := h2 _ List.mem_cons_self
        subst g4 k4
        have ex : x' = x := Option.some.inj (k1.symm.trans g1)
        subst ex
        refine ⟨x', _, k1, k2, vs', rfl, zmxF_ok (fun a v => zav_mono1) g3 k3 (fun j hj => ?_)⟩
        rw [Nat.zero_add] at hj
        obtain ⟨fs', f1, f2⟩ := hf _ hj x' vs g2
        rw [f1] at k2
        have e : fs' = vs' := congrArg (fun q : Option zhE => match q with | some (.inr p) => p.2 | _ => fs') k2
        rw [← e]
        exact f2
      · exact h2 q (List.mem_cons_of_mem _ hq)
  · exact h2
def zmxT (Fs : List Nat) (C : CT) : CT := (C.1, C.2.1, C.2.2.1, C.2.2.2.1, C.2.2.2.2.map (fun P => (P.1, P.2.1, zmxC Fs C.2.1.2.2.1 P.2.2.1, P.2.2.2)))
theorem zmxT_ok {Fs : List Nat} {C : CT} {Ms : List Nat} (hk : C.1 < 276) (hc : Ms.contains C.1 = true) (hM : Fs.all (fun f => zMok Ms 12 f) = true) {lk : ZLP} {Lx : Nat} {xs : Nat → Int32} (h : zHolds lk Lx xs C) : zHolds lk Lx xs (zmxT Fs C) := by
  intro η ρ hp av h1 h2 h3
  have hF : ∀ n, zPn Lx xs n C.1 (0, lv_args 0 av, [], hp, 0, 0) (fun _ hp' => ∀ f, Fs.any (Nat.beq f) = true → zKf 12 f hp hp') := fun n rv hp' hE f hf => by
    obtain ⟨g, g1, g2⟩ := List.any_eq_true.mp hf
    have g2 := Nat.eq_of_beq_eq_true g2
    subst g2
    exact zEv_kf (List.all_eq_true.mp hM _ g1) n C.1 (0, lv_args 0 av, [], hp, 0, 0) rv hp' (List.contains_iff_mem.mp hc) hE
  refine ((h η ρ hp av h1 h2 h3).and hk hF).post ?_
  intro rv hp' hq
  obtain ⟨⟨P, hP, l, q1, q2, q3⟩, hf⟩ := hq
  exact ⟨(P.1, P.2.1, zmxC Fs C.2.1.2.2.1 P.2.2.1, P.2.2.2), List.mem_map.mpr ⟨P, hP, rfl⟩, l, ⟨q1.1, q1.2.1, zmxC_ok h3.2.2.1 q1.2.2.1 hf, q1.2.2.2⟩, q2, q3⟩
def zFs231 : List Nat := [1, 4, 5, 6, 7, 8, 9, 10, 11, 12, 13, 14, 15, 16, 17, 18, 19, 35, 36, 37, 38, 39, 40, 41, 42, 52, 53, 54, 62, 63, 66, 67, 69]
def zMc231 : List Nat := [160, 161, 195, 196, 197, 198, 199, 200, 201, 202, 203, 204, 205, 206, 207, 208, 209, 231]
theorem zMk231 : zFs231.all (fun f => zMok zMc231 12 f) = true := by decide +kernel
def zu_231k : CT := zmxT zFs231 zu_231
theorem zuh_231k {lk : ZLP} {Lx : Nat} {xs : Nat → Int32} : zHolds lk Lx xs zu_231k := zmxT_ok (show (231 : Nat) < 276 by decide) (show zMc231.contains 231 = true by decide +kernel) zMk231 zuh_231
def zFs238 : List Nat := [1, 4, 5, 6, 7, 8, 9, 10, 11, 12, 13, 14, 15, 16, 17, 18, 19, 35, 36, 37, 38, 39, 40, 41, 42, 52, 53, 62, 63, 66, 67, 69]
def zMc238 : List Nat := [161, 195, 196, 197, 198, 199, 200, 201, 202, 203, 204, 205, 206, 208, 209, 219, 233, 234, 235, 236, 237, 238]
theorem zMk238 : zFs238.all (fun f => zMok zMc238 12 f) = true := by decide +kernel
def zu_238k : CT := zmxT zFs238 zu_238
theorem zuh_238k {lk : ZLP} {Lx : Nat} {xs : Nat → Int32} : zHolds lk Lx xs zu_238k := zmxT_ok (show (238 : Nat) < 276 by decide) (show zMc238.contains 238 = true by decide +kernel) zMk238 zuh_238
def zFs239 : List Nat := [1, 4, 5, 6, 7, 8, 9, 10, 11, 12, 13, 14, 15, 16, 17, 18, 19, 35, 36, 37, 38, 39, 40, 41, 42, 52, 53, 54, 62, 63, 66, 67, 69]
def zMc239 : List Nat := [161, 195, 196, 197, 199, 200, 201, 202, 208, 209, 233, 234, 235, 236, 237, 239]
theorem zMk239 : zFs239.all (fun f => zMok zMc239 12 f) = true := by decide +kernel
def zu_239k : CT := zmxT zFs239 zu_239
theorem zuh_239k {lk : ZLP} {Lx : Nat} {xs : Nat → Int32} : zHolds lk Lx xs zu_239k := zmxT_ok (show (239 : Nat) < 276 by decide) (show zMc239.contains 239 = true by decide +kernel) zMk239 zuh_239
def zFs262 : List Nat := [1, 4, 5, 6, 7, 8, 9, 10, 11, 12, 13, 14, 15, 16, 17, 18, 19, 35, 36, 37, 38, 39, 40, 42, 52, 53, 62, 63, 66, 69]
def zMc262 : List Nat := [161, 195, 196, 197, 198, 199, 200, 201, 202, 203, 204, 205, 206, 208, 209, 219, 235, 236, 237, 257, 259, 262]
theorem zMk262 : zFs262.all (fun f => zMok zMc262 12 f) = true := by decide +kernel
def zu_262k : CT := zmxT zFs262 zu_262
theorem zuh_262k {lk : ZLP} {Lx : Nat} {xs : Nat → Int32} : zHolds lk Lx xs zu_262k := zmxT_ok (show (262 : Nat) < 276 by decide) (show zMc262.contains 262 = true by decide +kernel) zMk262 zuh_262
