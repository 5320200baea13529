/-! the law's look from a state of the law's -/
theorem zcl2_mono1 {η : List Nat} {ρ l : List Int} {C : PC} {hp : List zhE} (h : zcl2 η ρ C hp) : zcl2 η (ρ ++ l) C hp := fun q hq => by
  obtain ⟨x, y, g1, g2, g3⟩ := h q hq
  exact ⟨x, y, g1, g2, zac_mono1 g3⟩
def zisout (c : AC) : Bool := match c with
  | .inr (.inl (t, n, p, rs, es)) => Nat.beq t 1 && (Nat.beq n 1 && (Nat.beq p 1 && (decide (rs = [(-9223372036854775808, 9223372036854775807)]) && es.isEmpty)))
  | _ => false
theorem zisout_ok {c : AC} (h : zisout c = true) : c = .inr (.inl (1, 1, 1, [(-9223372036854775808, 9223372036854775807)], [])) := by
  unfold zisout at h
  split at h
  · simp only [Bool.and_eq_true, decide_eq_true_eq] at h
    obtain ⟨h1, h2, h3, h4, h5⟩ := h
    rw [List.isEmpty_iff] at h5
    rw [Nat.eq_of_beq_eq_true h1, Nat.eq_of_beq_eq_true h2, Nat.eq_of_beq_eq_true h3, h4, h5]
  · cases h
theorem zlout0 : zlPC.2.2.1.all (fun q => !(Nat.beq q.1 2) || zisout q.2) = true := by decide +kernel
theorem zlout : ∀ q ∈ zlPC.2.2.1, q.1 = 2 → q.2 = .inr (.inl (1, 1, 1, [(-9223372036854775808, 9223372036854775807)], [])) := fun q hq e => by
  have h := List.all_eq_true.mp zlout0 q hq
  rw [Bool.or_eq_true] at h
  rcases h with h | h
  · rw [e] at h
    exact absurd h (by decide)
  · exact zisout_ok h
section ZLA
variable {η : List Nat} {ρ : List Int} {L : zL} {hp hp' : List zhE}
/-- cells other than out's as they were, and out a long -/
theorem zkeepP (hinj : zinj η hp) (h : zptS η ρ zlPC L [] hp) (hlen : hp.length ≤ hp'.length) (hk : ∀ k x, k ≠ 2 → η[k]? = some x → hp'[x]? = hp[x]?) {o : Nat} (ho : η[2]? = some o) {g : Nat → Int64} (hg : hp'[o]? = some (.inl (1, 1, .inr (.inl g)))) : zinj η hp' ∧ zptS η ρ zlPC L [] hp' := by
  obtain ⟨p1, p2, p3, p4, p5, p6⟩ := h
  refine ⟨⟨hinj.1, fun i x hx => Nat.lt_of_lt_of_le (hinj.2 i x hx) hlen⟩, p1, p2, fun q hq => ?_, p4, p5, ?_⟩
  · obtain ⟨x, y, g1, g2, g3⟩ := p3 q hq
    by_cases e : q.1 = 2
    · rw [e] at g1
      cases ho.symm.trans g1
      refine ⟨o, _, by rw [e]; exact ho, hg, ?_⟩
      rw [zlout q hq e]
      refine ⟨_, rfl, ⟨g, rfl⟩, rfl, Nat.zero_lt_one, fun j hj r hr => ?_, fun e he => absurd he List.not_mem_nil⟩
      have hj0 : j = 0 := by omega
      subst hj0
      cases hr
      exact zb_rngL (g 0)
    · exact ⟨x, y, g1, (hk q.1 x e g1).trans g2, g3⟩
  · -- the knowledge
    obtain ⟨jm, vm, m1, m2, m3⟩ := zcelO (i := 1) p3 rfl
    obtain ⟨i24, f24, a1, a2, ⟨w24, rfl⟩, -⟩ := zcell (i := 18) p3 rfl
    obtain ⟨i30, f30, b1, b2, ⟨w30, rfl⟩, -⟩ := zcell (i := 24) p3 rfl
    obtain ⟨i31, f31, c1, c2, ⟨w31, rfl⟩, -⟩ := zcell (i := 25) p3 rfl
    obtain ⟨i32, f32, d1, d2, ⟨w32, rfl⟩, -⟩ := zcell (i := 26) p3 rfl
    have v24 := zfldR (b := 24) m3 rfl a1
    have v30 := zfldR (b := 30) m3 rfl b1
    have v31 := zfldR (b := 31) m3 rfl c1
    have v32 := zfldR (b := 32) m3 rfl d1
    have mm : hp'[jm]? = hp[jm]? := hk 1 jm (by decide) m1
    have fi : ∀ b, zofi hp' jm b = zofi hp jm b := fun b => by unfold zofi; rw [mm]
    have fa : ∀ (b i k : Nat) (w : Nat → Int32) (n t : Nat), k ≠ 2 → η[k]? = some i → vm[b]? = some (.ref i) → hp[i]? = some (.inl (t, n, .inl w)) → zofa hp' jm b = zofa hp jm b := fun b i k w n t hk2 h1 h2 h3 => by
      rw [zofa_at (mm.trans m2) h2, zofa_at m2 h2, zofr_arr h3, zofr_arr ((hk k i hk2 h1).trans h3)]
    intro o2 ho2
    obtain ⟨j, j1, j2⟩ := p6 o2 ho2
    have hO : o2 = 1 ∨ o2 = 2001 := by
      have : o2 ∈ ([1, 2001] : List Nat) := ho2
      simpa using this
    rcases hO with rfl | rfl
    · cases m1.symm.trans j1
      exact ⟨jm, m1, zOP_dep (fun b _ => fi b) (fun b hb => by
        have hb : b ∈ ([24] : List Nat) := hb
        rw [List.mem_singleton] at hb
        subst hb
        exact fa 24 i24 18 w24 _ _ (by decide) a1 v24 a2) j2⟩
    · cases m1.symm.trans j1
      exact ⟨jm, m1, zOP_dep (fun b _ => fi b) (fun b hb => by
        have hb : b ∈ ([30, 31, 32] : List Nat) := hb
        simp only [List.mem_cons, List.not_mem_nil, or_false] at hb
        rcases hb with rfl | rfl | rfl
        · exact fa 30 i30 24 w30 _ _ (by decide) b1 v30 b2
        · exact fa 31 i31 25 w31 _ _ (by decide) c1 v31 c2
        · exact fa 32 i32 26 w32 _ _ (by decide) d1 v32 d2) j2⟩
theorem zlk_at {Lx : Nat} {xs : Nat → Int32} (hη : η.length = 208) (hinj : zinj η hp) (h : zptS η ρ zlPC L [] hp) {a o : Nat} (ha : η[0]? = some a) (ho : η[2]? = some o) (n0 n1 : Int32) : zlk2 Lx xs [.ref a, .int n0, .int n1, .ref o] hp (fun rv hp' => ∃ y : Int32, rv = some (.int y) ∧ 0 ≤ y.toInt ∧ y.toInt ≤ 2 ∧ zinj η hp' ∧ zptS η ρ zlPC L [] hp' ∧ ∀ (k x : Nat), k ≠ 2 → η[k]? = some x → hp'[x]? = hp[x]?) := by
  obtain ⟨p1, p2, p3, p4, p5, p6⟩ := id h
  obtain ⟨a', vs, q1, q2, q3⟩ := zcelO (i := 0) p3 rfl
  cases ha.symm.trans q1
  obtain ⟨o', f, r1, r2, ⟨g, rfl⟩, -⟩ := zcell (i := 2) p3 rfl
  cases ho.symm.trans r1
  -- where nothing but more cells has come
  have more : ∀ m, zinj η (hp ++ m) ∧ zptS η ρ zlPC L [] (hp ++ m) := fun m => zkeepP hinj h (by simp) (fun k x _ hx => by rw [List.getElem?_append_left (hinj.2 k x hx)]) ho (g := g) (by rw [List.getElem?_append_left (hinj.2 2 o ho)]; exact r2)
  have fr : ∀ (m : List zhE) (k x : Nat), k ≠ 2 → η[k]? = some x → (hp ++ m)[x]? = hp[x]? := fun m k x _ hx => by rw [List.getElem?_append_left (hinj.2 k x hx)]
  have hlen : ρ.length = 109 := by rw [← p4.1]; rfl
  refine ⟨a, o, n0, n1, vs, g, rfl, q2, r2, ?_⟩
  have z1 : (ρ ++ [n0.toInt])[109]? = some n0.toInt := by rw [← hlen]; simp
  have h1 := zmc_ok (lk := zlk0) (Lx := Lx) (xs := xs) zlm_124 (L := lv_args 0 [.ref a, .int n0]) (st := []) (ρ := ρ ++ [n0.toInt]) hη hinj (List.forall_mem_cons.mpr ⟨⟨.ref a, rfl, a, ha, rfl⟩, List.forall_mem_cons.mpr ⟨⟨.int n0, rfl, n0, rfl, zxr_s z1⟩, List.forall_mem_nil _⟩⟩) trivial (zcl2_mono1 p3) (zaE_snoc (lo := -2147483648) (hi := 2147483647) p4 (zb_rng n0).1 (zb_rng n0).2)
  refine h1.post ?_
  rintro rv hp1 ⟨⟨m, rfl⟩, r, hh, G, η2, ρ2, k1, ⟨l, rfl⟩, k2, k3⟩
  refine ⟨⟨m, rfl⟩, ?_⟩
  have zz : (ρ ++ [n0.toInt] ++ l)[109]? = some n0.toInt := by rw [List.getElem?_append_left (by simp [hlen])]; exact z1
  unfold zlKt at k1
  split at k1
  · rename_i av
    match rv, k3 with
    | some v, k3 =>
      obtain ⟨kv, -⟩ := k3
      simp only [Bool.and_eq_true, Bool.or_eq_true] at k1
      obtain ⟨t0, t1, t2⟩ := k1
      obtain ⟨tg, c0, ts⟩ := av
      have t0 := Nat.eq_of_beq_eq_true t0
      simp only at t0 t1 t2
      subst t0
      rw [List.isEmpty_iff] at t1
      subst t1
      obtain ⟨y, rfl, hy⟩ := kv
      have hy := zxr_fun hy (zxr_c _ c0)
      rcases t2 with t2 | ⟨t2, t3, t4⟩
      · rw [zeq_iff] at t2
        have : y = 0 := Int32.toInt_inj.1 (by rw [hy, t2]; rfl)
        subst this
        exact Or.inl ⟨rfl, fun m2 => ⟨1, rfl, by decide, by decide, (more m2).1, (more m2).2, fr m2⟩⟩
      · rw [zeq_iff] at t2
        have : y = 1 := Int32.toInt_inj.1 (by rw [hy, t2]; rfl)
        subst this
        have b0 := zprv_ok k2.2.1 t3 k2.2.2.1 (zxr_s zz)
        have b1 := zprv_ok k2.2.1 t4 k2.2.2.1 (x := 8 - n0.toInt) ⟨-1 * n0.toInt, ⟨n0.toInt, 0, zz, rfl, by omega⟩, by show 8 - n0.toInt = 8 + -1 * n0.toInt; omega⟩
        refine Or.inr ⟨rfl, fun _ m2 => ⟨2, rfl, by decide, by decide, (more m2).1, (more m2).2, fr m2⟩, fun n10 n19 => ?_⟩
        have mm := more m
        have z2 : (ρ ++ [n0.toInt] ++ [n1.toInt])[109]? = some n0.toInt := by rw [List.getElem?_append_left (by simp [hlen])]; exact z1
        have z3 : (ρ ++ [n0.toInt] ++ [n1.toInt])[110]? = some n1.toInt := by
          rw [List.getElem?_append_right (by simp [hlen])]
          simp [hlen]
        have h2 := zmc_ok (lk := zlk0) (Lx := Lx) (xs := xs) zlm_127 (L := lv_args 0 [.ref a, .int n0, .int n1]) (st := []) (ρ := ρ ++ [n0.toInt] ++ [n1.toInt]) hη mm.1 (List.forall_mem_cons.mpr ⟨⟨.ref a, rfl, a, ha, rfl⟩, List.forall_mem_cons.mpr ⟨⟨.int n0, rfl, n0, rfl, zxr_s z2⟩, List.forall_mem_cons.mpr ⟨⟨.int n1, rfl, n1, rfl, zxr_s z3⟩, List.forall_mem_nil _⟩⟩⟩) trivial (zcl2_mono1 (zcl2_mono1 mm.2.2.2.1)) (zaE_snoc (lo := 0) (hi := 9) (zaE_snoc (lo := 0) (hi := 8) p4 b0 (by omega)) n10 n19)
        refine h2.post ?_
        rintro rv2 hp2 ⟨⟨m3, rfl⟩, r2', hh2, G2, η3, ρ3, w1, ⟨l3, rfl⟩, w2, w3⟩
        refine ⟨⟨m ++ m3, by rw [List.append_assoc]⟩, ?_⟩
        unfold zlKi at w1
        split at w1
        · rename_i av2
          match rv2, w3 with
          | some v2, w3 =>
            obtain ⟨kv2, -⟩ := w3
            obtain ⟨tg2, c2, ts2⟩ := av2
            have w1 := Nat.eq_of_beq_eq_true w1
            simp only at w1
            subst w1
            obtain ⟨y2, rfl, -⟩ := kv2
            refine ⟨y2, rfl, fun m4 => ?_⟩
            have hol : o < (hp ++ m4).length := by have := hinj.2 2 o ho; simp; omega
            have hfr : ∀ (k x : Nat), k ≠ 2 → η[k]? = some x → ((hp ++ m4).set o (.inl (1, 1, .inr (.inl (va_up g 0 y2.toInt64)))))[x]? = hp[x]? := fun k x hk2 hx => by
              have hxo : o ≠ x := fun e => hk2 (hinj.1 k 2 x hx (by rw [← e]; exact ho))
              rw [List.getElem?_set_ne hxo, List.getElem?_append_left (hinj.2 k x hx)]
            have hkp := zkeepP hinj h (by simp) hfr ho (List.getElem?_set_self hol)
            exact ⟨0, rfl, by decide, by decide, hkp.1, hkp.2, hfr⟩
          | none, w3 => exact w3.elim
        · cases w1
    | none, k3 => exact k3.elim
  · cases k1
end ZLA
