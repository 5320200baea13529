/-! layBearing (205), fallen (206), isStanding (207) by hand: what stands has an edge -/
def zany (c : Nat) : Nat × AC → Bool
  | (d, .inr (.inl (t, _, p, rs, es))) => !(Nat.beq d c) || (Nat.beq p 1 && (decide (es = []) && ((Nat.beq t 1 && decide (rs = [(-9223372036854775808, 9223372036854775807)])) || (Nat.beq t 0 && decide (rs = [(-2147483648, 2147483647)])))))
  | (d, _) => !(Nat.beq d c)
theorem zany_all : ∀ c ∈ [21, 22, 23], zPM.2.2.1.all (zany c) = true := by decide +kernel
/-- a row's new entries -/
def zsame (t : Nat) (f : zhA) : Prop := (t = 1 ∧ ∃ g, f = .inr (.inl g)) ∨ (t = 0 ∧ ∃ g, f = .inl g)
theorem zMO_rowg {η : List Nat} {j i c t n : Nat} {ρ : List Int} {hp : List zhE} {f g : zhA} (h : zMO η j ρ hp) (hc : c ∈ [21, 22, 23]) (hi : η[c]? = some i) (hx : hp[i]? = some (.inl (t, n, f))) (hg : zsame t g) : zMO η j ρ (hp.set i (.inl (t, n, g))) := by
  obtain ⟨h1, h2, p1, p2, p3, p4, p5, p6⟩ := id h
  have hlt := h2.2 c i hi
  have c0 : c ≠ 0 ∧ c ≠ 7 ∧ c ≠ 13 ∧ c ≠ 14 ∧ c ≠ 15 := by
    simp only [List.mem_cons, List.not_mem_nil, or_false] at hc
    omega
  refine ⟨h1, ⟨h2.1, fun i x hx => by rw [List.length_set]; exact h2.2 i x hx⟩, fun q hq => absurd hq List.not_mem_nil, p2, fun q hq => ?_, p4, p5, fun o ho => ?_⟩
  · obtain ⟨x, y, b1, b2, b3⟩ := p3 q hq
    by_cases e : i = x
    · subst e
      have e5 : q.1 = c := h2.1 _ _ _ b1 hi
      have hz := List.all_eq_true.mp (zany_all c hc) q hq
      cases hx.symm.trans b2
      refine ⟨i, _, b1, List.getElem?_set_self hlt, ?_⟩
      obtain ⟨d, ac⟩ := q
      have e5 : d = c := e5
      subst e5
      match ac, hz, b3 with
      | .inr (.inl (t', n', p, rs, es)), hz, b3 =>
        obtain ⟨f', q1, q2, q3⟩ := b3
        cases q1
        simp only [zany, Nat.beq_refl, Bool.not_true, Bool.false_or, Bool.and_eq_true, Bool.or_eq_true, decide_eq_true_eq] at hz
        obtain ⟨a1, rfl, a2⟩ := hz
        have a1 := Nat.eq_of_beq_eq_true a1
        subst a1
        rcases a2 with ⟨a3, rfl⟩ | ⟨a3, rfl⟩
        · have a3 := Nat.eq_of_beq_eq_true a3
          subst a3
          rcases hg with ⟨-, g', rfl⟩ | ⟨e, -⟩
          · exact ⟨_, rfl, ⟨g', rfl⟩, rfl, by decide, fun k hk p hp2 => by
              rw [Nat.mod_one] at hp2
              cases hp2
              exact zb_rngL _, fun e he => absurd he List.not_mem_nil⟩
          · cases e
        · have a3 := Nat.eq_of_beq_eq_true a3
          subst a3
          rcases hg with ⟨e, -⟩ | ⟨-, g', rfl⟩
          · cases e
          · exact ⟨_, rfl, ⟨g', rfl⟩, rfl, by decide, fun k hk p hp2 => by
              rw [Nat.mod_one] at hp2
              cases hp2
              exact zb_rng _, fun e he => absurd he List.not_mem_nil⟩
      | .inl _, hz, _ => simp [zany] at hz
      | .inr (.inr _), hz, _ => simp [zany] at hz
    · exact ⟨x, y, b1, by rw [List.getElem?_set_ne e]; exact b2, b3⟩
  · obtain ⟨jo, o1, o2⟩ := p6 o ho
    refine ⟨jo, o1, ?_⟩
    have ho : o ∈ [0, 2000] := ho
    obtain ⟨a1, fs, vs, a0, a2, a3⟩ := zMO_obj h
    have hjo : jo = j := by
      rcases List.mem_cons.mp ho with rfl | ho
      · exact Option.some.inj (o1.symm.trans a1)
      · rw [List.mem_singleton.mp ho] at o1
        exact Option.some.inj (o1.symm.trans a1)
    subst hjo
    have keep : ∀ d a, d ≠ c → η[d]? = some a → (hp.set i (.inl (t, n, g)))[a]? = hp[a]? := fun d a n1 hd => List.getElem?_set_ne (fun e => n1 (h2.1 d c a hd (by rw [← e]; exact hi)))
    have hj2 := keep 0 jo (Ne.symm c0.1) a1
    refine zOP_dep (fun b _ => zofi_same hj2) (fun b hb => ?_) o2
    have arr : ∀ d b, d ≠ c → ∀ a, η[d]? = some a → vs[b]? = some (.ref a) → zofa (hp.set i (.inl (t, n, g))) jo b = zofa hp jo b := fun d b n1 a hd hv => zofa_same hj2 a2 hv (keep d a n1 hd)
    rcases List.mem_cons.mp ho with rfl | ho
    · have hb : b ∈ [24] := hb
      rw [List.mem_singleton.mp hb]
      obtain ⟨ih, fh, r1, r2, r3, r4⟩ := zMO_row h 7 24 (by rfl) (zfs0 (c := 0) (by rfl) (by rfl))
      exact arr 7 24 (Ne.symm c0.2.1) ih r1 (r4 _ a2)
    · rw [List.mem_singleton.mp ho] at hb
      have hb : b ∈ [30, 31, 32] := hb
      rcases List.mem_cons.mp hb with rfl | hb
      · obtain ⟨ih, fh, r1, r2, r3, r4⟩ := zMO_row h 13 30 (by rfl) (zfs0 (c := 0) (by rfl) (by rfl))
        exact arr 13 30 (Ne.symm c0.2.2.1) ih r1 (r4 _ a2)
      · rcases List.mem_cons.mp hb with rfl | hb
        · obtain ⟨ih, fh, r1, r2, r3, r4⟩ := zMO_row h 14 31 (by rfl) (zfs0 (c := 0) (by rfl) (by rfl))
          exact arr 14 31 (Ne.symm c0.2.2.2.1) ih r1 (r4 _ a2)
        · rw [List.mem_singleton.mp hb]
          obtain ⟨ih, fh, r1, r2, r3, r4⟩ := zMO_row h 15 32 (by rfl) (zfs0 (c := 0) (by rfl) (by rfl))
          exact arr 15 32 (Ne.symm c0.2.2.2.2) ih r1 (r4 _ a2)
/-- a row of longs -/
theorem zMO_rowL {η : List Nat} {j : Nat} {ρ : List Int} {hp : List zhE} (h : zMO η j ρ hp) (c b : Nat) {n : Nat} {rs : List (Int × Int)} {es : List (LX × LX)} (hc : zPM.2.2.1[c]? = some (c, .inr (.inl (1, n, 1, rs, es)))) (hb : ∀ fs, zPM.2.2.1[0]? = some (0, .inl (12, fs)) → fs[b]? = some (2, ((c : Int), []))) : ∃ i f, η[c]? = some i ∧ hp[i]? = some (.inl (1, n, .inr (.inl f))) ∧ ∀ vs, hp[j]? = some (.inr (12, vs)) → vs[b]? = some (.ref i) := by
  obtain ⟨-, fs, vs, h1, h2, h3⟩ := zMO_obj h
  obtain ⟨i, x, b1, b2, ⟨f, rfl⟩, b4⟩ := zcell h.2.2.2.2.1 hc
  refine ⟨i, f, b1, b2, fun vs' hv => ?_⟩
  rw [h2] at hv
  cases hv
  exact zfldR h3 (hb fs h1) b1
def zW7 : List Nat := [0, 18, 19, 20, 21, 22, 23]
theorem zRXM_at7 {η : List Nat} {j iL iF iW iH iR : Nat} {ρ ρ2 : List Int} {ev fl : Int32} {lf ff wf hf rf : Nat → Int32} {hp hp' : List zhE} (H : zRXM η j iL iF iW iH iR ρ ev fl lf ff wf hf rf hp) (h2 : zMO η j ρ2 hp') (hk : ∀ i ∈ zKP, ρ2[i]? = ρ[i]?) (F : zFm η zW7 hp hp') : zRXM η j iL iF iW iH iR ρ2 ev fl lf ff wf hf rf hp' := by
  obtain ⟨hM, a1, b1, c1, d1, r1, -⟩ := id H
  exact zRXM_keep H h2 (hk 11 (by decide)) (hk 25 (by decide)) (F.at hM a1 (by decide)) (F.at hM b1 (by decide)) (F.at hM c1 (by decide)) (F.at hM d1 (by decide)) (F.at hM r1 (by decide))
theorem zRXM_rowg {η : List Nat} {j iL iF iW iH iR i c t n : Nat} {ρ : List Int} {ev fl : Int32} {lf ff wf hf rf : Nat → Int32} {hp : List zhE} {f g : zhA} (H : zRXM η j iL iF iW iH iR ρ ev fl lf ff wf hf rf hp) (hc : c ∈ [21, 22, 23]) (hi : η[c]? = some i) (hx : hp[i]? = some (.inl (t, n, f))) (hg : zsame t g) : zRXM η j iL iF iW iH iR ρ ev fl lf ff wf hf rf (hp.set i (.inl (t, n, g))) ∧ zFm η zW7 hp (hp.set i (.inl (t, n, g))) := by
  have F : zFm η zW7 hp (hp.set i (.inl (t, n, g))) := ⟨Nat.le_of_eq List.length_set.symm, fun a ha hw => List.getElem?_set_ne (fun e => hw c (by
    simp only [List.mem_cons, List.not_mem_nil, or_false] at hc
    rcases hc with rfl | rfl | rfl <;> decide) (by rw [← e]; exact hi))⟩
  exact ⟨zRXM_at7 H (zMO_rowg H.1 hc hi hx hg) (fun _ _ => rfl) F, F⟩
/-! bits -/
def ztbA : Bool := (List.range 512).all (fun n => (List.range 9).all (fun k => (decide (zIs (Int32.ofInt (n : Int)) (Int32.ofInt (k : Int)) = 1) == Nat.testBit n k) && ((decide ((Int32.ofInt (n : Int) ||| (Int32.ofInt 1 <<< (Int32.ofInt (k : Int) &&& 31))).toInt = ((n ||| 2 ^ k : Nat) : Int))))))
theorem ztbA_ok : ztbA = true := by decide +kernel
theorem zIs_bit {x : Int32} {n k : Nat} (hx : x.toInt = (n : Int)) (hn : n < 512) (hk : k < 9) : zIs x (Int32.ofInt (k : Int)) = 1 ↔ Nat.testBit n k = true := by
  have e := zb_of hx
  have h := List.all_eq_true.mp (List.all_eq_true.mp ztbA_ok n (List.mem_range.mpr hn)) k (List.mem_range.mpr hk)
  rw [Bool.and_eq_true] at h
  rw [e]
  have h1 := eq_of_beq h.1
  rw [← h1, decide_eq_true_eq]
theorem zor_bit {x : Int32} {n k : Nat} (hx : x.toInt = (n : Int)) (hn : n < 512) (hk : k < 9) : (x ||| (Int32.ofInt 1 <<< (Int32.ofInt (k : Int) &&& 31))).toInt = ((n ||| 2 ^ k : Nat) : Int) := by
  have e := zb_of hx
  have h := List.all_eq_true.mp (List.all_eq_true.mp ztbA_ok n (List.mem_range.mpr hn)) k (List.mem_range.mpr hk)
  rw [Bool.and_eq_true] at h
  rw [e]
  exact of_decide_eq_true h.2
theorem zor_lt {n k : Nat} (hn : n < 512) (hk : k < 9) : n ||| 2 ^ k < 512 := Nat.or_lt_two_pow (n := 9) hn (Nat.pow_lt_pow_right (by decide) hk)
theorem zor_tb {n k i : Nat} : Nat.testBit (n ||| 2 ^ k) i = (Nat.testBit n i || decide (k = i)) := by
  rw [Nat.testBit_or, Nat.testBit_two_pow]
theorem zdif_bit {s d : Int32} {n m k : Nat} (hs : s.toInt = (n : Int)) (hn : n < 512) (hd : d.toInt = (m : Int)) (hm : m < 512) (hk : k < 9) : zIs (s &&& (d ^^^ Int32.ofInt (-1))) (Int32.ofInt (k : Int)) = 1 ↔ (Nat.testBit n k = true ∧ Nat.testBit m k = false) := by
  have h0 := zb_and0 (x := d ^^^ Int32.ofInt (-1)) (y := s) (by omega)
  rw [zb_andC] at h0
  obtain ⟨r, hr⟩ := Int.eq_ofNat_of_zero_le h0.1
  rw [zIs_bit hr (by omega) hk]
  have e : r = (s &&& (d ^^^ Int32.ofInt (-1))).toBitVec.toNat := by
    have := (zb_nn h0.1).1
    omega
  have es : n = s.toBitVec.toNat := by
    have := (zb_nn (x := s) (by omega)).1
    omega
  have ed : m = d.toBitVec.toNat := by
    have := (zb_nn (x := d) (by omega)).1
    omega
  rw [e, es, ed, BitVec.testBit_toNat, BitVec.testBit_toNat, BitVec.testBit_toNat, Int32.toBitVec_and, Int32.toBitVec_xor, BitVec.getLsbD_and, BitVec.getLsbD_xor]
  have e1 : (Int32.ofInt (-1)).toBitVec.getLsbD k = true := by
    rcases (show k = 0 ∨ k = 1 ∨ k = 2 ∨ k = 3 ∨ k = 4 ∨ k = 5 ∨ k = 6 ∨ k = 7 ∨ k = 8 by omega) with rfl | rfl | rfl | rfl | rfl | rfl | rfl | rfl | rfl <;> decide
  rw [e1]
  cases s.toBitVec.getLsbD k <;> cases d.toBitVec.getLsbD k <;> decide
/-- a bit that only the larger set has -/
theorem zbit_more {n m : Nat} (hn : n < 512) (hm : m < 512) (h : ∀ k, k < 9 → Nat.testBit n k = true → Nat.testBit m k = true) (hne : n ≠ m) : ∃ k, k < 9 ∧ Nat.testBit m k = true ∧ Nat.testBit n k = false := by
  refine Classical.byContradiction fun hc => hne (Nat.eq_of_testBit_eq fun i => ?_)
  by_cases hi : i < 9
  · cases h1 : Nat.testBit n i with
    | true => rw [h i hi h1]
    | false =>
      cases h2 : Nat.testBit m i with
      | false => rfl
      | true => exact absurd ⟨i, hi, h2, h1⟩ hc
  · have p : 2 ^ 9 ≤ 2 ^ i := Nat.pow_le_pow_right (by decide) (by omega)
    rw [Nat.testBit_lt_two_pow (by omega), Nat.testBit_lt_two_pow (by omega)]
