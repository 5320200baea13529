/-! steps by hand: rows, calls, ends; the model's goesOn -/
section ZSH
variable {lk : ZLP} {Lx : Nat} {xs : Nat → Int32} {k : Nat} {pc : Nat} {L : zL} {st : List Value} {hp : List zhE} {c s : Nat} {Q : ZP}
theorem zs_aldI {p0 a b i n : Nat} {v : Int} {x : Int32} {f : Nat → Int32} (h : zatp k pc = some (p0, .iaload, a, b, v)) (hc : hp[i]? = some (.inl (0, n, .inl f))) (hx : zin x n = true) (hn : zWP lk Lx xs k (pc + 1, L, .int (f x.toNatClampNeg) :: st, hp, c, s) Q) : zWP lk Lx xs k (pc, L, .int x :: .ref i :: st, hp, c, s) Q := by
  refine zs0 h rfl ?_ hn
  show (match zbt (.int x :: .ref i :: st) hp 0 with | 0 => zalI pc L (.int x :: .ref i :: st) hp c s 0 | _ => zsl pc L (.int x :: .ref i :: st) hp c s Lx xs) = _
  have e : zbt (.int x :: .ref i :: st) hp 0 = 0 := by
    unfold zbt
    simp only [List.drop_succ_cons, List.drop_zero, hc]
  rw [e]
  show zalI pc L (.int x :: .ref i :: st) hp c s 0 = _
  unfold zalI
  simp only [hc, Nat.beq_refl, hx, Bool.and_self]
theorem zs_aldL {p0 a b i n : Nat} {v : Int} {x : Int32} {f : Nat → Int64} (h : zatp k pc = some (p0, .laload, a, b, v)) (hc : hp[i]? = some (.inl (1, n, .inr (.inl f)))) (hx : zin x n = true) (hn : zWP lk Lx xs k (pc + 1, L, .long (f x.toNatClampNeg) :: st, hp, c, s) Q) : zWP lk Lx xs k (pc, L, .int x :: .ref i :: st, hp, c, s) Q := by
  refine zs0 h rfl ?_ hn
  show zalL pc L (.int x :: .ref i :: st) hp c s = _
  unfold zalL
  simp only [hc, Nat.beq_refl, hx, Bool.and_self]
theorem zs_astI {p0 a b i n : Nat} {v : Int} {x y : Int32} {f : Nat → Int32} (h : zatp k pc = some (p0, .iastore, a, b, v)) (hc : hp[i]? = some (.inl (0, n, .inl f))) (hx : zin x n = true) (hn : zWP lk Lx xs k (pc + 1, L, st, hp.set i (.inl (0, n, .inl (va_up f x.toNatClampNeg y))), c, s) Q) : zWP lk Lx xs k (pc, L, .int y :: .int x :: .ref i :: st, hp, c, s) Q := by
  refine zs0 h rfl ?_ hn
  show zasI pc L (.int y :: .int x :: .ref i :: st) hp c s 0 (fun x => x) = _
  unfold zasI
  simp only [hc, Nat.beq_refl, hx, Bool.and_self]
theorem zs_astL {p0 a b i n : Nat} {v : Int} {x : Int32} {y : Int64} {f : Nat → Int64} (h : zatp k pc = some (p0, .lastore, a, b, v)) (hc : hp[i]? = some (.inl (1, n, .inr (.inl f)))) (hx : zin x n = true) (hn : zWP lk Lx xs k (pc + 1, L, st, hp.set i (.inl (1, n, .inr (.inl (va_up f x.toNatClampNeg y)))), c, s) Q) : zWP lk Lx xs k (pc, L, .long y :: .int x :: .ref i :: st, hp, c, s) Q := by
  refine zs0 h rfl ?_ hn
  show zasL pc L (.long y :: .int x :: .ref i :: st) hp c s = _
  unfold zasL
  simp only [hc, Nat.beq_refl, hx, Bool.and_self]
theorem zs_ldiv {p0 a b : Nat} {v : Int} {x y : Int64} (h : zatp k pc = some (p0, .ldiv, a, b, v)) (hy : y ≠ 0) (hn : zWP lk Lx xs k (pc + 1, L, .long (x / y) :: st, hp, c, s) Q) : zWP lk Lx xs k (pc, L, .long y :: .long x :: st, hp, c, s) Q := by
  refine zs0 h rfl ?_ hn
  show (match decide (y = 0) with | true => (none : Option zCF) | false => some (pc + 1, L, Value.long (x / y) :: st, hp, c, s)) = _
  rw [decide_eq_false hy]
theorem zs_put {p0 q a b j : Nat} {v : Int} {fs : List Value} {w : Value} (h : zatp k pc = some (p0, .putfield q, a, b, v)) (hc : hp[j]? = some (.inr (a, fs))) (hb : b < fs.length) (hv : zvk v w = true) (hn : zWP lk Lx xs k (pc + 3, L, st, hp.set j (.inr (a, fs.set b w)), c, s) Q) : zWP lk Lx xs k (pc, L, w :: .ref j :: st, hp, c, s) Q := by
  refine zs0 h rfl ?_ hn
  show zpf pc L (w :: .ref j :: st) hp c s a b v = _
  unfold zpf
  simp only [hc, Nat.beq_refl, hv, Nat.ble_eq_true_of_le (show b + 1 ≤ fs.length from hb), Bool.and_self]
theorem zs_retV {p0 a b : Nat} {v : Int} (h : zatp k pc = some (p0, .return_, a, b, v)) (hq : Q none hp) : zWP lk Lx xs k (pc, L, [], hp, 0, 0) Q := by
  obtain ⟨h1, h2⟩ := zatp_ok h
  exact zWP.step ⟨_, h1, h2, Nat.zero_le _, Nat.zero_le _, rfl, hq⟩
theorem zs_retI {p0 b : Nat} {v : Int} {x : Int32} (h : zatp k pc = some (p0, .ireturn, 0, b, v)) (hq : Q (some (.int x)) hp) : zWP lk Lx xs k (pc, L, [.int x], hp, 0, 0) Q := by
  obtain ⟨h1, h2⟩ := zatp_ok h
  exact zWP.step ⟨_, h1, h2, Nat.zero_le _, Nat.zero_le _, x, rfl, Or.inl rfl, hq⟩
theorem zs_virt {p0 q a j n ci : Nat} {v : Int} {vs : List Value} {fs : List Value} {P : ZP} (h : zatp k pc = some (p0, .invokevirtual q, a, n, v)) (hl : vs.length = n) (hc : hp[j]? = some (.inr (ci, fs))) (hci : v.toNat = ci) (h1 : (lg_sl (.ref j :: vs)).length ≤ (zrw a).2.1) (h2 : zsum st ≤ 8) (h3 : (zrm a).cells = 0) (h4 : (zrm a).slots = 0) (hP : zWP lk Lx xs a (0, lv_args 0 (.ref j :: vs), [], hp, 0, 0) P) (hn : ∀ rv hp', P rv hp' → zWP lk Lx xs k (pc + 3, L, rv.toList ++ st, hp', 0, 0) Q) : zWP lk Lx xs k (pc, L, vs.reverse ++ .ref j :: st, hp, 0, 0) Q := by
  obtain ⟨g1, g2⟩ := zatp_ok h
  subst hci
  refine zWP.step ⟨_, g1, g2, ?_⟩
  refine ⟨vs, j, st, fs, rfl, hl, hc, h1, h2, ?_, ?_, P, hP, ?_⟩
  · show 0 + (zrm a).cells ≤ _
    omega
  · show 0 + (zrm a).slots ≤ _
    omega
  · intro rv hp' hp
    show zWP lk Lx xs k (pc + 3, L, rv.toList ++ st, hp', 0 + (zrm a).cells, 0 + (zrm a).slots) Q
    rw [h3, h4]
    exact hn rv hp' hp
end ZSH
theorem zof_ix {i : Nat} (h : i < 100000) : (Int32.ofInt (i : Int)).toInt = (i : Int) := by
  have e : Int32.size = 4294967296 := rfl
  rw [Int32.toInt_ofInt, e]
  exact Int.bmod_eq_of_le (by omega) (by omega)
theorem zof_cl {i : Nat} (h : i < 100000) : (Int32.ofInt (i : Int)).toNatClampNeg = i := by
  have := zof_ix h
  rw [zb_cl, this]
  omega
theorem zof_in {i n : Nat} (h : i < n) (h2 : n < 100000) : zin (Int32.ofInt (i : Int)) n = true := zin_of (by rw [zof_ix (by omega)]; omega) (by rw [zof_ix (by omega)]; omega)
theorem zof_up (i : Nat) : Int32.ofInt (i : Int) + Int32.ofInt 1 = Int32.ofInt ((i + 1 : Nat) : Int) := by
  rw [← Int32.ofInt_add]
  rfl
section ZSH2
variable {lk : ZLP} {Lx : Nat} {xs : Nat → Int32} {k : Nat} {pc : Nat} {L : zL} {st : List Value} {hp : List zhE} {c s : Nat} {Q : ZP}
theorem zs_aldN {p0 a b i n o : Nat} {v : Int} {f : Nat → Int32} (h : zatp k pc = some (p0, .iaload, a, b, v)) (hc : hp[i]? = some (.inl (0, n, .inl f))) (ho : o < n) (hn2 : n < 100000) (hn : zWP lk Lx xs k (pc + 1, L, .int (f o) :: st, hp, c, s) Q) : zWP lk Lx xs k (pc, L, .int (Int32.ofInt (o : Int)) :: .ref i :: st, hp, c, s) Q := by
  refine zs_aldI h hc (zof_in ho hn2) ?_
  rw [zof_cl (by omega)]
  exact hn
theorem zs_add {p0 a b : Nat} {v : Int} {x y : Int32} (h : zatp k pc = some (p0, .iadd, a, b, v)) (hn : zWP lk Lx xs k (pc + 1, L, .int (x + y) :: st, hp, c, s) Q) : zWP lk Lx xs k (pc, L, .int y :: .int x :: st, hp, c, s) Q := zs0 h rfl rfl hn
theorem zs_mul {p0 a b : Nat} {v : Int} {x y : Int32} (h : zatp k pc = some (p0, .imul, a, b, v)) (hn : zWP lk Lx xs k (pc + 1, L, .int (x * y) :: st, hp, c, s) Q) : zWP lk Lx xs k (pc, L, .int y :: .int x :: st, hp, c, s) Q := zs0 h rfl rfl hn
theorem zs_sub {p0 a b : Nat} {v : Int} {x y : Int32} (h : zatp k pc = some (p0, .isub, a, b, v)) (hn : zWP lk Lx xs k (pc + 1, L, .int (x - y) :: st, hp, c, s) Q) : zWP lk Lx xs k (pc, L, .int y :: .int x :: st, hp, c, s) Q := zs0 h rfl rfl hn
end ZSH2
theorem zcell {η : List Nat} {ρ : List Int} {C : PC} {hp : List zhE} {c t n p i : Nat} {rs : List (Int × Int)} {es : List (LX × LX)} (h : zcl2 η ρ C hp) (hc : C[i]? = some (c, .inr (.inl (t, n, p, rs, es)))) : ∃ a f, η[c]? = some a ∧ hp[a]? = some (.inl (t, n, f)) ∧ zaT t f ∧ zaA ρ n p rs es f := by
  obtain ⟨a, x, h1, h2, f, rfl, h3, h4⟩ := h _ (List.mem_of_getElem? hc)
  exact ⟨a, f, h1, h2, h3, h4⟩
theorem zcelO {η : List Nat} {ρ : List Int} {C : PC} {hp : List zhE} {c ci i : Nat} {fs : List AV} (h : zcl2 η ρ C hp) (hc : C[i]? = some (c, .inl (ci, fs))) : ∃ a vs, η[c]? = some a ∧ hp[a]? = some (.inr (ci, vs)) ∧ zaS η ρ fs vs := by
  obtain ⟨a, x, h1, h2, vs, rfl, h3⟩ := h _ (List.mem_of_getElem? hc)
  exact ⟨a, vs, h1, h2, h3⟩
theorem zfldR {η : List Nat} {ρ : List Int} {fs : List AV} {vs : List Value} {b m i : Nat} (h : zaS η ρ fs vs) (hb : fs[b]? = some (2, ((m : Int), []))) (hi : η[m]? = some i) : vs[b]? = some (.ref i) := by
  obtain ⟨v, h1, h2⟩ := zAll_get h hb
  obtain ⟨i', h3, rfl⟩ := h2
  have h3 : η[m]? = some i' := h3
  cases hi.symm.trans h3
  exact h1
theorem zfldI {η : List Nat} {ρ : List Int} {E : LE} {fs : List AV} {vs : List Value} {b m : Nat} {lo hi : Int} (h : zaS η ρ fs vs) (hb : fs[b]? = some (0, (0, [(m, 1)]))) (hE : zaE ρ E) (hm : E[m]? = some (lo, hi)) : ∃ y : Int32, vs[b]? = some (.int y) ∧ ρ[m]? = some y.toInt ∧ lo ≤ y.toInt ∧ y.toInt ≤ hi := by
  obtain ⟨v, h1, y, rfl, h3⟩ := zAll_get h hb
  obtain ⟨x, h4, h5, h6⟩ := zaE_get hE hm
  have := zxr_fun h3 (zxr_s h4)
  exact ⟨y, h1, by rw [h4, this], by omega, by omega⟩
theorem zrow1 {ρ : List Int} {n : Nat} {lo hi : Int} {es : List (LX × LX)} {f : Nat → Int32} (h : zaA ρ n 1 [(lo, hi)] es (.inl f)) {k : Nat} (hk : k < n) : lo ≤ (f k).toInt ∧ (f k).toInt ≤ hi := h.2.2.1 k hk (lo, hi) (by rw [Nat.mod_one]; rfl)
-- goesOn
section ZGO
variable {lk : ZLP} {Lx : Nat} {xs : Nat → Int32} {Q : ZP} {j iO iF iT iL iM : Nat} {vs : List Value} {hp : List zhE} {fo ff ft : Nat → Int32}
def zGoH (j iO iF iT iL iM : Nat) (vs : List Value) (fo ff ft : Nat → Int32) (hp : List zhE) : Prop :=
  hp[j]? = some (.inr (12, vs)) ∧ vs[45]? = some (.ref iO) ∧ vs[46]? = some (.ref iF) ∧ vs[47]? = some (.ref iT) ∧ vs[49]? = some (.ref iL) ∧ vs[50]? = some (.ref iM) ∧ hp[iO]? = some (.inl (0, 10, .inl fo)) ∧ hp[iF]? = some (.inl (0, 10, .inl ff)) ∧ hp[iT]? = some (.inl (0, 10, .inl ft)) ∧ (∃ g, hp[iL]? = some (.inl (1, 9, .inr (.inl g)))) ∧ (∃ g, hp[iM]? = some (.inl (1, 9, .inr (.inl g)))) ∧ iL ≠ iM
def zGo1 (iL iM : Nat) (hp hp' : List zhE) : Prop := hp'.length = hp.length ∧ ∀ i, i ≠ iL → i ≠ iM → hp'[i]? = hp[i]?
theorem zGo1.refl (iL iM : Nat) (hp : List zhE) : zGo1 iL iM hp hp := ⟨rfl, fun _ _ _ => rfl⟩
theorem zGo1.trans {hp1 hp2 : List zhE} (h : zGo1 iL iM hp hp1) (h2 : zGo1 iL iM hp1 hp2) : zGo1 iL iM hp hp2 := ⟨h2.1.trans h.1, fun i a b => (h2.2 i a b).trans (h.2 i a b)⟩
theorem zGoH.setL (H : zGoH j iO iF iT iL iM vs fo ff ft hp) (g : Nat → Int64) : zGoH j iO iF iT iL iM vs fo ff ft (hp.set iL (.inl (1, 9, .inr (.inl g)))) ∧ zGo1 iL iM hp (hp.set iL (.inl (1, 9, .inr (.inl g)))) := by
  obtain ⟨h1, h2, h3, h4, h5, h6, h7, h8, h9, ⟨g1, h10⟩, ⟨g2, h11⟩, h12⟩ := H
  have n1 : iL ≠ j := fun e => by rw [e, h1] at h10; cases h10
  have n2 : iL ≠ iO := fun e => by rw [e, h7] at h10; cases h10
  have n3 : iL ≠ iF := fun e => by rw [e, h8] at h10; cases h10
  have n4 : iL ≠ iT := fun e => by rw [e, h9] at h10; cases h10
  exact ⟨⟨by rw [List.getElem?_set_ne n1]; exact h1, h2, h3, h4, h5, h6, by rw [List.getElem?_set_ne n2]; exact h7, by rw [List.getElem?_set_ne n3]; exact h8, by rw [List.getElem?_set_ne n4]; exact h9, ⟨g, List.getElem?_set_self (List.getElem?_eq_some_iff.mp h10).1⟩, ⟨g2, by rw [List.getElem?_set_ne h12]; exact h11⟩, h12⟩, List.length_set, fun i a _ => List.getElem?_set_ne (Ne.symm a)⟩
theorem zGoH.setM (H : zGoH j iO iF iT iL iM vs fo ff ft hp) (g : Nat → Int64) : zGoH j iO iF iT iL iM vs fo ff ft (hp.set iM (.inl (1, 9, .inr (.inl g)))) ∧ zGo1 iL iM hp (hp.set iM (.inl (1, 9, .inr (.inl g)))) := by
  obtain ⟨h1, h2, h3, h4, h5, h6, h7, h8, h9, ⟨g1, h10⟩, ⟨g2, h11⟩, h12⟩ := H
  have n1 : iM ≠ j := fun e => by rw [e, h1] at h11; cases h11
  have n2 : iM ≠ iO := fun e => by rw [e, h7] at h11; cases h11
  have n3 : iM ≠ iF := fun e => by rw [e, h8] at h11; cases h11
  have n4 : iM ≠ iT := fun e => by rw [e, h9] at h11; cases h11
  exact ⟨⟨by rw [List.getElem?_set_ne n1]; exact h1, h2, h3, h4, h5, h6, by rw [List.getElem?_set_ne n2]; exact h7, by rw [List.getElem?_set_ne n3]; exact h8, by rw [List.getElem?_set_ne n4]; exact h9, ⟨g1, by rw [List.getElem?_set_ne (Ne.symm h12)]; exact h10⟩, ⟨g, List.getElem?_set_self (List.getElem?_eq_some_iff.mp h11).1⟩, h12⟩, List.length_set, fun i _ b => List.getElem?_set_ne (Ne.symm b)⟩
theorem zpushes (H : zGoH j iO iF iT iL iM vs fo ff ft hp) (hO : ∀ k, k < 10 → -1 ≤ (fo k).toInt ∧ (fo k).toInt ≤ 8) {k : Nat} (hk : k < 10) (l m : Int64) : zWP lk Lx xs 203 (0, lv_args 0 [.ref j, .int (Int32.ofInt (k : Int)), .long l, .long m], [], hp, 0, 0) (fun rv hp' => rv = none ∧ zGoH j iO iF iT iL iM vs fo ff ft hp' ∧ zGo1 iL iM hp hp') := by
  obtain ⟨h1, h2, h3, h4, h5, h6, h7, h8, h9, ⟨gl, h10⟩, ⟨gm, h11⟩, h12⟩ := id H
  have hkc : (Int32.ofInt (k : Int)).toNatClampNeg = k := zof_cl (by omega)
  refine zs0 (by rfl) rfl rfl ?_
  refine zs_get (by rfl) h1 h2 ?_
  refine zs0 (by rfl) rfl rfl ?_
  refine zs_aldI (by rfl) h7 (zof_in hk (by decide)) ?_
  refine zs_if (by rfl) (t := 10) (by rfl) (fun hb => ?_) (fun hb => ?_)
  · have hx : zin (fo (Int32.ofInt (k : Int)).toNatClampNeg) 9 = true := by
      have hb : decide (0 ≤ fo (Int32.ofInt (k : Int)).toNatClampNeg) = true := hb
      rw [decide_eq_true_eq, Int32.le_iff_toInt_le] at hb
      rw [hkc] at hb ⊢
      have := hO k hk
      have e : (0 : Int32).toInt = 0 := rfl
      exact zin_of (by omega) (by omega)
    refine zs0 (by rfl) rfl rfl ?_
    refine zs_get (by rfl) h1 h5 ?_
    refine zs0 (by rfl) rfl rfl ?_
    refine zs_get (by rfl) h1 h2 ?_
    refine zs0 (by rfl) rfl rfl ?_
    refine zs_aldI (by rfl) h7 (zof_in hk (by decide)) ?_
    refine zs0 (by rfl) rfl rfl ?_
    refine zs_aldL (by rfl) h10 hx ?_
    refine zs0 (by rfl) rfl rfl ?_
    refine zs0 (by rfl) rfl rfl ?_
    refine zs_astL (by rfl) h10 hx ?_
    obtain ⟨H1, G1⟩ := H.setL (va_up gl (fo (Int32.ofInt (k : Int)).toNatClampNeg).toNatClampNeg (gl (fo (Int32.ofInt (k : Int)).toNatClampNeg).toNatClampNeg + l))
    obtain ⟨k1, -, -, -, -, -, k7, -, -, -, ⟨gm1, k11⟩, -⟩ := id H1
    refine zs0 (by rfl) rfl rfl ?_
    refine zs_get (by rfl) k1 h6 ?_
    refine zs0 (by rfl) rfl rfl ?_
    refine zs_get (by rfl) k1 h2 ?_
    refine zs0 (by rfl) rfl rfl ?_
    refine zs_aldI (by rfl) k7 (zof_in hk (by decide)) ?_
    refine zs0 (by rfl) rfl rfl ?_
    refine zs_aldL (by rfl) k11 hx ?_
    refine zs0 (by rfl) rfl rfl ?_
    refine zs0 (by rfl) rfl rfl ?_
    refine zs_astL (by rfl) k11 hx ?_
    obtain ⟨H2, G2⟩ := H1.setM (va_up gm1 (fo (Int32.ofInt (k : Int)).toNatClampNeg).toNatClampNeg (gm1 (fo (Int32.ofInt (k : Int)).toNatClampNeg).toNatClampNeg + m))
    exact zs_retV (by rfl) ⟨rfl, H2, G1.trans G2⟩
  · exact zs_retV (by rfl) ⟨rfl, H, zGo1.refl _ _ _⟩
/-- what goesOn ends with -/
def zGoQ (j iO iF iT iL iM : Nat) (vs : List Value) (fo ff ft : Nat → Int32) (hp : List zhE) : ZP := fun rv hp' => ∃ x : Int32, rv = some (.int x) ∧ 0 ≤ x.toInt ∧ x.toInt ≤ 2 ∧ zGoH j iO iF iT iL iM vs fo ff ft hp' ∧ zGo1 iL iM hp hp'
def zgA (ff : Nat → Int32) (l : Int64) (i : Nat) : Int64 := l * (ff i).toInt64
/-- between an edge: neither before its begin nor behind its end -/
def zgOut (ff ft : Nat → Int32) (l m : Int64) (i : Nat) : Prop := m < zgA ff l i ∨ zgA ft l i < m
theorem zlc_lt {x y : Int64} : zcb .lt (lg_cmp x y) 0 = true ↔ x < y := by
  have h := zb_cmp x y
  have e : zcb .lt (lg_cmp x y) 0 = decide (lg_cmp x y < 0) := rfl
  rw [e, decide_eq_true_eq, Int32.lt_iff_toInt_lt, Int64.lt_iff_toInt_lt]
  have e0 : (0 : Int32).toInt = 0 := rfl
  omega
theorem zlc_le {x y : Int64} : zcb .le (lg_cmp x y) 0 = true ↔ x ≤ y := by
  have h := zb_cmp x y
  have e : zcb .le (lg_cmp x y) 0 = decide (lg_cmp x y ≤ 0) := rfl
  rw [e, decide_eq_true_eq, Int32.le_iff_toInt_le, Int64.le_iff_toInt_le]
  have e0 : (0 : Int32).toInt = 0 := rfl
  omega
theorem zlc_ge {x y : Int64} : zcb .ge (lg_cmp x y) 0 = true ↔ y ≤ x := by
  have h := zb_cmp x y
  have e : zcb .ge (lg_cmp x y) 0 = decide (0 ≤ lg_cmp x y) := rfl
  rw [e, decide_eq_true_eq, Int32.le_iff_toInt_le, Int64.le_iff_toInt_le]
  have e0 : (0 : Int32).toInt = 0 := rfl
  omega
theorem zgnot {b : Bool} {p : Prop} (h : b = true ↔ p) (hb : b = false) : ¬ p := fun q => by rw [h.mpr q] at hb; cases hb
theorem zof_dn {e : Nat} (h : 1 ≤ e) (h2 : e < 100000) : Int32.ofInt (e : Int) - Int32.ofInt 1 = Int32.ofInt ((e - 1 : Nat) : Int) := by
  apply Int32.toInt_inj.1
  have e1 : (Int32.ofInt 1).toInt = 1 := by decide
  rw [zof_ix (by omega), zb_sub (by rw [zof_ix h2, e1]; omega) (by rw [zof_ix h2, e1]; omega), zof_ix h2, e1]
  omega
abbrev zgLo (i : Nat) (j : Nat) (t w : Int32) (l m : Int64) : zL := [(7, .int (Int32.ofInt (i : Int))), (5, .long m), (3, .long l), (0, .ref j), (1, .int t), (2, .int w)]
theorem zgo1 (H : zGoH j iO iF iT iL iM vs fo ff ft hp) (hO : ∀ k, k < 10 → -1 ≤ (fo k).toInt ∧ (fo k).toInt ≤ 8) {e : Nat} (he : e ≤ 10) (hev : vs[48]? = some (.int (Int32.ofInt (e : Int)))) {t w : Int32} {l m : Int64} (hend : ∀ rv hp', zGoQ j iO iF iT iL iM vs fo ff ft hp rv hp' → Q rv hp')
    (hnext : (∀ k, k < e → zgOut ff ft l m k) → zWP lk Lx xs 204 (88, zgLo e j t w l m, [], hp, 0, 0) Q) : ∀ (d i : Nat), i + d = e → (∀ k, k < i → zgOut ff ft l m k) → zWP lk Lx xs 204 (27, zgLo i j t w l m, [], hp, 0, 0) Q := by
  obtain ⟨h1, h2, h3, h4, h5, h6, h7, h8, h9, -, -, -⟩ := id H
  intro d
  induction d with
  | zero =>
    intro i hi hout
    have hi : i = e := by omega
    subst hi
    refine zs0 (by rfl) rfl rfl ?_
    refine zs0 (by rfl) rfl rfl ?_
    refine zs_get (by rfl) h1 hev ?_
    refine zs_icmp (by rfl) (t := 88) (by rfl) (fun _ => hnext hout) (fun hb => ?_)
    have hb : decide (Int32.ofInt (i : Int) ≤ Int32.ofInt (i : Int)) = false := hb
    rw [decide_eq_false_iff_not, Int32.le_iff_toInt_le] at hb
    omega
  | succ d ih =>
    intro i hi hout
    have hix : (Int32.ofInt (i : Int)).toNatClampNeg = i := zof_cl (by omega)
    have go : zgOut ff ft l m i → zWP lk Lx xs 204 (82, zgLo i j t w l m, [], hp, 0, 0) Q := by
      intro ho
      refine zs0 (by rfl) rfl rfl ?_
      refine zs0 (by rfl) rfl rfl ?_
      have hn := ih (i + 1) (by omega) (fun k hk => by
        by_cases q : k = i
        · rw [q]; exact ho
        · exact hout k (by omega))
      rw [zgLo, ← zof_up] at hn
      exact hn
    refine zs0 (by rfl) rfl rfl ?_
    refine zs0 (by rfl) rfl rfl ?_
    refine zs_get (by rfl) h1 hev ?_
    refine zs_icmp (by rfl) (t := 88) (by rfl) (fun hb => ?_) (fun hb => ?_)
    · have hb : decide (Int32.ofInt (e : Int) ≤ Int32.ofInt (i : Int)) = true := hb
      rw [decide_eq_true_eq, Int32.le_iff_toInt_le, zof_ix (by omega), zof_ix (by omega)] at hb
      omega
    · iterate 3 refine zs0 (by rfl) rfl rfl ?_
      refine zs_get (by rfl) h1 h3 ?_
      refine zs0 (by rfl) rfl rfl ?_
      refine zs_aldI (by rfl) h8 (zof_in (by omega) (by decide)) ?_
      iterate 3 refine zs0 (by rfl) rfl rfl ?_
      refine zs_if (by rfl) (t := 82) (by rfl) (fun hb => ?_) (fun hb => ?_)
      · have q := zlc_lt.mp hb
        rw [hix] at q
        exact go (Or.inl q)
      · iterate 3 refine zs0 (by rfl) rfl rfl ?_
        refine zs_get (by rfl) h1 h4 ?_
        refine zs0 (by rfl) rfl rfl ?_
        refine zs_aldI (by rfl) h9 (zof_in (by omega) (by decide)) ?_
        iterate 3 refine zs0 (by rfl) rfl rfl ?_
        refine zs_if (by rfl) (t := 71) (by rfl) (fun hb2 => ?_) (fun hb2 => ?_)
        · iterate 4 refine zs0 (by rfl) rfl rfl ?_
          refine zs_virt (vs := [.int (Int32.ofInt (i : Int)), .long l, .long m]) (by rfl) rfl h1 (by rfl) (Nat.le_of_ble_eq_true (by rfl)) (Nat.le_of_ble_eq_true (by rfl)) (by decide +kernel) (by decide +kernel) (zpushes H hO (by omega) l m) ?_
          rintro rv hp' ⟨rfl, H2, G2⟩
          refine zs0 (by rfl) rfl rfl ?_
          exact zs_retI (by rfl) (hend _ _ ⟨_, rfl, by decide, by decide, H2, G2⟩)
        · refine zs0 (by rfl) rfl rfl ?_
          have q := zgnot zlc_le hb2
          rw [hix, Int64.not_le] at q
          exact go (Or.inr q)
abbrev zgLp (i : Nat) (j : Nat) (t w : Int32) (l m : Int64) : zL := [(9, .int (Int32.ofInt (i : Int))), (8, .int 0), (7, .int 0), (5, .long m), (3, .long l), (0, .ref j), (1, .int t), (2, .int w)]
theorem zsub0 {x y : Int32} (h : (x - y).toInt64 = 0) : x = y := by
  have h2 := congrArg Int64.toInt h
  rw [Int32.toInt_toInt64] at h2
  have h3 : x - y = 0 := Int32.toInt_inj.1 h2
  rw [← Int32.sub_add_cancel x y, h3, Int32.zero_add]
theorem zgo2 (H : zGoH j iO iF iT iL iM vs fo ff ft hp) (hO : ∀ k, k < 10 → -1 ≤ (fo k).toInt ∧ (fo k).toInt ≤ 8) {e : Nat} (he : e ≤ 10) {t w : Int32} {l m : Int64} (hend : ∀ rv hp', zGoQ j iO iF iT iL iM vs fo ff ft hp rv hp' → Q rv hp')
    (hout : ∀ k, k < e → zgOut ff ft l m k) (hlast : m ≤ zgA ft l (e - 1)) : ∀ (d i : Nat), i + d + 1 = e → zgA ff l i ≤ m → zWP lk Lx xs 204 (206, zgLp i j t w l m, [], hp, 0, 0) Q := by
  obtain ⟨h1, h2, h3, h4, h5, h6, h7, h8, h9, -, -, -⟩ := id H
  have beh : ∀ i, i < e → zgA ff l i ≤ m → zgA ft l i < m := fun i hi hm => by
    rcases hout i hi with q | q
    · exact absurd hm (Int64.not_le.mpr q)
    · exact q
  intro d
  induction d with
  | zero =>
    intro i hi hm
    have q := beh i (by omega) hm
    rw [show i = e - 1 by omega] at q
    exact absurd hlast (Int64.not_le.mpr q)
  | succ d ih =>
    intro i hi hm
    have hix : (Int32.ofInt (i : Int)).toNatClampNeg = i := zof_cl (by omega)
    have hix1 : (Int32.ofInt (i : Int) + Int32.ofInt 1).toNatClampNeg = i + 1 := by rw [zof_up]; exact zof_cl (by omega)
    have hin1 : zin (Int32.ofInt (i : Int) + Int32.ofInt 1) 10 = true := by rw [zof_up]; exact zof_in (by omega) (by decide)
    iterate 3 refine zs0 (by rfl) rfl rfl ?_
    refine zs_get (by rfl) h1 h3 ?_
    iterate 2 refine zs0 (by rfl) rfl rfl ?_
    refine zs_add (by rfl) ?_
    rw [zof_up]
    refine zs_aldN (by rfl) h8 (by omega) (by decide) ?_
    iterate 3 refine zs0 (by rfl) rfl rfl ?_
    refine zs_if (by rfl) (t := 230) (by rfl) (fun hb => ?_) (fun hb => ?_)
    · have q := zlc_le.mp hb
      have q2 := beh i (by omega) hm
      have hd : (ff (i + 1) - ft i).toInt64 ≠ 0 := by
        intro hz
        have e2 := zsub0 hz
        have q3 : m ≤ l * (ff (i + 1)).toInt64 := q
        rw [e2] at q3
        exact absurd q3 (Int64.not_le.mpr q2)
      iterate 3 refine zs0 (by rfl) rfl rfl ?_
      refine zs_get (by rfl) h1 h4 ?_
      refine zs0 (by rfl) rfl rfl ?_
      refine zs_aldN (by rfl) h9 (by omega) (by decide) ?_
      iterate 4 refine zs0 (by rfl) rfl rfl ?_
      refine zs_get (by rfl) h1 h3 ?_
      iterate 2 refine zs0 (by rfl) rfl rfl ?_
      refine zs_add (by rfl) ?_
      rw [zof_up]
      refine zs_aldN (by rfl) h8 (by omega) (by decide) ?_
      refine zs0 (by rfl) rfl rfl ?_
      refine zs_get (by rfl) h1 h4 ?_
      refine zs0 (by rfl) rfl rfl ?_
      refine zs_aldN (by rfl) h9 (by omega) (by decide) ?_
      iterate 2 refine zs0 (by rfl) rfl rfl ?_
      refine zs_ldiv (by rfl) hd ?_
      refine zs0 (by rfl) rfl rfl ?_
      iterate 3 refine zs0 (by rfl) rfl rfl ?_
      refine zs_add (by rfl) ?_
      rw [zof_up]
      iterate 3 refine zs0 (by rfl) rfl rfl ?_
      refine zs_get (by rfl) h1 h3 ?_
      iterate 2 refine zs0 (by rfl) rfl rfl ?_
      refine zs_add (by rfl) ?_
      rw [zof_up]
      refine zs_aldN (by rfl) h8 (by omega) (by decide) ?_
      iterate 2 refine zs0 (by rfl) rfl rfl ?_
      refine zs_virt (vs := [.int (Int32.ofInt ((i + 1 : Nat) : Int)), .long _, .long _]) (by rfl) rfl h1 (by rfl) (Nat.le_of_ble_eq_true (by rfl)) (Nat.le_of_ble_eq_true (by rfl)) (by decide +kernel) (by decide +kernel) (zpushes H hO (by omega) _ _) ?_
      rintro rv hp1 ⟨rfl, H2, G2⟩
      obtain ⟨k1, -, k3, k4, -, -, -, k8, k9, -, -, -⟩ := id H2
      iterate 9 refine zs0 (by rfl) rfl rfl ?_
      refine zs_get (by rfl) k1 k4 ?_
      refine zs0 (by rfl) rfl rfl ?_
      refine zs_aldN (by rfl) k9 (by omega) (by decide) ?_
      iterate 2 refine zs0 (by rfl) rfl rfl ?_
      refine zs_virt (vs := [.int (Int32.ofInt (i : Int)), .long _, .long _]) (by rfl) rfl k1 (by rfl) (Nat.le_of_ble_eq_true (by rfl)) (Nat.le_of_ble_eq_true (by rfl)) (by decide +kernel) (by decide +kernel) (zpushes H2 hO (by omega) _ _) ?_
      rintro rv hp2 ⟨rfl, H3, G3⟩
      refine zs0 (by rfl) rfl rfl ?_
      exact zs_retI (by rfl) (hend _ _ ⟨_, rfl, by decide, by decide, H3, G2.trans G3⟩)
    · have q := zgnot zlc_le hb
      rw [Int64.not_le] at q
      refine zs0 (by rfl) rfl rfl ?_
      refine zs0 (by rfl) rfl rfl ?_
      have hn := ih (i + 1) (by omega) (Int64.le_of_lt q)
      rw [zgLp, ← zof_up] at hn
      exact hn
theorem zgo3 (H : zGoH j iO iF iT iL iM vs fo ff ft hp) (hO : ∀ k, k < 10 → -1 ≤ (fo k).toInt ∧ (fo k).toInt ≤ 8) {e : Nat} (he0 : 1 ≤ e) (he : e ≤ 10) (hev : vs[48]? = some (.int (Int32.ofInt (e : Int)))) {t w : Int32} {l m : Int64} (hend : ∀ rv hp', zGoQ j iO iF iT iL iM vs fo ff ft hp rv hp' → Q rv hp')
    (hout : ∀ k, k < e → zgOut ff ft l m k) : zWP lk Lx xs 204 (88, zgLo e j t w l m, [], hp, 0, 0) Q := by
  obtain ⟨h1, h2, h3, h4, h5, h6, h7, h8, h9, -, -, -⟩ := id H
  have hz : (Int32.ofInt 0).toNatClampNeg = 0 := by decide
  -- the second test, whatever the first gave
  have second : ∀ (b : Int32), (b = 0 ∨ b = 1) → (b = 0 → zgA ff l 0 ≤ m) → zWP lk Lx xs 204 (108, zgLo e j t w l m, [.int b], hp, 0, 0) Q := by
    intro b hb01 hbm
    have third : ∀ (b2 : Int32), (b2 = 0 ∨ b2 = 1) → (b2 = 0 → m ≤ zgA ft l (e - 1)) → zWP lk Lx xs 204 (135, [(7, .int b), (5, .long m), (3, .long l), (0, .ref j), (1, .int t), (2, .int w)], [.int b2], hp, 0, 0) Q := by
      intro b2 hb2 hbm2
      refine zs0 (by rfl) rfl rfl ?_
      have push0 : zWP lk Lx xs 204 (147, [(8, .int b2), (7, .int b), (5, .long m), (3, .long l), (0, .ref j), (1, .int t), (2, .int w)], [], hp, 0, 0) Q := by
        refine zs0 (by rfl) rfl rfl ?_
        refine zs_if (by rfl) (t := 153) (by rfl) (fun hw => ?_) (fun hw => ?_)
        · refine zs0 (by rfl) rfl rfl ?_
          refine zs_if (by rfl) (t := 176) (by rfl) (fun hq => ?_) (fun hq => ?_)
          · iterate 2 refine zs0 (by rfl) rfl rfl ?_
            refine zs_get (by rfl) h1 hev ?_
            refine zs0 (by rfl) rfl rfl ?_
            refine zs_sub (by rfl) ?_
            rw [zof_dn he0 (by omega)]
            iterate 3 refine zs0 (by rfl) rfl rfl ?_
            refine zs_get (by rfl) h1 h4 ?_
            refine zs0 (by rfl) rfl rfl ?_
            refine zs_get (by rfl) h1 hev ?_
            refine zs0 (by rfl) rfl rfl ?_
            refine zs_sub (by rfl) ?_
            rw [zof_dn he0 (by omega)]
            refine zs_aldN (by rfl) h9 (by omega) (by decide) ?_
            iterate 2 refine zs0 (by rfl) rfl rfl ?_
            refine zs_virt (vs := [.int (Int32.ofInt ((e - 1 : Nat) : Int)), .long _, .long _]) (by rfl) rfl h1 (by rfl) (Nat.le_of_ble_eq_true (by rfl)) (Nat.le_of_ble_eq_true (by rfl)) (by decide +kernel) (by decide +kernel) (zpushes H hO (by omega) _ _) ?_
            rintro rv hp1 ⟨rfl, H2, G2⟩
            refine zs0 (by rfl) rfl rfl ?_
            exact zs_retI (by rfl) (hend _ _ ⟨_, rfl, by decide, by decide, H2, G2⟩)
          · iterate 5 refine zs0 (by rfl) rfl rfl ?_
            refine zs_get (by rfl) h1 h3 ?_
            refine zs0 (by rfl) rfl rfl ?_
            refine zs_aldI (by rfl) h8 (by decide) ?_
            iterate 2 refine zs0 (by rfl) rfl rfl ?_
            refine zs_virt (vs := [.int (Int32.ofInt ((0 : Nat) : Int)), .long _, .long _]) (by rfl) rfl h1 (by rfl) (Nat.le_of_ble_eq_true (by rfl)) (Nat.le_of_ble_eq_true (by rfl)) (by decide +kernel) (by decide +kernel) (zpushes H hO (by omega) _ _) ?_
            rintro rv hp1 ⟨rfl, H2, G2⟩
            refine zs0 (by rfl) rfl rfl ?_
            refine zs0 (by rfl) rfl rfl ?_
            exact zs_retI (by rfl) (hend _ _ ⟨_, rfl, by decide, by decide, H2, G2⟩)
        · refine zs0 (by rfl) rfl rfl ?_
          exact zs_retI (by rfl) (hend _ _ ⟨_, rfl, by decide, by decide, H, zGo1.refl _ _ _⟩)
      refine zs0 (by rfl) rfl rfl ?_
      refine zs_if (by rfl) (t := 147) (by rfl) (fun _ => push0) (fun hq => ?_)
      refine zs0 (by rfl) rfl rfl ?_
      refine zs_if (by rfl) (t := 203) (by rfl) (fun hq2 => ?_) (fun _ => push0)
      have e1 : b = 0 := by
        rcases hb01 with q | q
        · exact q
        · rw [q] at hq; exact absurd hq (by decide)
      have e2 : b2 = 0 := by
        rcases hb2 with q | q
        · exact q
        · rw [q] at hq2; exact absurd hq2 (by decide)
      subst e1; subst e2
      refine zs0 (by rfl) rfl rfl ?_
      refine zs0 (by rfl) rfl rfl ?_
      exact zgo2 H hO he hend hout (hbm2 rfl) (e - 1) 0 (by omega) (hbm rfl)
    refine zs0 (by rfl) rfl rfl ?_
    iterate 3 refine zs0 (by rfl) rfl rfl ?_
    refine zs_get (by rfl) h1 h4 ?_
    refine zs0 (by rfl) rfl rfl ?_
    refine zs_get (by rfl) h1 hev ?_
    refine zs0 (by rfl) rfl rfl ?_
    refine zs_sub (by rfl) ?_
    rw [zof_dn he0 (by omega)]
    refine zs_aldN (by rfl) h9 (by omega) (by decide) ?_
    iterate 3 refine zs0 (by rfl) rfl rfl ?_
    refine zs_if (by rfl) (t := 134) (by rfl) (fun hb => ?_) (fun hb => ?_)
    · have q := zlc_le.mp hb
      refine zs0 (by rfl) rfl rfl ?_
      exact third _ (Or.inl (by decide)) (fun _ => q)
    · iterate 2 refine zs0 (by rfl) rfl rfl ?_
      exact third _ (Or.inr (by decide)) (fun q => absurd q (by decide))
  iterate 3 refine zs0 (by rfl) rfl rfl ?_
  refine zs_get (by rfl) h1 h3 ?_
  refine zs0 (by rfl) rfl rfl ?_
  refine zs_aldI (by rfl) h8 (by decide) ?_
  iterate 3 refine zs0 (by rfl) rfl rfl ?_
  refine zs_if (by rfl) (t := 107) (by rfl) (fun hb => ?_) (fun hb => ?_)
  · have q := zlc_ge.mp hb
    rw [hz] at q
    refine zs0 (by rfl) rfl rfl ?_
    exact second _ (Or.inl (by decide)) (fun _ => q)
  · iterate 2 refine zs0 (by rfl) rfl rfl ?_
    exact second _ (Or.inr (by decide)) (fun q => absurd q (by decide))
theorem zuh_204 : zHolds lk Lx xs zu_204 := by
  intro η ρ hp av g1 g2 g3
  obtain ⟨p1, p2, p3, p4, p5, p6⟩ := g3
  obtain ⟨j, vs, a1, a2, a3⟩ := zcelO (i := 0) p3 (by rfl)
  obtain ⟨iO, fO, b1, b2, ⟨fo, rfl⟩, b4⟩ := zcell (i := 18) p3 (by rfl)
  obtain ⟨iF, fF, c1, c2, ⟨ff, rfl⟩, c4⟩ := zcell (i := 19) p3 (by rfl)
  obtain ⟨iT, fT, d1, d2, ⟨ft, rfl⟩, d4⟩ := zcell (i := 20) p3 (by rfl)
  obtain ⟨iL, fL, e1, e2, ⟨gl, rfl⟩, e4⟩ := zcell (i := 21) p3 (by rfl)
  obtain ⟨iM, fM, f1, f2, ⟨gm, rfl⟩, f4⟩ := zcell (i := 22) p3 (by rfl)
  have v45 := zfldR (b := 45) a3 (by rfl) b1
  have v46 := zfldR (b := 46) a3 (by rfl) c1
  have v47 := zfldR (b := 47) a3 (by rfl) d1
  have v49 := zfldR (b := 49) a3 (by rfl) e1
  have v50 := zfldR (b := 50) a3 (by rfl) f1
  obtain ⟨ev, v48, -, ev0, ev1⟩ := zfldI (b := 48) a3 (by rfl) p4 (by rfl)
  have hLM : iL ≠ iM := fun q => by
    have := g2.1 21 22 iL e1 (by rw [q]; exact f1)
    omega
  have H : zGoH j iO iF iT iL iM vs fo ff ft hp := ⟨a2, v45, v46, v47, v49, v50, b2, c2, d2, ⟨gl, e2⟩, ⟨gm, f2⟩, hLM⟩
  have hO : ∀ k, k < 10 → -1 ≤ (fo k).toInt ∧ (fo k).toInt ≤ 8 := fun k hk => zrow1 b4 hk
  match av, p2 with
  | [va, vb, vc], p2 =>
    obtain ⟨⟨j', hj', rfl⟩, ⟨t, rfl, ht⟩, ⟨w, rfl, hw⟩, -⟩ := p2
    have hj' : η[0]? = some j' := hj'
    cases a1.symm.trans hj'
    obtain ⟨t0, t1⟩ := zE_rng p4 (i := 0) (lo := 0) (hi := 8) rfl ht
    have htin : zin t 9 = true := zin_of t0 (by omega)
    obtain ⟨en, hen⟩ : ∃ en : Nat, ev.toInt = (en : Int) := ⟨ev.toInt.toNat, by omega⟩
    have hev : vs[48]? = some (.int (Int32.ofInt (en : Int))) := by rw [← zb_of hen]; exact v48
    have fin : ∀ rv hp', zGoQ j iO iF iT iL iM vs fo ff ft hp rv hp' → zPo zu_204 η ρ hp rv hp' := by
      rintro rv hp' ⟨x, rfl, x0, x1, H2, G2⟩
      obtain ⟨-, -, -, -, -, -, -, -, -, ⟨ql, q10⟩, ⟨qm, q11⟩, -⟩ := H2
      refine ⟨_, List.mem_cons_self, [x.toInt], ⟨fun q hq => absurd hq List.not_mem_nil, ⟨⟨x, rfl, zxr_s (zsnoc_at p4 rfl)⟩, trivial⟩, fun q hq => ?_, zaE_snoc p4 x0 x1, fun f hf => absurd hf List.not_mem_nil, fun o ho => ?_⟩, Nat.le_of_eq G2.1.symm, fun i hi hw => G2.2 i (fun e => hw 21 (by decide) (by rw [e]; exact e1)) (fun e => hw 22 (by decide) (by rw [e]; exact f1))⟩
      · rcases List.mem_cons.mp hq with rfl | hq
        · exact ⟨iL, _, e1, q10, _, rfl, ⟨_, rfl⟩, rfl, by decide, fun k hk q hq => by
            rw [Nat.mod_one] at hq
            cases hq
            exact zb_rngL _, fun e he => absurd he List.not_mem_nil⟩
        · rcases List.mem_cons.mp hq with rfl | hq
          · exact ⟨iM, _, f1, q11, _, rfl, ⟨_, rfl⟩, rfl, by decide, fun k hk q hq => by
              rw [Nat.mod_one] at hq
              cases hq
              exact zb_rngL _, fun e he => absurd he List.not_mem_nil⟩
          · exact absurd hq List.not_mem_nil
      · obtain ⟨jo, o1, o2⟩ := p6 o ho
        refine ⟨jo, o1, ?_⟩
        have hjo : jo = j := by
          have ho : o ∈ [0, 2000] := ho
          rcases List.mem_cons.mp ho with rfl | ho
          · exact Option.some.inj (o1.symm.trans a1)
          · rw [List.mem_singleton.mp ho] at o1
            exact Option.some.inj (o1.symm.trans a1)
        subst hjo
        have keep : ∀ c a, c ≠ 21 → c ≠ 22 → η[c]? = some a → hp'[a]? = hp[a]? := fun c a n1 n2 hc => G2.2 a (fun e => n1 (g2.1 c 21 a hc (by rw [e]; exact e1))) (fun e => n2 (g2.1 c 22 a hc (by rw [e]; exact f1)))
        have hj2 := keep 0 jo (by decide) (by decide) a1
        refine zOP_dep (fun b _ => zofi_same hj2) (fun b hb => ?_) o2
        have arr : ∀ c b, c ≠ 21 → c ≠ 22 → (zu_204.2.1.2.2.1[c]?).isSome → ∀ a, η[c]? = some a → vs[b]? = some (.ref a) → zofa hp' jo b = zofa hp jo b := fun c b n1 n2 _ a hc hv => zofa_same hj2 a2 hv (keep c a n1 n2 hc)
        have ho : o ∈ [0, 2000] := ho
        rcases List.mem_cons.mp ho with rfl | ho
        · have hb : b ∈ [24] := hb
          rw [List.mem_singleton.mp hb]
          obtain ⟨ih, fh, r1, -⟩ := zcell (i := 7) p3 (by rfl)
          exact arr 7 24 (by decide) (by decide) rfl ih r1 (zfldR (b := 24) a3 (by rfl) r1)
        · rw [List.mem_singleton.mp ho] at hb
          have hb : b ∈ [30, 31, 32] := hb
          rcases List.mem_cons.mp hb with rfl | hb
          · obtain ⟨ih, fh, r1, -⟩ := zcell (i := 13) p3 (by rfl)
            exact arr 13 30 (by decide) (by decide) rfl ih r1 (zfldR (b := 30) a3 (by rfl) r1)
          · rcases List.mem_cons.mp hb with rfl | hb
            · obtain ⟨ih, fh, r1, -⟩ := zcell (i := 14) p3 (by rfl)
              exact arr 14 31 (by decide) (by decide) rfl ih r1 (zfldR (b := 31) a3 (by rfl) r1)
            · rw [List.mem_singleton.mp hb]
              obtain ⟨ih, fh, r1, -⟩ := zcell (i := 15) p3 (by rfl)
              exact arr 15 32 (by decide) (by decide) rfl ih r1 (zfldR (b := 32) a3 (by rfl) r1)
    show zWP lk Lx xs 204 (0, [(0, .ref j), (1, .int t), (2, .int w)], [], hp, 0, 0) (zPo zu_204 η ρ hp)
    refine zs0 (by rfl) rfl rfl ?_
    refine zs_get (by rfl) a2 hev ?_
    refine zs_if (by rfl) (t := 9) (by rfl) (fun hb => ?_) (fun hb => ?_)
    · have he0 : 1 ≤ en := by
        have hb : (!decide (Int32.ofInt (en : Int) = 0)) = true := hb
        rw [Bool.not_eq_true', decide_eq_false_iff_not] at hb
        rcases Nat.eq_zero_or_pos en with q | q
        · exact absurd (by rw [q]; decide) hb
        · exact q
      refine zs0 (by rfl) rfl rfl ?_
      refine zs_get (by rfl) a2 v49 ?_
      refine zs0 (by rfl) rfl rfl ?_
      refine zs_aldL (by rfl) e2 htin ?_
      iterate 2 refine zs0 (by rfl) rfl rfl ?_
      refine zs_get (by rfl) a2 v50 ?_
      refine zs0 (by rfl) rfl rfl ?_
      refine zs_aldL (by rfl) f2 htin ?_
      iterate 3 refine zs0 (by rfl) rfl rfl ?_
      exact zgo1 H hO (by omega) hev fin (fun hout => zgo3 H hO he0 (by omega) hev fin hout) en 0 (by omega) (fun k hk => absurd hk (by omega))
    · refine zs0 (by rfl) rfl rfl ?_
      exact zs_retI (by rfl) (fin _ _ ⟨_, rfl, by decide, by decide, H, zGo1.refl _ _ _⟩)
  | [], p2 => exact p2.elim
  | [_], p2 => exact p2.2.elim
  | [_, _], p2 => exact p2.2.2.elim
  | _ :: _ :: _ :: _ :: _, p2 => exact p2.2.2.2.elim
end ZGO
