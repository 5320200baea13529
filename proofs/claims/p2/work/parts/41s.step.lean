/-! steps of the pure machine, one by one; what a start of the model's shape holds -/
def zatp (k pc : Nat) : Option zPE := (zrw k).1.find? (fun e => Nat.beq e.1 pc)
theorem zatp_ok {k pc : Nat} {e : zPE} (h : zatp k pc = some e) : e ∈ (zrw k).1 ∧ e.1 = pc := by
  unfold zatp at h
  refine ⟨List.mem_of_find?_eq_some h, ?_⟩
  have h2 := List.find?_some h
  exact Nat.eq_of_beq_eq_true h2
section ZST
variable {lk : ZLP} {Lx : Nat} {xs : Nat → Int32} {k : Nat} {pc : Nat} {L : zL} {st : List Value} {hp : List zhE} {c s : Nat} {Q : ZP}
theorem zs0 {e : zPE} {z' : zCF} (h : zatp k pc = some e) (hk : zkind e.2.1 e.2.2.1 e.2.2.2.1 e.2.2.2.2 = 0) (hz : zone pc L st hp c s Lx xs (zrw k).2.1 (zrm k) e.2.1 e.2.2.1 e.2.2.2.1 e.2.2.2.2 = some z') (hn : zWP lk Lx xs k z' Q) : zWP lk Lx xs k (pc, L, st, hp, c, s) Q := by
  obtain ⟨h1, h2⟩ := zatp_ok h
  refine zWP.step ⟨e, h1, h2, ?_⟩
  rw [hk]
  exact ⟨z', hz, hn⟩
theorem zs_get {p0 q a b j : Nat} {v : Int} {fs : List Value} {w : Value} (h : zatp k pc = some (p0, .getfield q, a, b, v)) (hc : hp[j]? = some (.inr (a, fs))) (hf : fs[b]? = some w) (hn : zWP lk Lx xs k (pc + 3, L, w :: st, hp, c, s) Q) : zWP lk Lx xs k (pc, L, .ref j :: st, hp, c, s) Q := by
  refine zs0 h rfl ?_ hn
  show zgf pc L (.ref j :: st) hp c s a b = _
  unfold zgf
  simp only [hc, Nat.beq_refl, hf]
theorem zs_if {p0 t : Nat} {cd : ClassFile.Cond} {off : Int} {a b : Nat} {v : Int} {x : Int32} (h : zatp k pc = some (p0, .ifCond cd off, a, b, v)) (ht : zJ pc off = some t) (h1 : zcb cd x 0 = true → zWP lk Lx xs k (t, L, st, hp, c, s) Q) (h2 : zcb cd x 0 = false → zWP lk Lx xs k (pc + 3, L, st, hp, c, s) Q) : zWP lk Lx xs k (pc, L, .int x :: st, hp, c, s) Q := by
  cases hb : zcb cd x 0 with
  | true =>
    refine zs0 h rfl ?_ (h1 hb)
    show zbr pc L hp c s off (zcb cd x 0) st = _
    unfold zbr
    rw [ht, hb]
    rfl
  | false =>
    refine zs0 h rfl ?_ (h2 hb)
    show zbr pc L hp c s off (zcb cd x 0) st = _
    unfold zbr
    rw [ht, hb]
    rfl
theorem zs_icmp {p0 t : Nat} {cd : ClassFile.Cond} {off : Int} {a b : Nat} {v : Int} {x y : Int32} (h : zatp k pc = some (p0, .if_icmp cd off, a, b, v)) (ht : zJ pc off = some t) (h1 : zcb cd x y = true → zWP lk Lx xs k (t, L, st, hp, c, s) Q) (h2 : zcb cd x y = false → zWP lk Lx xs k (pc + 3, L, st, hp, c, s) Q) : zWP lk Lx xs k (pc, L, .int y :: .int x :: st, hp, c, s) Q := by
  cases hb : zcb cd x y with
  | true =>
    refine zs0 h rfl ?_ (h1 hb)
    show zbr pc L hp c s off (zcb cd x y) st = _
    unfold zbr
    rw [ht, hb]
    rfl
  | false =>
    refine zs0 h rfl ?_ (h2 hb)
    show zbr pc L hp c s off (zcb cd x y) st = _
    unfold zbr
    rw [ht, hb]
    rfl
theorem zs_ret {p0 a b : Nat} {v : Int} {x : Int32} (h : zatp k pc = some (p0, .ireturn, a, b, v)) (hx : a = 0 ∨ x = 0 ∨ x = 1) (hq : Q (some (.int x)) hp) : zWP lk Lx xs k (pc, L, [.int x], hp, 0, 0) Q := by
  obtain ⟨h1, h2⟩ := zatp_ok h
  exact zWP.step ⟨_, h1, h2, Nat.zero_le _, Nat.zero_le _, x, rfl, hx, hq⟩
end ZST
theorem zE_rng {ρ : List Int} {E : LE} {i : Nat} {lo hi z : Int} (hE : zaE ρ E) (h : E[i]? = some (lo, hi)) (hz : zxr ρ (0, [(i, 1)]) z) : lo ≤ z ∧ z ≤ hi := by
  obtain ⟨x, h1, h2, h3⟩ := zaE_get hE h
  cases zxr_fun hz (zxr_s h1)
  exact ⟨h2, h3⟩
theorem zaE_snoc {ρ : List Int} {E : LE} {lo hi x : Int} (hE : zaE ρ E) (h1 : lo ≤ x) (h2 : x ≤ hi) : zaE (ρ ++ [x]) (E ++ [(lo, hi)]) := by
  obtain ⟨g2, g3⟩ := hE
  refine ⟨by simp [g2], fun i q y hq hy => ?_⟩
  by_cases e : i < ρ.length
  · rw [List.getElem?_append_left (by rw [g2]; exact e)] at hq
    rw [List.getElem?_append_left e] at hy
    exact g3 i q y hq hy
  · rw [List.getElem?_append_right (by rw [g2]; omega)] at hq
    rw [List.getElem?_append_right (by omega)] at hy
    by_cases e2 : i = ρ.length
    · subst e2
      rw [g2, Nat.sub_self] at hq
      rw [Nat.sub_self] at hy
      cases hq
      cases hy
      exact ⟨h1, h2⟩
    · have := (List.getElem?_eq_some_iff.mp hy).1
      simp at this
      omega
theorem zsnoc_at {ρ : List Int} {E : LE} {x : Int} {n : Nat} (hE : zaE ρ E) (hn : E.length = n) : (ρ ++ [x])[n]? = some x := by
  rw [← hn, hE.1]
  simp
theorem zshr0 {x m : Int32} (h0 : 0 ≤ m.toInt) (h9 : m.toInt ≤ 9) (hx : 0 ≤ x.toInt) (hz : x >>> (m &&& 31) = 0) : x.toInt ≤ 511 := by
  have key : ∀ (n : Int32) (d : Nat), m = n → ((2 ^ ((n &&& 31).toBitVec.smod 32).toNat : Nat)) = d → x.toInt / (d : Int) = 0 := by
    intro n d e hd
    subst e
    have h := congrArg Int32.toInt hz
    have e2 : (x >>> (m &&& 31)).toInt = x.toInt / ((2 ^ ((m &&& 31).toBitVec.smod 32).toNat : Nat) : Int) := by
      show (x.toBitVec.sshiftRight' ((m &&& 31).toBitVec.smod 32)).toInt = x.toBitVec.toInt / _
      rw [BitVec.toInt_sshiftRight', Int.shiftRight_eq_div_pow]
    rw [e2, hd] at h
    exact h
  have hm : m.toInt = 0 ∨ m.toInt = 1 ∨ m.toInt = 2 ∨ m.toInt = 3 ∨ m.toInt = 4 ∨ m.toInt = 5 ∨ m.toInt = 6 ∨ m.toInt = 7 ∨ m.toInt = 8 ∨ m.toInt = 9 := by omega
  rcases hm with h | h | h | h | h | h | h | h | h | h
  · have := key 0 1 (Int32.toInt_inj.1 h) (by decide); omega
  · have := key 1 2 (Int32.toInt_inj.1 h) (by decide); omega
  · have := key 2 4 (Int32.toInt_inj.1 h) (by decide); omega
  · have := key 3 8 (Int32.toInt_inj.1 h) (by decide); omega
  · have := key 4 16 (Int32.toInt_inj.1 h) (by decide); omega
  · have := key 5 32 (Int32.toInt_inj.1 h) (by decide); omega
  · have := key 6 64 (Int32.toInt_inj.1 h) (by decide); omega
  · have := key 7 128 (Int32.toInt_inj.1 h) (by decide); omega
  · have := key 8 256 (Int32.toInt_inj.1 h) (by decide); omega
  · have := key 9 512 (Int32.toInt_inj.1 h) (by decide); omega
theorem zuh_210 {lk : ZLP} {Lx : Nat} {xs : Nat → Int32} : zHolds lk Lx xs zu_210 := by
  intro η ρ hp av h1 h2 h3
  obtain ⟨p1, p2, p3, p4, p5, p6⟩ := h3
  match av, p2 with
  | [v0, v1], p2 =>
    obtain ⟨⟨j, hj, rfl⟩, ⟨x, rfl, hx⟩, -⟩ := p2
    obtain ⟨j', c0, g1, g2, g3⟩ := p3 _ List.mem_cons_self
    cases hj.symm.trans g1
    obtain ⟨vs, rfl, g4⟩ := g3
    obtain ⟨w, g5, g6⟩ := zAll_get (i := 12) g4 rfl
    obtain ⟨m, rfl, hm⟩ := g6
    obtain ⟨m0, m9⟩ := zE_rng p4 (i := 11) (lo := 0) (hi := 9) rfl hm
    have fin0 : zPo zu_210 η ρ hp (some (.int 0)) hp := by
      refine ⟨_, List.mem_cons_of_mem _ List.mem_cons_self, [0], ⟨fun q hq => absurd hq List.not_mem_nil, ⟨⟨0, rfl, zxr_s (zsnoc_at p4 rfl)⟩, trivial⟩, fun q hq => absurd hq List.not_mem_nil, zaE_snoc p4 (by decide) (by decide), fun f hf => absurd hf List.not_mem_nil, fun o ho => absurd ho List.not_mem_nil⟩, Nat.le_refl _, fun i _ _ => rfl⟩
    have fin1 : 0 ≤ x.toInt → x.toInt ≤ 511 → zPo zu_210 η ρ hp (some (.int 1)) hp := by
      intro q1 q2
      have hx' := zxr_mono (l := [1]) hx
      refine ⟨_, List.mem_cons_self, [1], ⟨fun q hq => absurd hq List.not_mem_nil, ⟨⟨1, rfl, zxr_s (zsnoc_at p4 rfl)⟩, trivial⟩, fun q hq => absurd hq List.not_mem_nil, zaE_snoc p4 (by decide) (by decide), fun f hf => ?_, fun o ho => absurd ho List.not_mem_nil⟩, Nat.le_refl _, fun i _ _ => rfl⟩
      rcases List.mem_cons.mp hf with rfl | hf
      · exact ⟨_, hx', q1⟩
      · rcases List.mem_cons.mp hf with rfl | hf
        · obtain ⟨d, d1, d2⟩ := zaE_get (i := 0) p4 rfl
          have e0 := zxr_fun hx (zxr_s d1)
          have d3 : (ρ ++ [1])[0]? = some d := by
            rw [List.getElem?_append_left (List.getElem?_eq_some_iff.mp d1).1]
            exact d1
          refine ⟨511 - d, ⟨-d, ⟨d, 0, d3, rfl, by omega⟩, by omega⟩, by omega⟩
        · exact absurd hf List.not_mem_nil
    show zWP lk Lx xs 210 (0, [(0, .ref j), (1, .int x)], [], hp, 0, 0) (zPo zu_210 η ρ hp)
    refine zs0 (by rfl) rfl rfl ?_
    refine zs_if (by rfl) (t := 17) (by rfl) (fun hb => ?_) (fun hb => ?_)
    · refine zs0 (by rfl) rfl rfl ?_
      exact zs_ret (by rfl) (Or.inr (Or.inl rfl)) fin0
    · refine zs0 (by rfl) rfl rfl ?_
      refine zs0 (by rfl) rfl rfl ?_
      refine zs_get (by rfl) g2 g5 ?_
      refine zs0 (by rfl) rfl rfl ?_
      refine zs_if (by rfl) (t := 17) (by rfl) (fun hb2 => ?_) (fun hb2 => ?_)
      · refine zs0 (by rfl) rfl rfl ?_
        exact zs_ret (by rfl) (Or.inr (Or.inl rfl)) fin0
      · refine zs0 (by rfl) rfl rfl ?_
        refine zs0 (by rfl) rfl rfl ?_
        refine zs_ret (by rfl) (Or.inr (Or.inr rfl)) (fin1 ?_ ?_)
        · have hb : decide (x < 0) = false := hb
          rw [decide_eq_false_iff_not, Int32.lt_iff_toInt_lt] at hb
          have e : (0 : Int32).toInt = 0 := rfl
          omega
        · have hb : decide (x < 0) = false := hb
          rw [decide_eq_false_iff_not, Int32.lt_iff_toInt_lt] at hb
          have e : (0 : Int32).toInt = 0 := rfl
          have hb2 : (!decide (x >>> (m &&& 31) = 0)) = false := hb2
          rw [Bool.not_eq_false', decide_eq_true_eq] at hb2
          exact zshr0 m0 m9 (by omega) hb2
  | [], p2 => exact p2.elim
  | [_], p2 => exact p2.2.elim
  | _ :: _ :: _ :: _, p2 => exact p2.2.2.elim
