/-! a contract held value by value of one of its symbols -/
def zctE (C : CT) (i : Nat) (a b : Int) : CT := (C.1, (C.2.1.1, C.2.1.2.1, C.2.1.2.2.1, C.2.1.2.2.2.1.set i (a, b), C.2.1.2.2.2.2.1, C.2.1.2.2.2.2.2), C.2.2.1, C.2.2.2.1, C.2.2.2.2)
theorem zHolds_split {lk : ZLP} {Lx : Nat} {xs : Nat → Int32} {C : CT} {i : Nat} {lo hi : Int} (vs : List (Int × Int)) (hE : C.2.1.2.2.2.1[i]? = some (lo, hi)) (hv : ∀ v : Int, lo ≤ v → v ≤ hi → ∃ r ∈ vs, r.1 ≤ v ∧ v ≤ r.2) (h : ∀ r ∈ vs, zHolds lk Lx xs (zctE C i r.1 r.2)) : zHolds lk Lx xs C := by
  intro η ρ hp av h1 h2 h3
  obtain ⟨p1, p2, p3, ⟨e1, e2⟩, p5, p6⟩ := h3
  have hi' : i < C.2.1.2.2.2.1.length := (List.getElem?_eq_some_iff.mp hE).1
  have hlt : i < ρ.length := by rw [← e1]; exact hi'
  obtain ⟨b1, b2⟩ := e2 i (lo, hi) ρ[i] hE (List.getElem?_eq_getElem hlt)
  obtain ⟨r, hr, r1, r2⟩ := hv _ b1 b2
  refine h r hr η ρ hp av h1 h2 ⟨p1, p2, p3, ⟨?_, ?_⟩, p5, p6⟩
  · show (C.2.1.2.2.2.1.set i (r.1, r.2)).length = ρ.length
    rw [List.length_set]
    exact e1
  · intro j q x hq hx
    have hq : (C.2.1.2.2.2.1.set i (r.1, r.2))[j]? = some q := hq
    by_cases e : i = j
    · subst e
      rw [List.getElem?_set_self hi'] at hq
      cases hq
      rw [List.getElem?_eq_getElem hlt] at hx
      cases hx
      exact ⟨r1, r2⟩
    · rw [List.getElem?_set_ne e] at hq
      exact e2 j q x hq hx
/-! steps of the pure machine, one by one; what a start of the model's shape holds -/
def zatp (k pc : Nat) : Option zPE := (zrw k).1.find? (fun e => Nat.beq e.1 pc)
theorem zatp_ok {k pc : Nat} {e : zPE} (h : zatp k pc = some e) : e ∈ (zrw k).1 ∧ e.1 = pc := by
  unfold zatp at h
  refine ⟨List.mem_of_find?_eq_some h, ?_⟩
  have h2 := List.find?_some h
  exact Nat.eq_of_beq_eq_true h2
section ZST
variable {lk : ZLP} {Lx : Nat} {xs : Nat → Int32} {k : Nat} {pc : Nat} {L : zL} {st : List Value} {hp : List zhE} {c s : Nat} {Q : ZP}
theorem zs0 {e : zPE} {z' : zCF} (h : zatp k pc = some e) (hk : zkind e.2.1 e.2.2.1 e.2.2.2.1 e.2.2.2.2 = 0) (hz : zone pc L st hp c s Lx xs (zrw k).2.1 (zrm k) e.2.1 e.2.2.1 e.2.2.2.1 e.2.2.2.2 = some z') (hn : zWP lk Lx xs k z' Q) : zWP lk Lx xs k (pc, L, st, hp, c, s) Q := by
  obtain ⟨h1, h2⟩ := zatp_ok h
  refine zWP.step ⟨e, h1, h2, ?_⟩
  rw [hk]
  exact ⟨z', hz, hn⟩
theorem zs_get {p0 q a b j : Nat} {v : Int} {fs : List Value} {w : Value} (h : zatp k pc = some (p0, .getfield q, a, b, v)) (hc : hp[j]? = some (.inr (a, fs))) (hf : fs[b]? = some w) (hn : zWP lk Lx xs k (pc + 3, L, w :: st, hp, c, s) Q) : zWP lk Lx xs k (pc, L, .ref j :: st, hp, c, s) Q := by
  refine zs0 h rfl ?_ hn
  show zgf pc L (.ref j :: st) hp c s a b = _
  unfold zgf
  simp only [hc, Nat.beq_refl, hf]
theorem zs_if {p0 t : Nat} {cd : ClassFile.Cond} {off : Int} {a b : Nat} {v : Int} {x : Int32} (h : zatp k pc = some (p0, .ifCond cd off, a, b, v)) (ht : zJ pc off = some t) (h1 : zcb cd x 0 = true → zWP lk Lx xs k (t, L, st, hp, c, s) Q) (h2 : zcb cd x 0 = false → zWP lk Lx xs k (pc + 3, L, st, hp, c, s) Q) : zWP lk Lx xs k (pc, L, .int x :: st, hp, c, s) Q := by
  cases hb : zcb cd x 0 with
  | true =>
    refine zs0 h rfl ?_ (h1 hb)
    show zbr pc L hp c s off (zcb cd x 0) st = _
    unfold zbr
    rw [ht, hb]
    rfl
  | false =>
    refine zs0 h rfl ?_ (h2 hb)
    show zbr pc L hp c s off (zcb cd x 0) st = _
    unfold zbr
    rw [ht, hb]
    rfl
theorem zs_icmp {p0 t : Nat} {cd : ClassFile.Cond} {off : Int} {a b : Nat} {v : Int} {x y : Int32} (h : zatp k pc = some (p0, .if_icmp cd off, a, b, v)) (ht : zJ pc off = some t) (h1 : zcb cd x y = true → zWP lk Lx xs k (t, L, st, hp, c, s) Q) (h2 : zcb cd x y = false → zWP lk Lx xs k (pc + 3, L, st, hp, c, s) Q) : zWP lk Lx xs k (pc, L, .int y :: .int x :: st, hp, c, s) Q := by
  cases hb : zcb cd x y with
  | true =>
    refine zs0 h rfl ?_ (h1 hb)
    show zbr pc L hp c s off (zcb cd x y) st = _
    unfold zbr
    rw [ht, hb]
    rfl
  | false =>
    refine zs0 h rfl ?_ (h2 hb)
    show zbr pc L hp c s off (zcb cd x y) st = _
    unfold zbr
    rw [ht, hb]
    rfl
theorem zs_ret {p0 a b : Nat} {v : Int} {x : Int32} (h : zatp k pc = some (p0, .ireturn, a, b, v)) (hx : a = 0 ∨ x = 0 ∨ x = 1) (hq : Q (some (.int x)) hp) : zWP lk Lx xs k (pc, L, [.int x], hp, 0, 0) Q := by
  obtain ⟨h1, h2⟩ := zatp_ok h
  exact zWP.step ⟨_, h1, h2, Nat.zero_le _, Nat.zero_le _, x, rfl, hx, hq⟩
end ZST
theorem zE_rng {ρ : List Int} {E : LE} {i : Nat} {lo hi z : Int} (hE : zaE ρ E) (h : E[i]? = some (lo, hi)) (hz : zxr ρ (0, [(i, 1)]) z) : lo ≤ z ∧ z ≤ hi := by
  obtain ⟨x, h1, h2, h3⟩ := zaE_get hE h
  cases zxr_fun hz (zxr_s h1)
  exact ⟨h2, h3⟩
theorem zaE_snoc {ρ : List Int} {E : LE} {lo hi x : Int} (hE : zaE ρ E) (h1 : lo ≤ x) (h2 : x ≤ hi) : zaE (ρ ++ [x]) (E ++ [(lo, hi)]) := by
  obtain ⟨g2, g3⟩ := hE
  refine ⟨by simp [g2], fun i q y hq hy => ?_⟩
  by_cases e : i < ρ.length
  · rw [List.getElem?_append_left (by rw [g2]; exact e)] at hq
    rw [List.getElem?_append_left e] at hy
    exact g3 i q y hq hy
  · rw [List.getElem?_append_right (by rw [g2]; omega)] at hq
    rw [List.getElem?_append_right (by omega)] at hy
    by_cases e2 : i = ρ.length
    · subst e2
      rw [g2, Nat.sub_self] at hq
      rw [Nat.sub_self] at hy
      cases hq
      cases hy
      exact ⟨h1, h2⟩
    · have := (List.getElem?_eq_some_iff.mp hy).1
      simp at this
      omega
theorem zsnoc_at {ρ : List Int} {E : LE} {x : Int} {n : Nat} (hE : zaE ρ E) (hn : E.length = n) : (ρ ++ [x])[n]? = some x := by
  rw [← hn, hE.1]
  simp
/-! a contract by way of one that names an element of a row, and by way of narrower bounds -/
def zctS (C : CT) (pos j : Nat) (cell : AC) (q : Int × Int) : CT := (C.1, (C.2.1.1, C.2.1.2.1, C.2.1.2.2.1.set pos (j, cell), C.2.1.2.2.2.1 ++ [q], C.2.1.2.2.2.2.1, C.2.1.2.2.2.2.2), C.2.2.1, C.2.2.2.1, C.2.2.2.2)
theorem zHolds_ent {lk : ZLP} {Lx : Nat} {xs : Nat → Int32} {C : CT} (pos : Nat) {j t n : Nat} {r : Int × Int} {es : List (LX × LX)} (e : LX) (m : Nat) (hm : C.2.1.2.2.2.1.length = m) (hc : C.2.1.2.2.1[pos]? = some (j, .inr (.inl (t, n, 1, [r], es)))) (he : zbd C.2.1.2.2.2.1 e (fun lo hi => zle 0 lo && zle (hi + 1) n) = true) (h : zHolds lk Lx xs (zctS C pos j (.inr (.inl (t, n, 1, [r], es ++ [(e, (0, [(m, 1)]))]))) r)) : zHolds lk Lx xs C := by
  intro η ρ hp av h1 h2 h3
  obtain ⟨p1, p2, p3, p4, p5, p6⟩ := h3
  obtain ⟨a, c0, g1, g2, g3⟩ := p3 _ (List.mem_of_getElem? hc)
  obtain ⟨f, rfl, g4, g5⟩ := id g3
  obtain ⟨z, lo, hi, b1, b2, b3, b4⟩ := zbd_ok p4 he
  simp only [Bool.and_eq_true, zle_iff] at b2
  have hz : ((z.toNat : Nat) : Int) = z := by omega
  have hlt : z.toNat < n := by omega
  have hr := g5.2.2.1 z.toNat hlt r (by rw [Nat.mod_one]; rfl)
  have hml : m = ρ.length := by rw [← hm]; exact p4.1
  have hnew : zac η (ρ ++ [zei f z.toNat]) (.inr (.inl (t, n, 1, [r], es ++ [(e, (0, [(m, 1)]))]))) (.inl (t, n, f)) := by
    obtain ⟨f', e', q1, q2, q3, q4, q5⟩ := zac_mono1 (l := [zei f z.toNat]) g3
    cases e'
    refine ⟨f, rfl, g4, q2, q3, q4, fun y hy => ?_⟩
    rcases List.mem_append.mp hy with hy | hy
    · exact q5 y hy
    · rw [List.mem_singleton] at hy
      subst hy
      refine ⟨z.toNat, by rw [hz]; exact zxr_mono b1, hlt, zxr_s ?_⟩
      rw [hml]
      simp
  refine (h η (ρ ++ [zei f z.toNat]) hp av h1 h2 ⟨?_, zaS_mono1 p2, ?_, zaE_snoc p4 hr.1 hr.2, zaF_mono p5, p6⟩).post ?_
  · intro q hq
    obtain ⟨v, v1, v2⟩ := p1 q hq
    exact ⟨v, v1, zav_mono1 v2⟩
  · intro q hq
    rcases List.mem_or_eq_of_mem_set hq with hq | rfl
    · obtain ⟨x, y, w1, w2, w3⟩ := p3 q hq
      exact ⟨x, y, w1, w2, zac_mono1 w3⟩
    · exact ⟨a, _, g1, g2, hnew⟩
  · rintro rv hp' ⟨P, hP, l, q1, q2⟩
    refine ⟨P, hP, zei f z.toNat :: l, ?_, q2⟩
    rw [List.append_cons]
    exact q1
theorem zHolds_narrow {lk : ZLP} {Lx : Nat} {xs : Nat → Int32} {C : CT} (i : Nat) {lo hi : Int} (lo' hi' : Int) (hE : C.2.1.2.2.2.1[i]? = some (lo, hi)) (hn : ∀ (η : List Nat) (ρ : List Int) (hp : List zhE) (av : List Value) (x : Int), zptS η ρ C.2.1 [] av hp → ρ[i]? = some x → lo' ≤ x ∧ x ≤ hi') (h : zHolds lk Lx xs (zctE C i lo' hi')) : zHolds lk Lx xs C := by
  intro η ρ hp av h1 h2 h3
  obtain ⟨p1, p2, p3, ⟨e1, e2⟩, p5, p6⟩ := id h3
  have hi2 : i < C.2.1.2.2.2.1.length := (List.getElem?_eq_some_iff.mp hE).1
  refine h η ρ hp av h1 h2 ⟨p1, p2, p3, ⟨?_, ?_⟩, p5, p6⟩
  · show (C.2.1.2.2.2.1.set i (lo', hi')).length = ρ.length
    rw [List.length_set]
    exact e1
  · intro j q x hq hx
    have hq : (C.2.1.2.2.2.1.set i (lo', hi'))[j]? = some q := hq
    by_cases e : i = j
    · subst e
      rw [List.getElem?_set_self hi2] at hq
      cases hq
      exact hn η ρ hp av x h3 hx
    · rw [List.getElem?_set_ne e] at hq
      exact e2 j q x hq hx
/-! a contract by way of one that has a number's bits -/
def zbitX (n : Nat) : LX := (0, [(n, 1), (n + 1, 2), (n + 2, 4), (n + 3, 8), (n + 4, 16), (n + 5, 32), (n + 6, 64), (n + 7, 128), (n + 8, 256)])
def zbitV (i n : Nat) (a : AV) : AV := match a with
  | (0, (0, [(j, 1)])) => (match Nat.beq j i with
    | true => (0, zbitX n)
    | false => a)
  | _ => a
def zbitC (i n : Nat) (q : Nat × AC) : Nat × AC := match q.2 with
  | .inl (ci, fs) => (q.1, .inl (ci, fs.map (zbitV i n)))
  | _ => q
def zCbits (C : CT) (i n : Nat) : CT := (C.1, (C.2.1.1, C.2.1.2.1.map (zbitV i n), C.2.1.2.2.1.map (zbitC i n), C.2.1.2.2.2.1 ++ List.replicate 9 (0, 1), C.2.1.2.2.2.2.1, C.2.1.2.2.2.2.2), C.2.2.1, C.2.2.2.1, C.2.2.2.2)
def zbl (x : Int) : List Int := [x % 2, x / 2 % 2, x / 4 % 2, x / 8 % 2, x / 16 % 2, x / 32 % 2, x / 64 % 2, x / 128 % 2, x / 256 % 2]
theorem zbitX_ok {ρ : List Int} {n : Nat} {x : Int} (hn : ρ.length = n) (h0 : 0 ≤ x) (h1 : x ≤ 511) : zxr (ρ ++ zbl x) (zbitX n) x := by
  subst hn
  have g : ∀ k : Nat, ∀ z, (zbl x)[k]? = some z → (ρ ++ zbl x)[ρ.length + k]? = some z := fun k z h => by
    rw [List.getElem?_append_right (by omega), Nat.add_sub_cancel_left]
    exact h
  refine ⟨x, ?_, by show x = 0 + x; omega⟩
  refine ⟨x % 2, _, g 0 _ rfl, ⟨x / 2 % 2, _, g 1 _ rfl, ⟨x / 4 % 2, _, g 2 _ rfl, ⟨x / 8 % 2, _, g 3 _ rfl, ⟨x / 16 % 2, _, g 4 _ rfl, ⟨x / 32 % 2, _, g 5 _ rfl, ⟨x / 64 % 2, _, g 6 _ rfl, ⟨x / 128 % 2, _, g 7 _ rfl, ⟨x / 256 % 2, 0, g 8 _ rfl, rfl, rfl⟩, rfl⟩, rfl⟩, rfl⟩, rfl⟩, rfl⟩, rfl⟩, rfl⟩, ?_⟩
  show x = 1 * (x % 2) + (2 * (x / 2 % 2) + (4 * (x / 4 % 2) + (8 * (x / 8 % 2) + (16 * (x / 16 % 2) + (32 * (x / 32 % 2) + (64 * (x / 64 % 2) + (128 * (x / 128 % 2) + (256 * (x / 256 % 2) + 0))))))))
  omega
theorem zbitV_ok {η : List Nat} {ρ : List Int} {i n : Nat} {x : Int} {a : AV} {v : Value} (hx : ρ[i]? = some x) (hn : ρ.length = n) (h0 : 0 ≤ x) (h1 : x ≤ 511) (h : zav η ρ a v) : zav η (ρ ++ zbl x) (zbitV i n a) v := by
  unfold zbitV
  split
  · rename_i j
    split
    · rename_i hj
      have hj := Nat.eq_of_beq_eq_true hj
      subst hj
      obtain ⟨w, rfl, hw⟩ := h
      refine ⟨w, rfl, ?_⟩
      rw [zxr_fun hw (zxr_s hx)]
      exact zbitX_ok hn h0 h1
    · exact zav_mono1 h
  · exact zav_mono1 h
theorem zbitS_ok {η : List Nat} {ρ : List Int} {i n : Nat} {x : Int} (hx : ρ[i]? = some x) (hn : ρ.length = n) (h0 : 0 ≤ x) (h1 : x ≤ 511) : ∀ {as : List AV} {vs : List Value}, zaS η ρ as vs → zaS η (ρ ++ zbl x) (as.map (zbitV i n)) vs
  | [], [], _ => trivial
  | [], _ :: _, h => h.elim
  | _ :: _, [], h => h.elim
  | _ :: _, _ :: _, h => ⟨zbitV_ok hx hn h0 h1 h.1, zbitS_ok hx hn h0 h1 h.2⟩
theorem zHolds_bits {lk : ZLP} {Lx : Nat} {xs : Nat → Int32} {C : CT} (i n : Nat) (hE : C.2.1.2.2.2.1[i]? = some (0, 511)) (hn : C.2.1.2.2.2.1.length = n) (h : zHolds lk Lx xs (zCbits C i n)) : zHolds lk Lx xs C := by
  intro η ρ hp av g1 g2 g3
  obtain ⟨p1, p2, p3, p4, p5, p6⟩ := g3
  obtain ⟨x, x1, x2, x3⟩ := zaE_get p4 hE
  have hl : ρ.length = n := by rw [← hn, p4.1]
  refine (h η (ρ ++ zbl x) hp av g1 g2 ⟨zaL_mono1 p1, zbitS_ok x1 hl x2 x3 p2, ?_, ?_, zaF_mono p5, p6⟩).post ?_
  · intro q hq
    obtain ⟨q0, hq0, rfl⟩ := List.mem_map.mp hq
    obtain ⟨y, c, y1, y2, y3⟩ := p3 q0 hq0
    have e : (zbitC i n q0).1 = q0.1 := by unfold zbitC; split <;> rfl
    refine ⟨y, c, by rw [e]; exact y1, y2, ?_⟩
    unfold zbitC
    split
    · rename_i ci fs hc
      rw [hc] at y3
      obtain ⟨vs, rfl, y4⟩ := y3
      exact ⟨vs, rfl, zbitS_ok x1 hl x2 x3 y4⟩
    · exact zac_mono1 y3
  · refine ⟨by show (C.2.1.2.2.2.1 ++ List.replicate 9 (0, 1)).length = _; simp [p4.1, zbl], fun k q y hq hy => ?_⟩
    have hq : (C.2.1.2.2.2.1 ++ List.replicate 9 ((0 : Int), (1 : Int)))[k]? = some q := hq
    by_cases e : k < ρ.length
    · rw [List.getElem?_append_left (by rw [p4.1]; exact e)] at hq
      rw [List.getElem?_append_left e] at hy
      exact p4.2 k q y hq hy
    · rw [List.getElem?_append_right (by rw [p4.1]; omega)] at hq
      rw [List.getElem?_append_right (by omega)] at hy
      have hq2 := (List.mem_replicate.mp (List.mem_of_getElem? hq)).2
      subst hq2
      have hy2 := List.mem_of_getElem? hy
      simp only [zbl, List.mem_cons, List.not_mem_nil, or_false] at hy2
      omega
  · rintro rv hp' ⟨P, hP, l, q1, q2⟩
    refine ⟨P, hP, zbl x ++ l, ?_, q2⟩
    rw [← List.append_assoc]
    exact q1
