/-! keepText, by hand -/
def zcpf (n : Nat) (f : Nat → Int32) (q : Nat) : Int32 := if q < n then f (n + q) else f q
def zcpk (n k : Nat) (f : Nat → Int32) (q : Nat) : Int32 := if q < k then f (n + q) else f q
theorem zcpk_0 (n : Nat) (f : Nat → Int32) : zcpk n 0 f = f := by
  funext q
  simp [zcpk]
theorem zcpk_up {n k : Nat} (f : Nat → Int32) : va_up (zcpk n k f) k (f (n + k)) = zcpk n (k + 1) f := by
  funext q
  unfold va_up zcpk
  by_cases e : q = k
  · subst e
    simp
  · by_cases e2 : q < k
    · rw [if_neg e, if_pos e2, if_pos (by omega)]
    · rw [if_neg e, if_neg e2, if_neg (by omega)]
theorem zof_add (a b : Nat) : Int32.ofInt (a : Int) + Int32.ofInt (b : Int) = Int32.ofInt ((a + b : Nat) : Int) := by
  rw [← Int32.ofInt_add]
  rfl
section ZKT
variable {lk : ZLP} {Lx : Nat} {xs : Nat → Int32} {k : Nat} {pc : Nat} {L : zL} {st : List Value} {hp : List zhE} {Q : ZP}
theorem zs_stat {p0 q a n : Nat} {v : Int} {vs : List Value} {P : ZP} (h : zatp k pc = some (p0, .invokestatic q, a, n, v)) (hk : zkind (.invokestatic q) a n v = 2) (hl : vs.length = n) (h1 : (lg_sl vs).length ≤ (zrw a).2.1) (h2 : zsum st ≤ 8) (h3 : (zrm a).cells = 0) (h4 : (zrm a).slots = 0) (hP : zWP lk Lx xs a (0, lv_args 0 vs, [], hp, 0, 0) P) (hn : ∀ rv hp', P rv hp' → zWP lk Lx xs k (pc + 3, L, rv.toList ++ st, hp', 0, 0) Q) : zWP lk Lx xs k (pc, L, vs.reverse ++ st, hp, 0, 0) Q := by
  obtain ⟨g1, g2⟩ := zatp_ok h
  refine zWP.step ⟨_, g1, g2, ?_⟩
  simp only [hk]
  refine ⟨vs, st, rfl, hl, h1, h2, ?_, ?_, P, hP, ?_⟩
  · show 0 + (zrm a).cells ≤ _
    omega
  · show 0 + (zrm a).slots ≤ _
    omega
  · intro rv hp' hp
    show zWP lk Lx xs k (pc + 3, L, rv.toList ++ st, hp', 0 + (zrm a).cells, 0 + (zrm a).slots) Q
    rw [h3, h4]
    exact hn rv hp' hp
theorem zcopies_k {i n m : Nat} {f : Nat → Int32} (hm : n + n ≤ m) (hm2 : m < 1000) (hi : i < hp.length) (hq : Q none (hp.set i (.inl (0, m, .inl (zcpf n f))))) : ∀ (d k : Nat), k + d = n → zWP lk Lx xs 174 (2, [(2, .int (Int32.ofInt (k : Int))), (0, .ref i), (1, .int (Int32.ofInt (n : Int)))], [], hp.set i (.inl (0, m, .inl (zcpk n k f))), 0, 0) Q := by
  intro d
  induction d with
  | zero =>
    intro k hk
    have hk : k = n := by omega
    subst hk
    iterate 2 refine zs0 (by rfl) rfl rfl ?_
    refine zs_icmp (by rfl) (t := 21) (by rfl) (fun _ => ?_) (fun hb => ?_)
    · exact zs_retV (by rfl) hq
    · have hb : decide (Int32.ofInt (k : Int) ≤ Int32.ofInt (k : Int)) = false := hb
      rw [decide_eq_false_iff_not, Int32.le_iff_toInt_le] at hb
      omega
  | succ d ih =>
    intro k hk
    iterate 2 refine zs0 (by rfl) rfl rfl ?_
    refine zs_icmp (by rfl) (t := 21) (by rfl) (fun hb => ?_) (fun hb => ?_)
    · have hb : decide (Int32.ofInt (n : Int) ≤ Int32.ofInt (k : Int)) = true := hb
      rw [decide_eq_true_eq, Int32.le_iff_toInt_le, zof_ix (by omega), zof_ix (by omega)] at hb
      omega
    · have hc : (hp.set i (.inl (0, m, .inl (zcpk n k f))))[i]? = some (.inl (0, m, .inl (zcpk n k f))) := List.getElem?_set_self hi
      have e1 : (Int32.ofInt (n : Int) + Int32.ofInt (k : Int)).toNatClampNeg = n + k := by rw [zof_add]; exact zof_cl (by omega)
      have e2 : (Int32.ofInt (k : Int)).toNatClampNeg = k := zof_cl (by omega)
      iterate 6 refine zs0 (by rfl) rfl rfl ?_
      refine zs_aldI (by rfl) hc (by show zin (Int32.ofInt (n : Int) + Int32.ofInt (k : Int)) m = true; rw [zof_add]; exact zof_in (by omega) (by omega)) ?_
      refine zs_astI (by rfl) hc (zof_in (by omega) (by omega)) ?_
      have hv : zcpk n k f (Int32.ofInt (n : Int) + Int32.ofInt (k : Int)).toNatClampNeg = f (n + k) := by
        rw [e1]
        unfold zcpk
        rw [if_neg (by omega)]
      refine zs0 (by rfl) rfl rfl ?_
      refine zs0 (by rfl) rfl rfl ?_
      have hn := ih (k + 1) (by omega)
      rw [← zof_up, ← zcpk_up, ← hv] at hn
      have hs : (hp.set i (.inl (0, m, .inl (zcpk n k f)))).set i (.inl (0, m, .inl (va_up (zcpk n k f) (Int32.ofInt (k : Int)).toNatClampNeg (zcpk n k f (Int32.ofInt (n : Int) + Int32.ofInt (k : Int)).toNatClampNeg)))) = hp.set i (.inl (0, m, .inl (va_up (zcpk n k f) k (zcpk n k f (Int32.ofInt (n : Int) + Int32.ofInt (k : Int)).toNatClampNeg)))) := by
        rw [List.set_set, e2]
      rw [← hs] at hn
      exact hn
theorem zset_same {i : Nat} {x : zhE} (h : hp[i]? = some x) : hp.set i x = hp := by
  apply List.ext_getElem?
  intro y
  by_cases e : i = y
  · subst e
    rw [List.getElem?_set_self (List.getElem?_eq_some_iff.mp h).1, h]
  · rw [List.getElem?_set_ne e]
theorem zcopies {i n m : Nat} {f : Nat → Int32} (hm : n + n ≤ m) (hm2 : m < 1000) (hc : hp[i]? = some (.inl (0, m, .inl f))) : zWP lk Lx xs 174 (0, lv_args 0 [.ref i, .int (Int32.ofInt (n : Int))], [], hp, 0, 0) (fun rv hp' => rv = none ∧ hp' = hp.set i (.inl (0, m, .inl (zcpf n f)))) := by
  iterate 2 refine zs0 (by rfl) rfl rfl ?_
  have h := zcopies_k (lk := lk) (Lx := Lx) (xs := xs) (hp := hp) (Q := fun rv hp' => rv = none ∧ hp' = hp.set i (.inl (0, m, .inl (zcpf n f)))) (f := f) hm hm2 (List.getElem?_eq_some_iff.mp hc).1 ⟨rfl, rfl⟩ n 0 (by omega)
  rw [zcpk_0, zset_same hc] at h
  exact h
theorem zcpf_rng {n m : Nat} {lo hi : Int} {f : Nat → Int32} {ρ ρ' : List Int} (hm : n + n ≤ m) (h : zaA ρ m 1 [(lo, hi)] [] (.inl f)) : zaA ρ' m 1 [(lo, hi)] [] (.inl (zcpf n f)) := by
  refine ⟨rfl, by decide, fun j hj q hq => ?_, fun e he => absurd he List.not_mem_nil⟩
  rw [Nat.mod_one] at hq
  cases hq
  show lo ≤ (zcpf n f j).toInt ∧ (zcpf n f j).toInt ≤ hi
  unfold zcpf
  split
  · exact zrow1 h (by omega)
  · exact zrow1 h hj
theorem zthere {x : Int32} (h0 : 0 ≤ x.toInt) (h1 : x.toInt ≤ 9) : 0 ≤ (Int32.ofInt 1 <<< (x &&& 31) - Int32.ofInt 1).toInt ∧ (Int32.ofInt 1 <<< (x &&& 31) - Int32.ofInt 1).toInt ≤ 511 := by
  rcases (show x.toInt = 0 ∨ x.toInt = 1 ∨ x.toInt = 2 ∨ x.toInt = 3 ∨ x.toInt = 4 ∨ x.toInt = 5 ∨ x.toInt = 6 ∨ x.toInt = 7 ∨ x.toInt = 8 ∨ x.toInt = 9 by omega) with h | h | h | h | h | h | h | h | h | h
  all_goals
    rw [zb_of h]
    decide
set_option maxHeartbeats 4000000 in
theorem zuh_175 : zHolds lk Lx xs zu_175 := by
  intro η ρ hp av g1 g2 g3
  obtain ⟨p1, p2, p3, p4, p5, p6⟩ := g3
  obtain ⟨j, vs, a1, a2, a3⟩ := zcelO (i := 0) p3 (by rfl)
  have hvl : vs.length = 71 := (zAll_len a3).symm
  obtain ⟨i3, x3, b3, h3, ⟨f3, rfl⟩, r3⟩ := zcell (i := 3) p3 (by rfl)
  have w3 := zfldR (b := 20) a3 (by rfl) b3
  obtain ⟨i4, x4, b4, h4, ⟨f4, rfl⟩, r4⟩ := zcell (i := 4) p3 (by rfl)
  have w4 := zfldR (b := 21) a3 (by rfl) b4
  obtain ⟨i5, x5, b5, h5, ⟨f5, rfl⟩, r5⟩ := zcell (i := 5) p3 (by rfl)
  have w5 := zfldR (b := 22) a3 (by rfl) b5
  obtain ⟨i6, x6, b6, h6, ⟨f6, rfl⟩, r6⟩ := zcell (i := 6) p3 (by rfl)
  have w6 := zfldR (b := 23) a3 (by rfl) b6
  obtain ⟨i7, x7, b7, h7, ⟨f7, rfl⟩, r7⟩ := zcell (i := 7) p3 (by rfl)
  have w7 := zfldR (b := 24) a3 (by rfl) b7
  obtain ⟨i8, x8, b8, h8, ⟨f8, rfl⟩, r8⟩ := zcell (i := 8) p3 (by rfl)
  have w8 := zfldR (b := 25) a3 (by rfl) b8
  obtain ⟨i9, x9, b9, h9, ⟨f9, rfl⟩, r9⟩ := zcell (i := 9) p3 (by rfl)
  have w9 := zfldR (b := 26) a3 (by rfl) b9
  obtain ⟨i10, x10, b10, h10, ⟨f10, rfl⟩, r10⟩ := zcell (i := 10) p3 (by rfl)
  have w10 := zfldR (b := 27) a3 (by rfl) b10
  obtain ⟨i11, x11, b11, h11, ⟨f11, rfl⟩, r11⟩ := zcell (i := 11) p3 (by rfl)
  have w11 := zfldR (b := 28) a3 (by rfl) b11
  obtain ⟨i12, x12, b12, h12, ⟨f12, rfl⟩, r12⟩ := zcell (i := 12) p3 (by rfl)
  have w12 := zfldR (b := 29) a3 (by rfl) b12
  obtain ⟨i13, x13, b13, h13, ⟨f13, rfl⟩, r13⟩ := zcell (i := 13) p3 (by rfl)
  have w13 := zfldR (b := 30) a3 (by rfl) b13
  obtain ⟨i14, x14, b14, h14, ⟨f14, rfl⟩, r14⟩ := zcell (i := 14) p3 (by rfl)
  have w14 := zfldR (b := 31) a3 (by rfl) b14
  obtain ⟨i15, x15, b15, h15, ⟨f15, rfl⟩, r15⟩ := zcell (i := 15) p3 (by rfl)
  have w15 := zfldR (b := 32) a3 (by rfl) b15
  obtain ⟨y15, y15v, y15r, y15l, y15u⟩ := zfldI (b := 15) a3 (by rfl) p4 (by rfl)
  obtain ⟨y16, y16v, y16r, y16l, y16u⟩ := zfldI (b := 16) a3 (by rfl) p4 (by rfl)
  obtain ⟨y17, y17v, y17r, y17l, y17u⟩ := zfldI (b := 17) a3 (by rfl) p4 (by rfl)
  have ne : ∀ (c d a b : Nat), η[c]? = some a → η[d]? = some b → c ≠ d → a ≠ b := fun c d a b h1 h2 h3 e => h3 (g2.1 c d a h1 (by rw [e]; exact h2))
  have a2z := a2
  have h7z := h7
  have h13z := h13
  have h14z := h14
  have h15z := h15
  match av, p2 with
  | [va], p2 =>
    obtain ⟨⟨j', hj', rfl⟩, -⟩ := p2
    have hj' : η[0]? = some j' := hj'
    cases a1.symm.trans hj'
    show zWP lk Lx xs 175 (0, [(0, .ref j)], [], hp, 0, 0) (zPo zu_175 η ρ hp)
    have hjl := (List.getElem?_eq_some_iff.mp a2).1
    iterate 2 refine zs0 (by rfl) rfl rfl ?_
    refine zs_get (by rfl) a2 y15v ?_
    refine zs_put (by rfl) a2 (by rw [hvl]; decide) (by rfl) ?_
    have a2 := List.getElem?_set_self (a := (.inr (12, vs.set 12 (.int y15)) : zhE)) hjl
    iterate 2 refine zs0 (by rfl) rfl rfl ?_
    refine zs_get (by rfl) a2 (by rw [List.getElem?_set_ne (by decide)]; exact y16v) ?_
    refine zs_put (by rfl) a2 (by simp [hvl]) (by rfl) ?_
    rw [List.set_set]
    have a2 := List.getElem?_set_self (a := (.inr (12, (vs.set 12 (.int y15)).set 13 (.int y16)) : zhE)) hjl
    iterate 2 refine zs0 (by rfl) rfl rfl ?_
    refine zs_get (by rfl) a2 (by rw [List.getElem?_set_ne (by decide), List.getElem?_set_ne (by decide)]; exact y17v) ?_
    refine zs_put (by rfl) a2 (by simp [hvl]) (by rfl) ?_
    rw [List.set_set]
    have a2 := List.getElem?_set_self (a := (.inr (12, ((vs.set 12 (.int y15)).set 13 (.int y16)).set 14 (.int y17)) : zhE)) hjl
    generalize hv3 : ((vs.set 12 (.int y15)).set 13 (.int y16)).set 14 (.int y17) = v3 at a2 ⊢
    have v3l : v3.length = 71 := by rw [← hv3]; simp [hvl]
    have v3o : ∀ b, b ≠ 12 → b ≠ 13 → b ≠ 14 → v3[b]? = vs[b]? := fun b n1 n2 n3 => by rw [← hv3, List.getElem?_set_ne (Ne.symm n3), List.getElem?_set_ne (Ne.symm n2), List.getElem?_set_ne (Ne.symm n1)]
    have h3 : (hp.set j (.inr (12, v3)))[i3]? = some (.inl (0, 20, .inl f3)) := by rw [List.getElem?_set_ne (ne 0 3 _ _ a1 b3 (by decide))]; exact h3
    have h4 : (hp.set j (.inr (12, v3)))[i4]? = some (.inl (0, 20, .inl f4)) := by rw [List.getElem?_set_ne (ne 0 4 _ _ a1 b4 (by decide))]; exact h4
    have h5 : (hp.set j (.inr (12, v3)))[i5]? = some (.inl (0, 20, .inl f5)) := by rw [List.getElem?_set_ne (ne 0 5 _ _ a1 b5 (by decide))]; exact h5
    have h6 : (hp.set j (.inr (12, v3)))[i6]? = some (.inl (0, 20, .inl f6)) := by rw [List.getElem?_set_ne (ne 0 6 _ _ a1 b6 (by decide))]; exact h6
    have h7 : (hp.set j (.inr (12, v3)))[i7]? = some (.inl (0, 20, .inl f7)) := by rw [List.getElem?_set_ne (ne 0 7 _ _ a1 b7 (by decide))]; exact h7
    have h8 : (hp.set j (.inr (12, v3)))[i8]? = some (.inl (0, 20, .inl f8)) := by rw [List.getElem?_set_ne (ne 0 8 _ _ a1 b8 (by decide))]; exact h8
    have h9 : (hp.set j (.inr (12, v3)))[i9]? = some (.inl (0, 20, .inl f9)) := by rw [List.getElem?_set_ne (ne 0 9 _ _ a1 b9 (by decide))]; exact h9
    have h10 : (hp.set j (.inr (12, v3)))[i10]? = some (.inl (0, 20, .inl f10)) := by rw [List.getElem?_set_ne (ne 0 10 _ _ a1 b10 (by decide))]; exact h10
    have h11 : (hp.set j (.inr (12, v3)))[i11]? = some (.inl (0, 20, .inl f11)) := by rw [List.getElem?_set_ne (ne 0 11 _ _ a1 b11 (by decide))]; exact h11
    have h12 : (hp.set j (.inr (12, v3)))[i12]? = some (.inl (0, 20, .inl f12)) := by rw [List.getElem?_set_ne (ne 0 12 _ _ a1 b12 (by decide))]; exact h12
    have h13 : (hp.set j (.inr (12, v3)))[i13]? = some (.inl (0, 128, .inl f13)) := by rw [List.getElem?_set_ne (ne 0 13 _ _ a1 b13 (by decide))]; exact h13
    have h14 : (hp.set j (.inr (12, v3)))[i14]? = some (.inl (0, 128, .inl f14)) := by rw [List.getElem?_set_ne (ne 0 14 _ _ a1 b14 (by decide))]; exact h14
    have h15 : (hp.set j (.inr (12, v3)))[i15]? = some (.inl (0, 128, .inl f15)) := by rw [List.getElem?_set_ne (ne 0 15 _ _ a1 b15 (by decide))]; exact h15
    have fr : ∀ q, q ≠ j → (hp.set j (.inr (12, v3)))[q]? = hp[q]? := fun q hq => List.getElem?_set_ne (Ne.symm hq)
    have ln : (hp.set j (.inr (12, v3))).length = hp.length := List.length_set
    generalize hp.set j (.inr (12, v3)) = H at a2 fr ln h3 h4 h5 h6 h7 h8 h9 h10 h11 h12 h13 h14 h15 ⊢
    -- name
    refine zs0 (by rfl) rfl rfl ?_
    refine zs_get (by rfl) a2 (by rw [v3o 20 (by decide) (by decide) (by decide)]; exact w3) ?_
    refine zs0 (by rfl) rfl rfl ?_
    refine zs_stat (vs := [.ref i3, .int (Int32.ofInt ((10 : Nat) : Int))]) (by rfl) (by rfl) rfl (Nat.le_of_ble_eq_true (by rfl)) (Nat.le_of_ble_eq_true (by rfl)) (by decide +kernel) (by decide +kernel) (zcopies (by decide) (by decide) h3) ?_
    rintro rv hq ⟨rfl, rfl⟩
    have a2 : (H.set i3 (.inl (0, 20, .inl (zcpf 10 f3))))[j]? = some (.inr (12, v3)) := by rw [List.getElem?_set_ne (ne 3 0 _ _ b3 a1 (by decide))]; exact a2
    have h3 : (H.set i3 (.inl (0, 20, .inl (zcpf 10 f3))))[i3]? = some (.inl (0, 20, .inl (zcpf 10 f3))) := List.getElem?_set_self (List.getElem?_eq_some_iff.mp h3).1
    have h4 : (H.set i3 (.inl (0, 20, .inl (zcpf 10 f3))))[i4]? = some (.inl (0, 20, .inl (f4))) := by rw [List.getElem?_set_ne (ne 3 4 _ _ b3 b4 (by decide))]; exact h4
    have h5 : (H.set i3 (.inl (0, 20, .inl (zcpf 10 f3))))[i5]? = some (.inl (0, 20, .inl (f5))) := by rw [List.getElem?_set_ne (ne 3 5 _ _ b3 b5 (by decide))]; exact h5
    have h6 : (H.set i3 (.inl (0, 20, .inl (zcpf 10 f3))))[i6]? = some (.inl (0, 20, .inl (f6))) := by rw [List.getElem?_set_ne (ne 3 6 _ _ b3 b6 (by decide))]; exact h6
    have h7 : (H.set i3 (.inl (0, 20, .inl (zcpf 10 f3))))[i7]? = some (.inl (0, 20, .inl (f7))) := by rw [List.getElem?_set_ne (ne 3 7 _ _ b3 b7 (by decide))]; exact h7
    have h8 : (H.set i3 (.inl (0, 20, .inl (zcpf 10 f3))))[i8]? = some (.inl (0, 20, .inl (f8))) := by rw [List.getElem?_set_ne (ne 3 8 _ _ b3 b8 (by decide))]; exact h8
    have h9 : (H.set i3 (.inl (0, 20, .inl (zcpf 10 f3))))[i9]? = some (.inl (0, 20, .inl (f9))) := by rw [List.getElem?_set_ne (ne 3 9 _ _ b3 b9 (by decide))]; exact h9
    have h10 : (H.set i3 (.inl (0, 20, .inl (zcpf 10 f3))))[i10]? = some (.inl (0, 20, .inl (f10))) := by rw [List.getElem?_set_ne (ne 3 10 _ _ b3 b10 (by decide))]; exact h10
    have h11 : (H.set i3 (.inl (0, 20, .inl (zcpf 10 f3))))[i11]? = some (.inl (0, 20, .inl (f11))) := by rw [List.getElem?_set_ne (ne 3 11 _ _ b3 b11 (by decide))]; exact h11
    have h12 : (H.set i3 (.inl (0, 20, .inl (zcpf 10 f3))))[i12]? = some (.inl (0, 20, .inl (f12))) := by rw [List.getElem?_set_ne (ne 3 12 _ _ b3 b12 (by decide))]; exact h12
    have h13 : (H.set i3 (.inl (0, 20, .inl (zcpf 10 f3))))[i13]? = some (.inl (0, 128, .inl (f13))) := by rw [List.getElem?_set_ne (ne 3 13 _ _ b3 b13 (by decide))]; exact h13
    have h14 : (H.set i3 (.inl (0, 20, .inl (zcpf 10 f3))))[i14]? = some (.inl (0, 128, .inl (f14))) := by rw [List.getElem?_set_ne (ne 3 14 _ _ b3 b14 (by decide))]; exact h14
    have h15 : (H.set i3 (.inl (0, 20, .inl (zcpf 10 f3))))[i15]? = some (.inl (0, 128, .inl (f15))) := by rw [List.getElem?_set_ne (ne 3 15 _ _ b3 b15 (by decide))]; exact h15
    have fr : ∀ q, q ≠ j → q ≠ i3 → (H.set i3 (.inl (0, 20, .inl (zcpf 10 f3))))[q]? = hp[q]? := fun q hj e3 => by rw [List.getElem?_set_ne (Ne.symm e3)]; exact fr q hj 
    have ln : (H.set i3 (.inl (0, 20, .inl (zcpf 10 f3)))).length = hp.length := by rw [List.length_set]; exact ln
    generalize H.set i3 (.inl (0, 20, .inl (zcpf 10 f3))) = H at a2 fr ln h3 h4 h5 h6 h7 h8 h9 h10 h11 h12 h13 h14 h15 ⊢
    -- left
    refine zs0 (by rfl) rfl rfl ?_
    refine zs_get (by rfl) a2 (by rw [v3o 21 (by decide) (by decide) (by decide)]; exact w4) ?_
    refine zs0 (by rfl) rfl rfl ?_
    refine zs_stat (vs := [.ref i4, .int (Int32.ofInt ((10 : Nat) : Int))]) (by rfl) (by rfl) rfl (Nat.le_of_ble_eq_true (by rfl)) (Nat.le_of_ble_eq_true (by rfl)) (by decide +kernel) (by decide +kernel) (zcopies (by decide) (by decide) h4) ?_
    rintro rv hq ⟨rfl, rfl⟩
    have a2 : (H.set i4 (.inl (0, 20, .inl (zcpf 10 f4))))[j]? = some (.inr (12, v3)) := by rw [List.getElem?_set_ne (ne 4 0 _ _ b4 a1 (by decide))]; exact a2
    have h3 : (H.set i4 (.inl (0, 20, .inl (zcpf 10 f4))))[i3]? = some (.inl (0, 20, .inl (zcpf 10 f3))) := by rw [List.getElem?_set_ne (ne 4 3 _ _ b4 b3 (by decide))]; exact h3
    have h4 : (H.set i4 (.inl (0, 20, .inl (zcpf 10 f4))))[i4]? = some (.inl (0, 20, .inl (zcpf 10 f4))) := List.getElem?_set_self (List.getElem?_eq_some_iff.mp h4).1
    have h5 : (H.set i4 (.inl (0, 20, .inl (zcpf 10 f4))))[i5]? = some (.inl (0, 20, .inl (f5))) := by rw [List.getElem?_set_ne (ne 4 5 _ _ b4 b5 (by decide))]; exact h5
    have h6 : (H.set i4 (.inl (0, 20, .inl (zcpf 10 f4))))[i6]? = some (.inl (0, 20, .inl (f6))) := by rw [List.getElem?_set_ne (ne 4 6 _ _ b4 b6 (by decide))]; exact h6
    have h7 : (H.set i4 (.inl (0, 20, .inl (zcpf 10 f4))))[i7]? = some (.inl (0, 20, .inl (f7))) := by rw [List.getElem?_set_ne (ne 4 7 _ _ b4 b7 (by decide))]; exact h7
    have h8 : (H.set i4 (.inl (0, 20, .inl (zcpf 10 f4))))[i8]? = some (.inl (0, 20, .inl (f8))) := by rw [List.getElem?_set_ne (ne 4 8 _ _ b4 b8 (by decide))]; exact h8
    have h9 : (H.set i4 (.inl (0, 20, .inl (zcpf 10 f4))))[i9]? = some (.inl (0, 20, .inl (f9))) := by rw [List.getElem?_set_ne (ne 4 9 _ _ b4 b9 (by decide))]; exact h9
    have h10 : (H.set i4 (.inl (0, 20, .inl (zcpf 10 f4))))[i10]? = some (.inl (0, 20, .inl (f10))) := by rw [List.getElem?_set_ne (ne 4 10 _ _ b4 b10 (by decide))]; exact h10
    have h11 : (H.set i4 (.inl (0, 20, .inl (zcpf 10 f4))))[i11]? = some (.inl (0, 20, .inl (f11))) := by rw [List.getElem?_set_ne (ne 4 11 _ _ b4 b11 (by decide))]; exact h11
    have h12 : (H.set i4 (.inl (0, 20, .inl (zcpf 10 f4))))[i12]? = some (.inl (0, 20, .inl (f12))) := by rw [List.getElem?_set_ne (ne 4 12 _ _ b4 b12 (by decide))]; exact h12
    have h13 : (H.set i4 (.inl (0, 20, .inl (zcpf 10 f4))))[i13]? = some (.inl (0, 128, .inl (f13))) := by rw [List.getElem?_set_ne (ne 4 13 _ _ b4 b13 (by decide))]; exact h13
    have h14 : (H.set i4 (.inl (0, 20, .inl (zcpf 10 f4))))[i14]? = some (.inl (0, 128, .inl (f14))) := by rw [List.getElem?_set_ne (ne 4 14 _ _ b4 b14 (by decide))]; exact h14
    have h15 : (H.set i4 (.inl (0, 20, .inl (zcpf 10 f4))))[i15]? = some (.inl (0, 128, .inl (f15))) := by rw [List.getElem?_set_ne (ne 4 15 _ _ b4 b15 (by decide))]; exact h15
    have fr : ∀ q, q ≠ j → q ≠ i3 → q ≠ i4 → (H.set i4 (.inl (0, 20, .inl (zcpf 10 f4))))[q]? = hp[q]? := fun q hj e3 e4 => by rw [List.getElem?_set_ne (Ne.symm e4)]; exact fr q hj e3
    have ln : (H.set i4 (.inl (0, 20, .inl (zcpf 10 f4)))).length = hp.length := by rw [List.length_set]; exact ln
    generalize H.set i4 (.inl (0, 20, .inl (zcpf 10 f4))) = H at a2 fr ln h3 h4 h5 h6 h7 h8 h9 h10 h11 h12 h13 h14 h15 ⊢
    -- foot
    refine zs0 (by rfl) rfl rfl ?_
    refine zs_get (by rfl) a2 (by rw [v3o 22 (by decide) (by decide) (by decide)]; exact w5) ?_
    refine zs0 (by rfl) rfl rfl ?_
    refine zs_stat (vs := [.ref i5, .int (Int32.ofInt ((10 : Nat) : Int))]) (by rfl) (by rfl) rfl (Nat.le_of_ble_eq_true (by rfl)) (Nat.le_of_ble_eq_true (by rfl)) (by decide +kernel) (by decide +kernel) (zcopies (by decide) (by decide) h5) ?_
    rintro rv hq ⟨rfl, rfl⟩
    have a2 : (H.set i5 (.inl (0, 20, .inl (zcpf 10 f5))))[j]? = some (.inr (12, v3)) := by rw [List.getElem?_set_ne (ne 5 0 _ _ b5 a1 (by decide))]; exact a2
    have h3 : (H.set i5 (.inl (0, 20, .inl (zcpf 10 f5))))[i3]? = some (.inl (0, 20, .inl (zcpf 10 f3))) := by rw [List.getElem?_set_ne (ne 5 3 _ _ b5 b3 (by decide))]; exact h3
    have h4 : (H.set i5 (.inl (0, 20, .inl (zcpf 10 f5))))[i4]? = some (.inl (0, 20, .inl (zcpf 10 f4))) := by rw [List.getElem?_set_ne (ne 5 4 _ _ b5 b4 (by decide))]; exact h4
    have h5 : (H.set i5 (.inl (0, 20, .inl (zcpf 10 f5))))[i5]? = some (.inl (0, 20, .inl (zcpf 10 f5))) := List.getElem?_set_self (List.getElem?_eq_some_iff.mp h5).1
    have h6 : (H.set i5 (.inl (0, 20, .inl (zcpf 10 f5))))[i6]? = some (.inl (0, 20, .inl (f6))) := by rw [List.getElem?_set_ne (ne 5 6 _ _ b5 b6 (by decide))]; exact h6
    have h7 : (H.set i5 (.inl (0, 20, .inl (zcpf 10 f5))))[i7]? = some (.inl (0, 20, .inl (f7))) := by rw [List.getElem?_set_ne (ne 5 7 _ _ b5 b7 (by decide))]; exact h7
    have h8 : (H.set i5 (.inl (0, 20, .inl (zcpf 10 f5))))[i8]? = some (.inl (0, 20, .inl (f8))) := by rw [List.getElem?_set_ne (ne 5 8 _ _ b5 b8 (by decide))]; exact h8
    have h9 : (H.set i5 (.inl (0, 20, .inl (zcpf 10 f5))))[i9]? = some (.inl (0, 20, .inl (f9))) := by rw [List.getElem?_set_ne (ne 5 9 _ _ b5 b9 (by decide))]; exact h9
    have h10 : (H.set i5 (.inl (0, 20, .inl (zcpf 10 f5))))[i10]? = some (.inl (0, 20, .inl (f10))) := by rw [List.getElem?_set_ne (ne 5 10 _ _ b5 b10 (by decide))]; exact h10
    have h11 : (H.set i5 (.inl (0, 20, .inl (zcpf 10 f5))))[i11]? = some (.inl (0, 20, .inl (f11))) := by rw [List.getElem?_set_ne (ne 5 11 _ _ b5 b11 (by decide))]; exact h11
    have h12 : (H.set i5 (.inl (0, 20, .inl (zcpf 10 f5))))[i12]? = some (.inl (0, 20, .inl (f12))) := by rw [List.getElem?_set_ne (ne 5 12 _ _ b5 b12 (by decide))]; exact h12
    have h13 : (H.set i5 (.inl (0, 20, .inl (zcpf 10 f5))))[i13]? = some (.inl (0, 128, .inl (f13))) := by rw [List.getElem?_set_ne (ne 5 13 _ _ b5 b13 (by decide))]; exact h13
    have h14 : (H.set i5 (.inl (0, 20, .inl (zcpf 10 f5))))[i14]? = some (.inl (0, 128, .inl (f14))) := by rw [List.getElem?_set_ne (ne 5 14 _ _ b5 b14 (by decide))]; exact h14
    have h15 : (H.set i5 (.inl (0, 20, .inl (zcpf 10 f5))))[i15]? = some (.inl (0, 128, .inl (f15))) := by rw [List.getElem?_set_ne (ne 5 15 _ _ b5 b15 (by decide))]; exact h15
    have fr : ∀ q, q ≠ j → q ≠ i3 → q ≠ i4 → q ≠ i5 → (H.set i5 (.inl (0, 20, .inl (zcpf 10 f5))))[q]? = hp[q]? := fun q hj e3 e4 e5 => by rw [List.getElem?_set_ne (Ne.symm e5)]; exact fr q hj e3 e4
    have ln : (H.set i5 (.inl (0, 20, .inl (zcpf 10 f5)))).length = hp.length := by rw [List.length_set]; exact ln
    generalize H.set i5 (.inl (0, 20, .inl (zcpf 10 f5))) = H at a2 fr ln h3 h4 h5 h6 h7 h8 h9 h10 h11 h12 h13 h14 h15 ⊢
    -- wide
    refine zs0 (by rfl) rfl rfl ?_
    refine zs_get (by rfl) a2 (by rw [v3o 23 (by decide) (by decide) (by decide)]; exact w6) ?_
    refine zs0 (by rfl) rfl rfl ?_
    refine zs_stat (vs := [.ref i6, .int (Int32.ofInt ((10 : Nat) : Int))]) (by rfl) (by rfl) rfl (Nat.le_of_ble_eq_true (by rfl)) (Nat.le_of_ble_eq_true (by rfl)) (by decide +kernel) (by decide +kernel) (zcopies (by decide) (by decide) h6) ?_
    rintro rv hq ⟨rfl, rfl⟩
    have a2 : (H.set i6 (.inl (0, 20, .inl (zcpf 10 f6))))[j]? = some (.inr (12, v3)) := by rw [List.getElem?_set_ne (ne 6 0 _ _ b6 a1 (by decide))]; exact a2
    have h3 : (H.set i6 (.inl (0, 20, .inl (zcpf 10 f6))))[i3]? = some (.inl (0, 20, .inl (zcpf 10 f3))) := by rw [List.getElem?_set_ne (ne 6 3 _ _ b6 b3 (by decide))]; exact h3
    have h4 : (H.set i6 (.inl (0, 20, .inl (zcpf 10 f6))))[i4]? = some (.inl (0, 20, .inl (zcpf 10 f4))) := by rw [List.getElem?_set_ne (ne 6 4 _ _ b6 b4 (by decide))]; exact h4
    have h5 : (H.set i6 (.inl (0, 20, .inl (zcpf 10 f6))))[i5]? = some (.inl (0, 20, .inl (zcpf 10 f5))) := by rw [List.getElem?_set_ne (ne 6 5 _ _ b6 b5 (by decide))]; exact h5
    have h6 : (H.set i6 (.inl (0, 20, .inl (zcpf 10 f6))))[i6]? = some (.inl (0, 20, .inl (zcpf 10 f6))) := List.getElem?_set_self (List.getElem?_eq_some_iff.mp h6).1
    have h7 : (H.set i6 (.inl (0, 20, .inl (zcpf 10 f6))))[i7]? = some (.inl (0, 20, .inl (f7))) := by rw [List.getElem?_set_ne (ne 6 7 _ _ b6 b7 (by decide))]; exact h7
    have h8 : (H.set i6 (.inl (0, 20, .inl (zcpf 10 f6))))[i8]? = some (.inl (0, 20, .inl (f8))) := by rw [List.getElem?_set_ne (ne 6 8 _ _ b6 b8 (by decide))]; exact h8
    have h9 : (H.set i6 (.inl (0, 20, .inl (zcpf 10 f6))))[i9]? = some (.inl (0, 20, .inl (f9))) := by rw [List.getElem?_set_ne (ne 6 9 _ _ b6 b9 (by decide))]; exact h9
    have h10 : (H.set i6 (.inl (0, 20, .inl (zcpf 10 f6))))[i10]? = some (.inl (0, 20, .inl (f10))) := by rw [List.getElem?_set_ne (ne 6 10 _ _ b6 b10 (by decide))]; exact h10
    have h11 : (H.set i6 (.inl (0, 20, .inl (zcpf 10 f6))))[i11]? = some (.inl (0, 20, .inl (f11))) := by rw [List.getElem?_set_ne (ne 6 11 _ _ b6 b11 (by decide))]; exact h11
    have h12 : (H.set i6 (.inl (0, 20, .inl (zcpf 10 f6))))[i12]? = some (.inl (0, 20, .inl (f12))) := by rw [List.getElem?_set_ne (ne 6 12 _ _ b6 b12 (by decide))]; exact h12
    have h13 : (H.set i6 (.inl (0, 20, .inl (zcpf 10 f6))))[i13]? = some (.inl (0, 128, .inl (f13))) := by rw [List.getElem?_set_ne (ne 6 13 _ _ b6 b13 (by decide))]; exact h13
    have h14 : (H.set i6 (.inl (0, 20, .inl (zcpf 10 f6))))[i14]? = some (.inl (0, 128, .inl (f14))) := by rw [List.getElem?_set_ne (ne 6 14 _ _ b6 b14 (by decide))]; exact h14
    have h15 : (H.set i6 (.inl (0, 20, .inl (zcpf 10 f6))))[i15]? = some (.inl (0, 128, .inl (f15))) := by rw [List.getElem?_set_ne (ne 6 15 _ _ b6 b15 (by decide))]; exact h15
    have fr : ∀ q, q ≠ j → q ≠ i3 → q ≠ i4 → q ≠ i5 → q ≠ i6 → (H.set i6 (.inl (0, 20, .inl (zcpf 10 f6))))[q]? = hp[q]? := fun q hj e3 e4 e5 e6 => by rw [List.getElem?_set_ne (Ne.symm e6)]; exact fr q hj e3 e4 e5
    have ln : (H.set i6 (.inl (0, 20, .inl (zcpf 10 f6)))).length = hp.length := by rw [List.length_set]; exact ln
    generalize H.set i6 (.inl (0, 20, .inl (zcpf 10 f6))) = H at a2 fr ln h3 h4 h5 h6 h7 h8 h9 h10 h11 h12 h13 h14 h15 ⊢
    -- high
    refine zs0 (by rfl) rfl rfl ?_
    refine zs_get (by rfl) a2 (by rw [v3o 24 (by decide) (by decide) (by decide)]; exact w7) ?_
    refine zs0 (by rfl) rfl rfl ?_
    refine zs_stat (vs := [.ref i7, .int (Int32.ofInt ((10 : Nat) : Int))]) (by rfl) (by rfl) rfl (Nat.le_of_ble_eq_true (by rfl)) (Nat.le_of_ble_eq_true (by rfl)) (by decide +kernel) (by decide +kernel) (zcopies (by decide) (by decide) h7) ?_
    rintro rv hq ⟨rfl, rfl⟩
    have a2 : (H.set i7 (.inl (0, 20, .inl (zcpf 10 f7))))[j]? = some (.inr (12, v3)) := by rw [List.getElem?_set_ne (ne 7 0 _ _ b7 a1 (by decide))]; exact a2
    have h3 : (H.set i7 (.inl (0, 20, .inl (zcpf 10 f7))))[i3]? = some (.inl (0, 20, .inl (zcpf 10 f3))) := by rw [List.getElem?_set_ne (ne 7 3 _ _ b7 b3 (by decide))]; exact h3
    have h4 : (H.set i7 (.inl (0, 20, .inl (zcpf 10 f7))))[i4]? = some (.inl (0, 20, .inl (zcpf 10 f4))) := by rw [List.getElem?_set_ne (ne 7 4 _ _ b7 b4 (by decide))]; exact h4
    have h5 : (H.set i7 (.inl (0, 20, .inl (zcpf 10 f7))))[i5]? = some (.inl (0, 20, .inl (zcpf 10 f5))) := by rw [List.getElem?_set_ne (ne 7 5 _ _ b7 b5 (by decide))]; exact h5
    have h6 : (H.set i7 (.inl (0, 20, .inl (zcpf 10 f7))))[i6]? = some (.inl (0, 20, .inl (zcpf 10 f6))) := by rw [List.getElem?_set_ne (ne 7 6 _ _ b7 b6 (by decide))]; exact h6
    have h7 : (H.set i7 (.inl (0, 20, .inl (zcpf 10 f7))))[i7]? = some (.inl (0, 20, .inl (zcpf 10 f7))) := List.getElem?_set_self (List.getElem?_eq_some_iff.mp h7).1
    have h8 : (H.set i7 (.inl (0, 20, .inl (zcpf 10 f7))))[i8]? = some (.inl (0, 20, .inl (f8))) := by rw [List.getElem?_set_ne (ne 7 8 _ _ b7 b8 (by decide))]; exact h8
    have h9 : (H.set i7 (.inl (0, 20, .inl (zcpf 10 f7))))[i9]? = some (.inl (0, 20, .inl (f9))) := by rw [List.getElem?_set_ne (ne 7 9 _ _ b7 b9 (by decide))]; exact h9
    have h10 : (H.set i7 (.inl (0, 20, .inl (zcpf 10 f7))))[i10]? = some (.inl (0, 20, .inl (f10))) := by rw [List.getElem?_set_ne (ne 7 10 _ _ b7 b10 (by decide))]; exact h10
    have h11 : (H.set i7 (.inl (0, 20, .inl (zcpf 10 f7))))[i11]? = some (.inl (0, 20, .inl (f11))) := by rw [List.getElem?_set_ne (ne 7 11 _ _ b7 b11 (by decide))]; exact h11
    have h12 : (H.set i7 (.inl (0, 20, .inl (zcpf 10 f7))))[i12]? = some (.inl (0, 20, .inl (f12))) := by rw [List.getElem?_set_ne (ne 7 12 _ _ b7 b12 (by decide))]; exact h12
    have h13 : (H.set i7 (.inl (0, 20, .inl (zcpf 10 f7))))[i13]? = some (.inl (0, 128, .inl (f13))) := by rw [List.getElem?_set_ne (ne 7 13 _ _ b7 b13 (by decide))]; exact h13
    have h14 : (H.set i7 (.inl (0, 20, .inl (zcpf 10 f7))))[i14]? = some (.inl (0, 128, .inl (f14))) := by rw [List.getElem?_set_ne (ne 7 14 _ _ b7 b14 (by decide))]; exact h14
    have h15 : (H.set i7 (.inl (0, 20, .inl (zcpf 10 f7))))[i15]? = some (.inl (0, 128, .inl (f15))) := by rw [List.getElem?_set_ne (ne 7 15 _ _ b7 b15 (by decide))]; exact h15
    have fr : ∀ q, q ≠ j → q ≠ i3 → q ≠ i4 → q ≠ i5 → q ≠ i6 → q ≠ i7 → (H.set i7 (.inl (0, 20, .inl (zcpf 10 f7))))[q]? = hp[q]? := fun q hj e3 e4 e5 e6 e7 => by rw [List.getElem?_set_ne (Ne.symm e7)]; exact fr q hj e3 e4 e5 e6
    have ln : (H.set i7 (.inl (0, 20, .inl (zcpf 10 f7)))).length = hp.length := by rw [List.length_set]; exact ln
    generalize H.set i7 (.inl (0, 20, .inl (zcpf 10 f7))) = H at a2 fr ln h3 h4 h5 h6 h7 h8 h9 h10 h11 h12 h13 h14 h15 ⊢
    -- weight
    refine zs0 (by rfl) rfl rfl ?_
    refine zs_get (by rfl) a2 (by rw [v3o 25 (by decide) (by decide) (by decide)]; exact w8) ?_
    refine zs0 (by rfl) rfl rfl ?_
    refine zs_stat (vs := [.ref i8, .int (Int32.ofInt ((10 : Nat) : Int))]) (by rfl) (by rfl) rfl (Nat.le_of_ble_eq_true (by rfl)) (Nat.le_of_ble_eq_true (by rfl)) (by decide +kernel) (by decide +kernel) (zcopies (by decide) (by decide) h8) ?_
    rintro rv hq ⟨rfl, rfl⟩
    have a2 : (H.set i8 (.inl (0, 20, .inl (zcpf 10 f8))))[j]? = some (.inr (12, v3)) := by rw [List.getElem?_set_ne (ne 8 0 _ _ b8 a1 (by decide))]; exact a2
    have h3 : (H.set i8 (.inl (0, 20, .inl (zcpf 10 f8))))[i3]? = some (.inl (0, 20, .inl (zcpf 10 f3))) := by rw [List.getElem?_set_ne (ne 8 3 _ _ b8 b3 (by decide))]; exact h3
    have h4 : (H.set i8 (.inl (0, 20, .inl (zcpf 10 f8))))[i4]? = some (.inl (0, 20, .inl (zcpf 10 f4))) := by rw [List.getElem?_set_ne (ne 8 4 _ _ b8 b4 (by decide))]; exact h4
    have h5 : (H.set i8 (.inl (0, 20, .inl (zcpf 10 f8))))[i5]? = some (.inl (0, 20, .inl (zcpf 10 f5))) := by rw [List.getElem?_set_ne (ne 8 5 _ _ b8 b5 (by decide))]; exact h5
    have h6 : (H.set i8 (.inl (0, 20, .inl (zcpf 10 f8))))[i6]? = some (.inl (0, 20, .inl (zcpf 10 f6))) := by rw [List.getElem?_set_ne (ne 8 6 _ _ b8 b6 (by decide))]; exact h6
    have h7 : (H.set i8 (.inl (0, 20, .inl (zcpf 10 f8))))[i7]? = some (.inl (0, 20, .inl (zcpf 10 f7))) := by rw [List.getElem?_set_ne (ne 8 7 _ _ b8 b7 (by decide))]; exact h7
    have h8 : (H.set i8 (.inl (0, 20, .inl (zcpf 10 f8))))[i8]? = some (.inl (0, 20, .inl (zcpf 10 f8))) := List.getElem?_set_self (List.getElem?_eq_some_iff.mp h8).1
    have h9 : (H.set i8 (.inl (0, 20, .inl (zcpf 10 f8))))[i9]? = some (.inl (0, 20, .inl (f9))) := by rw [List.getElem?_set_ne (ne 8 9 _ _ b8 b9 (by decide))]; exact h9
    have h10 : (H.set i8 (.inl (0, 20, .inl (zcpf 10 f8))))[i10]? = some (.inl (0, 20, .inl (f10))) := by rw [List.getElem?_set_ne (ne 8 10 _ _ b8 b10 (by decide))]; exact h10
    have h11 : (H.set i8 (.inl (0, 20, .inl (zcpf 10 f8))))[i11]? = some (.inl (0, 20, .inl (f11))) := by rw [List.getElem?_set_ne (ne 8 11 _ _ b8 b11 (by decide))]; exact h11
    have h12 : (H.set i8 (.inl (0, 20, .inl (zcpf 10 f8))))[i12]? = some (.inl (0, 20, .inl (f12))) := by rw [List.getElem?_set_ne (ne 8 12 _ _ b8 b12 (by decide))]; exact h12
    have h13 : (H.set i8 (.inl (0, 20, .inl (zcpf 10 f8))))[i13]? = some (.inl (0, 128, .inl (f13))) := by rw [List.getElem?_set_ne (ne 8 13 _ _ b8 b13 (by decide))]; exact h13
    have h14 : (H.set i8 (.inl (0, 20, .inl (zcpf 10 f8))))[i14]? = some (.inl (0, 128, .inl (f14))) := by rw [List.getElem?_set_ne (ne 8 14 _ _ b8 b14 (by decide))]; exact h14
    have h15 : (H.set i8 (.inl (0, 20, .inl (zcpf 10 f8))))[i15]? = some (.inl (0, 128, .inl (f15))) := by rw [List.getElem?_set_ne (ne 8 15 _ _ b8 b15 (by decide))]; exact h15
    have fr : ∀ q, q ≠ j → q ≠ i3 → q ≠ i4 → q ≠ i5 → q ≠ i6 → q ≠ i7 → q ≠ i8 → (H.set i8 (.inl (0, 20, .inl (zcpf 10 f8))))[q]? = hp[q]? := fun q hj e3 e4 e5 e6 e7 e8 => by rw [List.getElem?_set_ne (Ne.symm e8)]; exact fr q hj e3 e4 e5 e6 e7
    have ln : (H.set i8 (.inl (0, 20, .inl (zcpf 10 f8)))).length = hp.length := by rw [List.length_set]; exact ln
    generalize H.set i8 (.inl (0, 20, .inl (zcpf 10 f8))) = H at a2 fr ln h3 h4 h5 h6 h7 h8 h9 h10 h11 h12 h13 h14 h15 ⊢
    -- round
    refine zs0 (by rfl) rfl rfl ?_
    refine zs_get (by rfl) a2 (by rw [v3o 26 (by decide) (by decide) (by decide)]; exact w9) ?_
    refine zs0 (by rfl) rfl rfl ?_
    refine zs_stat (vs := [.ref i9, .int (Int32.ofInt ((10 : Nat) : Int))]) (by rfl) (by rfl) rfl (Nat.le_of_ble_eq_true (by rfl)) (Nat.le_of_ble_eq_true (by rfl)) (by decide +kernel) (by decide +kernel) (zcopies (by decide) (by decide) h9) ?_
    rintro rv hq ⟨rfl, rfl⟩
    have a2 : (H.set i9 (.inl (0, 20, .inl (zcpf 10 f9))))[j]? = some (.inr (12, v3)) := by rw [List.getElem?_set_ne (ne 9 0 _ _ b9 a1 (by decide))]; exact a2
    have h3 : (H.set i9 (.inl (0, 20, .inl (zcpf 10 f9))))[i3]? = some (.inl (0, 20, .inl (zcpf 10 f3))) := by rw [List.getElem?_set_ne (ne 9 3 _ _ b9 b3 (by decide))]; exact h3
    have h4 : (H.set i9 (.inl (0, 20, .inl (zcpf 10 f9))))[i4]? = some (.inl (0, 20, .inl (zcpf 10 f4))) := by rw [List.getElem?_set_ne (ne 9 4 _ _ b9 b4 (by decide))]; exact h4
    have h5 : (H.set i9 (.inl (0, 20, .inl (zcpf 10 f9))))[i5]? = some (.inl (0, 20, .inl (zcpf 10 f5))) := by rw [List.getElem?_set_ne (ne 9 5 _ _ b9 b5 (by decide))]; exact h5
    have h6 : (H.set i9 (.inl (0, 20, .inl (zcpf 10 f9))))[i6]? = some (.inl (0, 20, .inl (zcpf 10 f6))) := by rw [List.getElem?_set_ne (ne 9 6 _ _ b9 b6 (by decide))]; exact h6
    have h7 : (H.set i9 (.inl (0, 20, .inl (zcpf 10 f9))))[i7]? = some (.inl (0, 20, .inl (zcpf 10 f7))) := by rw [List.getElem?_set_ne (ne 9 7 _ _ b9 b7 (by decide))]; exact h7
    have h8 : (H.set i9 (.inl (0, 20, .inl (zcpf 10 f9))))[i8]? = some (.inl (0, 20, .inl (zcpf 10 f8))) := by rw [List.getElem?_set_ne (ne 9 8 _ _ b9 b8 (by decide))]; exact h8
    have h9 : (H.set i9 (.inl (0, 20, .inl (zcpf 10 f9))))[i9]? = some (.inl (0, 20, .inl (zcpf 10 f9))) := List.getElem?_set_self (List.getElem?_eq_some_iff.mp h9).1
    have h10 : (H.set i9 (.inl (0, 20, .inl (zcpf 10 f9))))[i10]? = some (.inl (0, 20, .inl (f10))) := by rw [List.getElem?_set_ne (ne 9 10 _ _ b9 b10 (by decide))]; exact h10
    have h11 : (H.set i9 (.inl (0, 20, .inl (zcpf 10 f9))))[i11]? = some (.inl (0, 20, .inl (f11))) := by rw [List.getElem?_set_ne (ne 9 11 _ _ b9 b11 (by decide))]; exact h11
    have h12 : (H.set i9 (.inl (0, 20, .inl (zcpf 10 f9))))[i12]? = some (.inl (0, 20, .inl (f12))) := by rw [List.getElem?_set_ne (ne 9 12 _ _ b9 b12 (by decide))]; exact h12
    have h13 : (H.set i9 (.inl (0, 20, .inl (zcpf 10 f9))))[i13]? = some (.inl (0, 128, .inl (f13))) := by rw [List.getElem?_set_ne (ne 9 13 _ _ b9 b13 (by decide))]; exact h13
    have h14 : (H.set i9 (.inl (0, 20, .inl (zcpf 10 f9))))[i14]? = some (.inl (0, 128, .inl (f14))) := by rw [List.getElem?_set_ne (ne 9 14 _ _ b9 b14 (by decide))]; exact h14
    have h15 : (H.set i9 (.inl (0, 20, .inl (zcpf 10 f9))))[i15]? = some (.inl (0, 128, .inl (f15))) := by rw [List.getElem?_set_ne (ne 9 15 _ _ b9 b15 (by decide))]; exact h15
    have fr : ∀ q, q ≠ j → q ≠ i3 → q ≠ i4 → q ≠ i5 → q ≠ i6 → q ≠ i7 → q ≠ i8 → q ≠ i9 → (H.set i9 (.inl (0, 20, .inl (zcpf 10 f9))))[q]? = hp[q]? := fun q hj e3 e4 e5 e6 e7 e8 e9 => by rw [List.getElem?_set_ne (Ne.symm e9)]; exact fr q hj e3 e4 e5 e6 e7 e8
    have ln : (H.set i9 (.inl (0, 20, .inl (zcpf 10 f9)))).length = hp.length := by rw [List.length_set]; exact ln
    generalize H.set i9 (.inl (0, 20, .inl (zcpf 10 f9))) = H at a2 fr ln h3 h4 h5 h6 h7 h8 h9 h10 h11 h12 h13 h14 h15 ⊢
    -- rough
    refine zs0 (by rfl) rfl rfl ?_
    refine zs_get (by rfl) a2 (by rw [v3o 27 (by decide) (by decide) (by decide)]; exact w10) ?_
    refine zs0 (by rfl) rfl rfl ?_
    refine zs_stat (vs := [.ref i10, .int (Int32.ofInt ((10 : Nat) : Int))]) (by rfl) (by rfl) rfl (Nat.le_of_ble_eq_true (by rfl)) (Nat.le_of_ble_eq_true (by rfl)) (by decide +kernel) (by decide +kernel) (zcopies (by decide) (by decide) h10) ?_
    rintro rv hq ⟨rfl, rfl⟩
    have a2 : (H.set i10 (.inl (0, 20, .inl (zcpf 10 f10))))[j]? = some (.inr (12, v3)) := by rw [List.getElem?_set_ne (ne 10 0 _ _ b10 a1 (by decide))]; exact a2
    have h3 : (H.set i10 (.inl (0, 20, .inl (zcpf 10 f10))))[i3]? = some (.inl (0, 20, .inl (zcpf 10 f3))) := by rw [List.getElem?_set_ne (ne 10 3 _ _ b10 b3 (by decide))]; exact h3
    have h4 : (H.set i10 (.inl (0, 20, .inl (zcpf 10 f10))))[i4]? = some (.inl (0, 20, .inl (zcpf 10 f4))) := by rw [List.getElem?_set_ne (ne 10 4 _ _ b10 b4 (by decide))]; exact h4
    have h5 : (H.set i10 (.inl (0, 20, .inl (zcpf 10 f10))))[i5]? = some (.inl (0, 20, .inl (zcpf 10 f5))) := by rw [List.getElem?_set_ne (ne 10 5 _ _ b10 b5 (by decide))]; exact h5
    have h6 : (H.set i10 (.inl (0, 20, .inl (zcpf 10 f10))))[i6]? = some (.inl (0, 20, .inl (zcpf 10 f6))) := by rw [List.getElem?_set_ne (ne 10 6 _ _ b10 b6 (by decide))]; exact h6
    have h7 : (H.set i10 (.inl (0, 20, .inl (zcpf 10 f10))))[i7]? = some (.inl (0, 20, .inl (zcpf 10 f7))) := by rw [List.getElem?_set_ne (ne 10 7 _ _ b10 b7 (by decide))]; exact h7
    have h8 : (H.set i10 (.inl (0, 20, .inl (zcpf 10 f10))))[i8]? = some (.inl (0, 20, .inl (zcpf 10 f8))) := by rw [List.getElem?_set_ne (ne 10 8 _ _ b10 b8 (by decide))]; exact h8
    have h9 : (H.set i10 (.inl (0, 20, .inl (zcpf 10 f10))))[i9]? = some (.inl (0, 20, .inl (zcpf 10 f9))) := by rw [List.getElem?_set_ne (ne 10 9 _ _ b10 b9 (by decide))]; exact h9
    have h10 : (H.set i10 (.inl (0, 20, .inl (zcpf 10 f10))))[i10]? = some (.inl (0, 20, .inl (zcpf 10 f10))) := List.getElem?_set_self (List.getElem?_eq_some_iff.mp h10).1
    have h11 : (H.set i10 (.inl (0, 20, .inl (zcpf 10 f10))))[i11]? = some (.inl (0, 20, .inl (f11))) := by rw [List.getElem?_set_ne (ne 10 11 _ _ b10 b11 (by decide))]; exact h11
    have h12 : (H.set i10 (.inl (0, 20, .inl (zcpf 10 f10))))[i12]? = some (.inl (0, 20, .inl (f12))) := by rw [List.getElem?_set_ne (ne 10 12 _ _ b10 b12 (by decide))]; exact h12
    have h13 : (H.set i10 (.inl (0, 20, .inl (zcpf 10 f10))))[i13]? = some (.inl (0, 128, .inl (f13))) := by rw [List.getElem?_set_ne (ne 10 13 _ _ b10 b13 (by decide))]; exact h13
    have h14 : (H.set i10 (.inl (0, 20, .inl (zcpf 10 f10))))[i14]? = some (.inl (0, 128, .inl (f14))) := by rw [List.getElem?_set_ne (ne 10 14 _ _ b10 b14 (by decide))]; exact h14
    have h15 : (H.set i10 (.inl (0, 20, .inl (zcpf 10 f10))))[i15]? = some (.inl (0, 128, .inl (f15))) := by rw [List.getElem?_set_ne (ne 10 15 _ _ b10 b15 (by decide))]; exact h15
    have fr : ∀ q, q ≠ j → q ≠ i3 → q ≠ i4 → q ≠ i5 → q ≠ i6 → q ≠ i7 → q ≠ i8 → q ≠ i9 → q ≠ i10 → (H.set i10 (.inl (0, 20, .inl (zcpf 10 f10))))[q]? = hp[q]? := fun q hj e3 e4 e5 e6 e7 e8 e9 e10 => by rw [List.getElem?_set_ne (Ne.symm e10)]; exact fr q hj e3 e4 e5 e6 e7 e8 e9
    have ln : (H.set i10 (.inl (0, 20, .inl (zcpf 10 f10)))).length = hp.length := by rw [List.length_set]; exact ln
    generalize H.set i10 (.inl (0, 20, .inl (zcpf 10 f10))) = H at a2 fr ln h3 h4 h5 h6 h7 h8 h9 h10 h11 h12 h13 h14 h15 ⊢
    -- doubt
    refine zs0 (by rfl) rfl rfl ?_
    refine zs_get (by rfl) a2 (by rw [v3o 28 (by decide) (by decide) (by decide)]; exact w11) ?_
    refine zs0 (by rfl) rfl rfl ?_
    refine zs_stat (vs := [.ref i11, .int (Int32.ofInt ((10 : Nat) : Int))]) (by rfl) (by rfl) rfl (Nat.le_of_ble_eq_true (by rfl)) (Nat.le_of_ble_eq_true (by rfl)) (by decide +kernel) (by decide +kernel) (zcopies (by decide) (by decide) h11) ?_
    rintro rv hq ⟨rfl, rfl⟩
    have a2 : (H.set i11 (.inl (0, 20, .inl (zcpf 10 f11))))[j]? = some (.inr (12, v3)) := by rw [List.getElem?_set_ne (ne 11 0 _ _ b11 a1 (by decide))]; exact a2
    have h3 : (H.set i11 (.inl (0, 20, .inl (zcpf 10 f11))))[i3]? = some (.inl (0, 20, .inl (zcpf 10 f3))) := by rw [List.getElem?_set_ne (ne 11 3 _ _ b11 b3 (by decide))]; exact h3
    have h4 : (H.set i11 (.inl (0, 20, .inl (zcpf 10 f11))))[i4]? = some (.inl (0, 20, .inl (zcpf 10 f4))) := by rw [List.getElem?_set_ne (ne 11 4 _ _ b11 b4 (by decide))]; exact h4
    have h5 : (H.set i11 (.inl (0, 20, .inl (zcpf 10 f11))))[i5]? = some (.inl (0, 20, .inl (zcpf 10 f5))) := by rw [List.getElem?_set_ne (ne 11 5 _ _ b11 b5 (by decide))]; exact h5
    have h6 : (H.set i11 (.inl (0, 20, .inl (zcpf 10 f11))))[i6]? = some (.inl (0, 20, .inl (zcpf 10 f6))) := by rw [List.getElem?_set_ne (ne 11 6 _ _ b11 b6 (by decide))]; exact h6
    have h7 : (H.set i11 (.inl (0, 20, .inl (zcpf 10 f11))))[i7]? = some (.inl (0, 20, .inl (zcpf 10 f7))) := by rw [List.getElem?_set_ne (ne 11 7 _ _ b11 b7 (by decide))]; exact h7
    have h8 : (H.set i11 (.inl (0, 20, .inl (zcpf 10 f11))))[i8]? = some (.inl (0, 20, .inl (zcpf 10 f8))) := by rw [List.getElem?_set_ne (ne 11 8 _ _ b11 b8 (by decide))]; exact h8
    have h9 : (H.set i11 (.inl (0, 20, .inl (zcpf 10 f11))))[i9]? = some (.inl (0, 20, .inl (zcpf 10 f9))) := by rw [List.getElem?_set_ne (ne 11 9 _ _ b11 b9 (by decide))]; exact h9
    have h10 : (H.set i11 (.inl (0, 20, .inl (zcpf 10 f11))))[i10]? = some (.inl (0, 20, .inl (zcpf 10 f10))) := by rw [List.getElem?_set_ne (ne 11 10 _ _ b11 b10 (by decide))]; exact h10
    have h11 : (H.set i11 (.inl (0, 20, .inl (zcpf 10 f11))))[i11]? = some (.inl (0, 20, .inl (zcpf 10 f11))) := List.getElem?_set_self (List.getElem?_eq_some_iff.mp h11).1
    have h12 : (H.set i11 (.inl (0, 20, .inl (zcpf 10 f11))))[i12]? = some (.inl (0, 20, .inl (f12))) := by rw [List.getElem?_set_ne (ne 11 12 _ _ b11 b12 (by decide))]; exact h12
    have h13 : (H.set i11 (.inl (0, 20, .inl (zcpf 10 f11))))[i13]? = some (.inl (0, 128, .inl (f13))) := by rw [List.getElem?_set_ne (ne 11 13 _ _ b11 b13 (by decide))]; exact h13
    have h14 : (H.set i11 (.inl (0, 20, .inl (zcpf 10 f11))))[i14]? = some (.inl (0, 128, .inl (f14))) := by rw [List.getElem?_set_ne (ne 11 14 _ _ b11 b14 (by decide))]; exact h14
    have h15 : (H.set i11 (.inl (0, 20, .inl (zcpf 10 f11))))[i15]? = some (.inl (0, 128, .inl (f15))) := by rw [List.getElem?_set_ne (ne 11 15 _ _ b11 b15 (by decide))]; exact h15
    have fr : ∀ q, q ≠ j → q ≠ i3 → q ≠ i4 → q ≠ i5 → q ≠ i6 → q ≠ i7 → q ≠ i8 → q ≠ i9 → q ≠ i10 → q ≠ i11 → (H.set i11 (.inl (0, 20, .inl (zcpf 10 f11))))[q]? = hp[q]? := fun q hj e3 e4 e5 e6 e7 e8 e9 e10 e11 => by rw [List.getElem?_set_ne (Ne.symm e11)]; exact fr q hj e3 e4 e5 e6 e7 e8 e9 e10
    have ln : (H.set i11 (.inl (0, 20, .inl (zcpf 10 f11)))).length = hp.length := by rw [List.length_set]; exact ln
    generalize H.set i11 (.inl (0, 20, .inl (zcpf 10 f11))) = H at a2 fr ln h3 h4 h5 h6 h7 h8 h9 h10 h11 h12 h13 h14 h15 ⊢
    -- heart
    refine zs0 (by rfl) rfl rfl ?_
    refine zs_get (by rfl) a2 (by rw [v3o 29 (by decide) (by decide) (by decide)]; exact w12) ?_
    refine zs0 (by rfl) rfl rfl ?_
    refine zs_stat (vs := [.ref i12, .int (Int32.ofInt ((10 : Nat) : Int))]) (by rfl) (by rfl) rfl (Nat.le_of_ble_eq_true (by rfl)) (Nat.le_of_ble_eq_true (by rfl)) (by decide +kernel) (by decide +kernel) (zcopies (by decide) (by decide) h12) ?_
    rintro rv hq ⟨rfl, rfl⟩
    have a2 : (H.set i12 (.inl (0, 20, .inl (zcpf 10 f12))))[j]? = some (.inr (12, v3)) := by rw [List.getElem?_set_ne (ne 12 0 _ _ b12 a1 (by decide))]; exact a2
    have h3 : (H.set i12 (.inl (0, 20, .inl (zcpf 10 f12))))[i3]? = some (.inl (0, 20, .inl (zcpf 10 f3))) := by rw [List.getElem?_set_ne (ne 12 3 _ _ b12 b3 (by decide))]; exact h3
    have h4 : (H.set i12 (.inl (0, 20, .inl (zcpf 10 f12))))[i4]? = some (.inl (0, 20, .inl (zcpf 10 f4))) := by rw [List.getElem?_set_ne (ne 12 4 _ _ b12 b4 (by decide))]; exact h4
    have h5 : (H.set i12 (.inl (0, 20, .inl (zcpf 10 f12))))[i5]? = some (.inl (0, 20, .inl (zcpf 10 f5))) := by rw [List.getElem?_set_ne (ne 12 5 _ _ b12 b5 (by decide))]; exact h5
    have h6 : (H.set i12 (.inl (0, 20, .inl (zcpf 10 f12))))[i6]? = some (.inl (0, 20, .inl (zcpf 10 f6))) := by rw [List.getElem?_set_ne (ne 12 6 _ _ b12 b6 (by decide))]; exact h6
    have h7 : (H.set i12 (.inl (0, 20, .inl (zcpf 10 f12))))[i7]? = some (.inl (0, 20, .inl (zcpf 10 f7))) := by rw [List.getElem?_set_ne (ne 12 7 _ _ b12 b7 (by decide))]; exact h7
    have h8 : (H.set i12 (.inl (0, 20, .inl (zcpf 10 f12))))[i8]? = some (.inl (0, 20, .inl (zcpf 10 f8))) := by rw [List.getElem?_set_ne (ne 12 8 _ _ b12 b8 (by decide))]; exact h8
    have h9 : (H.set i12 (.inl (0, 20, .inl (zcpf 10 f12))))[i9]? = some (.inl (0, 20, .inl (zcpf 10 f9))) := by rw [List.getElem?_set_ne (ne 12 9 _ _ b12 b9 (by decide))]; exact h9
    have h10 : (H.set i12 (.inl (0, 20, .inl (zcpf 10 f12))))[i10]? = some (.inl (0, 20, .inl (zcpf 10 f10))) := by rw [List.getElem?_set_ne (ne 12 10 _ _ b12 b10 (by decide))]; exact h10
    have h11 : (H.set i12 (.inl (0, 20, .inl (zcpf 10 f12))))[i11]? = some (.inl (0, 20, .inl (zcpf 10 f11))) := by rw [List.getElem?_set_ne (ne 12 11 _ _ b12 b11 (by decide))]; exact h11
    have h12 : (H.set i12 (.inl (0, 20, .inl (zcpf 10 f12))))[i12]? = some (.inl (0, 20, .inl (zcpf 10 f12))) := List.getElem?_set_self (List.getElem?_eq_some_iff.mp h12).1
    have h13 : (H.set i12 (.inl (0, 20, .inl (zcpf 10 f12))))[i13]? = some (.inl (0, 128, .inl (f13))) := by rw [List.getElem?_set_ne (ne 12 13 _ _ b12 b13 (by decide))]; exact h13
    have h14 : (H.set i12 (.inl (0, 20, .inl (zcpf 10 f12))))[i14]? = some (.inl (0, 128, .inl (f14))) := by rw [List.getElem?_set_ne (ne 12 14 _ _ b12 b14 (by decide))]; exact h14
    have h15 : (H.set i12 (.inl (0, 20, .inl (zcpf 10 f12))))[i15]? = some (.inl (0, 128, .inl (f15))) := by rw [List.getElem?_set_ne (ne 12 15 _ _ b12 b15 (by decide))]; exact h15
    have fr : ∀ q, q ≠ j → q ≠ i3 → q ≠ i4 → q ≠ i5 → q ≠ i6 → q ≠ i7 → q ≠ i8 → q ≠ i9 → q ≠ i10 → q ≠ i11 → q ≠ i12 → (H.set i12 (.inl (0, 20, .inl (zcpf 10 f12))))[q]? = hp[q]? := fun q hj e3 e4 e5 e6 e7 e8 e9 e10 e11 e12 => by rw [List.getElem?_set_ne (Ne.symm e12)]; exact fr q hj e3 e4 e5 e6 e7 e8 e9 e10 e11
    have ln : (H.set i12 (.inl (0, 20, .inl (zcpf 10 f12)))).length = hp.length := by rw [List.length_set]; exact ln
    generalize H.set i12 (.inl (0, 20, .inl (zcpf 10 f12))) = H at a2 fr ln h3 h4 h5 h6 h7 h8 h9 h10 h11 h12 h13 h14 h15 ⊢
    -- knot
    refine zs0 (by rfl) rfl rfl ?_
    refine zs_get (by rfl) a2 (by rw [v3o 30 (by decide) (by decide) (by decide)]; exact w13) ?_
    refine zs0 (by rfl) rfl rfl ?_
    refine zs_stat (vs := [.ref i13, .int (Int32.ofInt ((64 : Nat) : Int))]) (by rfl) (by rfl) rfl (Nat.le_of_ble_eq_true (by rfl)) (Nat.le_of_ble_eq_true (by rfl)) (by decide +kernel) (by decide +kernel) (zcopies (by decide) (by decide) h13) ?_
    rintro rv hq ⟨rfl, rfl⟩
    have a2 : (H.set i13 (.inl (0, 128, .inl (zcpf 64 f13))))[j]? = some (.inr (12, v3)) := by rw [List.getElem?_set_ne (ne 13 0 _ _ b13 a1 (by decide))]; exact a2
    have h3 : (H.set i13 (.inl (0, 128, .inl (zcpf 64 f13))))[i3]? = some (.inl (0, 20, .inl (zcpf 10 f3))) := by rw [List.getElem?_set_ne (ne 13 3 _ _ b13 b3 (by decide))]; exact h3
    have h4 : (H.set i13 (.inl (0, 128, .inl (zcpf 64 f13))))[i4]? = some (.inl (0, 20, .inl (zcpf 10 f4))) := by rw [List.getElem?_set_ne (ne 13 4 _ _ b13 b4 (by decide))]; exact h4
    have h5 : (H.set i13 (.inl (0, 128, .inl (zcpf 64 f13))))[i5]? = some (.inl (0, 20, .inl (zcpf 10 f5))) := by rw [List.getElem?_set_ne (ne 13 5 _ _ b13 b5 (by decide))]; exact h5
    have h6 : (H.set i13 (.inl (0, 128, .inl (zcpf 64 f13))))[i6]? = some (.inl (0, 20, .inl (zcpf 10 f6))) := by rw [List.getElem?_set_ne (ne 13 6 _ _ b13 b6 (by decide))]; exact h6
    have h7 : (H.set i13 (.inl (0, 128, .inl (zcpf 64 f13))))[i7]? = some (.inl (0, 20, .inl (zcpf 10 f7))) := by rw [List.getElem?_set_ne (ne 13 7 _ _ b13 b7 (by decide))]; exact h7
    have h8 : (H.set i13 (.inl (0, 128, .inl (zcpf 64 f13))))[i8]? = some (.inl (0, 20, .inl (zcpf 10 f8))) := by rw [List.getElem?_set_ne (ne 13 8 _ _ b13 b8 (by decide))]; exact h8
    have h9 : (H.set i13 (.inl (0, 128, .inl (zcpf 64 f13))))[i9]? = some (.inl (0, 20, .inl (zcpf 10 f9))) := by rw [List.getElem?_set_ne (ne 13 9 _ _ b13 b9 (by decide))]; exact h9
    have h10 : (H.set i13 (.inl (0, 128, .inl (zcpf 64 f13))))[i10]? = some (.inl (0, 20, .inl (zcpf 10 f10))) := by rw [List.getElem?_set_ne (ne 13 10 _ _ b13 b10 (by decide))]; exact h10
    have h11 : (H.set i13 (.inl (0, 128, .inl (zcpf 64 f13))))[i11]? = some (.inl (0, 20, .inl (zcpf 10 f11))) := by rw [List.getElem?_set_ne (ne 13 11 _ _ b13 b11 (by decide))]; exact h11
    have h12 : (H.set i13 (.inl (0, 128, .inl (zcpf 64 f13))))[i12]? = some (.inl (0, 20, .inl (zcpf 10 f12))) := by rw [List.getElem?_set_ne (ne 13 12 _ _ b13 b12 (by decide))]; exact h12
    have h13 : (H.set i13 (.inl (0, 128, .inl (zcpf 64 f13))))[i13]? = some (.inl (0, 128, .inl (zcpf 64 f13))) := List.getElem?_set_self (List.getElem?_eq_some_iff.mp h13).1
    have h14 : (H.set i13 (.inl (0, 128, .inl (zcpf 64 f13))))[i14]? = some (.inl (0, 128, .inl (f14))) := by rw [List.getElem?_set_ne (ne 13 14 _ _ b13 b14 (by decide))]; exact h14
    have h15 : (H.set i13 (.inl (0, 128, .inl (zcpf 64 f13))))[i15]? = some (.inl (0, 128, .inl (f15))) := by rw [List.getElem?_set_ne (ne 13 15 _ _ b13 b15 (by decide))]; exact h15
    have fr : ∀ q, q ≠ j → q ≠ i3 → q ≠ i4 → q ≠ i5 → q ≠ i6 → q ≠ i7 → q ≠ i8 → q ≠ i9 → q ≠ i10 → q ≠ i11 → q ≠ i12 → q ≠ i13 → (H.set i13 (.inl (0, 128, .inl (zcpf 64 f13))))[q]? = hp[q]? := fun q hj e3 e4 e5 e6 e7 e8 e9 e10 e11 e12 e13 => by rw [List.getElem?_set_ne (Ne.symm e13)]; exact fr q hj e3 e4 e5 e6 e7 e8 e9 e10 e11 e12
    have ln : (H.set i13 (.inl (0, 128, .inl (zcpf 64 f13)))).length = hp.length := by rw [List.length_set]; exact ln
    generalize H.set i13 (.inl (0, 128, .inl (zcpf 64 f13))) = H at a2 fr ln h3 h4 h5 h6 h7 h8 h9 h10 h11 h12 h13 h14 h15 ⊢
    -- part
    refine zs0 (by rfl) rfl rfl ?_
    refine zs_get (by rfl) a2 (by rw [v3o 31 (by decide) (by decide) (by decide)]; exact w14) ?_
    refine zs0 (by rfl) rfl rfl ?_
    refine zs_stat (vs := [.ref i14, .int (Int32.ofInt ((64 : Nat) : Int))]) (by rfl) (by rfl) rfl (Nat.le_of_ble_eq_true (by rfl)) (Nat.le_of_ble_eq_true (by rfl)) (by decide +kernel) (by decide +kernel) (zcopies (by decide) (by decide) h14) ?_
    rintro rv hq ⟨rfl, rfl⟩
    have a2 : (H.set i14 (.inl (0, 128, .inl (zcpf 64 f14))))[j]? = some (.inr (12, v3)) := by rw [List.getElem?_set_ne (ne 14 0 _ _ b14 a1 (by decide))]; exact a2
    have h3 : (H.set i14 (.inl (0, 128, .inl (zcpf 64 f14))))[i3]? = some (.inl (0, 20, .inl (zcpf 10 f3))) := by rw [List.getElem?_set_ne (ne 14 3 _ _ b14 b3 (by decide))]; exact h3
    have h4 : (H.set i14 (.inl (0, 128, .inl (zcpf 64 f14))))[i4]? = some (.inl (0, 20, .inl (zcpf 10 f4))) := by rw [List.getElem?_set_ne (ne 14 4 _ _ b14 b4 (by decide))]; exact h4
    have h5 : (H.set i14 (.inl (0, 128, .inl (zcpf 64 f14))))[i5]? = some (.inl (0, 20, .inl (zcpf 10 f5))) := by rw [List.getElem?_set_ne (ne 14 5 _ _ b14 b5 (by decide))]; exact h5
    have h6 : (H.set i14 (.inl (0, 128, .inl (zcpf 64 f14))))[i6]? = some (.inl (0, 20, .inl (zcpf 10 f6))) := by rw [List.getElem?_set_ne (ne 14 6 _ _ b14 b6 (by decide))]; exact h6
    have h7 : (H.set i14 (.inl (0, 128, .inl (zcpf 64 f14))))[i7]? = some (.inl (0, 20, .inl (zcpf 10 f7))) := by rw [List.getElem?_set_ne (ne 14 7 _ _ b14 b7 (by decide))]; exact h7
    have h8 : (H.set i14 (.inl (0, 128, .inl (zcpf 64 f14))))[i8]? = some (.inl (0, 20, .inl (zcpf 10 f8))) := by rw [List.getElem?_set_ne (ne 14 8 _ _ b14 b8 (by decide))]; exact h8
    have h9 : (H.set i14 (.inl (0, 128, .inl (zcpf 64 f14))))[i9]? = some (.inl (0, 20, .inl (zcpf 10 f9))) := by rw [List.getElem?_set_ne (ne 14 9 _ _ b14 b9 (by decide))]; exact h9
    have h10 : (H.set i14 (.inl (0, 128, .inl (zcpf 64 f14))))[i10]? = some (.inl (0, 20, .inl (zcpf 10 f10))) := by rw [List.getElem?_set_ne (ne 14 10 _ _ b14 b10 (by decide))]; exact h10
    have h11 : (H.set i14 (.inl (0, 128, .inl (zcpf 64 f14))))[i11]? = some (.inl (0, 20, .inl (zcpf 10 f11))) := by rw [List.getElem?_set_ne (ne 14 11 _ _ b14 b11 (by decide))]; exact h11
    have h12 : (H.set i14 (.inl (0, 128, .inl (zcpf 64 f14))))[i12]? = some (.inl (0, 20, .inl (zcpf 10 f12))) := by rw [List.getElem?_set_ne (ne 14 12 _ _ b14 b12 (by decide))]; exact h12
    have h13 : (H.set i14 (.inl (0, 128, .inl (zcpf 64 f14))))[i13]? = some (.inl (0, 128, .inl (zcpf 64 f13))) := by rw [List.getElem?_set_ne (ne 14 13 _ _ b14 b13 (by decide))]; exact h13
    have h14 : (H.set i14 (.inl (0, 128, .inl (zcpf 64 f14))))[i14]? = some (.inl (0, 128, .inl (zcpf 64 f14))) := List.getElem?_set_self (List.getElem?_eq_some_iff.mp h14).1
    have h15 : (H.set i14 (.inl (0, 128, .inl (zcpf 64 f14))))[i15]? = some (.inl (0, 128, .inl (f15))) := by rw [List.getElem?_set_ne (ne 14 15 _ _ b14 b15 (by decide))]; exact h15
    have fr : ∀ q, q ≠ j → q ≠ i3 → q ≠ i4 → q ≠ i5 → q ≠ i6 → q ≠ i7 → q ≠ i8 → q ≠ i9 → q ≠ i10 → q ≠ i11 → q ≠ i12 → q ≠ i13 → q ≠ i14 → (H.set i14 (.inl (0, 128, .inl (zcpf 64 f14))))[q]? = hp[q]? := fun q hj e3 e4 e5 e6 e7 e8 e9 e10 e11 e12 e13 e14 => by rw [List.getElem?_set_ne (Ne.symm e14)]; exact fr q hj e3 e4 e5 e6 e7 e8 e9 e10 e11 e12 e13
    have ln : (H.set i14 (.inl (0, 128, .inl (zcpf 64 f14)))).length = hp.length := by rw [List.length_set]; exact ln
    generalize H.set i14 (.inl (0, 128, .inl (zcpf 64 f14))) = H at a2 fr ln h3 h4 h5 h6 h7 h8 h9 h10 h11 h12 h13 h14 h15 ⊢
    -- other
    refine zs0 (by rfl) rfl rfl ?_
    refine zs_get (by rfl) a2 (by rw [v3o 32 (by decide) (by decide) (by decide)]; exact w15) ?_
    refine zs0 (by rfl) rfl rfl ?_
    refine zs_stat (vs := [.ref i15, .int (Int32.ofInt ((64 : Nat) : Int))]) (by rfl) (by rfl) rfl (Nat.le_of_ble_eq_true (by rfl)) (Nat.le_of_ble_eq_true (by rfl)) (by decide +kernel) (by decide +kernel) (zcopies (by decide) (by decide) h15) ?_
    rintro rv hq ⟨rfl, rfl⟩
    have a2 : (H.set i15 (.inl (0, 128, .inl (zcpf 64 f15))))[j]? = some (.inr (12, v3)) := by rw [List.getElem?_set_ne (ne 15 0 _ _ b15 a1 (by decide))]; exact a2
    have h3 : (H.set i15 (.inl (0, 128, .inl (zcpf 64 f15))))[i3]? = some (.inl (0, 20, .inl (zcpf 10 f3))) := by rw [List.getElem?_set_ne (ne 15 3 _ _ b15 b3 (by decide))]; exact h3
    have h4 : (H.set i15 (.inl (0, 128, .inl (zcpf 64 f15))))[i4]? = some (.inl (0, 20, .inl (zcpf 10 f4))) := by rw [List.getElem?_set_ne (ne 15 4 _ _ b15 b4 (by decide))]; exact h4
    have h5 : (H.set i15 (.inl (0, 128, .inl (zcpf 64 f15))))[i5]? = some (.inl (0, 20, .inl (zcpf 10 f5))) := by rw [List.getElem?_set_ne (ne 15 5 _ _ b15 b5 (by decide))]; exact h5
    have h6 : (H.set i15 (.inl (0, 128, .inl (zcpf 64 f15))))[i6]? = some (.inl (0, 20, .inl (zcpf 10 f6))) := by rw [List.getElem?_set_ne (ne 15 6 _ _ b15 b6 (by decide))]; exact h6
    have h7 : (H.set i15 (.inl (0, 128, .inl (zcpf 64 f15))))[i7]? = some (.inl (0, 20, .inl (zcpf 10 f7))) := by rw [List.getElem?_set_ne (ne 15 7 _ _ b15 b7 (by decide))]; exact h7
    have h8 : (H.set i15 (.inl (0, 128, .inl (zcpf 64 f15))))[i8]? = some (.inl (0, 20, .inl (zcpf 10 f8))) := by rw [List.getElem?_set_ne (ne 15 8 _ _ b15 b8 (by decide))]; exact h8
    have h9 : (H.set i15 (.inl (0, 128, .inl (zcpf 64 f15))))[i9]? = some (.inl (0, 20, .inl (zcpf 10 f9))) := by rw [List.getElem?_set_ne (ne 15 9 _ _ b15 b9 (by decide))]; exact h9
    have h10 : (H.set i15 (.inl (0, 128, .inl (zcpf 64 f15))))[i10]? = some (.inl (0, 20, .inl (zcpf 10 f10))) := by rw [List.getElem?_set_ne (ne 15 10 _ _ b15 b10 (by decide))]; exact h10
    have h11 : (H.set i15 (.inl (0, 128, .inl (zcpf 64 f15))))[i11]? = some (.inl (0, 20, .inl (zcpf 10 f11))) := by rw [List.getElem?_set_ne (ne 15 11 _ _ b15 b11 (by decide))]; exact h11
    have h12 : (H.set i15 (.inl (0, 128, .inl (zcpf 64 f15))))[i12]? = some (.inl (0, 20, .inl (zcpf 10 f12))) := by rw [List.getElem?_set_ne (ne 15 12 _ _ b15 b12 (by decide))]; exact h12
    have h13 : (H.set i15 (.inl (0, 128, .inl (zcpf 64 f15))))[i13]? = some (.inl (0, 128, .inl (zcpf 64 f13))) := by rw [List.getElem?_set_ne (ne 15 13 _ _ b15 b13 (by decide))]; exact h13
    have h14 : (H.set i15 (.inl (0, 128, .inl (zcpf 64 f15))))[i14]? = some (.inl (0, 128, .inl (zcpf 64 f14))) := by rw [List.getElem?_set_ne (ne 15 14 _ _ b15 b14 (by decide))]; exact h14
    have h15 : (H.set i15 (.inl (0, 128, .inl (zcpf 64 f15))))[i15]? = some (.inl (0, 128, .inl (zcpf 64 f15))) := List.getElem?_set_self (List.getElem?_eq_some_iff.mp h15).1
    have fr : ∀ q, q ≠ j → q ≠ i3 → q ≠ i4 → q ≠ i5 → q ≠ i6 → q ≠ i7 → q ≠ i8 → q ≠ i9 → q ≠ i10 → q ≠ i11 → q ≠ i12 → q ≠ i13 → q ≠ i14 → q ≠ i15 → (H.set i15 (.inl (0, 128, .inl (zcpf 64 f15))))[q]? = hp[q]? := fun q hj e3 e4 e5 e6 e7 e8 e9 e10 e11 e12 e13 e14 e15 => by rw [List.getElem?_set_ne (Ne.symm e15)]; exact fr q hj e3 e4 e5 e6 e7 e8 e9 e10 e11 e12 e13 e14
    have ln : (H.set i15 (.inl (0, 128, .inl (zcpf 64 f15)))).length = hp.length := by rw [List.length_set]; exact ln
    generalize H.set i15 (.inl (0, 128, .inl (zcpf 64 f15))) = H at a2 fr ln h3 h4 h5 h6 h7 h8 h9 h10 h11 h12 h13 h14 h15 ⊢
    have hjl : j < H.length := (List.getElem?_eq_some_iff.mp a2).1
    have v3m : v3[12]? = some (.int y15) := by rw [← hv3, List.getElem?_set_ne (by decide), List.getElem?_set_ne (by decide)]; exact List.getElem?_set_self (by rw [hvl]; decide)
    iterate 3 refine zs0 (by rfl) rfl rfl ?_
    refine zs_get (by rfl) a2 v3m ?_
    iterate 3 refine zs0 (by rfl) rfl rfl ?_
    refine zs_put (by rfl) a2 (by rw [v3l]; decide) (by rfl) ?_
    have ht := zthere (x := y15) (by omega) (by omega)
    generalize hty : (Int32.ofInt 1 <<< (y15 &&& 31) - Int32.ofInt 1) = ty at ht
    have a2 := List.getElem?_set_self (a := (.inr (12, v3.set 41 (.int ty)) : zhE)) hjl
    rw [← hty] at a2
    iterate 2 refine zs0 (by rfl) rfl rfl ?_
    refine zs_put (by rfl) a2 (by simp [v3l]) (by rfl) ?_
    rw [List.set_set]
    have a2 := List.getElem?_set_self (a := (.inr (12, (v3.set 41 (.int ty)).set 67 (.int (Int32.ofInt 0))) : zhE)) hjl
    rw [← hty] at a2
    iterate 2 refine zs0 (by rfl) rfl rfl ?_
    refine zs_put (by rfl) a2 (by simp [v3l]) (by rfl) ?_
    rw [List.set_set]
    have a2 := List.getElem?_set_self (a := (.inr (12, ((v3.set 41 (.int ty)).set 67 (.int (Int32.ofInt 0))).set 69 (.int (Int32.ofInt 0))) : zhE)) hjl
    rw [← hty] at a2
    refine zs_retV (by rfl) ?_
    have hjl2 : j < H.length := hjl
    have a2 : (H.set j (.inr (12, ((v3.set 41 (.int ty)).set 67 (.int (Int32.ofInt 0))).set 69 (.int (Int32.ofInt 0)))))[j]? = some (.inr (12, ((v3.set 41 (.int ty)).set 67 (.int (Int32.ofInt 0))).set 69 (.int (Int32.ofInt 0)))) := List.getElem?_set_self hjl
    show zPo zu_175 η ρ hp none (H.set j (.inr (12, ((v3.set 41 (.int (Int32.ofInt 1 <<< (y15 &&& 31) - Int32.ofInt 1))).set 67 (.int (Int32.ofInt 0))).set 69 (.int (Int32.ofInt 0)))))
    rw [hty]
    have h3 : (H.set j (.inr (12, ((v3.set 41 (.int ty)).set 67 (.int (Int32.ofInt 0))).set 69 (.int (Int32.ofInt 0)))))[i3]? = some (.inl (0, 20, .inl (zcpf 10 f3))) := by rw [List.getElem?_set_ne (ne 0 3 _ _ a1 b3 (by decide))]; exact h3
    have h4 : (H.set j (.inr (12, ((v3.set 41 (.int ty)).set 67 (.int (Int32.ofInt 0))).set 69 (.int (Int32.ofInt 0)))))[i4]? = some (.inl (0, 20, .inl (zcpf 10 f4))) := by rw [List.getElem?_set_ne (ne 0 4 _ _ a1 b4 (by decide))]; exact h4
    have h5 : (H.set j (.inr (12, ((v3.set 41 (.int ty)).set 67 (.int (Int32.ofInt 0))).set 69 (.int (Int32.ofInt 0)))))[i5]? = some (.inl (0, 20, .inl (zcpf 10 f5))) := by rw [List.getElem?_set_ne (ne 0 5 _ _ a1 b5 (by decide))]; exact h5
    have h6 : (H.set j (.inr (12, ((v3.set 41 (.int ty)).set 67 (.int (Int32.ofInt 0))).set 69 (.int (Int32.ofInt 0)))))[i6]? = some (.inl (0, 20, .inl (zcpf 10 f6))) := by rw [List.getElem?_set_ne (ne 0 6 _ _ a1 b6 (by decide))]; exact h6
    have h7 : (H.set j (.inr (12, ((v3.set 41 (.int ty)).set 67 (.int (Int32.ofInt 0))).set 69 (.int (Int32.ofInt 0)))))[i7]? = some (.inl (0, 20, .inl (zcpf 10 f7))) := by rw [List.getElem?_set_ne (ne 0 7 _ _ a1 b7 (by decide))]; exact h7
    have h8 : (H.set j (.inr (12, ((v3.set 41 (.int ty)).set 67 (.int (Int32.ofInt 0))).set 69 (.int (Int32.ofInt 0)))))[i8]? = some (.inl (0, 20, .inl (zcpf 10 f8))) := by rw [List.getElem?_set_ne (ne 0 8 _ _ a1 b8 (by decide))]; exact h8
    have h9 : (H.set j (.inr (12, ((v3.set 41 (.int ty)).set 67 (.int (Int32.ofInt 0))).set 69 (.int (Int32.ofInt 0)))))[i9]? = some (.inl (0, 20, .inl (zcpf 10 f9))) := by rw [List.getElem?_set_ne (ne 0 9 _ _ a1 b9 (by decide))]; exact h9
    have h10 : (H.set j (.inr (12, ((v3.set 41 (.int ty)).set 67 (.int (Int32.ofInt 0))).set 69 (.int (Int32.ofInt 0)))))[i10]? = some (.inl (0, 20, .inl (zcpf 10 f10))) := by rw [List.getElem?_set_ne (ne 0 10 _ _ a1 b10 (by decide))]; exact h10
    have h11 : (H.set j (.inr (12, ((v3.set 41 (.int ty)).set 67 (.int (Int32.ofInt 0))).set 69 (.int (Int32.ofInt 0)))))[i11]? = some (.inl (0, 20, .inl (zcpf 10 f11))) := by rw [List.getElem?_set_ne (ne 0 11 _ _ a1 b11 (by decide))]; exact h11
    have h12 : (H.set j (.inr (12, ((v3.set 41 (.int ty)).set 67 (.int (Int32.ofInt 0))).set 69 (.int (Int32.ofInt 0)))))[i12]? = some (.inl (0, 20, .inl (zcpf 10 f12))) := by rw [List.getElem?_set_ne (ne 0 12 _ _ a1 b12 (by decide))]; exact h12
    have h13 : (H.set j (.inr (12, ((v3.set 41 (.int ty)).set 67 (.int (Int32.ofInt 0))).set 69 (.int (Int32.ofInt 0)))))[i13]? = some (.inl (0, 128, .inl (zcpf 64 f13))) := by rw [List.getElem?_set_ne (ne 0 13 _ _ a1 b13 (by decide))]; exact h13
    have h14 : (H.set j (.inr (12, ((v3.set 41 (.int ty)).set 67 (.int (Int32.ofInt 0))).set 69 (.int (Int32.ofInt 0)))))[i14]? = some (.inl (0, 128, .inl (zcpf 64 f14))) := by rw [List.getElem?_set_ne (ne 0 14 _ _ a1 b14 (by decide))]; exact h14
    have h15 : (H.set j (.inr (12, ((v3.set 41 (.int ty)).set 67 (.int (Int32.ofInt 0))).set 69 (.int (Int32.ofInt 0)))))[i15]? = some (.inl (0, 128, .inl (zcpf 64 f15))) := by rw [List.getElem?_set_ne (ne 0 15 _ _ a1 b15 (by decide))]; exact h15
    have fr : ∀ q, q ≠ j → q ≠ i3 → q ≠ i4 → q ≠ i5 → q ≠ i6 → q ≠ i7 → q ≠ i8 → q ≠ i9 → q ≠ i10 → q ≠ i11 → q ≠ i12 → q ≠ i13 → q ≠ i14 → q ≠ i15 → (H.set j (.inr (12, ((v3.set 41 (.int ty)).set 67 (.int (Int32.ofInt 0))).set 69 (.int (Int32.ofInt 0)))))[q]? = hp[q]? := fun q hj e3 e4 e5 e6 e7 e8 e9 e10 e11 e12 e13 e14 e15 => by rw [List.getElem?_set_ne (Ne.symm hj)]; exact fr q hj e3 e4 e5 e6 e7 e8 e9 e10 e11 e12 e13 e14 e15
    have ln : (H.set j (.inr (12, ((v3.set 41 (.int ty)).set 67 (.int (Int32.ofInt 0))).set 69 (.int (Int32.ofInt 0))))).length = hp.length := by rw [List.length_set]; exact ln
    generalize H.set j (.inr (12, ((v3.set 41 (.int ty)).set 67 (.int (Int32.ofInt 0))).set 69 (.int (Int32.ofInt 0)))) = H at a2 fr ln h3 h4 h5 h6 h7 h8 h9 h10 h11 h12 h13 h14 h15 ⊢
    have hr : ∀ (m : Nat) (z : Int), ρ[m]? = some z → (ρ ++ [ty.toInt])[m]? = some z := fun m z h => by rw [List.getElem?_append_left (List.getElem?_eq_some_iff.mp h).1]; exact h
    have hS := zAll_set (i := 69) (zAll_set (i := 67) (zAll_set (i := 41) (zAll_set (i := 14) (zAll_set (i := 13) (zAll_set (i := 12) (zaS_mono1 (l := [ty.toInt]) a3) (show zav η (ρ ++ [ty.toInt]) (0, (0, [(13, 1)])) (.int y15) from ⟨_, rfl, zxr_s (hr _ _ y15r)⟩)) (show zav η (ρ ++ [ty.toInt]) (0, (0, [(14, 1)])) (.int y16) from ⟨_, rfl, zxr_s (hr _ _ y16r)⟩)) (show zav η (ρ ++ [ty.toInt]) (0, (0, [(15, 1)])) (.int y17) from ⟨_, rfl, zxr_s (hr _ _ y17r)⟩)) (show zav η (ρ ++ [ty.toInt]) (0, (0, [(37, 1)])) (.int ty) from ⟨_, rfl, zxr_s (zsnoc_at p4 rfl)⟩)) (show zav η (ρ ++ [ty.toInt]) (0, (0, [])) (.int (Int32.ofInt 0)) from ⟨_, rfl, zxr_c _ _⟩)) (show zav η (ρ ++ [ty.toInt]) (0, (0, [])) (.int (Int32.ofInt 0)) from ⟨_, rfl, zxr_c _ _⟩)
    rw [hv3] at hS
    refine ⟨_, List.mem_cons_self, [ty.toInt], ⟨fun q hq => absurd hq List.not_mem_nil, trivial, fun q hq => ?_, zaE_snoc p4 ht.1 ht.2, fun f hf => absurd hf List.not_mem_nil, fun o ho => ?_⟩, Nat.le_of_eq ln.symm, fun i hi hw => ?_⟩
    · rcases List.mem_cons.mp hq with rfl | hq
      · exact ⟨j, _, a1, a2, _, rfl, hS⟩
      rcases List.mem_cons.mp hq with rfl | hq
      · exact ⟨i3, _, b3, h3, _, rfl, ⟨_, rfl⟩, zcpf_rng (by decide) r3⟩
      rcases List.mem_cons.mp hq with rfl | hq
      · exact ⟨i4, _, b4, h4, _, rfl, ⟨_, rfl⟩, zcpf_rng (by decide) r4⟩
      rcases List.mem_cons.mp hq with rfl | hq
      · exact ⟨i5, _, b5, h5, _, rfl, ⟨_, rfl⟩, zcpf_rng (by decide) r5⟩
      rcases List.mem_cons.mp hq with rfl | hq
      · exact ⟨i6, _, b6, h6, _, rfl, ⟨_, rfl⟩, zcpf_rng (by decide) r6⟩
      rcases List.mem_cons.mp hq with rfl | hq
      · exact ⟨i7, _, b7, h7, _, rfl, ⟨_, rfl⟩, zcpf_rng (by decide) r7⟩
      rcases List.mem_cons.mp hq with rfl | hq
      · exact ⟨i8, _, b8, h8, _, rfl, ⟨_, rfl⟩, zcpf_rng (by decide) r8⟩
      rcases List.mem_cons.mp hq with rfl | hq
      · exact ⟨i9, _, b9, h9, _, rfl, ⟨_, rfl⟩, zcpf_rng (by decide) r9⟩
      rcases List.mem_cons.mp hq with rfl | hq
      · exact ⟨i10, _, b10, h10, _, rfl, ⟨_, rfl⟩, zcpf_rng (by decide) r10⟩
      rcases List.mem_cons.mp hq with rfl | hq
      · exact ⟨i11, _, b11, h11, _, rfl, ⟨_, rfl⟩, zcpf_rng (by decide) r11⟩
      rcases List.mem_cons.mp hq with rfl | hq
      · exact ⟨i12, _, b12, h12, _, rfl, ⟨_, rfl⟩, zcpf_rng (by decide) r12⟩
      rcases List.mem_cons.mp hq with rfl | hq
      · exact ⟨i13, _, b13, h13, _, rfl, ⟨_, rfl⟩, zcpf_rng (by decide) r13⟩
      rcases List.mem_cons.mp hq with rfl | hq
      · exact ⟨i14, _, b14, h14, _, rfl, ⟨_, rfl⟩, zcpf_rng (by decide) r14⟩
      rcases List.mem_cons.mp hq with rfl | hq
      · exact ⟨i15, _, b15, h15, _, rfl, ⟨_, rfl⟩, zcpf_rng (by decide) r15⟩
      exact absurd hq List.not_mem_nil
    · have ho : o ∈ [0, 2000] := ho
      obtain ⟨jo, o1, o2⟩ := p6 1000 List.mem_cons_self
      obtain ⟨jo4, o3, o4⟩ := p6 4000 (List.mem_cons_of_mem _ List.mem_cons_self)
      have o1 : η[0]? = some jo := o1
      have o3 : η[0]? = some jo4 := o3
      cases a1.symm.trans o1
      cases a1.symm.trans o3
      have o2 : zOP 1 j hp := o2
      have o4 : zOP 4 j hp := o4
      have v3e : ∀ b w, v3[b]? = some w → b ≠ 41 → b ≠ 67 → b ≠ 69 → (((v3.set 41 (.int ty)).set 67 (.int (Int32.ofInt 0))).set 69 (.int (Int32.ofInt 0)))[b]? = some w := fun b w hb n1 n2 n3 => by rw [List.getElem?_set_ne (Ne.symm n3), List.getElem?_set_ne (Ne.symm n2), List.getElem?_set_ne (Ne.symm n1)]; exact hb
      have v3r : ∀ b w, vs[b]? = some w → b ≠ 41 → b ≠ 67 → b ≠ 69 → b ≠ 12 → b ≠ 13 → b ≠ 14 → (((v3.set 41 (.int ty)).set 67 (.int (Int32.ofInt 0))).set 69 (.int (Int32.ofInt 0)))[b]? = some w := fun b w hb n1 n2 n3 n4 n5 n6 => v3e b w (by rw [v3o b n4 n5 n6]; exact hb) n1 n2 n3
      have v3k : v3[14]? = some (.int y17) := by rw [← hv3]; exact List.getElem?_set_self (by simp [hvl])
      rcases List.mem_cons.mp ho with rfl | ho
      · refine ⟨j, a1, ?_⟩
        intro m n f q1 q2 k hk
        rw [zofi_at a2 (v3e _ _ v3m (by decide) (by decide) (by decide))] at q1
        cases q1
        rw [zofa_at a2 (v3r _ _ w7 (by decide) (by decide) (by decide) (by decide) (by decide) (by decide)), zofr_arr h7] at q2
        cases q2
        have q3 := o2 y15 _ _ (zofi_at a2z y15v) (by rw [zofa_at a2z w7, zofr_arr h7z]) k hk
        show 1 ≤ (zcpf 10 f7 k).toInt
        unfold zcpf
        rw [if_pos (by omega)]
        exact q3
      · rw [List.mem_singleton.mp ho]
        refine ⟨j, a1, ?_⟩
        intro m n f n1 g n2 h q0 q1 q2 q3 k hk hk2
        rw [zofi_at a2 (v3e _ _ v3k (by decide) (by decide) (by decide))] at q0
        cases q0
        rw [zofa_at a2 (v3r _ _ w13 (by decide) (by decide) (by decide) (by decide) (by decide) (by decide)), zofr_arr h13] at q1
        cases q1
        rw [zofa_at a2 (v3r _ _ w14 (by decide) (by decide) (by decide) (by decide) (by decide) (by decide)), zofr_arr h14] at q2
        cases q2
        rw [zofa_at a2 (v3r _ _ w15 (by decide) (by decide) (by decide) (by decide) (by decide) (by decide)), zofr_arr h15] at q3
        cases q3
        have q4 := o4 y17 _ _ _ _ _ _ (zofi_at a2z y17v) (by rw [zofa_at a2z w13, zofr_arr h13z]) (by rw [zofa_at a2z w14, zofr_arr h14z]) (by rw [zofa_at a2z w15, zofr_arr h15z]) k hk
        show zkc (zcpf 64 f13 k).toInt (zcpf 64 f14 k).toInt (zcpf 64 f15 k).toInt
        unfold zcpf
        rw [if_pos hk2, if_pos hk2, if_pos hk2]
        exact q4
    · refine fr i (fun e => hw 0 (by decide) (by rw [e]; exact a1)) (fun e => hw 3 (by decide) (by rw [e]; exact b3)) (fun e => hw 4 (by decide) (by rw [e]; exact b4)) (fun e => hw 5 (by decide) (by rw [e]; exact b5)) (fun e => hw 6 (by decide) (by rw [e]; exact b6)) (fun e => hw 7 (by decide) (by rw [e]; exact b7)) (fun e => hw 8 (by decide) (by rw [e]; exact b8)) (fun e => hw 9 (by decide) (by rw [e]; exact b9)) (fun e => hw 10 (by decide) (by rw [e]; exact b10)) (fun e => hw 11 (by decide) (by rw [e]; exact b11)) (fun e => hw 12 (by decide) (by rw [e]; exact b12)) (fun e => hw 13 (by decide) (by rw [e]; exact b13)) (fun e => hw 14 (by decide) (by rw [e]; exact b14)) (fun e => hw 15 (by decide) (by rw [e]; exact b15))
  | [], p2 => exact p2.elim
  | _ :: _ :: _, p2 => exact p2.2.elim
end ZKT
theorem zHolds_noO {lk : ZLP} {Lx : Nat} {xs : Nat → Int32} {C : CT} (h : zHolds lk Lx xs C) : zHolds lk Lx xs (C.1, C.2.1, C.2.2.1, C.2.2.2.1, C.2.2.2.2.map (fun P => (P.1, P.2.1, P.2.2.1, P.2.2.2.1, P.2.2.2.2.1, []))) := by
  intro η ρ hp av h1 h2 h3
  refine (h η ρ hp av h1 h2 h3).post ?_
  rintro rv hp' ⟨P, hP, l, ⟨q1, q2, q3, q4, q5, q6⟩, q7⟩
  exact ⟨_, List.mem_map.mpr ⟨P, hP, rfl⟩, l, ⟨q1, q2, q3, q4, q5, fun o ho => absurd ho List.not_mem_nil⟩, q7⟩
