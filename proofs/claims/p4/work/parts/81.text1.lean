/-! text: the class's cells out of a pattern -/
section ZTX1
variable {η : List Nat} {ρ : List Int} {hp : List zhE} {C : PC} {idx : List Nat}
theorem zxent {e : Nat → Nat} {j b ci : Nat} {vs : List Value} {v : Value} (hh : hp[e j]? = some (.inr (ci, vs))) (hv : vs[b]? = some v) (hc : v.category = 1) : ∃ x, ∀ tab : List Nat, tab.getD b 0 = x → v = zOb tab e (zSof e hp j) b := by
  rcases zxv_of hc with ⟨x, rfl⟩ | ⟨k, rfl⟩
  · refine ⟨0, fun tab ht => ?_⟩
    unfold zOb
    rw [ht]
    show Value.int x = .int (zSof e hp j b)
    unfold zSof
    rw [hh]
    simp only [hv]
  · refine ⟨1000 + k + 1, fun tab ht => ?_⟩
    unfold zOb
    rw [ht]
    show zxv k = cond (Nat.ble 1000 (1000 + k)) (zxv (1000 + k - 1000)) (.ref (e (1000 + k)))
    rw [show Nat.ble 1000 (1000 + k) = true from Nat.ble_eq_true_of_le (by omega), show 1000 + k - 1000 = k by omega]
    rfl
def zwl (idx : List Nat) (C : PC) (m ci N : Nat) (w tab0 : List Nat) : Bool := C.any (fun q => Nat.beq q.1 m && (match q.2 with
  | .inl (c, fs) => Nat.beq c ci && (Nat.beq fs.length N && (zokF idx w fs tab0 0 && w.all (fun b => match fs[b]? with
    | some a => Nat.beq a.1 5
    | none => false)))
  | _ => false))
theorem zwl_ok {m ci N j : Nat} {w tab0 : List Nat} (hcl : zcl2 η ρ C hp) (hz : zwl idx C m ci N w tab0 = true) (hj : idx.getD j 0 = m) : ∃ vs, hp[zee η idx j]? = some (.inr (ci, vs)) ∧ (∀ b ∈ w, ∃ v, vs[b]? = some v ∧ v.category = 1) ∧ ∀ tab : List Nat, (∀ b, b < N → b ∉ w → tab.getD b 0 = tab0.getD b 0) → (∀ b ∈ w, ∀ v, vs[b]? = some v → v = zOb tab (zee η idx) (zSof (zee η idx) hp j) b) → hp[zee η idx j]? = some (zCell (zee η idx) (zSof (zee η idx) hp j) (.inl (ci, tab, N))) := by
  obtain ⟨q, h1, h2⟩ := List.any_eq_true.mp hz
  rw [Bool.and_eq_true] at h2
  obtain ⟨y, h, g1, g2, g3⟩ := hcl q h1
  have e1 := Nat.eq_of_beq_eq_true h2.1
  obtain ⟨q1, q2⟩ := q
  simp only at e1 h2 g1 g3
  subst e1
  have e2 : zee η idx j = y := by
    unfold zee
    rw [hj, List.getD_eq_getElem?_getD, g1]
    rfl
  have h3 := h2.2
  split at h3
  · rename_i c fs
    obtain ⟨vs, rfl, v2⟩ := g3
    simp only [Bool.and_eq_true] at h3
    have e3 := Nat.eq_of_beq_eq_true h3.1
    subst e3
    rw [← e2] at g2
    refine ⟨vs, g2, fun b hb => ?_, fun tab ht hw => zrdO v2 g2 (Nat.eq_of_beq_eq_true h3.2.1) h3.2.2.1 ht hw⟩
    have h4 := List.all_eq_true.mp h3.2.2.2 b hb
    split at h4
    · rename_i a ha
      obtain ⟨v, w1, w2⟩ := zAll_get v2 ha
      obtain ⟨t, e⟩ := a
      have e4 := Nat.eq_of_beq_eq_true h4
      simp only at e4
      subst e4
      exact ⟨v, w1, w2⟩
    · cases h4
  · cases h3
/-- a field that holds a cell -/
def zrfl (C : PC) (m b k : Nat) : Bool := C.any (fun q => Nat.beq q.1 m && (match q.2 with
  | .inl (_, fs) => (match fs[b]? with
    | some a => Nat.beq a.1 2 && Nat.beq a.2.1.toNat k
    | none => false)
  | _ => false))
theorem zrfl_ok {m b k ci : Nat} {vs : List Value} (hcl : zcl2 η ρ C hp) (hz : zrfl C m b k = true) (hh : hp[η.getD m 0]? = some (.inr (ci, vs))) : vs[b]? = some (.ref (η.getD k 0)) := by
  obtain ⟨q, h1, h2⟩ := List.any_eq_true.mp hz
  rw [Bool.and_eq_true] at h2
  obtain ⟨y, h, g1, g2, g3⟩ := hcl q h1
  have e1 := Nat.eq_of_beq_eq_true h2.1
  obtain ⟨q1, q2⟩ := q
  simp only at e1 h2 g1 g3
  subst e1
  have e2 : η.getD q1 0 = y := by
    rw [List.getD_eq_getElem?_getD, g1]
    rfl
  rw [e2, g2] at hh
  have h3 := h2.2
  split at h3
  · obtain ⟨vs2, rfl, v2⟩ := g3
    cases hh
    split at h3
    · rename_i a ha
      obtain ⟨v, w1, w2⟩ := zAll_get v2 ha
      obtain ⟨t, e⟩ := a
      rw [Bool.and_eq_true] at h3
      have e3 := Nat.eq_of_beq_eq_true h3.1
      have e4 := Nat.eq_of_beq_eq_true h3.2
      simp only at e3 e4
      subst e3
      obtain ⟨x, w3, rfl⟩ := w2
      rw [w1]
      simp only at w3
      rw [e4] at w3
      rw [List.getD_eq_getElem?_getD, w3]
      rfl
    · cases h3
  · cases h3
/-- the class's cells, whatever its unknown fields hold -/
theorem zCself (hcl : zcl2 η ρ C hp) (hz : zokD zxC [0, 1, 18] C (zDC 0 0 0 0) 0 = true) (hz0 : zwl zxC C 5 4 7 [2] [2, 19, 0, 0, 0, 0, 0] = true) (hz1 : zwl zxC C 56 5 11 [5] [3, 4, 5, 0, 0, 0, 0, 0, 0, 0, 0] = true) (hz2 : zwl zxC C 57 10 6 [0, 5] [0, 20, 0, 0, 0, 0] = true) : ∃ x1 x2 x3 x4, ∀ j d, (zDC x1 x2 x3 x4)[j]? = some d → hp[zee η zxC j]? = some (zCell (zee η zxC) (zSof (zee η zxC) hp j) d) := by
  obtain ⟨vs0, a1, a2, a3⟩ := zwl_ok (j := 0) hcl hz0 rfl
  obtain ⟨vs1, b1, b2, b3⟩ := zwl_ok (j := 1) hcl hz1 rfl
  obtain ⟨vs2, c1, c2, c3⟩ := zwl_ok (j := 18) hcl hz2 rfl
  obtain ⟨v1, d1, d2⟩ := a2 2 (by decide)
  obtain ⟨v2, d3, d4⟩ := b2 5 (by decide)
  obtain ⟨v3, d5, d6⟩ := c2 0 (by decide)
  obtain ⟨v4, d7, d8⟩ := c2 5 (by decide)
  obtain ⟨x1, k1⟩ := zxent a1 d1 d2
  obtain ⟨x2, k2⟩ := zxent b1 d3 d4
  obtain ⟨x3, k3⟩ := zxent c1 d5 d6
  obtain ⟨x4, k4⟩ := zxent c1 d7 d8
  refine ⟨x1, x2, x3, x4, fun j d hd => ?_⟩
  by_cases hj : j ∈ [0, 1, 18]
  · rcases List.mem_cons.mp hj with rfl | hj
    · cases hd
      refine a3 _ (fun b hb hw => ?_) (fun b hb v hv => ?_)
      · match b, hb, hw with
        | 0, _, _ => rfl
        | 1, _, _ => rfl
        | 2, _, hw => exact absurd (List.mem_singleton.mpr rfl) hw
        | b + 3, _, _ => rfl
      · rw [List.mem_singleton] at hb
        subst hb
        cases d1.symm.trans hv
        exact k1 _ rfl
    rcases List.mem_cons.mp hj with rfl | hj
    · cases hd
      refine b3 _ (fun b hb hw => ?_) (fun b hb v hv => ?_)
      · match b, hb, hw with
        | 0, _, _ => rfl
        | 1, _, _ => rfl
        | 2, _, _ => rfl
        | 3, _, _ => rfl
        | 4, _, _ => rfl
        | 5, _, hw => exact absurd (List.mem_singleton.mpr rfl) hw
        | b + 6, _, _ => rfl
      · rw [List.mem_singleton] at hb
        subst hb
        cases d3.symm.trans hv
        exact k2 _ rfl
    · rw [List.mem_singleton] at hj
      subst hj
      cases hd
      refine c3 _ (fun b hb hw => ?_) (fun b hb v hv => ?_)
      · match b, hb, hw with
        | 0, _, hw => exact absurd List.mem_cons_self hw
        | 1, _, _ => rfl
        | 2, _, _ => rfl
        | 3, _, _ => rfl
        | 4, _, _ => rfl
        | 5, _, hw => exact absurd (List.mem_cons_of_mem _ List.mem_cons_self) hw
        | b + 6, _, _ => rfl
      · rcases List.mem_cons.mp hb with rfl | hb
        · cases d5.symm.trans hv
          exact k3 _ rfl
        · rw [List.mem_singleton] at hb
          subst hb
          cases d7.symm.trans hv
          exact k4 _ rfl
  · have hd0 : (zDC 0 0 0 0)[j]? = some d := by
      match j, hj, hd with
      | 0, hj, _ => exact absurd (by decide) hj
      | 1, hj, _ => exact absurd (by decide) hj
      | 18, hj, _ => exact absurd (by decide) hj
      | 2, _, hd => exact hd
      | 3, _, hd => exact hd
      | 4, _, hd => exact hd
      | 5, _, hd => exact hd
      | 6, _, hd => exact hd
      | 7, _, hd => exact hd
      | 8, _, hd => exact hd
      | 9, _, hd => exact hd
      | 10, _, hd => exact hd
      | 11, _, hd => exact hd
      | 12, _, hd => exact hd
      | 13, _, hd => exact hd
      | 14, _, hd => exact hd
      | 15, _, hd => exact hd
      | 16, _, hd => exact hd
      | 17, _, hd => exact hd
      | 19, _, hd => exact hd
      | j + 20, _, hd => exact hd
    have := zokD_ok hcl hz j d hd0 (by rw [Nat.zero_add]; exact hj)
    rwa [Nat.zero_add] at this
end ZTX1
theorem zkC_T : zokD zxC [0, 1, 18] zlPT.2.2.1 (zDC 0 0 0 0) 0 = true ∧ zwl zxC zlPT.2.2.1 5 4 7 [2] [2, 19, 0, 0, 0, 0, 0] = true ∧ zwl zxC zlPT.2.2.1 56 5 11 [5] [3, 4, 5, 0, 0, 0, 0, 0, 0, 0, 0] = true ∧ zwl zxC zlPT.2.2.1 57 10 6 [0, 5] [0, 20, 0, 0, 0, 0] = true := by decide +kernel
theorem zkR_T : zrfl zlPT.2.2.1 0 0 3 = true ∧ zrfl zlPT.2.2.1 0 2 4 = true ∧ zrfl zlPT.2.2.1 0 3 5 = true ∧ zrfl zlPT.2.2.1 0 4 6 = true ∧ zrfl zlPT.2.2.1 0 6 8 = true ∧ zrfl zlPT.2.2.1 0 8 10 = true ∧ zrfl zlPT.2.2.1 6 0 58 = true := by decide +kernel
theorem zxC_lt : ∀ i, i < 20 → zxC.getD i 0 < 208 := by decide
theorem zxC_nd : ∀ i, i < 20 → ∀ j, j < 20 → zxC.getD i 0 = zxC.getD j 0 → i = j := by decide
theorem zxC_no : ∀ i, i < 20 → zxC.getD i 0 ≠ 0 ∧ zxC.getD i 0 ≠ 6 := by decide
