/-! from a pattern to a store of numbers -/
/-- the numbers of a heap -/
def zSof (e : Nat → Nat) (hp : List zhE) (j b : Nat) : Int32 := match hp[e j]? with
  | some (.inr (_, vs)) => (match vs[b]? with
    | some (.int x) => x
    | _ => 0)
  | some (.inl (_, _, .inl f)) => f b
  | _ => 0
def zee (η : List Nat) (idx : List Nat) (j : Nat) : Nat := η.getD (idx.getD j 0) 0
/-- an object's fields fit its table, these fields left out -/
def zokF (idx w : List Nat) : List AV → List Nat → Nat → Bool
  | [], _, _ => true
  | a :: fs, ts, b => (w.any (fun q => Nat.beq q b) || (match ts.headD 0 with
    | 0 => Nat.beq a.1 0
    | r + 1 => !(Nat.ble 1000 r) && (Nat.beq a.1 2 && Nat.beq a.2.1.toNat (idx.getD r 0)))) && zokF idx w fs ts.tail (b + 1)
theorem zokF_ok {η : List Nat} {ρ : List Int} {idx w : List Nat} {s : Nat → Int32} : ∀ {fs : List AV} {ts : List Nat} {b0 : Nat} {vs : List Value}, zaS η ρ fs vs → zokF idx w fs ts b0 = true → (∀ i x, vs[i]? = some (.int x) → s (b0 + i) = x) → ∀ i v, vs[i]? = some v → b0 + i ∉ w → v = (match ts.getD i 0 with
    | 0 => Value.int (s (b0 + i))
    | r + 1 => cond (Nat.ble 1000 r) (zxv (r - 1000)) (.ref (zee η idx r)))
  | [], _, _, [], _, _, _, i, v, hi, _ => by simp at hi
  | [], _, _, _ :: _, h, _, _, _, _, _, _ => h.elim
  | _ :: _, _, _, [], h, _, _, _, _, _, _ => h.elim
  | a :: fs, ts, b0, u :: vs, h, hc, hs, i, v, hi, hw => by
    unfold zokF at hc
    rw [Bool.and_eq_true, Bool.or_eq_true] at hc
    match i, hi, hw with
    | 0, hi, hw =>
      cases hi
      have e0 : ts.getD 0 0 = ts.headD 0 := by cases ts <;> rfl
      rw [e0]
      rcases hc.1 with q | q
      · obtain ⟨x, h1, h2⟩ := List.any_eq_true.mp q
        exact absurd (Nat.eq_of_beq_eq_true h2 ▸ h1) hw
      obtain ⟨t, e⟩ := a
      have h1 := h.1
      revert q
      generalize ts.headD 0 = y
      intro q
      match y, q with
      | 0, q =>
        have q := Nat.eq_of_beq_eq_true q
        simp only at q
        subst q
        obtain ⟨x, rfl, -⟩ := h1
        rw [hs 0 x rfl]
      | r + 1, q =>
        simp only [Bool.and_eq_true, Bool.not_eq_true'] at q
        have q1 := Nat.eq_of_beq_eq_true q.2.1
        subst q1
        obtain ⟨x, h2, rfl⟩ := h1
        have q2 := Nat.eq_of_beq_eq_true q.2.2
        simp only at h2 q2
        rw [q2] at h2
        simp only [q.1, cond_false]
        show Value.ref x = .ref (η.getD (idx.getD r 0) 0)
        rw [List.getD_eq_getElem?_getD, h2]
        rfl
    | i + 1, hi, hw =>
      have e1 : ts.getD (i + 1) 0 = ts.tail.getD i 0 := by cases ts <;> simp
      rw [e1]
      have := zokF_ok (s := s) h.2 hc.2 (fun i x hx => by rw [show b0 + 1 + i = b0 + (i + 1) by omega]; exact hs (i + 1) x (by simpa using hx)) i v (by simpa using hi) (by rw [show b0 + 1 + i = b0 + (i + 1) by omega]; exact hw)
      rw [show b0 + 1 + i = b0 + (i + 1) by omega] at this
      exact this
theorem zAll_length {α β : Type} {r : α → β → Prop} : ∀ {as : List α} {bs : List β}, zAll r as bs → as.length = bs.length
  | [], [], _ => rfl
  | [], _ :: _, h => h.elim
  | _ :: _, [], h => h.elim
  | _ :: _, _ :: _, h => by rw [List.length_cons, List.length_cons, zAll_length h.2]
theorem zrdO {η : List Nat} {ρ : List Int} {idx w : List Nat} {hp : List zhE} {j ci N : Nat} {fs : List AV} {vs : List Value} {tab tab0 : List Nat} (hv : zaS η ρ fs vs) (hh : hp[zee η idx j]? = some (.inr (ci, vs))) (hN : fs.length = N) (hck : zokF idx w fs tab0 0 = true) (ht : ∀ b, b < N → b ∉ w → tab.getD b 0 = tab0.getD b 0) (hw : ∀ b ∈ w, ∀ v, vs[b]? = some v → v = zOb tab (zee η idx) (zSof (zee η idx) hp j) b) : hp[zee η idx j]? = some (zCell (zee η idx) (zSof (zee η idx) hp j) (.inl (ci, tab, N))) := by
  rw [hh]
  congr 1
  show _ = Sum.inr (ci, zFs (zOb tab (zee η idx) (zSof (zee η idx) hp j)) N)
  congr 2
  have hlen : vs.length = N := (zAll_length hv).symm.trans hN
  have hs : ∀ (i : Nat) (x : Int32), vs[i]? = some (.int x) → zSof (zee η idx) hp j (0 + i) = x := fun i x hx => by
    rw [Nat.zero_add]
    unfold zSof
    rw [hh]
    simp only [hx]
  refine List.ext_getElem? fun b => ?_
  by_cases hb : b < N
  · rw [zFs_get hb, List.getElem?_eq_getElem (by omega)]
    congr 1
    by_cases hbw : b ∈ w
    · exact hw b hbw _ (List.getElem?_eq_getElem (by omega))
    · have h1 := zokF_ok hv hck hs b _ (List.getElem?_eq_getElem (by omega)) (by rw [Nat.zero_add]; exact hbw)
      rw [h1, ← ht b hb hbw, Nat.zero_add]
      rfl
  · rw [List.getElem?_eq_none (by omega), List.getElem?_eq_none (by simp [zFs]; omega)]
/-- a cell of a pattern as one of a store -/
def zokc (idx : List Nat) (c : AC) (d : zDe) : Bool := match c, d with
  | .inl (ci, fs), .inl (cj, tab, N) => Nat.beq ci cj && (Nat.beq fs.length N && zokF idx [] fs tab 0)
  | .inr (.inl (t, n, _, _, _)), .inr (u, m) => Nat.beq t u && (Nat.beq n m && !(Nat.beq t 1))
  | _, _ => false
theorem zrdA {e : Nat → Nat} {hp : List zhE} {j t n : Nat} {f : zhA} (hh : hp[e j]? = some (.inl (t, n, f))) (hT : zaT t f) (h1 : t ≠ 1) : hp[e j]? = some (zCell e (zSof e hp j) (.inr (t, n))) := by
  have : ∃ g, f = .inl g := by
    match t, hT, h1 with
    | 0, h, _ => exact h
    | 1, _, h => exact absurd rfl h
    | t + 2, h, _ => exact h
  obtain ⟨g, rfl⟩ := this
  have e1 : zSof e hp j = g := by
    funext b
    unfold zSof
    rw [hh]
  rw [hh]
  show _ = some (Sum.inl (t, n, Sum.inl (zSof e hp j)))
  rw [e1]
theorem zrdc {η : List Nat} {ρ : List Int} {idx : List Nat} {hp : List zhE} {j : Nat} {c : AC} {h : zhE} {d : zDe} (hh : hp[zee η idx j]? = some h) (hc : zac η ρ c h) (hz : zokc idx c d = true) : hp[zee η idx j]? = some (zCell (zee η idx) (zSof (zee η idx) hp j) d) := by
  match c, d, hc, hz with
  | .inl (ci, fs), .inl (cj, tab, N), ⟨vs, h1, h2⟩, hz =>
    simp only [zokc, Bool.and_eq_true] at hz
    have e1 := Nat.eq_of_beq_eq_true hz.1
    subst e1
    subst h1
    exact zrdO (w := []) (tab0 := tab) h2 hh (Nat.eq_of_beq_eq_true hz.2.1) hz.2.2 (fun _ _ _ => rfl) (fun b hb => absurd hb List.not_mem_nil)
  | .inr (.inl (t, n, p, rs, es)), .inr (u, m), ⟨f, h1, h2, _⟩, hz =>
    simp only [zokc, Bool.and_eq_true, Bool.not_eq_true'] at hz
    have e1 := Nat.eq_of_beq_eq_true hz.1
    have e2 := Nat.eq_of_beq_eq_true hz.2.1
    subst e1
    subst e2
    subst h1
    exact zrdA hh h2 (fun q => by rw [q] at hz; cases hz.2.2)
  | .inl _, .inr _, _, hz => cases hz
  | .inr (.inl _), .inl _, _, hz => cases hz
  | .inr (.inr _), .inl _, _, hz => cases hz
  | .inr (.inr _), .inr _, _, hz => cases hz
/-- the cells of a store, found in a pattern; some left out -/
def zokD (idx w : List Nat) (C : PC) : List zDe → Nat → Bool
  | [], _ => true
  | d :: D, j => (w.any (fun q => Nat.beq q j) || C.any (fun q => Nat.beq q.1 (idx.getD j 0) && zokc idx q.2 d)) && zokD idx w C D (j + 1)
theorem zokD_ok {η : List Nat} {ρ : List Int} {idx w : List Nat} {hp : List zhE} {C : PC} (hcl : zcl2 η ρ C hp) : ∀ {D : List zDe} {j0 : Nat}, zokD idx w C D j0 = true → ∀ j d, D[j]? = some d → j0 + j ∉ w → hp[zee η idx (j0 + j)]? = some (zCell (zee η idx) (zSof (zee η idx) hp (j0 + j)) d)
  | [], _, _, j, d, hj, _ => by simp at hj
  | d0 :: D, j0, hc, j, d, hj, hw => by
    unfold zokD at hc
    rw [Bool.and_eq_true, Bool.or_eq_true] at hc
    match j, hj, hw with
    | 0, hj, hw =>
      cases hj
      rcases hc.1 with q | q
      · obtain ⟨x, h1, h2⟩ := List.any_eq_true.mp q
        exact absurd (Nat.eq_of_beq_eq_true h2 ▸ h1) hw
      · obtain ⟨q, h1, h2⟩ := List.any_eq_true.mp q
        rw [Bool.and_eq_true] at h2
        obtain ⟨x, h, g1, g2, g3⟩ := hcl q h1
        have e1 := Nat.eq_of_beq_eq_true h2.1
        refine zrdc ?_ g3 h2.2
        show hp[η.getD (idx.getD (j0 + 0) 0) 0]? = _
        rw [Nat.add_zero, ← e1, List.getD_eq_getElem?_getD, g1]
        exact g2
    | j + 1, hj, hw =>
      have := zokD_ok hcl hc.2 j d (by simpa using hj) (by rw [show j0 + 1 + j = j0 + (j + 1) by omega]; exact hw)
      rw [show j0 + 1 + j = j0 + (j + 1) by omega] at this
      exact this
/-- its places lie apart -/
theorem zee_I {η : List Nat} {idx : List Nat} {hp : List zhE} {N : Nat} (hinj : zinj η hp) (hN : ∀ i, i < N → idx.getD i 0 < η.length) (hd : ∀ i j, i < N → j < N → idx.getD i 0 = idx.getD j 0 → i = j) : zeI (zee η idx) hp N := by
  have hg : ∀ i, i < N → η[idx.getD i 0]? = some (zee η idx i) := fun i hi => by
    unfold zee
    have := hN i hi
    revert this
    generalize idx.getD i 0 = m
    intro hm
    rw [List.getD_eq_getElem?_getD, List.getElem?_eq_getElem hm]
    rfl
  refine ⟨fun i j hi hj h => hd i j hi hj ?_, fun i hi => hinj.2 _ _ (hg i hi)⟩
  have h2 := hg j hj
  rw [← h] at h2
  exact hinj.1 _ _ _ (hg i hi) h2
