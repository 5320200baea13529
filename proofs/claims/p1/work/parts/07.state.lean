/-! abstract frames and heaps, and what they stand for -/
def zAll {α β : Type} (r : α → β → Prop) : List α → List β → Prop
  | [], [] => True
  | a :: as, b :: bs => r a b ∧ zAll r as bs
  | _, _ => False
abbrev AL : Type := List (Nat × AV)
abbrev AC : Type := (Nat × List AV) ⊕ (Nat × Nat × AV × List (Nat × AV))
/-- how many cells; the cells in chunks of 16 -/
abbrev AH : Type := Nat × List (List AC)
def zcat (a : AV) : Nat := match a.1 with
  | 2 => 2
  | _ => 1
theorem zcat_ok {ρ : Nat → Int} {a : AV} {v : Value} (h : za ρ a v) : v.category = zcat a := by
  obtain ⟨t, lo, hi⟩ := a
  match t, h with
  | 0, h => obtain ⟨x, rfl, -⟩ := h; rfl
  | 1, h => obtain ⟨x, rfl, -⟩ := h; rfl
  | 2, h => obtain ⟨x, rfl, -⟩ := h; rfl
  | 3, h => have h' : v = .ref lo.toNat := h; subst h'; rfl
  | 4, h => have h' : v = .null := h; subst h'; rfl
  | 5, h => have h' : v = .float 0 := h; subst h'; rfl
def zaS (ρ : Nat → Int) : List AV → List Value → Prop := zAll (za ρ)
def zaL (ρ : Nat → Int) : AL → zL → Prop := zAll (fun a q => a.1 = q.1 ∧ za ρ a.2 q.2)
def zov : List (Nat × AV) → AV → Nat → AV
  | [], d, _ => d
  | q :: ov, d, j => match Nat.beq q.1 j with
    | true => q.2
    | false => zov ov d j
def zel (f : zhA) (j : Nat) : Value := match f with
  | .inl f => .int (f j)
  | .inr (.inl f) => .long (f j)
  | .inr (.inr f) => va_rf (f j)
def zaT (t : Nat) (f : zhA) : Prop := match t with
  | 1 => ∃ g, f = .inr (.inl g)
  | 4 => ∃ g, f = .inr (.inr g)
  | _ => ∃ g, f = .inl g
def zaC (ρ : Nat → Int) (c : AC) (h : zhE) : Prop := match c with
  | .inl (ci, fs) => ∃ vs, h = .inr (ci, vs) ∧ zaS ρ fs vs
  | .inr (t, n, d, ov) => ∃ f : zhA, h = .inl (t, n, f) ∧ zaT t f ∧ ∀ j, j < n → za ρ (zov ov d j) (zel f j)
def zhg (cs : List (List AC)) (i : Nat) : Option AC := (cs[i / 16]?).bind (fun ch => ch[i % 16]?)
/-- how many cells: 999999 says that it isn't known -/
def zaH (ρ : Nat → Int) (A : AH) (hp : List zhE) : Prop := (A.1 = hp.length ∨ A.1 = 999999) ∧ ∀ (i : Nat) (c : AC), zhg A.2 i = some c → ∃ h, hp[i]? = some h ∧ zaC ρ c h
-- lists, to be computed
def zlg {α : Type} : List α → Nat → (α → Bool) → Bool
  | [], _, _ => false
  | a :: _, 0, k => k a
  | _ :: l, n + 1, k => zlg l n k
theorem zlg_ok {α : Type} : ∀ {l : List α} {n : Nat} {k : α → Bool}, zlg l n k = true → ∃ a, l[n]? = some a ∧ k a = true
  | [], _, _, h => by simp [zlg] at h
  | a :: _, 0, _, h => ⟨a, rfl, h⟩
  | _ :: l, n + 1, k, h => by
    obtain ⟨a, h1, h2⟩ := zlg_ok (l := l) (n := n) (k := k) h
    exact ⟨a, by simpa using h1, h2⟩
def zls {α : Type} : List α → Nat → α → (List α → Bool) → Bool
  | [], _, _, _ => false
  | _ :: l, 0, x, k => k (x :: l)
  | a :: l, n + 1, x, k => zls l n x (fun l => k (a :: l))
theorem zls_ok {α : Type} : ∀ {l : List α} {n : Nat} {x : α} {k : List α → Bool}, zls l n x k = true → n < l.length ∧ k (l.set n x) = true
  | [], _, _, _, h => by simp [zls] at h
  | _ :: l, 0, x, _, h => ⟨by simp, h⟩
  | a :: l, n + 1, x, k, h => by
    obtain ⟨h1, h2⟩ := zls_ok (l := l) (n := n) (x := x) (k := fun l => k (a :: l)) h
    exact ⟨by simpa using h1, by simpa using h2⟩
def zla {α : Type} : List α → α → (List α → Bool) → Bool
  | [], x, k => k [x]
  | a :: l, x, k => zla l x (fun l => k (a :: l))
theorem zla_ok {α : Type} : ∀ {l : List α} {x : α} {k : List α → Bool}, zla l x k = true → k (l ++ [x]) = true
  | [], _, _, h => h
  | a :: l, x, k, h => by
    have h1 := zla_ok (l := l) (x := x) (k := fun l => k (a :: l)) h
    simpa using h1
def zhget (A : AH) (i : Nat) (k : AC → Bool) : Bool := zlg A.2 (i / 16) (fun ch => zlg ch (i % 16) k)
theorem zhget_ok {A : AH} {i : Nat} {k : AC → Bool} (h : zhget A i k = true) : ∃ c, zhg A.2 i = some c ∧ k c = true := by
  obtain ⟨ch, h1, h2⟩ := zlg_ok h
  obtain ⟨c, h3, h4⟩ := zlg_ok h2
  exact ⟨c, by simp [zhg, h1, h3], h4⟩
def zhset (A : AH) (i : Nat) (c : AC) (k : AH → Bool) : Bool := zlg A.2 (i / 16) (fun ch => zls ch (i % 16) c (fun ch => zls A.2 (i / 16) ch (fun cs => k (A.1, cs))))
theorem zhset_ok {ρ : Nat → Int} {A : AH} {i : Nat} {c : AC} {k : AH → Bool} {hp : List zhE} {h' : zhE} (h : zhset A i c k = true) (hA : zaH ρ A hp) (hc : zaC ρ c h') (hi : i < hp.length) : ∃ A', k A' = true ∧ zaH ρ A' (hp.set i h') := by
  obtain ⟨ch, h1, h2⟩ := zlg_ok h
  obtain ⟨h3, h4⟩ := zls_ok h2
  obtain ⟨h5, h6⟩ := zls_ok h4
  refine ⟨_, h6, by rw [List.length_set]; exact hA.1, fun j d hj => ?_⟩
  by_cases e : i = j
  · subst e
    rw [List.getElem?_set_self hi]
    simp only [zhg, List.getElem?_set_self h5, Option.bind_some, List.getElem?_set_self h3, Option.some.injEq] at hj
    subst hj
    exact ⟨h', rfl, hc⟩
  · rw [List.getElem?_set_ne e]
    apply hA.2 j d
    by_cases e2 : i / 16 = j / 16
    · have e3 : i % 16 ≠ j % 16 := by omega
      simp only [zhg] at hj ⊢
      rw [← e2] at hj ⊢
      rw [List.getElem?_set_self h5] at hj
      simp only [Option.bind_some, List.getElem?_set_ne e3] at hj
      rw [h1]
      exact hj
    · simp only [zhg] at hj ⊢
      rw [List.getElem?_set_ne e2] at hj
      exact hj
def zhpush (A : AH) (c : AC) (k : AH → Bool) : Bool := Nat.ble A.1 999997 && match Nat.beq (A.1 % 16) 0 with
  | true => (match Nat.beq A.2.length (A.1 / 16) with
    | true => zla A.2 [c] (fun cs => zfn (A.1 + 1) (fun n => k (n, cs)))
    | false => false)
  | false => zlg A.2 (A.1 / 16) (fun ch => match Nat.beq ch.length (A.1 % 16) with
    | true => zla ch c (fun ch => zls A.2 (A.1 / 16) ch (fun cs => zfn (A.1 + 1) (fun n => k (n, cs))))
    | false => false)
theorem zhpush_ok {ρ : Nat → Int} {A : AH} {c : AC} {k : AH → Bool} {hp : List zhE} {h' : zhE} (h : zhpush A c k = true) (hA : zaH ρ A hp) (hc : zaC ρ c h') : A.1 = hp.length ∧ ∃ A', k A' = true ∧ zaH ρ A' (hp ++ [h']) := by
  unfold zhpush at h
  rw [Bool.and_eq_true] at h
  obtain ⟨hle, h⟩ := h
  have hle := Nat.le_of_ble_eq_true hle
  have hA1 : A.1 = hp.length := by rcases hA.1 with e | e <;> omega
  refine ⟨hA1, ?_⟩
  have hlen : ∀ (j : Nat) (d : AC), zhg A.2 j = some d → j < A.1 := fun j d hj => by
    obtain ⟨x, hx, -⟩ := hA.2 j d hj
    rw [hA1]
    exact (List.getElem?_eq_some_iff.mp hx).1
  have old : ∀ (j : Nat) (d : AC), zhg A.2 j = some d → ∃ h, (hp ++ [h'])[j]? = some h ∧ zaC ρ d h := fun j d hj => by
    obtain ⟨x, hx, hd⟩ := hA.2 j d hj
    exact ⟨x, by rw [List.getElem?_append_left (List.getElem?_eq_some_iff.mp hx).1]; exact hx, hd⟩
  have new : ∀ (j : Nat) (d : AC), j = A.1 → d = c → ∃ h, (hp ++ [h'])[j]? = some h ∧ zaC ρ d h := fun j d e1 e2 => by
    subst e1; subst e2
    rw [hA1]
    exact ⟨h', by simp, hc⟩
  split at h
  · rename_i h0
    have h0 := Nat.eq_of_beq_eq_true h0
    split at h
    · rename_i h1
      have h1 := Nat.eq_of_beq_eq_true h1
      have h2 := zla_ok h
      rw [zfn_eq] at h2
      refine ⟨_, h2, Or.inl (by simp [hA1]), fun j d hj => ?_⟩
      simp only [zhg] at hj
      by_cases e : j / 16 < A.2.length
      · rw [List.getElem?_append_left e] at hj
        exact old j d hj
      · rw [List.getElem?_append_right (by omega)] at hj
        by_cases e2 : j / 16 = A.2.length
        · rw [e2, Nat.sub_self] at hj
          simp only [List.getElem?_cons_zero, Option.bind_some] at hj
          by_cases e3 : j % 16 = 0
          · rw [e3] at hj
            simp only [List.getElem?_cons_zero, Option.some.injEq] at hj
            exact new j d (by omega) hj.symm
          · have : ([c] : List AC)[j % 16]? = none := List.getElem?_eq_none (by simp; omega)
            rw [this] at hj; cases hj
        · have : ([[c]] : List (List AC))[j / 16 - A.2.length]? = none := List.getElem?_eq_none (by simp; omega)
          rw [this] at hj; cases hj
    · cases h
  · obtain ⟨ch, h1, h2⟩ := zlg_ok h
    split at h2
    · rename_i h3
      have h3 := Nat.eq_of_beq_eq_true h3
      have h4 := zla_ok h2
      obtain ⟨h5, h6⟩ := zls_ok h4
      rw [zfn_eq] at h6
      refine ⟨_, h6, Or.inl (by simp [hA1]), fun j d hj => ?_⟩
      simp only [zhg] at hj
      by_cases e : A.1 / 16 = j / 16
      · rw [← e, List.getElem?_set_self h5] at hj
        simp only [Option.bind_some] at hj
        by_cases e2 : j % 16 < ch.length
        · rw [List.getElem?_append_left e2] at hj
          exact old j d (by simp only [zhg]; rw [← e, h1]; exact hj)
        · rw [List.getElem?_append_right (by omega)] at hj
          by_cases e3 : j % 16 = ch.length
          · rw [e3, Nat.sub_self] at hj
            simp only [List.getElem?_cons_zero, Option.some.injEq] at hj
            exact new j d (by omega) hj.symm
          · have : ([c] : List AC)[j % 16 - ch.length]? = none := List.getElem?_eq_none (by simp; omega)
            rw [this] at hj; cases hj
      · rw [List.getElem?_set_ne e] at hj
        exact old j d hj
    · cases h2
-- locals
def zal : AL → Nat → (AV → Bool) → Bool
  | [], _, _ => false
  | q :: l, i, k => match Nat.beq q.1 i with
    | true => k q.2
    | false => zal l i k
theorem zal_ok {ρ : Nat → Int} : ∀ {A : AL} {L : zL} {i : Nat} {k : AV → Bool}, zal A i k = true → zaL ρ A L → ∃ a v, k a = true ∧ (i, v) ∈ L ∧ za ρ a v
  | [], _, _, _, h, _ => by simp [zal] at h
  | q :: A, [], _, _, _, hL => hL.elim
  | q :: A, r :: L, i, k, h, hL => by
    unfold zal at h
    split at h
    · rename_i e
      have e := Nat.eq_of_beq_eq_true e
      refine ⟨q.2, r.2, h, ?_, hL.1.2⟩
      have e2 : r = (i, r.2) := by rw [← e, hL.1.1]
      rw [e2]
      exact List.mem_cons_self
    · obtain ⟨a, v, h1, h2, h3⟩ := zal_ok h hL.2
      exact ⟨a, v, h1, List.mem_cons_of_mem _ h2, h3⟩
def zkeep1 (i : Nat) (q : Nat × AV) : Bool := !(Nat.beq q.1 i) && !(Nat.beq (q.1 + 1) i && Nat.beq (zcat q.2) 2)
def zkeep2 (i : Nat) (q : Nat × AV) : Bool := !(Nat.beq q.1 i) && (!(Nat.beq q.1 (i + 1)) && !(Nat.beq (q.1 + 1) i && Nat.beq (zcat q.2) 2))
def zfl (f : Nat × AV → Bool) : AL → (AL → Bool) → Bool
  | [], k => k []
  | q :: l, k => match f q with
    | true => zfl f l (fun l => k (q :: l))
    | false => zfl f l k
theorem zfl_ok {ρ : Nat → Int} {f : Nat × AV → Bool} {g : Nat × Value → Bool} (hfg : ∀ a q, a.1 = q.1 → za ρ a.2 q.2 → f a = g q) : ∀ {A : AL} {L : zL} {k : AL → Bool}, zfl f A k = true → zaL ρ A L → ∃ A', k A' = true ∧ zaL ρ A' (L.filter g)
  | [], [], k, h, _ => ⟨[], h, trivial⟩
  | [], _ :: _, _, _, hL => hL.elim
  | _ :: _, [], _, _, hL => hL.elim
  | q :: A, r :: L, k, h, hL => by
    have e := hfg q r hL.1.1 hL.1.2
    unfold zfl at h
    split at h
    · rename_i e1
      obtain ⟨A', h1, h2⟩ := zfl_ok hfg h hL.2
      rw [List.filter_cons_of_pos (by rw [← e]; exact e1)]
      exact ⟨q :: A', h1, hL.1, h2⟩
    · rename_i e1
      obtain ⟨A', h1, h2⟩ := zfl_ok hfg h hL.2
      rw [List.filter_cons_of_neg (by rw [← e, e1]; decide)]
      exact ⟨A', h1, h2⟩
def zst1 (A : AL) (i : Nat) (a : AV) (k : AL → Bool) : Bool := zfl (zkeep1 i) A (fun A => k ((i, a) :: A))
def zst2 (A : AL) (i : Nat) (a : AV) (k : AL → Bool) : Bool := zfl (zkeep2 i) A (fun A => k ((i, a) :: A))
theorem zbeq (a b : Nat) : Nat.beq a b = (a == b) := by
  apply Bool.eq_iff_iff.mpr
  constructor
  · intro h; exact beq_iff_eq.mpr (Nat.eq_of_beq_eq_true h)
  · intro h; rw [beq_iff_eq] at h; subst h; exact Nat.beq_refl a
theorem zst1_ok {ρ : Nat → Int} {A : AL} {L : zL} {i : Nat} {a : AV} {v : Value} {k : AL → Bool} (h : zst1 A i a k = true) (hL : zaL ρ A L) (ha : za ρ a v) : ∃ A', k A' = true ∧ zaL ρ A' (zput1 L i v) := by
  obtain ⟨A', h1, h2⟩ := zfl_ok (g := fun q => !(q.1 == i) && !(q.1 + 1 == i && q.2.category == 2)) (fun a q e1 e2 => by
    simp only [zkeep1, zbeq, e1, zcat_ok e2]) h hL
  exact ⟨_, h1, ⟨rfl, ha⟩, h2⟩
theorem zst2_ok {ρ : Nat → Int} {A : AL} {L : zL} {i : Nat} {a : AV} {v : Value} {k : AL → Bool} (h : zst2 A i a k = true) (hL : zaL ρ A L) (ha : za ρ a v) : ∃ A', k A' = true ∧ zaL ρ A' (zput2 L i v) := by
  obtain ⟨A', h1, h2⟩ := zfl_ok (g := fun q => !(q.1 == i) && (!(q.1 == i + 1) && !(q.1 + 1 == i && q.2.category == 2))) (fun a q e1 e2 => by
    simp only [zkeep2, zbeq, e1, zcat_ok e2]) h hL
  exact ⟨_, h1, ⟨rfl, ha⟩, h2⟩
theorem zAll_get {α β : Type} {r : α → β → Prop} : ∀ {as : List α} {bs : List β} {i : Nat} {a : α}, zAll r as bs → as[i]? = some a → ∃ b, bs[i]? = some b ∧ r a b
  | [], [], _, _, _, h => by simp at h
  | [], _ :: _, _, _, h, _ => h.elim
  | _ :: _, [], _, _, h, _ => h.elim
  | a :: as, b :: bs, 0, _, h, e => by
    simp only [List.getElem?_cons_zero, Option.some.injEq] at e
    subst e
    exact ⟨b, rfl, h.1⟩
  | a :: as, b :: bs, i + 1, _, h, e => by
    obtain ⟨b', h1, h2⟩ := zAll_get h.2 (by simpa using e)
    exact ⟨b', by simpa using h1, h2⟩
theorem zAll_set {α β : Type} {r : α → β → Prop} : ∀ {as : List α} {bs : List β} {i : Nat} {a : α} {b : β}, zAll r as bs → r a b → zAll r (as.set i a) (bs.set i b)
  | [], [], _, _, _, _, _ => by simp [zAll]
  | [], _ :: _, _, _, _, h, _ => h.elim
  | _ :: _, [], _, _, _, h, _ => h.elim
  | _ :: as, _ :: bs, 0, _, _, h, e => ⟨e, h.2⟩
  | _ :: as, _ :: bs, i + 1, _, _, h, e => ⟨h.1, zAll_set h.2 e⟩
theorem zAll_len {α β : Type} {r : α → β → Prop} : ∀ {as : List α} {bs : List β}, zAll r as bs → as.length = bs.length
  | [], [], _ => rfl
  | [], _ :: _, h => h.elim
  | _ :: _, [], h => h.elim
  | _ :: as, _ :: bs, h => by simp [zAll_len h.2]
theorem zAll_take {α β : Type} {r : α → β → Prop} : ∀ {n : Nat} {as : List α} {bs : List β}, zAll r as bs → zAll r (as.take n) (bs.take n)
  | 0, _, _, _ => by simp [zAll]
  | _ + 1, [], [], _ => by simp [zAll]
  | _ + 1, [], _ :: _, h => h.elim
  | _ + 1, _ :: _, [], h => h.elim
  | n + 1, _ :: as, _ :: bs, h => ⟨h.1, zAll_take h.2⟩
theorem zAll_drop {α β : Type} {r : α → β → Prop} : ∀ {n : Nat} {as : List α} {bs : List β}, zAll r as bs → zAll r (as.drop n) (bs.drop n)
  | 0, _, _, h => h
  | _ + 1, [], [], _ => by simp [zAll]
  | _ + 1, [], _ :: _, h => h.elim
  | _ + 1, _ :: _, [], h => h.elim
  | n + 1, _ :: as, _ :: bs, h => zAll_drop (n := n) h.2
theorem zAll_app {α β : Type} {r : α → β → Prop} : ∀ {as : List α} {bs : List β} {as' : List α} {bs' : List β}, zAll r as bs → zAll r as' bs' → zAll r (as ++ as') (bs ++ bs')
  | [], [], _, _, _, h => h
  | [], _ :: _, _, _, h, _ => h.elim
  | _ :: _, [], _, _, h, _ => h.elim
  | _ :: as, _ :: bs, _, _, h, h' => ⟨h.1, zAll_app h.2 h'⟩
theorem zAll_rev {α β : Type} {r : α → β → Prop} : ∀ {as : List α} {bs : List β}, zAll r as bs → zAll r as.reverse bs.reverse
  | [], [], _ => trivial
  | [], _ :: _, h => h.elim
  | _ :: _, [], h => h.elim
  | a :: as, b :: bs, h => by
    rw [List.reverse_cons, List.reverse_cons]
    exact zAll_app (zAll_rev h.2) ⟨h.1, trivial⟩
