/-! abstract frames and heaps, and what they stand for -/
def zAll {α β : Type} (r : α → β → Prop) : List α → List β → Prop
  | [], [] => True
  | a :: as, b :: bs => r a b ∧ zAll r as bs
  | _, _ => False
abbrev AL : Type := List (Nat × AV)
/-- an array: its type, length, a period, bounds by places of the period, what is known of single elements -/
abbrev AR : Type := Nat × Nat × Nat × List (Int × Int) × List (LX × LX)
/-- an object, an array, an array of references -/
abbrev AC : Type := (Nat × List AV) ⊕ AR ⊕ List AV
/-- how many cells; the cells in chunks of 16 -/
abbrev AH : Type := Nat × List (List AC)
def zaS (η : List Nat) (ρ : List Int) : List AV → List Value → Prop := zAll (zav η ρ)
def zaL (η : List Nat) (ρ : List Int) (A : AL) (L : zL) : Prop := ∀ q ∈ A, ∃ v, zlk L q.1 = some v ∧ zav η ρ q.2 v
def zei (f : zhA) (j : Nat) : Int := match f with
  | .inl f => (f j).toInt
  | .inr (.inl f) => (f j).toInt
  | _ => 0
def zaT (t : Nat) (f : zhA) : Prop := match t with
  | 1 => ∃ g, f = .inr (.inl g)
  | _ => ∃ g, f = .inl g
def zaA (ρ : List Int) (n p : Nat) (rs : List (Int × Int)) (es : List (LX × LX)) (f : zhA) : Prop :=
  rs.length = p ∧ 0 < p ∧ (∀ j, j < n → ∀ q, rs[j % p]? = some q → q.1 ≤ zei f j ∧ zei f j ≤ q.2) ∧ ∀ e ∈ es, ∃ j : Nat, zxr ρ e.1 (j : Int) ∧ j < n ∧ zxr ρ e.2 (zei f j)
def zac (η : List Nat) (ρ : List Int) (c : AC) (h : zhE) : Prop := match c with
  | .inl (ci, fs) => ∃ vs, h = .inr (ci, vs) ∧ zaS η ρ fs vs
  | .inr (.inl (t, n, p, rs, es)) => ∃ f : zhA, h = .inl (t, n, f) ∧ zaT t f ∧ zaA ρ n p rs es f
  | .inr (.inr as) => ∃ f : Nat → Option Nat, h = .inl (4, as.length, .inr (.inr f)) ∧ ∀ j a, as[j]? = some a → zav η ρ a (va_rf (f j))
def zhg (cs : List (List AC)) (i : Nat) : Option AC := (cs[i / 16]?).bind (fun ch => ch[i % 16]?)
def zaH (η : List Nat) (ρ : List Int) (A : AH) (hp : List zhE) : Prop := A.1 = η.length ∧ (∀ i c, zhg A.2 i = some c → ∃ j h, η[i]? = some j ∧ hp[j]? = some h ∧ zac η ρ c h) ∧ (∀ (i j x : Nat), η[i]? = some x → η[j]? = some x → i = j) ∧ ∀ (i x : Nat), η[i]? = some x → x < hp.length
theorem zAll_get {α β : Type} {r : α → β → Prop} : ∀ {as : List α} {bs : List β} {i : Nat} {a : α}, zAll r as bs → as[i]? = some a → ∃ b, bs[i]? = some b ∧ r a b
  | [], [], _, _, _, h => by simp at h
  | [], _ :: _, _, _, h, _ => h.elim
  | _ :: _, [], _, _, h, _ => h.elim
  | a :: as, b :: bs, 0, _, h, e => by
    simp only [List.getElem?_cons_zero, Option.some.injEq] at e
    subst e
    exact ⟨b, rfl, h.1⟩
  | a :: as, b :: bs, i + 1, _, h, e => by
    obtain ⟨b', h1, h2⟩ := zAll_get h.2 (by simpa using e)
    exact ⟨b', by simpa using h1, h2⟩
theorem zAll_set {α β : Type} {r : α → β → Prop} : ∀ {as : List α} {bs : List β} {i : Nat} {a : α} {b : β}, zAll r as bs → r a b → zAll r (as.set i a) (bs.set i b)
  | [], [], _, _, _, _, _ => by simp [zAll]
  | [], _ :: _, _, _, _, h, _ => h.elim
  | _ :: _, [], _, _, _, h, _ => h.elim
  | _ :: as, _ :: bs, 0, _, _, h, e => ⟨e, h.2⟩
  | _ :: as, _ :: bs, i + 1, _, _, h, e => ⟨h.1, zAll_set h.2 e⟩
theorem zAll_len {α β : Type} {r : α → β → Prop} : ∀ {as : List α} {bs : List β}, zAll r as bs → as.length = bs.length
  | [], [], _ => rfl
  | [], _ :: _, h => h.elim
  | _ :: _, [], h => h.elim
  | _ :: as, _ :: bs, h => by simp [zAll_len h.2]
theorem zAll_app {α β : Type} {r : α → β → Prop} : ∀ {as : List α} {bs : List β} {as' : List α} {bs' : List β}, zAll r as bs → zAll r as' bs' → zAll r (as ++ as') (bs ++ bs')
  | [], [], _, _, _, h => h
  | [], _ :: _, _, _, h, _ => h.elim
  | _ :: _, [], _, _, h, _ => h.elim
  | _ :: as, _ :: bs, _, _, h, h' => ⟨h.1, zAll_app h.2 h'⟩
theorem zAll_rev {α β : Type} {r : α → β → Prop} : ∀ {as : List α} {bs : List β}, zAll r as bs → zAll r as.reverse bs.reverse
  | [], [], _ => trivial
  | [], _ :: _, h => h.elim
  | _ :: _, [], h => h.elim
  | a :: as, b :: bs, h => by
    rw [List.reverse_cons, List.reverse_cons]
    exact zAll_app (zAll_rev h.2) ⟨h.1, trivial⟩
theorem zAll_take {α β : Type} {r : α → β → Prop} : ∀ {n : Nat} {as : List α} {bs : List β}, zAll r as bs → zAll r (as.take n) (bs.take n)
  | 0, _, _, _ => by simp [zAll]
  | _ + 1, [], [], _ => by simp [zAll]
  | _ + 1, [], _ :: _, h => h.elim
  | _ + 1, _ :: _, [], h => h.elim
  | n + 1, _ :: as, _ :: bs, h => ⟨h.1, zAll_take h.2⟩
theorem zAll_drop {α β : Type} {r : α → β → Prop} : ∀ {n : Nat} {as : List α} {bs : List β}, zAll r as bs → zAll r (as.drop n) (bs.drop n)
  | 0, _, _, h => h
  | _ + 1, [], [], _ => by simp [zAll]
  | _ + 1, [], _ :: _, h => h.elim
  | _ + 1, _ :: _, [], h => h.elim
  | n + 1, _ :: as, _ :: bs, h => zAll_drop (n := n) h.2
theorem zAll_mono {α β : Type} {r s : α → β → Prop} (h : ∀ a b, r a b → s a b) : ∀ {as : List α} {bs : List β}, zAll r as bs → zAll s as bs
  | [], [], _ => trivial
  | [], _ :: _, q => q.elim
  | _ :: _, [], q => q.elim
  | _ :: as, _ :: bs, q => ⟨h _ _ q.1, zAll_mono h q.2⟩
theorem zaS_mono {η m : List Nat} {ρ l : List Int} {as : List AV} {vs : List Value} (h : zaS η ρ as vs) : zaS (η ++ m) (ρ ++ l) as vs := zAll_mono (fun _ _ q => zav_mono q) h
theorem zaL_mono {η m : List Nat} {ρ l : List Int} {A : AL} {L : zL} (h : zaL η ρ A L) : zaL (η ++ m) (ρ ++ l) A L := fun q hq => by
  obtain ⟨v, h1, h2⟩ := h q hq
  exact ⟨v, h1, zav_mono h2⟩
theorem zac_mono {η m : List Nat} {ρ l : List Int} {c : AC} {h : zhE} (q : zac η ρ c h) : zac (η ++ m) (ρ ++ l) c h := by
  match c, q with
  | .inl (ci, fs), ⟨vs, h1, h2⟩ => exact ⟨vs, h1, zaS_mono h2⟩
  | .inr (.inl (t, n, p, rs, es)), ⟨f, h1, h2, h3, h4, h5, h6⟩ => exact ⟨f, h1, h2, h3, h4, h5, fun e he => by
      obtain ⟨j, a1, a2, a3⟩ := h6 e he
      exact ⟨j, zxr_mono a1, a2, zxr_mono a3⟩⟩
  | .inr (.inr as), ⟨f, h1, h2⟩ => exact ⟨f, h1, fun j a ha => zav_mono (h2 j a ha)⟩
theorem zac_mono1 {η : List Nat} {ρ l : List Int} {c : AC} {h : zhE} (q : zac η ρ c h) : zac η (ρ ++ l) c h := by
  have := zac_mono (m := []) (l := l) q
  rwa [List.append_nil] at this
theorem zaH_mono1 {η : List Nat} {ρ l : List Int} {A : AH} {hp : List zhE} (h : zaH η ρ A hp) : zaH η (ρ ++ l) A hp := ⟨h.1, fun i c hc => by
  obtain ⟨j, x, h1, h2, h3⟩ := h.2.1 i c hc
  exact ⟨j, x, h1, h2, zac_mono1 h3⟩, h.2.2.1, h.2.2.2⟩
theorem zaS_mono1 {η : List Nat} {ρ l : List Int} {as : List AV} {vs : List Value} (h : zaS η ρ as vs) : zaS η (ρ ++ l) as vs := zAll_mono (fun _ _ q => zav_mono1 q) h
theorem zaL_mono1 {η : List Nat} {ρ l : List Int} {A : AL} {L : zL} (h : zaL η ρ A L) : zaL η (ρ ++ l) A L := fun q hq => by
  obtain ⟨v, h1, h2⟩ := h q hq
  exact ⟨v, h1, zav_mono1 h2⟩
-- the heap, to be computed
def zhget (A : AH) (i : Nat) (k : AC → Bool) : Bool := zlg A.2 (i / 16) (fun ch => zlg ch (i % 16) k)
theorem zhget_ok {A : AH} {i : Nat} {k : AC → Bool} (h : zhget A i k = true) : ∃ c, zhg A.2 i = some c ∧ k c = true := by
  obtain ⟨ch, h1, h2⟩ := zlg_ok h
  obtain ⟨c, h3, h4⟩ := zlg_ok h2
  exact ⟨c, by simp [zhg, h1, h3], h4⟩
def zhset (A : AH) (i : Nat) (c : AC) (k : AH → Bool) : Bool := zlg A.2 (i / 16) (fun ch => zls ch (i % 16) c (fun ch => zls A.2 (i / 16) ch (fun cs => k (A.1, cs))))
theorem zhg_set {cs : List (List AC)} {ch : List AC} {i j : Nat} {c d : AC} (h1 : cs[i / 16]? = some ch) (h3 : i % 16 < ch.length) (hj : zhg (cs.set (i / 16) (ch.set (i % 16) c)) j = some d) : (i = j ∧ d = c) ∨ (i ≠ j ∧ zhg cs j = some d) := by
  have h5 : i / 16 < cs.length := (List.getElem?_eq_some_iff.mp h1).1
  by_cases e : i = j
  · subst e
    simp only [zhg, List.getElem?_set_self h5, Option.bind_some, List.getElem?_set_self h3, Option.some.injEq] at hj
    exact Or.inl ⟨rfl, hj.symm⟩
  · refine Or.inr ⟨e, ?_⟩
    by_cases e2 : i / 16 = j / 16
    · have e3 : i % 16 ≠ j % 16 := by omega
      simp only [zhg] at hj ⊢
      rw [← e2] at hj ⊢
      rw [List.getElem?_set_self h5] at hj
      simp only [Option.bind_some, List.getElem?_set_ne e3] at hj
      rw [h1]
      exact hj
    · simp only [zhg] at hj ⊢
      rw [List.getElem?_set_ne e2] at hj
      exact hj
theorem zhset_ok {η : List Nat} {ρ : List Int} {A : AH} {i x : Nat} {c : AC} {k : AH → Bool} {hp : List zhE} {h' : zhE} (h : zhset A i c k = true) (hA : zaH η ρ A hp) (hx : η[i]? = some x) (hc : zac η ρ c h') : ∃ A', k A' = true ∧ zaH η ρ A' (hp.set x h') := by
  obtain ⟨ch, h1, h2⟩ := zlg_ok h
  obtain ⟨h3, h4⟩ := zls_ok h2
  obtain ⟨h5, h6⟩ := zls_ok h4
  refine ⟨_, h6, hA.1, fun j d hj => ?_, hA.2.2.1, fun j y hy => by rw [List.length_set]; exact hA.2.2.2 j y hy⟩
  rcases zhg_set h1 h3 hj with ⟨rfl, rfl⟩ | ⟨e, hj⟩
  · exact ⟨x, h', hx, List.getElem?_set_self (hA.2.2.2 i x hx), hc⟩
  · obtain ⟨y, g, g1, g2, g3⟩ := hA.2.1 j d hj
    refine ⟨y, g, g1, ?_, g3⟩
    rw [List.getElem?_set_ne (fun q => e (hA.2.2.1 i j x hx (by rw [q]; exact g1)))]
    exact g2
def zhpush (A : AH) (c : AC) (k : AH → Bool) : Bool := match Nat.beq (A.1 % 16) 0 with
  | true => (match Nat.beq A.2.length (A.1 / 16) with
    | true => zla A.2 [c] (fun cs => zfn (A.1 + 1) (fun n => k (n, cs)))
    | false => false)
  | false => zlg A.2 (A.1 / 16) (fun ch => match Nat.beq ch.length (A.1 % 16) with
    | true => zla ch c (fun ch => zls A.2 (A.1 / 16) ch (fun cs => zfn (A.1 + 1) (fun n => k (n, cs))))
    | false => false)
theorem zhpush_ok {η : List Nat} {ρ : List Int} {A : AH} {c : AC} {k : AH → Bool} {hp : List zhE} {h' : zhE} (h : zhpush A c k = true) (hA : zaH η ρ A hp) (hc : zac (η ++ [hp.length]) ρ c h') : ∃ A', k A' = true ∧ zaH (η ++ [hp.length]) ρ A' (hp ++ [h']) := by
  have hlen : ∀ (j : Nat) (d : AC), zhg A.2 j = some d → j < A.1 := fun j d hj => by
    obtain ⟨x, y, hx, -⟩ := hA.2.1 j d hj
    rw [hA.1]
    exact (List.getElem?_eq_some_iff.mp hx).1
  have old : ∀ (j : Nat) (d : AC), zhg A.2 j = some d → ∃ x h, (η ++ [hp.length])[j]? = some x ∧ (hp ++ [h'])[x]? = some h ∧ zac (η ++ [hp.length]) ρ d h := fun j d hj => by
    obtain ⟨x, y, hx, hy, hd⟩ := hA.2.1 j d hj
    have h1 := zac_mono (m := [hp.length]) (l := []) hd
    rw [List.append_nil] at h1
    exact ⟨x, y, by rw [List.getElem?_append_left (List.getElem?_eq_some_iff.mp hx).1]; exact hx, by rw [List.getElem?_append_left (List.getElem?_eq_some_iff.mp hy).1]; exact hy, h1⟩
  have new : ∀ (j : Nat) (d : AC), j = A.1 → d = c → ∃ x h, (η ++ [hp.length])[j]? = some x ∧ (hp ++ [h'])[x]? = some h ∧ zac (η ++ [hp.length]) ρ d h := fun j d e1 e2 => by
    subst e1; subst e2
    exact ⟨hp.length, h', by rw [hA.1]; simp, by simp, hc⟩
  have rest : (∀ (i j x : Nat), (η ++ [hp.length])[i]? = some x → (η ++ [hp.length])[j]? = some x → i = j) ∧ ∀ (i x : Nat), (η ++ [hp.length])[i]? = some x → x < (hp ++ [h']).length := by
    have key : ∀ (i x : Nat), (η ++ [hp.length])[i]? = some x → (i < η.length ∧ η[i]? = some x ∧ x < hp.length) ∨ (i = η.length ∧ x = hp.length) := fun i x hx => by
      by_cases e : i < η.length
      · rw [List.getElem?_append_left e] at hx
        exact Or.inl ⟨e, hx, hA.2.2.2 i x hx⟩
      · rw [List.getElem?_append_right (by omega)] at hx
        have h2 := (List.getElem?_eq_some_iff.mp hx).1
        simp at h2
        rw [show i - η.length = 0 by omega] at hx
        cases hx
        exact Or.inr ⟨by omega, rfl⟩
    refine ⟨fun i j x hi hj => ?_, fun i x hx => ?_⟩
    · rcases key i x hi with ⟨a1, a2, a3⟩ | ⟨a1, a2⟩ <;> rcases key j x hj with ⟨b1, b2, b3⟩ | ⟨b1, b2⟩
      · exact hA.2.2.1 i j x a2 b2
      · omega
      · omega
      · omega
    · rw [List.length_append]
      rcases key i x hx with ⟨a1, a2, a3⟩ | ⟨a1, a2⟩
      · show x < hp.length + 1; omega
      · show x < hp.length + 1; omega
  unfold zhpush at h
  split at h
  · rename_i h0
    have h0 := Nat.eq_of_beq_eq_true h0
    split at h
    · rename_i h1
      have h1 := Nat.eq_of_beq_eq_true h1
      have h2 := zla_ok h
      rw [zfn_eq] at h2
      refine ⟨_, h2, by simp [hA.1], fun j d hj => ?_, rest.1, rest.2⟩
      simp only [zhg] at hj
      by_cases e : j / 16 < A.2.length
      · rw [List.getElem?_append_left e] at hj
        exact old j d hj
      · rw [List.getElem?_append_right (by omega)] at hj
        by_cases e2 : j / 16 = A.2.length
        · rw [e2, Nat.sub_self] at hj
          simp only [List.getElem?_cons_zero, Option.bind_some] at hj
          by_cases e3 : j % 16 = 0
          · rw [e3] at hj
            simp only [List.getElem?_cons_zero, Option.some.injEq] at hj
            exact new j d (by omega) hj.symm
          · have : ([c] : List AC)[j % 16]? = none := List.getElem?_eq_none (by simp; omega)
            rw [this] at hj; cases hj
        · have : ([[c]] : List (List AC))[j / 16 - A.2.length]? = none := List.getElem?_eq_none (by simp; omega)
          rw [this] at hj; cases hj
    · cases h
  · obtain ⟨ch, h1, h2⟩ := zlg_ok h
    split at h2
    · rename_i h3
      have h3 := Nat.eq_of_beq_eq_true h3
      have h4 := zla_ok h2
      obtain ⟨h5, h6⟩ := zls_ok h4
      rw [zfn_eq] at h6
      refine ⟨_, h6, by simp [hA.1], fun j d hj => ?_, rest.1, rest.2⟩
      simp only [zhg] at hj
      by_cases e : A.1 / 16 = j / 16
      · rw [← e, List.getElem?_set_self h5] at hj
        simp only [Option.bind_some] at hj
        by_cases e2 : j % 16 < ch.length
        · rw [List.getElem?_append_left e2] at hj
          exact old j d (by simp only [zhg]; rw [← e, h1]; exact hj)
        · rw [List.getElem?_append_right (by omega)] at hj
          by_cases e3 : j % 16 = ch.length
          · rw [e3, Nat.sub_self] at hj
            simp only [List.getElem?_cons_zero, Option.some.injEq] at hj
            exact new j d (by omega) hj.symm
          · have : ([c] : List AC)[j % 16 - ch.length]? = none := List.getElem?_eq_none (by simp; omega)
            rw [this] at hj; cases hj
      · rw [List.getElem?_set_ne e] at hj
        exact old j d hj
    · cases h2
-- local variables
def zal (A : AL) (i : Nat) (k : AV → Bool) : Bool := match A with
  | [] => false
  | q :: l => match Nat.beq q.1 i with
    | true => k q.2
    | false => zal l i k
theorem zal_ok {η : List Nat} {ρ : List Int} {L : zL} {i : Nat} {k : AV → Bool} : ∀ {A : AL}, zal A i k = true → zaL η ρ A L → ∃ a v, k a = true ∧ zlk L i = some v ∧ zav η ρ a v
  | [], h, _ => by simp [zal] at h
  | q :: A, h, hL => by
    unfold zal at h
    split at h
    · rename_i e
      have e := Nat.eq_of_beq_eq_true e
      obtain ⟨v, h1, h2⟩ := hL q List.mem_cons_self
      rw [e] at h1
      exact ⟨q.2, v, h, h1, h2⟩
    · exact zal_ok h (fun q hq => hL q (List.mem_cons_of_mem _ hq))
def zkeep1 (i : Nat) (q : Nat × AV) : Bool := !(Nat.beq q.1 i) && !(Nat.beq (q.1 + 1) i && Nat.beq (zcat q.2) 2)
def zkeep2 (i : Nat) (q : Nat × AV) : Bool := !(Nat.beq q.1 i) && (!(Nat.beq q.1 (i + 1)) && !(Nat.beq (q.1 + 1) i && Nat.beq (zcat q.2) 2))
def zfl (f : Nat × AV → Bool) : AL → (AL → Bool) → Bool
  | [], k => k []
  | q :: l, k => match f q with
    | true => zfl f l (fun l => k (q :: l))
    | false => zfl f l k
theorem zfl_ok {f : Nat × AV → Bool} : ∀ {A : AL} {k : AL → Bool}, zfl f A k = true → k (A.filter f) = true
  | [], _, h => h
  | q :: A, k, h => by
    unfold zfl at h
    split at h
    · rename_i e
      have := zfl_ok h
      rw [List.filter_cons_of_pos e]
      exact this
    · rename_i e
      have := zfl_ok h
      rw [List.filter_cons_of_neg (by rw [e]; decide)]
      exact this
theorem zbeq (a b : Nat) : Nat.beq a b = (a == b) := by
  apply Bool.eq_iff_iff.mpr
  constructor
  · intro h; exact beq_iff_eq.mpr (Nat.eq_of_beq_eq_true h)
  · intro h; rw [beq_iff_eq] at h; subst h; exact Nat.beq_refl a
theorem zlk_filter {g : Nat × Value → Bool} : ∀ {L : zL} {i : Nat} {v : Value}, zlk L i = some v → g (i, v) = true → zlk (L.filter g) i = some v
  | [], _, _, h, _ => by cases h
  | q :: L, i, v, h, hg => by
    unfold zlk at h
    split at h
    · rename_i e
      have e' := Nat.eq_of_beq_eq_true e
      cases h
      rw [List.filter_cons_of_pos (by rw [show q = (i, q.2) from by rw [← e']]; exact hg)]
      unfold zlk
      rw [e]
    · rename_i e
      by_cases hq : g q = true
      · rw [List.filter_cons_of_pos hq]
        unfold zlk
        rw [e]
        exact zlk_filter h hg
      · rw [List.filter_cons_of_neg hq]
        exact zlk_filter h hg
theorem zlk_cons {L : zL} {i j : Nat} {v w : Value} (h : zlk L j = some w) (e : ¬ i = j) : zlk ((i, v) :: L) j = some w := by
  unfold zlk
  have : Nat.beq i j = false := by rw [zbeq]; simpa using e
  rw [this]
  exact h
theorem zlk_self (L : zL) (i : Nat) (v : Value) : zlk ((i, v) :: L) i = some v := by
  unfold zlk
  rw [Nat.beq_refl]
def zst1 (A : AL) (i : Nat) (a : AV) (k : AL → Bool) : Bool := zfl (zkeep1 i) A (fun A => k ((i, a) :: A))
def zst2 (A : AL) (i : Nat) (a : AV) (k : AL → Bool) : Bool := zfl (zkeep2 i) A (fun A => k ((i, a) :: A))
theorem zst1_ok {η : List Nat} {ρ : List Int} {A : AL} {L : zL} {i : Nat} {a : AV} {v : Value} {k : AL → Bool} (h : zst1 A i a k = true) (hL : zaL η ρ A L) (ha : zav η ρ a v) : ∃ A', k A' = true ∧ zaL η ρ A' (zput1 L i v) := by
  have h' := zfl_ok (f := zkeep1 i) (k := fun A => k ((i, a) :: A)) h
  refine ⟨_, h', fun q hq => ?_⟩
  rcases List.mem_cons.mp hq with rfl | hq
  · exact ⟨v, zlk_self _ _ _, ha⟩
  · obtain ⟨hq1, hq2⟩ := List.mem_filter.mp hq
    obtain ⟨w, h1, h2⟩ := hL q hq1
    simp only [zkeep1, zbeq, Bool.and_eq_true, Bool.not_eq_true', beq_eq_false_iff_ne, ne_eq] at hq2
    refine ⟨w, zlk_cons (zlk_filter h1 ?_) (fun e => hq2.1 e.symm), h2⟩
    simp only [Bool.and_eq_true, Bool.not_eq_true', beq_eq_false_iff_ne, ne_eq]
    refine ⟨hq2.1, ?_⟩
    rw [zcat_ok h2]
    exact hq2.2
theorem zst2_ok {η : List Nat} {ρ : List Int} {A : AL} {L : zL} {i : Nat} {a : AV} {v : Value} {k : AL → Bool} (h : zst2 A i a k = true) (hL : zaL η ρ A L) (ha : zav η ρ a v) : ∃ A', k A' = true ∧ zaL η ρ A' (zput2 L i v) := by
  have h' := zfl_ok (f := zkeep2 i) (k := fun A => k ((i, a) :: A)) h
  refine ⟨_, h', fun q hq => ?_⟩
  rcases List.mem_cons.mp hq with rfl | hq
  · exact ⟨v, zlk_self _ _ _, ha⟩
  · obtain ⟨hq1, hq2⟩ := List.mem_filter.mp hq
    obtain ⟨w, h1, h2⟩ := hL q hq1
    simp only [zkeep2, zbeq, Bool.and_eq_true, Bool.not_eq_true', beq_eq_false_iff_ne, ne_eq] at hq2
    refine ⟨w, zlk_cons (zlk_filter h1 ?_) (fun e => hq2.1 e.symm), h2⟩
    simp only [Bool.and_eq_true, Bool.not_eq_true', beq_eq_false_iff_ne, ne_eq]
    refine ⟨hq2.1, hq2.2.1, ?_⟩
    rw [zcat_ok h2]
    exact hq2.2.2
