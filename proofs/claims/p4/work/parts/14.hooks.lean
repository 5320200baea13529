/-! what else may be known of the model's cells: kinds of knowledge, what they rest on, what keeps them -/
def zofi (hp : List zhE) (j b : Nat) : Option Int32 := match hp[j]? with
  | some (.inr (ci, fs)) => (match Nat.beq ci 12, fs[b]? with | true, some (.int x) => some x | _, _ => none)
  | _ => none
def zofr (hp : List zhE) (i : Nat) : Option (Nat × (Nat → Int32)) := match hp[i]? with
  | some (.inl (_, n, .inl f)) => some (n, f)
  | _ => none
def zofa (hp : List zhE) (j b : Nat) : Option (Nat × (Nat → Int32)) := match hp[j]? with
  | some (.inr (ci, fs)) => (match Nat.beq ci 12, fs[b]? with
    | true, some (.ref i) => zofr hp i
    | _, _ => none)
  | _ => none
/-- a knot's row -/
def zkc (x y z : Int) : Prop := (x = 1 → 0 ≤ y ∧ y ≤ 7) ∧ (2 ≤ x → 0 ≤ y ∧ y ≤ 63) ∧ (3 ≤ x → 0 ≤ z ∧ z ≤ 63)
/-- how many of the first n are c or more -/
def zcnt (c : Int) (f : Nat → Int32) : Nat → Int
  | 0 => 0
  | n + 1 => zcnt c f n + (if c ≤ (f n).toInt then 1 else 0)
theorem zcnt_pos (c : Int) (f : Nat → Int32) : ∀ n, 0 ≤ zcnt c f n
  | 0 => Int.le_refl _
  | n + 1 => by
    have := zcnt_pos c f n
    unfold zcnt
    split <;> omega
theorem zcnt_le {c d : Int} (h : c ≤ d) (f : Nat → Int32) : ∀ n, zcnt d f n ≤ zcnt c f n
  | 0 => Int.le_refl _
  | n + 1 => by
    have := zcnt_le h f n
    unfold zcnt
    split <;> split <;> omega
theorem zcnt_same {c : Int} {f g : Nat → Int32} : ∀ {n : Nat}, (∀ k, k < n → (f k).toInt = (g k).toInt) → zcnt c f n = zcnt c g n
  | 0, _ => rfl
  | n + 1, h => by
    unfold zcnt
    rw [zcnt_same (fun k hk => h k (by omega)), h n (by omega)]
/-- the stack of a sum: how many entries are 2 or more, 3 or more -/
def zstk (n : Nat) (w hd b ct wa kr : Int) (f : Nat → Int32) : Prop := zcnt 2 f w.toNat = w - b + ((n / 81 : Nat) : Int) - 4 ∧ zcnt 3 f w.toNat = hd - 1 + wa + ((n / 9 % 9 : Nat) : Int) - 4 ∧ kr + zcnt 2 f w.toNat + ((n % 9 : Nat) : Int) - 4 ≤ ct
/-- 0: HIGH of the THINGS, 1: of those read, 2: the knots of the E, 4: of those read, 6: a word's and a sign's number, 10 and on: the stack -/
def zOP (kind j : Nat) (hp : List zhE) : Prop := match kind with
  | 0 => ∀ m n f, zofi hp j 12 = some m → zofa hp j 24 = some (n, f) → ∀ k : Nat, (k : Int) < m.toInt → 1 ≤ (f k).toInt
  | 1 => ∀ m n f, zofi hp j 15 = some m → zofa hp j 24 = some (n, f) → ∀ k : Nat, (k : Int) < m.toInt → 1 ≤ (f (10 + k)).toInt
  | 2 => ∀ m n f n1 g n2 h, zofi hp j 14 = some m → zofa hp j 30 = some (n, f) → zofa hp j 31 = some (n1, g) → zofa hp j 32 = some (n2, h) → ∀ k : Nat, (k : Int) < m.toInt → k < 64 → zkc (f k).toInt (g k).toInt (h k).toInt
  | 4 => ∀ m n f n1 g n2 h, zofi hp j 17 = some m → zofa hp j 30 = some (n, f) → zofa hp j 31 = some (n1, g) → zofa hp j 32 = some (n2, h) → ∀ k : Nat, (k : Int) < m.toInt → zkc (f (64 + k)).toInt (g (64 + k)).toInt (h (64 + k)).toInt
  | 6 => ∀ a w, zofi hp j 8 = some a → zofi hp j 9 = some w → (a.toInt = 5 → 0 ≤ w.toInt ∧ w.toInt ≤ 5) ∧ (a.toInt = 1 → 0 ≤ w.toInt ∧ w.toInt ≤ 16)
  | n + 10 => ∀ w hd b ct wa kr n0 f, zofi hp j 35 = some w → zofi hp j 36 = some hd → zofi hp j 37 = some b → zofi hp j 38 = some ct → zofi hp j 39 = some wa → zofi hp j 17 = some kr → zofa hp j 33 = some (n0, f) → zstk n w.toInt hd.toInt b.toInt ct.toInt wa.toInt kr.toInt f
  | _ => True
/-- the fields it rests on: ints, arrays -/
def zfp (kind : Nat) : List Nat × List Nat := match kind with
  | 0 => ([12], [24])
  | 1 => ([15], [24])
  | 2 => ([14], [30, 31, 32])
  | 4 => ([17], [30, 31, 32])
  | 6 => ([8, 9], [])
  | _ + 10 => ([35, 36, 37, 38, 39, 17], [33])
  | _ => ([], [])
theorem zOP_dep {kind j : Nat} {hp hp' : List zhE} (h1 : ∀ b ∈ (zfp kind).1, zofi hp' j b = zofi hp j b) (h2 : ∀ b ∈ (zfp kind).2, zofa hp' j b = zofa hp j b) (h : zOP kind j hp) : zOP kind j hp' := by
  match kind, h, h1, h2 with
  | 0, h, h1, h2 =>
    intro m n f a1 a2
    rw [h1 12 (by simp [zfp])] at a1
    rw [h2 24 (by simp [zfp])] at a2
    exact h m n f a1 a2
  | 1, h, h1, h2 =>
    intro m n f a1 a2
    rw [h1 15 (by simp [zfp])] at a1
    rw [h2 24 (by simp [zfp])] at a2
    exact h m n f a1 a2
  | 2, h, h1, h2 =>
    intro m n f n1 g n2 z a0 a1 a2 a3
    rw [h1 14 (by simp [zfp])] at a0
    rw [h2 30 (by simp [zfp])] at a1
    rw [h2 31 (by simp [zfp])] at a2
    rw [h2 32 (by simp [zfp])] at a3
    exact h m n f n1 g n2 z a0 a1 a2 a3
  | 3, _, _, _ => exact trivial
  | 4, h, h1, h2 =>
    intro m n f n1 g n2 z a0 a1 a2 a3
    rw [h1 17 (by simp [zfp])] at a0
    rw [h2 30 (by simp [zfp])] at a1
    rw [h2 31 (by simp [zfp])] at a2
    rw [h2 32 (by simp [zfp])] at a3
    exact h m n f n1 g n2 z a0 a1 a2 a3
  | 5, _, _, _ => exact trivial
  | 6, h, h1, h2 =>
    intro a w a1 a2
    rw [h1 8 (by simp [zfp])] at a1
    rw [h1 9 (by simp [zfp])] at a2
    exact h a w a1 a2
  | 7, _, _, _ => exact trivial
  | 8, _, _, _ => exact trivial
  | 9, _, _, _ => exact trivial
  | n + 10, h, h1, h2 =>
    intro w hd b ct wa kr n0 f a1 a2 a3 a4 a5 a6 a7
    rw [h1 35 (by simp [zfp])] at a1
    rw [h1 36 (by simp [zfp])] at a2
    rw [h1 37 (by simp [zfp])] at a3
    rw [h1 38 (by simp [zfp])] at a4
    rw [h1 39 (by simp [zfp])] at a5
    rw [h1 17 (by simp [zfp])] at a6
    rw [h2 33 (by simp [zfp])] at a7
    exact h w hd b ct wa kr n0 f a1 a2 a3 a4 a5 a6 a7
def zaO (η : List Nat) (O : List Nat) (hp : List zhE) : Prop := ∀ o ∈ O, ∃ j, η[o % 1000]? = some j ∧ zOP (o / 1000) j hp
/-- the array in a field of the model's object m -/
def zofld (A : AH) (m b : Nat) (k : Nat → Bool) : Bool := zhget A m (fun c => match c with
  | .inl (ci, fs) => Nat.beq ci 12 && zlg fs b (fun a => match a.1 with | 2 => k a.2.1.toNat | _ => false)
  | _ => false)
theorem zofld_ok {η : List Nat} {ρ : List Int} {A : AH} {hp : List zhE} {m b : Nat} {k : Nat → Bool} (h : zofld A m b k = true) (hA : zaH η ρ A hp) : ∃ j vs H i, η[m]? = some j ∧ hp[j]? = some (.inr (12, vs)) ∧ vs[b]? = some (.ref i) ∧ η[H]? = some i ∧ k H = true := by
  obtain ⟨c, h1, h2⟩ := zhget_ok h
  split at h2
  · rename_i ci fs
    rw [Bool.and_eq_true] at h2
    have hci := Nat.eq_of_beq_eq_true h2.1
    subst hci
    obtain ⟨a, h3, h4⟩ := zlg_ok h2.2
    obtain ⟨j, x, g1, g2, vs, rfl, g3⟩ := hA.2.1 _ _ h1
    obtain ⟨v, g4, g5⟩ := zAll_get g3 h3
    obtain ⟨t, e⟩ := a
    split at h4
    · rename_i q
      simp only at q
      subst q
      obtain ⟨i, g6, rfl⟩ := g5
      exact ⟨j, vs, _, i, g1, g2, g4, g6, h4⟩
    · cases h4
  · cases h2
def zmemN (x : Nat) : List Nat → Bool
  | [] => false
  | y :: l => match Nat.beq x y with | true => true | false => zmemN x l
theorem zmemN_iff {x : Nat} : ∀ {l : List Nat}, zmemN x l = true ↔ x ∈ l
  | [] => by simp [zmemN]
  | y :: l => by
    unfold zmemN
    split
    · rename_i h
      have h := Nat.eq_of_beq_eq_true h
      simp [h]
    · rename_i h
      have h : ¬ x = y := fun e => by rw [e, Nat.beq_refl] at h; cases h
      simp [h, zmemN_iff]
def zmap2 (f : Nat → Bool) : List Nat → Bool
  | [] => true
  | b :: l => f b && zmap2 f l
theorem zmap2_ok {f : Nat → Bool} : ∀ {l : List Nat}, zmap2 f l = true → ∀ b ∈ l, f b = true
  | [], _, b, hb => absurd hb List.not_mem_nil
  | c :: l, h, b, hb => by
    simp only [zmap2, Bool.and_eq_true] at h
    rcases List.mem_cons.mp hb with rfl | hb
    · exact h.1
    · exact zmap2_ok h.2 b hb
theorem zofi_obj {hp : List zhE} {x j b ci : Nat} {vs vs' : List Value} (hx : hp[x]? = some (.inr (ci, vs))) (hs : x = j → vs'[b]? = vs[b]?) : zofi (hp.set x (.inr (ci, vs'))) j b = zofi hp j b := by
  have hlt := (List.getElem?_eq_some_iff.mp hx).1
  unfold zofi
  by_cases e : x = j
  · subst e
    rw [List.getElem?_set_self hlt, hx]
    simp only [hs rfl]
  · rw [List.getElem?_set_ne e]
theorem zofr_obj {hp : List zhE} {x ci : Nat} {vs vs' : List Value} (hx : hp[x]? = some (.inr (ci, vs))) (i : Nat) : zofr (hp.set x (.inr (ci, vs'))) i = zofr hp i := by
  have hlt := (List.getElem?_eq_some_iff.mp hx).1
  unfold zofr
  by_cases e : x = i
  · subst e
    rw [List.getElem?_set_self hlt, hx]
  · rw [List.getElem?_set_ne e]
theorem zofa_obj {hp : List zhE} {x j b ci : Nat} {vs vs' : List Value} (hx : hp[x]? = some (.inr (ci, vs))) (hs : x = j → vs'[b]? = vs[b]?) : zofa (hp.set x (.inr (ci, vs'))) j b = zofa hp j b := by
  have hlt := (List.getElem?_eq_some_iff.mp hx).1
  unfold zofa
  simp only [zofr_obj hx]
  by_cases e : x = j
  · subst e
    rw [List.getElem?_set_self hlt, hx]
    simp only [hs rfl]
  · rw [List.getElem?_set_ne e]
/-- cells that stay -/
theorem zofi_same {hp hp' : List zhE} {j b : Nat} (h : hp'[j]? = hp[j]?) : zofi hp' j b = zofi hp j b := by
  unfold zofi
  rw [h]
theorem zofr_same {hp hp' : List zhE} {i : Nat} (h : hp'[i]? = hp[i]?) : zofr hp' i = zofr hp i := by
  unfold zofr
  rw [h]
theorem zofa_at {hp : List zhE} {j b i : Nat} {vs : List Value} (hj : hp[j]? = some (.inr (12, vs))) (hi : vs[b]? = some (.ref i)) : zofa hp j b = zofr hp i := by
  unfold zofa
  rw [hj]
  simp only [hi]
theorem zofi_at {hp : List zhE} {j b : Nat} {x : Int32} {vs : List Value} (hj : hp[j]? = some (.inr (12, vs))) (hi : vs[b]? = some (.int x)) : zofi hp j b = some x := by
  unfold zofi
  rw [hj]
  simp only [hi]
theorem zofr_arr {hp : List zhE} {i t n : Nat} {f : Nat → Int32} (h : hp[i]? = some (.inl (t, n, .inl f))) : zofr hp i = some (n, f) := by
  unfold zofr
  rw [h]
theorem zofr_inv {hp : List zhE} {i t n n' : Nat} {f : zhA} {f' : Nat → Int32} (h : hp[i]? = some (.inl (t, n, f))) (hz : zofr hp i = some (n', f')) : n' = n ∧ f = .inl f' := by
  unfold zofr at hz
  rw [h] at hz
  split at hz
  · rename_i e
    cases e
    cases hz
    exact ⟨rfl, rfl⟩
  · cases hz
theorem zofa_same {hp hp' : List zhE} {j b i : Nat} {vs : List Value} (h : hp'[j]? = hp[j]?) (hj : hp[j]? = some (.inr (12, vs))) (hi : vs[b]? = some (.ref i)) (h2 : hp'[i]? = hp[i]?) : zofa hp' j b = zofa hp j b := by
  rw [zofa_at hj hi, zofa_at (h.trans hj) hi, zofr_same h2]
/-- an int field of the model's object -/
def zofx (A : AH) (m b : Nat) (k : LX → Bool) : Bool := zhget A m (fun c => match c with
  | .inl (ci, fs) => Nat.beq ci 12 && zlg fs b (fun a => zgI a k)
  | _ => false)
theorem zofx_ok {η : List Nat} {ρ : List Int} {A : AH} {hp : List zhE} {m b : Nat} {k : LX → Bool} (h : zofx A m b k = true) (hA : zaH η ρ A hp) : ∃ j y e, η[m]? = some j ∧ zofi hp j b = some y ∧ zxr ρ e y.toInt ∧ k e = true := by
  obtain ⟨c, h1, h2⟩ := zhget_ok h
  split at h2
  · rename_i ci fs
    rw [Bool.and_eq_true] at h2
    have hci := Nat.eq_of_beq_eq_true h2.1
    subst hci
    obtain ⟨a, h3, h4⟩ := zlg_ok h2.2
    obtain ⟨j, x, g1, g2, vs, rfl, g3⟩ := hA.2.1 _ _ h1
    obtain ⟨v, g4, g5⟩ := zAll_get g3 h3
    obtain ⟨y, rfl, h5, hy⟩ := zgI_ok h4 g5
    exact ⟨j, y, _, g1, zofi_at g2 g4, hy, h5⟩
  · cases h2
/-- the element that lies d beyond e0, by name -/
def zfe (E : LE) (e0 : LX) (d : Int) : List (LX × LX) → (LX → Bool) → Bool → Bool
  | [], _, kn => kn
  | q :: es, k, kn => (match zxsub q.1 e0 (fun x => zbd E x (fun lo hi => zeq lo d && zeq hi d)) with
    | true => k q.2
    | false => zfe E e0 d es k kn)
theorem zfe_ok {ρ : List Int} {E : LE} {e0 : LX} {d y : Int} {n : Nat} {f : zhA} {k : LX → Bool} {kn : Bool} (hE : zaE ρ E) (h0 : zxr ρ e0 y) : ∀ {es : List (LX × LX)}, zfe E e0 d es k kn = true → (∀ e ∈ es, ∃ j : Nat, zxr ρ e.1 (j : Int) ∧ j < n ∧ zxr ρ e.2 (zei f j)) → kn = true ∨ ∃ (j : Nat) (v : LX), (j : Int) = y + d ∧ j < n ∧ zxr ρ v (zei f j) ∧ k v = true
  | [], h, _ => Or.inl h
  | q :: es, h, he => by
    unfold zfe at h
    split at h
    · rename_i hc
      obtain ⟨j, j1, j2, j3⟩ := he q List.mem_cons_self
      obtain ⟨x, x1, x2⟩ := zxsub_ok hc j1 h0
      obtain ⟨lo, hi, x3, x4, x5⟩ := zbd_at hE x1 x2
      simp only [Bool.and_eq_true, zeq_iff] at x3
      exact Or.inr ⟨j, q.2, by omega, j2, j3, h⟩
    · exact zfe_ok hE h0 h (fun e hm => he e (List.mem_cons_of_mem _ hm))
/-- an element of a row of the model's -/
def zent (A : AH) (E : LE) (m fb : Nat) (e0 : LX) (d : Int) (k : LX → Bool) (kn : Bool) : Bool := zofld A m fb (fun H => zhget A H (fun c => match c with
  | .inr (.inl (t, _, _, _, es)) => Nat.beq t 0 && zfe E e0 d es k kn
  | _ => false))
theorem zent_ok {η : List Nat} {ρ : List Int} {A : AH} {hp : List zhE} {E : LE} {m fb j0 : Nat} {e0 : LX} {d y : Int} {k : LX → Bool} {kn : Bool} (h : zent A E m fb e0 d k kn = true) (hE : zaE ρ E) (hA : zaH η ρ A hp) (hm : η[m]? = some j0) (h0 : zxr ρ e0 y) : kn = true ∨ ∃ (j : Nat) (v : LX) (n : Nat) (f : Nat → Int32), (j : Int) = y + d ∧ k v = true ∧ zofa hp j0 fb = some (n, f) ∧ zxr ρ v (f j).toInt := by
  obtain ⟨j1, vs, H, i, q1, q2, q3, q4, q5⟩ := zofld_ok h hA
  cases hm.symm.trans q1
  obtain ⟨c2, q6, q7⟩ := zhget_ok q5
  split at q7
  · rename_i t n p rs es
    rw [Bool.and_eq_true] at q7
    have ht := Nat.eq_of_beq_eq_true q7.1
    subst ht
    obtain ⟨i2, hh, r1, r2, f, rfl, ⟨g, rfl⟩, r4⟩ := hA.2.1 _ _ q6
    cases q4.symm.trans r1
    rcases zfe_ok hE h0 q7.2 r4.2.2.2 with q | ⟨j, v, j1, j2, j3, j4⟩
    · exact Or.inl q
    · exact Or.inr ⟨j, v, n, g, j1, j4, by rw [zofa_at q2 q3, zofr_arr r2], j3⟩
  · cases q7
def zk6 (l u lo hi : Int) : Bool := (zle (u + 1) 5 || (zle 6 l || (zle 0 lo && zle hi 5))) && (zle u 0 || (zle 2 l || (zle 0 lo && zle hi 16)))
theorem zk6_ok {l u lo hi a w : Int} (h : zk6 l u lo hi = true) (h1 : l ≤ a) (h2 : a ≤ u) (h3 : lo ≤ w) (h4 : w ≤ hi) : (a = 5 → 0 ≤ w ∧ w ≤ 5) ∧ (a = 1 → 0 ≤ w ∧ w ≤ 16) := by
  unfold zk6 at h
  simp only [Bool.and_eq_true, Bool.or_eq_true, zle_iff] at h
  omega
def zkcB (E : LE) (v0 v1 v2 : LX) : Bool := zbd E v0 (fun l0 h0 => zbd E v1 (fun l1 h1 => zbd E v2 (fun l2 h2 => (zle h0 0 || (zle 2 l0 || (zle 0 l1 && zle h1 7))) && ((zle h0 1 || (zle 0 l1 && zle h1 63)) && (zle h0 2 || (zle 0 l2 && zle h2 63))))))
theorem zkcB_ok {ρ : List Int} {E : LE} {v0 v1 v2 : LX} {x y z : Int} (h : zkcB E v0 v1 v2 = true) (hE : zaE ρ E) (hx : zxr ρ v0 x) (hy : zxr ρ v1 y) (hz : zxr ρ v2 z) : zkc x y z := by
  obtain ⟨l0, h0, a1, a2, a3⟩ := zbd_at hE h hx
  obtain ⟨l1, h1, b1, b2, b3⟩ := zbd_at hE a1 hy
  obtain ⟨l2, h2, c1, c2, c3⟩ := zbd_at hE b1 hz
  simp only [Bool.and_eq_true, Bool.or_eq_true, zle_iff] at c1
  unfold zkc
  omega
/-- the value written is one more than it was -/
def zup1 (A : AH) (E : LE) (m b : Nat) (val : AV) (k : LX → Bool) : Bool := zgI val (fun e => zofx A m b (fun e0 => zxsub e e0 (fun d => zbd E d (fun lo hi => zeq lo 1 && zeq hi 1)) && k e0))
/-- whether a write into a field keeps it -/
def zHKf (kind m : Nat) (A : AH) (G : AG) (id b : Nat) (val : AV) : Bool := Nat.ble kind 9 && (!(Nat.beq id m) || ((!(zmemN b (zfp kind).1) && !(zmemN b (zfp kind).2)) ||
  ((Nat.beq kind 1 && (Nat.beq b 15 && zup1 A G.2.1 m 15 val (fun e0 => zent A G.2.1 m 24 e0 10 (fun v => zbd G.2.1 v (fun lo _ => zle 1 lo)) false))) ||
  ((Nat.beq kind 4 && (Nat.beq b 17 && zup1 A G.2.1 m 17 val (fun e0 => zent A G.2.1 m 30 e0 64 (fun v0 => zent A G.2.1 m 31 e0 64 (fun v1 => zent A G.2.1 m 32 e0 64 (fun v2 => zkcB G.2.1 v0 v1 v2) false) false) false))) ||
  ((Nat.beq kind 6 && (Nat.beq b 9 && zgI val (fun e => zofx A m 8 (fun a => zbd G.2.1 a (fun l u => zbd G.2.1 e (fun lo hi => zk6 l u lo hi)))))) ||
  (Nat.beq kind 6 && (Nat.beq b 8 && zgI val (fun e => zofx A m 9 (fun w => zbd G.2.1 e (fun l u => zbd G.2.1 w (fun lo hi => zk6 l u lo hi)))))))))))
section ZHF
variable {η : List Nat} {ρ : List Int} {A : AH} {G : AG} {hp : List zhE}
theorem zofi_put {hp : List zhE} {x b : Nat} {y : Int32} {vs : List Value} (hx : hp[x]? = some (.inr (12, vs))) (hb : b < vs.length) : zofi (hp.set x (.inr (12, vs.set b (.int y)))) x b = some y :=
  zofi_at (List.getElem?_set_self (List.getElem?_eq_some_iff.mp hx).1) (List.getElem?_set_self hb)
theorem zofi_put_ne {hp : List zhE} {x b b' : Nat} {y : Value} {vs : List Value} (hx : hp[x]? = some (.inr (12, vs))) (hb : b ≠ b') : zofi (hp.set x (.inr (12, vs.set b y))) x b' = zofi hp x b' :=
  zofi_obj hx (fun _ => List.getElem?_set_ne hb)
theorem zofa_put_ne {hp : List zhE} {x b b' : Nat} {y : Value} {vs : List Value} (hx : hp[x]? = some (.inr (12, vs))) (hb : b ≠ b') : zofa (hp.set x (.inr (12, vs.set b y))) x b' = zofa hp x b' :=
  zofa_obj hx (fun _ => List.getElem?_set_ne hb)
theorem zofi_12 {hp : List zhE} {x b ci : Nat} {y : Int32} {vs : List Value} (hx : hp[x]? = some (.inr (ci, vs))) (h : zofi hp x b = some y) : ci = 12 ∧ vs[b]? = some (.int y) := by
  unfold zofi at h
  rw [hx] at h
  simp only at h
  split at h
  · rename_i e1 e2
    cases h
    exact ⟨Nat.eq_of_beq_eq_true e1, e2⟩
  · cases h
theorem zup1_ok {m b : Nat} {val : AV} {k : LX → Bool} {w : Value} {j : Nat} (h : zup1 A G.2.1 m b val k = true) (hG : zaG ρ G) (hA : zaH η ρ A hp) (hm : η[m]? = some j) (hv : zav η ρ val w) : ∃ y y0 e0, w = .int y ∧ zofi hp j b = some y0 ∧ y.toInt = y0.toInt + 1 ∧ zxr ρ e0 y0.toInt ∧ k e0 = true := by
  obtain ⟨y, rfl, h1, hy⟩ := zgI_ok h hv
  obtain ⟨j', y0, e0, g1, g2, g3, g4⟩ := zofx_ok h1 hA
  cases hm.symm.trans g1
  rw [Bool.and_eq_true] at g4
  obtain ⟨d, d1, d2⟩ := zxsub_ok g4.1 hy g3
  obtain ⟨lo, hi, d3, d4, d5⟩ := zbd_at hG.2.1 d1 d2
  simp only [Bool.and_eq_true, zeq_iff] at d3
  exact ⟨y, y0, e0, rfl, g2, by omega, g3, g4.2⟩
theorem zHKf_ok {kind m id b x j ci : Nat} {val : AV} {vs : List Value} {w : Value} (h : zHKf kind m A G id b val = true) (hG : zaG ρ G) (hA : zaH η ρ A hp) (hm : η[m]? = some j) (hid : η[id]? = some x) (hx : hp[x]? = some (.inr (ci, vs))) (hv : zav η ρ val w) (hb : b < vs.length) (hO : zOP kind j hp) : zOP kind j (hp.set x (.inr (ci, vs.set b w))) := by
  by_cases hxj : x = j
  · subst hxj
    unfold zHKf at h
    simp only [Bool.or_eq_true, Bool.and_eq_true, Bool.not_eq_true'] at h
    obtain ⟨-, h⟩ := h
    rcases h with h | h
    · exfalso
      have := hA.2.2.1 id m x hid hm
      rw [this, Nat.beq_refl] at h
      cases h
    · rcases h with ⟨h1, h2⟩ | h
      · have n1 : ¬ b ∈ (zfp kind).1 := fun q => by rw [zmemN_iff.mpr q] at h1; cases h1
        have n2 : ¬ b ∈ (zfp kind).2 := fun q => by rw [zmemN_iff.mpr q] at h2; cases h2
        refine zOP_dep (fun b' hb' => zofi_obj hx (fun _ => ?_)) (fun b' hb' => zofa_obj hx (fun _ => ?_)) hO
        · exact List.getElem?_set_ne (fun e => n1 (by rw [e]; exact hb'))
        · exact List.getElem?_set_ne (fun e => n2 (by rw [e]; exact hb'))
      · rcases h with ⟨hk, hb1, h⟩ | h
        · have hk := Nat.eq_of_beq_eq_true hk
          have hb1 := Nat.eq_of_beq_eq_true hb1
          subst hk; subst hb1
          obtain ⟨y, y0, e0, rfl, g1, g2, g3, g4⟩ := zup1_ok h hG hA hm hv
          obtain ⟨rfl, g5⟩ := zofi_12 hx g1
          rcases zent_ok g4 hG.2.1 hA hm g3 with q | ⟨jj, v, nn, ff, j1, j2, j3, j4⟩
          · cases q
          · intro m' n' f' a1 a2 k hk
            rw [zofi_put hx hb] at a1
            cases a1
            rw [zofa_put_ne hx (by decide)] at a2
            by_cases hk0 : (k : Int) < y0.toInt
            · exact hO y0 n' f' g1 a2 k hk0
            · cases j3.symm.trans a2
              obtain ⟨lo, hi, d1, d2, d3⟩ := zbd_at hG.2.1 j2 j4
              rw [zle_iff] at d1
              rw [show 10 + k = jj by omega]
              omega
        · rcases h with ⟨hk, hb1, h⟩ | h
          · have hk := Nat.eq_of_beq_eq_true hk
            have hb1 := Nat.eq_of_beq_eq_true hb1
            subst hk; subst hb1
            obtain ⟨y, y0, e0, rfl, g1, g2, g3, g4⟩ := zup1_ok h hG hA hm hv
            obtain ⟨rfl, g5⟩ := zofi_12 hx g1
            rcases zent_ok g4 hG.2.1 hA hm g3 with q | ⟨jj, v, nn1, ff1, j1, j2, j3, j4⟩
            · cases q
            · rcases zent_ok j2 hG.2.1 hA hm g3 with q | ⟨jj2, v2, nn2, ff2, k1, k2, k3, k4⟩
              · cases q
              · rcases zent_ok k2 hG.2.1 hA hm g3 with q | ⟨jj3, v3, nn3, ff3, l1, l2, l3, l4⟩
                · cases q
                · intro m' n f n1 g n2 z a0 a1 a2 a3 k hk
                  rw [zofi_put hx hb] at a0
                  cases a0
                  rw [zofa_put_ne hx (by decide)] at a1 a2 a3
                  by_cases hk0 : (k : Int) < y0.toInt
                  · exact hO y0 n f n1 g n2 z g1 a1 a2 a3 k hk0
                  · have e1 : 64 + k = jj := by omega
                    have e2 : jj2 = jj := by omega
                    have e3 : jj3 = jj := by omega
                    rw [e1]
                    cases j3.symm.trans a1
                    cases k3.symm.trans a2
                    cases l3.symm.trans a3
                    rw [e2] at k4
                    rw [e3] at l4
                    exact zkcB_ok l2 hG.2.1 j4 k4 l4
          · rcases h with ⟨hk, hb1, h⟩ | ⟨hk, hb1, h⟩
            · have hk := Nat.eq_of_beq_eq_true hk
              have hb1 := Nat.eq_of_beq_eq_true hb1
              subst hk; subst hb1
              obtain ⟨y, rfl, h1, hy⟩ := zgI_ok h hv
              obtain ⟨j', y0, e0, g1, g2, g3, g4⟩ := zofx_ok h1 hA
              cases hm.symm.trans g1
              obtain ⟨rfl, g5⟩ := zofi_12 hx g2
              obtain ⟨l, u, d1, d2, d3⟩ := zbd_at hG.2.1 g4 g3
              obtain ⟨lo, hi, d4, d5, d6⟩ := zbd_at hG.2.1 d1 hy
              intro a w a1 a2
              rw [zofi_put hx hb] at a2
              cases a2
              rw [zofi_put_ne hx (by decide)] at a1
              cases g2.symm.trans a1
              exact zk6_ok d4 d2 d3 d5 d6
            · have hk := Nat.eq_of_beq_eq_true hk
              have hb1 := Nat.eq_of_beq_eq_true hb1
              subst hk; subst hb1
              obtain ⟨y, rfl, h1, hy⟩ := zgI_ok h hv
              obtain ⟨j', y0, e0, g1, g2, g3, g4⟩ := zofx_ok h1 hA
              cases hm.symm.trans g1
              obtain ⟨rfl, g5⟩ := zofi_12 hx g2
              obtain ⟨l, u, d1, d2, d3⟩ := zbd_at hG.2.1 g4 hy
              obtain ⟨lo, hi, d4, d5, d6⟩ := zbd_at hG.2.1 d1 g3
              intro a w a1 a2
              rw [zofi_put hx hb] at a1
              cases a1
              rw [zofi_put_ne hx (by decide)] at a2
              cases g2.symm.trans a2
              exact zk6_ok d4 d2 d3 d5 d6
  · exact zOP_dep (fun b' _ => zofi_obj hx (fun e => absurd e hxj)) (fun b' _ => zofa_obj hx (fun e => absurd e hxj)) hO
/-- the stack's kind after a write into a field -/
def zmkK (i j s : Int) (k : Nat → Bool) (kn : Bool) : Bool := match zle 0 i && (zle i 8 && (zle 0 j && (zle j 8 && (zle 0 s && zle s 8)))) with
  | true => zfn (10 + ((i.toNat * 9 + j.toNat) * 9 + s.toNat)) k
  | false => kn
theorem zmkK_ok {i j s : Int} {k : Nat → Bool} {kn : Bool} (h : zmkK i j s k kn = true) : kn = true ∨ ∃ n : Nat, k (n + 10) = true ∧ ((n / 81 : Nat) : Int) = i ∧ ((n / 9 % 9 : Nat) : Int) = j ∧ ((n % 9 : Nat) : Int) = s := by
  unfold zmkK at h
  split at h
  · rename_i hc
    simp only [Bool.and_eq_true, zle_iff] at hc
    rw [zfn_eq] at h
    refine Or.inr ⟨(i.toNat * 9 + j.toNat) * 9 + s.toNat, by rw [Nat.add_comm]; exact h, ?_, ?_, ?_⟩ <;> omega
  · exact Or.inl h
def zcl2v (E : LE) (v : LX) (k : Int → Int → Bool) (kn : Bool) : Bool := zbd E v (fun l u => match zle 2 l with
  | true => (match zle 3 l with
    | true => k 1 1
    | false => (match zle u 2 with
      | true => k 1 0
      | false => kn))
  | false => (match zle u 1 with
    | true => k 0 0
    | false => kn))
theorem zcl2v_ok {E : LE} {v : LX} {k : Int → Int → Bool} {kn : Bool} {x : Int} (h : zcl2v E v k kn = true) (hE : zaE ρ E) (hx : zxr ρ v x) : kn = true ∨ k (if 2 ≤ x then 1 else 0) (if 3 ≤ x then 1 else 0) = true := by
  unfold zcl2v at h
  obtain ⟨l, u, h1, h2, h3⟩ := zbd_at hE h hx
  split at h1
  · rename_i hc
    rw [zle_iff] at hc
    split at h1
    · rename_i hc2
      rw [zle_iff] at hc2
      right
      rw [if_pos (by omega), if_pos (by omega)]
      exact h1
    · split at h1
      · rename_i hc3
        rw [zle_iff] at hc3
        right
        rw [if_pos (by omega), if_neg (by omega)]
        exact h1
      · exact Or.inl h1
  · split at h1
    · rename_i hc3
      rw [zle_iff] at hc3
      right
      rw [if_neg (by omega), if_neg (by omega)]
      exact h1
    · exact Or.inl h1
def zshW (n : Nat) (A : AH) (E : LE) (m : Nat) (e0 : LX) (d : Int) (k : Nat → Bool) (kn : Bool) : Bool := match zeq d 0 with
  | true => k (n + 10)
  | false => (match zeq d 1 with
    | true => zent A E m 33 e0 0 (fun v => zcl2v E v (fun c2 c3 => zmkK (((n / 81 : Nat) : Int) - 1 + c2) (((n / 9 % 9 : Nat) : Int) + c3) (((n % 9 : Nat) : Int) - c2) k kn) kn) kn
    | false => (match zeq d (-1) with
      | true => zent A E m 33 e0 (-1) (fun v => zcl2v E v (fun c2 c3 => zmkK (((n / 81 : Nat) : Int) + 1 - c2) (((n / 9 % 9 : Nat) : Int) - c3) (((n % 9 : Nat) : Int) + c2) k kn) kn) kn
      | false => kn))
def zshB (n b : Nat) (A : AH) (E : LE) (m : Nat) (e0 : LX) (d : Int) (k : Nat → Bool) (kn : Bool) : Bool := match b with
  | 37 => zmkK (((n / 81 : Nat) : Int) + d) ((n / 9 % 9 : Nat) : Int) ((n % 9 : Nat) : Int) k kn
  | 36 => zmkK ((n / 81 : Nat) : Int) (((n / 9 % 9 : Nat) : Int) - d) ((n % 9 : Nat) : Int) k kn
  | 39 => zmkK ((n / 81 : Nat) : Int) (((n / 9 % 9 : Nat) : Int) - d) ((n % 9 : Nat) : Int) k kn
  | 38 => zmkK ((n / 81 : Nat) : Int) ((n / 9 % 9 : Nat) : Int) (((n % 9 : Nat) : Int) + d) k kn
  | 17 => zmkK ((n / 81 : Nat) : Int) ((n / 9 % 9 : Nat) : Int) (((n % 9 : Nat) : Int) - d) k kn
  | 35 => zshW n A E m e0 d k kn
  | _ => kn
def zSH (n m : Nat) (A : AH) (E : LE) (id b : Nat) (val : AV) (k : Nat → Bool) (kn : Bool) : Bool := match Nat.beq id m && zmemN b [35, 36, 37, 38, 39, 17] with
  | false => (match Nat.beq id m && Nat.beq b 33 with
    | true => kn
    | false => k (n + 10))
  | true => zgI val (fun e => zofx A m b (fun e0 => zxsub e e0 (fun d => zbd E d (fun lo hi => match zeq lo hi with
    | true => zshB n b A E m e0 lo k kn
    | false => kn))))
theorem zcnt_up {c : Int} {f : Nat → Int32} {w w' : Int} {j : Nat} (h : w' = w + 1) (hj : (j : Int) = w) : zcnt c f w'.toNat = zcnt c f w.toNat + (if c ≤ (f j).toInt then 1 else 0) := by
  rw [show w'.toNat = j + 1 by omega, show w.toNat = j by omega]
  rfl
theorem zSH_ok {n m id b x j ci : Nat} {val : AV} {vs : List Value} {w : Value} {k : Nat → Bool} {kn : Bool} (h : zSH n m A G.2.1 id b val k kn = true) (hG : zaG ρ G) (hA : zaH η ρ A hp) (hm : η[m]? = some j) (hid : η[id]? = some x) (hx : hp[x]? = some (.inr (ci, vs))) (hv : zav η ρ val w) (hb : b < vs.length) (hO : zOP (n + 10) j hp) : kn = true ∨ ∃ n', k (n' + 10) = true ∧ zOP (n' + 10) j (hp.set x (.inr (ci, vs.set b w))) := by
  unfold zSH at h
  split at h
  · rename_i hc
    rw [Bool.and_eq_false_iff] at hc
    split at h
    · exact Or.inl h
    · rename_i hc2
      rw [Bool.and_eq_false_iff] at hc2
      refine Or.inr ⟨n, h, ?_⟩
      by_cases hxj : x = j
      · subst hxj
        have hidm : Nat.beq id m = true := by rw [hA.2.2.1 id m x hid hm]; exact Nat.beq_refl _
        rw [hidm] at hc hc2
        have n1 : ¬ b ∈ [35, 36, 37, 38, 39, 17] := fun q => by
          rcases hc with hc | hc
          · cases hc
          · rw [zmemN_iff.mpr q] at hc; cases hc
        have n2 : ¬ b ∈ [33] := fun q => by
          rcases hc2 with hc2 | hc2
          · cases hc2
          · rw [List.mem_singleton.mp q] at hc2; cases hc2
        refine zOP_dep (fun b' hb' => zofi_obj hx (fun _ => ?_)) (fun b' hb' => zofa_obj hx (fun _ => ?_)) hO
        · exact List.getElem?_set_ne (fun e => n1 (by rw [e]; exact hb'))
        · exact List.getElem?_set_ne (fun e => n2 (by rw [e]; exact hb'))
      · exact zOP_dep (fun b' _ => zofi_obj hx (fun e => absurd e hxj)) (fun b' _ => zofa_obj hx (fun e => absurd e hxj)) hO
  · rename_i hc
    rw [Bool.and_eq_true] at hc
    have hidm := Nat.eq_of_beq_eq_true hc.1
    subst hidm
    cases hm.symm.trans hid
    obtain ⟨y, rfl, h1, hy⟩ := zgI_ok h hv
    obtain ⟨j', y0, e0, g1, g2, g3, g4⟩ := zofx_ok h1 hA
    cases hm.symm.trans g1
    obtain ⟨rfl, g5⟩ := zofi_12 hx g2
    obtain ⟨d, d1, d2⟩ := zxsub_ok g4 hy g3
    obtain ⟨lo, hi, d3, d4, d5⟩ := zbd_at hG.2.1 d1 d2
    split at d3
    · rename_i hd
      rw [zeq_iff] at hd
      have hyy : y.toInt = y0.toInt + lo := by omega
      have old : ∀ b', b ≠ b' → ∀ z, zofi (hp.set x (.inr (12, vs.set b (.int y)))) x b' = some z → zofi hp x b' = some z := fun b' hne z hz => by rw [zofi_put_ne hx hne] at hz; exact hz
      have new : ∀ z, zofi (hp.set x (.inr (12, vs.set b (.int y)))) x b = some z → z = y := fun z hz => by rw [zofi_put hx hb] at hz; cases hz; rfl
      have row : ∀ n0 f, b ≠ 33 → zofa (hp.set x (.inr (12, vs.set b (.int y)))) x 33 = some (n0, f) → zofa hp x 33 = some (n0, f) := fun n0 f hne hz => by rw [zofa_put_ne hx hne] at hz; exact hz
      unfold zshB at d3
      split at d3
      · rcases zmkK_ok d3 with q | ⟨n', q1, q2, q3, q4⟩
        · exact Or.inl q
        · refine Or.inr ⟨n', q1, ?_⟩
          intro w hd b ct wa kr n0 f a1 a2 a3 a4 a5 a6 a7
          have := new _ a3
          subst this
          have h9 := hO w hd y0 ct wa kr n0 f (old _ (by decide) _ a1) (old _ (by decide) _ a2) g2 (old _ (by decide) _ a4) (old _ (by decide) _ a5) (old _ (by decide) _ a6) (row _ _ (by decide) a7)
          unfold zstk at h9 ⊢
          omega
      · rcases zmkK_ok d3 with q | ⟨n', q1, q2, q3, q4⟩
        · exact Or.inl q
        · refine Or.inr ⟨n', q1, ?_⟩
          intro w hd b ct wa kr n0 f a1 a2 a3 a4 a5 a6 a7
          have := new _ a2
          subst this
          have h9 := hO w y0 b ct wa kr n0 f (old _ (by decide) _ a1) g2 (old _ (by decide) _ a3) (old _ (by decide) _ a4) (old _ (by decide) _ a5) (old _ (by decide) _ a6) (row _ _ (by decide) a7)
          unfold zstk at h9 ⊢
          omega
      · rcases zmkK_ok d3 with q | ⟨n', q1, q2, q3, q4⟩
        · exact Or.inl q
        · refine Or.inr ⟨n', q1, ?_⟩
          intro w hd b ct wa kr n0 f a1 a2 a3 a4 a5 a6 a7
          have := new _ a5
          subst this
          have h9 := hO w hd b ct y0 kr n0 f (old _ (by decide) _ a1) (old _ (by decide) _ a2) (old _ (by decide) _ a3) (old _ (by decide) _ a4) g2 (old _ (by decide) _ a6) (row _ _ (by decide) a7)
          unfold zstk at h9 ⊢
          omega
      · rcases zmkK_ok d3 with q | ⟨n', q1, q2, q3, q4⟩
        · exact Or.inl q
        · refine Or.inr ⟨n', q1, ?_⟩
          intro w hd b ct wa kr n0 f a1 a2 a3 a4 a5 a6 a7
          have := new _ a4
          subst this
          have h9 := hO w hd b y0 wa kr n0 f (old _ (by decide) _ a1) (old _ (by decide) _ a2) (old _ (by decide) _ a3) g2 (old _ (by decide) _ a5) (old _ (by decide) _ a6) (row _ _ (by decide) a7)
          unfold zstk at h9 ⊢
          omega
      · rcases zmkK_ok d3 with q | ⟨n', q1, q2, q3, q4⟩
        · exact Or.inl q
        · refine Or.inr ⟨n', q1, ?_⟩
          intro w hd b ct wa kr n0 f a1 a2 a3 a4 a5 a6 a7
          have := new _ a6
          subst this
          have h9 := hO w hd b ct wa y0 n0 f (old _ (by decide) _ a1) (old _ (by decide) _ a2) (old _ (by decide) _ a3) (old _ (by decide) _ a4) (old _ (by decide) _ a5) g2 (row _ _ (by decide) a7)
          unfold zstk at h9 ⊢
          omega
      · unfold zshW at d3
        have fin : ∀ n', (∀ hd b ct wa kr n0 f, zofa hp x 33 = some (n0, f) → zstk n y0.toInt hd b ct wa kr f → zstk n' y.toInt hd b ct wa kr f) → zOP (n' + 10) x (hp.set x (.inr (12, vs.set 35 (.int y)))) := by
          intro n' hf w hd b ct wa kr n0 f a1 a2 a3 a4 a5 a6 a7
          have := new _ a1
          subst this
          have a7 := row _ _ (by decide) a7
          exact hf _ _ _ _ _ n0 f a7 (hO y0 hd b ct wa kr n0 f g2 (old _ (by decide) _ a2) (old _ (by decide) _ a3) (old _ (by decide) _ a4) (old _ (by decide) _ a5) (old _ (by decide) _ a6) a7)
        split at d3
        · rename_i e
          rw [zeq_iff] at e
          refine Or.inr ⟨n, d3, fin n (fun hd b ct wa kr n0 f _ q => ?_)⟩
          rw [show y.toInt = y0.toInt by omega]
          exact q
        · split at d3
          · rename_i e
            rw [zeq_iff] at e
            rcases zent_ok d3 hG.2.1 hA hm g3 with q | ⟨jj, v, n1, f1, j1, j2, hrow, j4⟩
            · exact Or.inl q
            · rcases zcl2v_ok j2 hG.2.1 j4 with q | q
              · exact Or.inl q
              · rcases zmkK_ok q with q | ⟨n', q1, q2, q3, q4⟩
                · exact Or.inl q
                · refine Or.inr ⟨n', q1, fin n' (fun hd b ct wa kr n0 f hz h9 => ?_)⟩
                  cases hrow.symm.trans hz
                  unfold zstk at h9 ⊢
                  rw [zcnt_up (c := 2) (f := f1) (w := y0.toInt) (w' := y.toInt) (j := jj) (by omega) (by omega), zcnt_up (c := 3) (f := f1) (w := y0.toInt) (w' := y.toInt) (j := jj) (by omega) (by omega)]
                  omega
          · split at d3
            · rename_i e
              rw [zeq_iff] at e
              rcases zent_ok d3 hG.2.1 hA hm g3 with q | ⟨jj, v, n1, f1, j1, j2, hrow, j4⟩
              · exact Or.inl q
              · rcases zcl2v_ok j2 hG.2.1 j4 with q | q
                · exact Or.inl q
                · rcases zmkK_ok q with q | ⟨n', q1, q2, q3, q4⟩
                  · exact Or.inl q
                  · refine Or.inr ⟨n', q1, fin n' (fun hd b ct wa kr n0 f hz h9 => ?_)⟩
                    cases hrow.symm.trans hz
                    unfold zstk at h9 ⊢
                    rw [zcnt_up (c := 2) (f := f1) (w := y.toInt) (w' := y0.toInt) (j := jj) (by omega) (by omega), zcnt_up (c := 3) (f := f1) (w := y.toInt) (w' := y0.toInt) (j := jj) (by omega) (by omega)] at h9
                    omega
            · exact Or.inl d3
      · exact Or.inl d3
    · exact Or.inl d3
end ZHF
/-- a row after one element of one row changes -/
theorem zofa_arr {hp : List zhE} {x j b t n q : Nat} {f g : zhA} (hx : hp[x]? = some (.inl (t, n, f))) (hg : ∀ i, i ≠ q → zei g i = zei f i) (hs : ∀ g0, g = .inl g0 → ∃ f0, f = .inl f0) {n' : Nat} {f' : Nat → Int32} (h : zofa (hp.set x (.inl (t, n, g))) j b = some (n', f')) : ∃ n0 f0, zofa hp j b = some (n0, f0) ∧ (∀ i, i ≠ q → (f' i).toInt = (f0 i).toInt) ∧ ((f' q).toInt = (f0 q).toInt ∨ (f' q).toInt = zei g q) := by
  have hlt : x < hp.length := (List.getElem?_eq_some_iff.mp hx).1
  unfold zofa at h
  by_cases e : x = j
  · subst e
    rw [List.getElem?_set_self hlt] at h
    cases h
  · rw [List.getElem?_set_ne e] at h
    split at h
    · rename_i ci fs hj
      split at h
      · rename_i i e1 e2
        have e1 := Nat.eq_of_beq_eq_true e1
        subst e1
        by_cases e3 : x = i
        · subst e3
          obtain ⟨rfl, rfl⟩ := zofr_inv (List.getElem?_set_self hlt) h
          obtain ⟨f0, rfl⟩ := hs f' rfl
          exact ⟨_, f0, by rw [zofa_at hj e2, zofr_arr hx], fun i hi => hg i hi, Or.inr rfl⟩
        · rw [zofr_same (List.getElem?_set_ne e3)] at h
          exact ⟨_, f', by rw [zofa_at hj e2]; exact h, fun _ _ => rfl, Or.inl rfl⟩
      · cases h
    · cases h
theorem zofi_arr {hp : List zhE} {x j b t n : Nat} {f g : zhA} (hx : hp[x]? = some (.inl (t, n, f))) : zofi (hp.set x (.inl (t, n, g))) j b = zofi hp j b := by
  have hlt : x < hp.length := (List.getElem?_eq_some_iff.mp hx).1
  by_cases e : x = j
  · subst e
    unfold zofi
    rw [List.getElem?_set_self hlt, hx]
  · exact zofi_same (List.getElem?_set_ne e)
/-- whether a write into an array keeps it -/
def zHKa (kind m : Nat) (A : AH) (G : AG) (id : Nat) (idx val : LX) : Bool := zmap2 (fun b => zofld A m b (fun H => !(Nat.beq H id))) (zfp kind).2 || ((Nat.ble kind 1 && (zofld A m 24 (fun _ => true) && zbd G.2.1 val (fun lo _ => zle 1 lo))) ||
  ((Nat.beq kind 2 && (zofld A m 30 (fun _ => true) && zbd G.2.1 idx (fun lo _ => zle 64 lo))) ||
  ((Nat.beq kind 4 && (zofld A m 30 (fun _ => true) && zofx A m 17 (fun w => zxsub idx w (fun d => zbd G.2.1 d (fun lo _ => zle 64 lo))))) ||
  (Nat.ble 10 kind && zofx A m 35 (fun w => zxsub idx w (fun d => zbd G.2.1 d (fun lo _ => zle 0 lo)))))))
theorem zHKa_ok {η : List Nat} {ρ : List Int} {A : AH} {G : AG} {hp : List zhE} {kind m id x j t n q : Nat} {idx val : LX} {f g : zhA} (h : zHKa kind m A G id idx val = true) (hG : zaG ρ G) (hA : zaH η ρ A hp) (hm : η[m]? = some j) (hid : η[id]? = some x) (hx : hp[x]? = some (.inl (t, n, f))) (hi : zxr ρ idx (q : Int)) (hv : zxr ρ val (zei g q)) (hg : ∀ i, i ≠ q → zei g i = zei f i) (hs : ∀ g0, g = .inl g0 → ∃ f0, f = .inl f0) (hO : zOP kind j hp) : zOP kind j (hp.set x (.inl (t, n, g))) := by
  have hlt : x < hp.length := (List.getElem?_eq_some_iff.mp hx).1
  have hz : ∀ b, zofi (hp.set x (.inl (t, n, g))) j b = zofi hp j b := fun b => zofi_arr hx
  have hr : ∀ {b n' f'}, zofa (hp.set x (.inl (t, n, g))) j b = some (n', f') → ∃ n0 f0, zofa hp j b = some (n0, f0) ∧ (∀ i, i ≠ q → (f' i).toInt = (f0 i).toInt) ∧ ((f' q).toInt = (f0 q).toInt ∨ (f' q).toInt = zei g q) := fun h => zofa_arr hx hg hs h
  unfold zHKa at h
  simp only [Bool.or_eq_true, Bool.and_eq_true] at h
  rcases h with h | h
  · refine zOP_dep (fun b _ => hz b) (fun b hb => ?_) hO
    obtain ⟨j2, vs, H, i, g1, g2, g3, g4, g5⟩ := zofld_ok (zmap2_ok h b hb) hA
    cases hm.symm.trans g1
    have hxi : ¬ x = i := fun e => by
      have := hA.2.2.1 id H x hid (by rw [e]; exact g4)
      rw [this, Nat.beq_refl] at g5
      cases g5
    have hxj : ¬ x = j := fun e => by
      rw [e, g2] at hx
      cases hx
    exact zofa_same (List.getElem?_set_ne hxj) g2 g3 (List.getElem?_set_ne hxi)
  · rcases h with ⟨hk, h1, h2⟩ | h
    · obtain ⟨lo, hi', d1, d2, d3⟩ := zbd_at hG.2.1 h2 hv
      rw [zle_iff] at d1
      have hk := Nat.le_of_ble_eq_true hk
      have hge : ∀ {n' f'}, zofa (hp.set x (.inl (t, n, g))) j 24 = some (n', f') → ∃ n0 f0, zofa hp j 24 = some (n0, f0) ∧ ∀ k, (f' k).toInt = (f0 k).toInt ∨ 1 ≤ (f' k).toInt := fun {n' f'} ha => by
        obtain ⟨n0, f0, r1, r2, r3⟩ := hr ha
        refine ⟨n0, f0, r1, fun k => ?_⟩
        by_cases e : k = q
        · subst e
          rcases r3 with r3 | r3
          · exact Or.inl r3
          · exact Or.inr (by omega)
        · exact Or.inl (r2 k e)
      match kind, hk, hO with
      | 0, _, hO =>
        intro m' n' f' a1 a2 k hk
        rw [hz] at a1
        obtain ⟨n0, f0, b1, b2⟩ := hge a2
        rcases b2 k with b3 | b3
        · rw [b3]; exact hO m' n0 f0 a1 b1 k hk
        · exact b3
      | 1, _, hO =>
        intro m' n' f' a1 a2 k hk
        rw [hz] at a1
        obtain ⟨n0, f0, b1, b2⟩ := hge a2
        rcases b2 (10 + k) with b3 | b3
        · rw [b3]; exact hO m' n0 f0 a1 b1 k hk
        · exact b3
      | n + 2, hk, _ => omega
    · rcases h with ⟨hk, -, h2⟩ | h
      · have hk := Nat.eq_of_beq_eq_true hk
        subst hk
        obtain ⟨lo, hi', d1, d2, d3⟩ := zbd_at hG.2.1 h2 hi
        rw [zle_iff] at d1
        intro m' n1 f1 n2 f2 n3 f3 a0 a1 a2 a3 k hk hk2
        rw [hz] at a0
        obtain ⟨_, e1, b1, b2, -⟩ := hr a1
        obtain ⟨_, e2, c1, c2, -⟩ := hr a2
        obtain ⟨_, e3, l1, l2, -⟩ := hr a3
        rw [b2 k (by omega), c2 k (by omega), l2 k (by omega)]
        exact hO m' _ e1 _ e2 _ e3 a0 b1 c1 l1 k hk hk2
      · rcases h with ⟨hk, -, h2⟩ | ⟨hk, h2⟩
        · have hk := Nat.eq_of_beq_eq_true hk
          subst hk
          obtain ⟨j', y0, w, g1, g2, g3, g4⟩ := zofx_ok h2 hA
          cases hm.symm.trans g1
          obtain ⟨d, d1, d2⟩ := zxsub_ok g4 hi g3
          obtain ⟨lo, hi', d3, d4, d5⟩ := zbd_at hG.2.1 d1 d2
          rw [zle_iff] at d3
          intro m' n1 f1 n2 f2 n3 f3 a0 a1 a2 a3 k hk
          rw [hz] at a0
          cases g2.symm.trans a0
          obtain ⟨_, e1, b1, b2, -⟩ := hr a1
          obtain ⟨_, e2, c1, c2, -⟩ := hr a2
          obtain ⟨_, e3, l1, l2, -⟩ := hr a3
          rw [b2 (64 + k) (by omega), c2 (64 + k) (by omega), l2 (64 + k) (by omega)]
          exact hO _ _ e1 _ e2 _ e3 a0 b1 c1 l1 k hk
        · have hk := Nat.le_of_ble_eq_true hk
          obtain ⟨n9, rfl⟩ : ∃ n9, kind = n9 + 10 := ⟨kind - 10, by omega⟩
          obtain ⟨j', y0, w, g1, g2, g3, g4⟩ := zofx_ok h2 hA
          cases hm.symm.trans g1
          obtain ⟨d, d1, d2⟩ := zxsub_ok g4 hi g3
          obtain ⟨lo, hi', d3, d4, d5⟩ := zbd_at hG.2.1 d1 d2
          rw [zle_iff] at d3
          intro w' hd b ct wa kr n0 f' a1 a2 a3 a4 a5 a6 a7
          rw [hz] at a1 a2 a3 a4 a5 a6
          cases g2.symm.trans a1
          obtain ⟨n1, f1, b1, b2, -⟩ := hr a7
          have h9 := hO _ hd b ct wa kr n1 f1 a1 a2 a3 a4 a5 a6 b1
          unfold zstk at h9 ⊢
          have hc : ∀ c, zcnt c f' y0.toInt.toNat = zcnt c f1 y0.toInt.toNat := fun c => zcnt_same (fun k hk => b2 k (by omega))
          rw [hc 2, hc 3]
          exact h9
/-- whether it stays where only cells of a list change -/
def zHKw (kind m : Nat) (A : AH) (W : List Nat) : Bool := !(zmemN m W) && (zofld A m 0 (fun _ => true) && zmap2 (fun b => zofld A m b (fun H => !(zmemN H W))) (zfp kind).2)
theorem zHKw_ok {η : List Nat} {ρ : List Int} {A : AH} {hp hp' : List zhE} {kind m j : Nat} {W : List Nat} (h : zHKw kind m A W = true) (hA : zaH η ρ A hp) (hm : η[m]? = some j) (hf : ∀ i, i < hp.length → (∀ w ∈ W, η[w]? ≠ some i) → hp'[i]? = hp[i]?) (hO : zOP kind j hp) : zOP kind j hp' := by
  unfold zHKw at h
  simp only [Bool.and_eq_true, Bool.not_eq_true'] at h
  obtain ⟨h1, h0, h2⟩ := h
  have hj : hp'[j]? = hp[j]? := hf j (hA.2.2.2 m j hm) (fun w hw e => by
    have := hA.2.2.1 m w j hm e
    rw [this, zmemN_iff.mpr hw] at h1
    cases h1)
  refine zOP_dep (fun b _ => zofi_same hj) (fun b hb => ?_) hO
  obtain ⟨j2, vs, H, i, g1, g2, g3, g4, g5⟩ := zofld_ok (zmap2_ok h2 b hb) hA
  cases hm.symm.trans g1
  refine zofa_same hj g2 g3 (hf i (hA.2.2.2 H i g4) (fun w hw e => ?_))
  have := hA.2.2.1 H w i g4 e
  rw [this, zmemN_iff.mpr hw] at g5
  cases g5
/-- whether it stays where the object changes, but the fields that it rests on are as they were, and their rows -/
def zHKx (kind m : Nat) (A A2 : AH) (W : List Nat) : Bool := zhget A m (fun c => match c with
  | .inl (ci, fs) => Nat.beq ci 12 && zhget A2 m (fun d => match d with
    | .inl (cj, gs) => Nat.beq cj 12 && (zmap2 (fun b => zlg fs b (fun a => zlg gs b (fun a2 => zgI a (fun e => zgI a2 (fun e2 => zxeq e e2))))) (zfp kind).1 && zmap2 (fun b => zlg fs b (fun a => zlg gs b (fun a2 => match a.1, a2.1 with
      | 2, 2 => Nat.beq a.2.1.toNat a2.2.1.toNat && !(zmemN a.2.1.toNat W)
      | _, _ => false))) (zfp kind).2)
    | _ => false)
  | _ => false)
theorem zHKx_ok {η : List Nat} {ρ l : List Int} {A A2 : AH} {hp hp' : List zhE} {kind m j : Nat} {W : List Nat} (h : zHKx kind m A A2 W = true) (hA : zaH η ρ A hp) (hA2 : zaH η (ρ ++ l) A2 hp') (hm : η[m]? = some j) (hf : ∀ i, i < hp.length → (∀ w ∈ W, η[w]? ≠ some i) → hp'[i]? = hp[i]?) (hO : zOP kind j hp) : zOP kind j hp' := by
  obtain ⟨c, h1, h2⟩ := zhget_ok h
  split at h2
  · rename_i ci fs
    rw [Bool.and_eq_true] at h2
    have hci := Nat.eq_of_beq_eq_true h2.1
    subst hci
    obtain ⟨d, h3, h4⟩ := zhget_ok h2.2
    split at h4
    · rename_i cj gs
      simp only [Bool.and_eq_true] at h4
      obtain ⟨h5, h6, h7⟩ := h4
      have hcj := Nat.eq_of_beq_eq_true h5
      subst hcj
      obtain ⟨j1, x1, g1, g2, vs, rfl, g3⟩ := hA.2.1 _ _ h1
      cases hm.symm.trans g1
      obtain ⟨j2, x2, k1, k2, us, rfl, k3⟩ := hA2.2.1 _ _ h3
      cases hm.symm.trans k1
      refine zOP_dep (fun b hb => ?_) (fun b hb => ?_) hO
      · obtain ⟨a, a1, a2⟩ := zlg_ok (zmap2_ok h6 b hb)
        obtain ⟨a', a3, a4⟩ := zlg_ok a2
        obtain ⟨v, v1, v2⟩ := zAll_get g3 a1
        obtain ⟨u, u1, u2⟩ := zAll_get k3 a3
        obtain ⟨y, rfl, y1, y2⟩ := zgI_ok a4 v2
        obtain ⟨z, rfl, z1, z2⟩ := zgI_ok y1 u2
        have e := zxeq_ok z1
        rw [← e] at z2
        have e2 : y = z := Int32.toInt_inj.1 (zxr_fun (zxr_mono (l := l) y2) z2)
        rw [zofi_at g2 v1, zofi_at k2 u1, e2]
      · obtain ⟨a, a1, a2⟩ := zlg_ok (zmap2_ok h7 b hb)
        obtain ⟨a', a3, a4⟩ := zlg_ok a2
        obtain ⟨v, v1, v2⟩ := zAll_get g3 a1
        obtain ⟨u, u1, u2⟩ := zAll_get k3 a3
        obtain ⟨t, e⟩ := a
        obtain ⟨t', e'⟩ := a'
        split at a4
        · rename_i q q'
          simp only at q q'
          subst q; subst q'
          simp only [Bool.and_eq_true, Bool.not_eq_true'] at a4
          obtain ⟨a5, a6⟩ := a4
          have a5 := Nat.eq_of_beq_eq_true a5
          obtain ⟨i, i1, rfl⟩ := v2
          obtain ⟨i', i2, rfl⟩ := u2
          simp only at i1 i2 a5 a6
          rw [← a5] at i2
          cases i1.symm.trans i2
          rw [zofa_at g2 v1, zofa_at k2 u1]
          refine zofr_same (hf i (hA.2.2.2 _ i i1) (fun w hw e2 => ?_))
          have := hA.2.2.1 _ w i i1 e2
          rw [this, zmemN_iff.mpr hw] at a6
          cases a6
        · cases a4
    · cases h4
  · cases h2
/-- where it is plain -/
def zOI (kind m : Nat) (A : AH) (G : AG) : Bool := match kind with
  | 0 => zofx A m 12 (fun e => zbd G.2.1 e (fun _ hi => zle hi 0))
  | 1 => zofx A m 15 (fun e => zbd G.2.1 e (fun _ hi => zle hi 0))
  | 2 => zofx A m 14 (fun e => zbd G.2.1 e (fun _ hi => zle hi 0))
  | 4 => zofx A m 17 (fun e => zbd G.2.1 e (fun _ hi => zle hi 0))
  | 6 => zofx A m 8 (fun a => zofx A m 9 (fun w => zbd G.2.1 a (fun l u => zbd G.2.1 w (fun lo hi => zk6 l u lo hi))))
  | n + 10 => zofx A m 35 (fun w => zbd G.2.1 w (fun lo hi => zeq lo 0 && zeq hi 0)) && (zofx A m 37 (fun b => zbd G.2.1 b (fun lo hi => zeq lo (((n / 81 : Nat) : Int) - 4) && zeq hi (((n / 81 : Nat) : Int) - 4))) && (zofx A m 36 (fun hd => zofx A m 39 (fun wa => zxadd hd wa (fun d => zbd G.2.1 d (fun lo hi => zeq lo (5 - ((n / 9 % 9 : Nat) : Int)) && zeq hi (5 - ((n / 9 % 9 : Nat) : Int)))))) && zofx A m 38 (fun ct => zofx A m 17 (fun kr => zxsub ct kr (fun d => zxshi d (4 - ((n % 9 : Nat) : Int)) (fun d => zprv G.2.1 G.2.2.1 d))))))
  | _ => false
theorem zOI_ok {η : List Nat} {ρ : List Int} {A : AH} {G : AG} {hp : List zhE} {kind m : Nat} (h : zOI kind m A G = true) (hG : zaG ρ G) (hA : zaH η ρ A hp) : ∃ j, η[m]? = some j ∧ zOP kind j hp := by
  have fld : ∀ b, zofx A m b (fun e => zbd G.2.1 e (fun _ hi => zle hi 0)) = true → ∃ j, η[m]? = some j ∧ ∀ x, zofi hp j b = some x → x.toInt ≤ 0 := by
    intro b h
    obtain ⟨j, y, e, g1, g2, g3, g4⟩ := zofx_ok h hA
    obtain ⟨lo, hi, d1, d2, d3⟩ := zbd_at hG.2.1 g4 g3
    rw [zle_iff] at d1
    refine ⟨j, g1, fun x hx => ?_⟩
    cases g2.symm.trans hx
    omega
  match kind, h with
  | 0, h =>
    obtain ⟨j, h1, h2⟩ := fld 12 h
    exact ⟨j, h1, fun m' n f a1 _ k hk => by have := h2 m' a1; omega⟩
  | 1, h =>
    obtain ⟨j, h1, h2⟩ := fld 15 h
    exact ⟨j, h1, fun m' n f a1 _ k hk => by have := h2 m' a1; omega⟩
  | 2, h =>
    obtain ⟨j, h1, h2⟩ := fld 14 h
    exact ⟨j, h1, fun m' n f n1 g n2 z a1 _ _ _ k hk => by have := h2 m' a1; omega⟩
  | 3, h => cases h
  | 4, h =>
    obtain ⟨j, h1, h2⟩ := fld 17 h
    exact ⟨j, h1, fun m' n f n1 g n2 z a1 _ _ _ k hk => by have := h2 m' a1; omega⟩
  | 5, h => cases h
  | 6, h =>
    obtain ⟨j, y, e, g1, g2, g3, g4⟩ := zofx_ok (k := fun a => zofx A m 9 (fun w => zbd G.2.1 a (fun l u => zbd G.2.1 w (fun lo hi => zk6 l u lo hi)))) h hA
    obtain ⟨j', y', e', k1, k2, k3, k4⟩ := zofx_ok g4 hA
    cases g1.symm.trans k1
    obtain ⟨l, u, d1, d2, d3⟩ := zbd_at hG.2.1 k4 g3
    obtain ⟨lo, hi, d4, d5, d6⟩ := zbd_at hG.2.1 d1 k3
    refine ⟨j, g1, fun a w a1 a2 => ?_⟩
    cases g2.symm.trans a1
    cases k2.symm.trans a2
    exact zk6_ok d4 d2 d3 d5 d6
  | 7, h => cases h
  | 8, h => cases h
  | 9, h => cases h
  | n + 10, h =>
    have h : (zofx A m 35 (fun w => zbd G.2.1 w (fun lo hi => zeq lo 0 && zeq hi 0)) && (zofx A m 37 (fun b => zbd G.2.1 b (fun lo hi => zeq lo (((n / 81 : Nat) : Int) - 4) && zeq hi (((n / 81 : Nat) : Int) - 4))) && (zofx A m 36 (fun hd => zofx A m 39 (fun wa => zxadd hd wa (fun d => zbd G.2.1 d (fun lo hi => zeq lo (5 - ((n / 9 % 9 : Nat) : Int)) && zeq hi (5 - ((n / 9 % 9 : Nat) : Int)))))) && zofx A m 38 (fun ct => zofx A m 17 (fun kr => zxsub ct kr (fun d => zxshi d (4 - ((n % 9 : Nat) : Int)) (fun d => zprv G.2.1 G.2.2.1 d))))))) = true := h
    simp only [Bool.and_eq_true] at h
    obtain ⟨q1, q2, q3, q4⟩ := h
    obtain ⟨j, y, e, g1, g2, g3, g4⟩ := zofx_ok q1 hA
    obtain ⟨lo, hi, d1, d2, d3⟩ := zbd_at hG.2.1 g4 g3
    simp only [Bool.and_eq_true, zeq_iff] at d1
    obtain ⟨j1, y1, e1, k1, k2, k3, k4⟩ := zofx_ok q2 hA
    cases g1.symm.trans k1
    obtain ⟨lo1, hi1, d4, d5, d6⟩ := zbd_at hG.2.1 k4 k3
    simp only [Bool.and_eq_true, zeq_iff] at d4
    obtain ⟨j2, y2, e2, l1, l2, l3, l4⟩ := zofx_ok q3 hA
    cases g1.symm.trans l1
    obtain ⟨j3, y3, e3, m1, m2, m3, m4⟩ := zofx_ok l4 hA
    cases g1.symm.trans m1
    obtain ⟨s, s1, s2⟩ := zxadd_ok m4 l3 m3
    obtain ⟨lo2, hi2, d7, d8, d9⟩ := zbd_at hG.2.1 s1 s2
    simp only [Bool.and_eq_true, zeq_iff] at d7
    obtain ⟨j4, y4, e4, n1, n2, n3, n4⟩ := zofx_ok q4 hA
    cases g1.symm.trans n1
    obtain ⟨j5, y5, e5, o1, o2, o3, o4⟩ := zofx_ok n4 hA
    cases g1.symm.trans o1
    obtain ⟨t, t1, t2⟩ := zxsub_ok o4 n3 o3
    obtain ⟨t', t3, t4⟩ := zxshi_ok t1 t2
    have t5 := zprv_ok hG.2.1 t3 hG.2.2.1 t4
    refine ⟨j, g1, ?_⟩
    intro w hd b ct wa kr n0 f a1 a2 a3 a4 a5 a6 a7
    cases g2.symm.trans a1
    cases l2.symm.trans a2
    cases k2.symm.trans a3
    cases n2.symm.trans a4
    cases m2.symm.trans a5
    cases o2.symm.trans a6
    have hw : y.toInt.toNat = 0 := by omega
    unfold zstk
    rw [hw]
    have z2 : zcnt 2 f 0 = 0 := rfl
    have z3 : zcnt 3 f 0 = 0 := rfl
    rw [z2, z3]
    omega
/-- what is kept of a list -/
def zOf (f : Nat → Nat → Bool) : List Nat → (List Nat → Bool) → Bool
  | [], k => k []
  | o :: O, k => match f (o / 1000) (o % 1000) with
    | true => zOf f O (fun O => k (o :: O))
    | false => zOf f O k
theorem zOf_ok {f : Nat → Nat → Bool} {η : List Nat} {hp hp' : List zhE} (hf : ∀ kind m j, f kind m = true → η[m]? = some j → zOP kind j hp → zOP kind j hp') : ∀ {O : List Nat} {k : List Nat → Bool}, zOf f O k = true → zaO η O hp → ∃ O', k O' = true ∧ zaO η O' hp'
  | [], k, h, _ => ⟨[], h, fun o ho => absurd ho List.not_mem_nil⟩
  | o :: O, k, h, hO => by
    unfold zOf at h
    have hO2 : zaO η O hp := fun q hq => hO q (List.mem_cons_of_mem _ hq)
    split at h
    · rename_i hc
      obtain ⟨O', h1, h2⟩ := zOf_ok hf h hO2
      refine ⟨_, h1, fun q hq => ?_⟩
      rcases List.mem_cons.mp hq with rfl | hq
      · obtain ⟨j, g1, g2⟩ := hO q List.mem_cons_self
        exact ⟨j, g1, hf _ _ j hc g1 g2⟩
      · exact h2 q hq
    · exact zOf_ok hf h hO2
/-- the stack's kinds after a write into a field, in front of acc -/
def zOsh (A : AH) (E : LE) (id b : Nat) (val : AV) : List Nat → List Nat → (List Nat → Bool) → Bool
  | [], acc, k => k acc
  | o :: O, acc, k => (match Nat.ble 10 (o / 1000) with
    | true => zSH (o / 1000 - 10) (o % 1000) A E id b val (fun kd => zfn (1000 * kd + o % 1000) (fun o2 => zOsh A E id b val O (o2 :: acc) k)) (zOsh A E id b val O acc k)
    | false => zOsh A E id b val O acc k)
theorem zOsh_ok {η : List Nat} {ρ : List Int} {A : AH} {G : AG} {hp : List zhE} {id b x ci : Nat} {val : AV} {vs : List Value} {w : Value} (hG : zaG ρ G) (hA : zaH η ρ A hp) (hid : η[id]? = some x) (hx : hp[x]? = some (.inr (ci, vs))) (hv : zav η ρ val w) (hb : b < vs.length) : ∀ {O acc : List Nat} {k : List Nat → Bool}, zOsh A G.2.1 id b val O acc k = true → zaO η O hp → zaO η acc (hp.set x (.inr (ci, vs.set b w))) → ∃ O', k O' = true ∧ zaO η O' (hp.set x (.inr (ci, vs.set b w)))
  | [], acc, k, h, _, hacc => ⟨acc, h, hacc⟩
  | o :: O, acc, k, h, hO, hacc => by
    have hO2 : zaO η O hp := fun q hq => hO q (List.mem_cons_of_mem _ hq)
    unfold zOsh at h
    split at h
    · rename_i hc
      have hc := Nat.le_of_ble_eq_true hc
      obtain ⟨j, g1, g2⟩ := hO o List.mem_cons_self
      rw [show o / 1000 = (o / 1000 - 10) + 10 by omega] at g2
      rcases zSH_ok h hG hA g1 hid hx hv hb g2 with q | ⟨n', q1, q2⟩
      · exact zOsh_ok hG hA hid hx hv hb q hO2 hacc
      · rw [zfn_eq] at q1
        refine zOsh_ok hG hA hid hx hv hb q1 hO2 (fun r hr => ?_)
        rcases List.mem_cons.mp hr with rfl | hr
        · refine ⟨j, ?_, ?_⟩
          · rw [show (1000 * (n' + 10) + o % 1000) % 1000 = o % 1000 by omega]; exact g1
          · rw [show (1000 * (n' + 10) + o % 1000) / 1000 = n' + 10 by omega]; exact q2
        · exact hacc r hr
    · exact zOsh_ok hG hA hid hx hv hb h hO2 hacc
/-- what the stack's kind says of the fields -/
def zstF (n : Nat) (A : AH) (m : Nat) (F : List LX) (k : List LX → Bool) : Bool := zofx A m 35 (fun w => zofx A m 37 (fun b => zofx A m 36 (fun hd => zofx A m 39 (fun wa => zofx A m 38 (fun ct => zofx A m 17 (fun kr => zxsub w b (fun d => zxshi d (((n / 81 : Nat) : Int) - 4) (fun n2 => zxadd hd wa (fun d => zxshi d (((n / 9 % 9 : Nat) : Int) - 5) (fun n3 => zxadd kr n2 (fun d => zxsub ct d (fun d => zxshi d (4 - ((n % 9 : Nat) : Int)) (fun f3 => zxsub n2 n3 (fun f4 => k (n2 :: n3 :: f3 :: f4 :: F)))))))))))))))
theorem zstF_ok {η : List Nat} {ρ : List Int} {A : AH} {hp : List zhE} {n m j : Nat} {F : List LX} {k : List LX → Bool} (h : zstF n A m F k = true) (hA : zaH η ρ A hp) (hm : η[m]? = some j) (hr : ∃ n0 f, zofa hp j 33 = some (n0, f)) (hO : zOP (n + 10) j hp) (hF : zaF ρ F) : ∃ F', k F' = true ∧ zaF ρ F' := by
  unfold zstF at h
  obtain ⟨j1, w, e1, a1, a2, a3, h⟩ := zofx_ok h hA
  cases hm.symm.trans a1
  obtain ⟨j2, b, e2, b1, b2, b3, h⟩ := zofx_ok h hA
  cases hm.symm.trans b1
  obtain ⟨j3, hd, e3, c1, c2, c3, h⟩ := zofx_ok h hA
  cases hm.symm.trans c1
  obtain ⟨j4, wa, e4, d1, d2, d3, h⟩ := zofx_ok h hA
  cases hm.symm.trans d1
  obtain ⟨j5, ct, e5, f1, f2, f3, h⟩ := zofx_ok h hA
  cases hm.symm.trans f1
  obtain ⟨j6, kr, e6, g1, g2, g3, h⟩ := zofx_ok h hA
  cases hm.symm.trans g1
  obtain ⟨x1, h, x2⟩ := zxsub_ok h a3 b3
  obtain ⟨x3, h, x4⟩ := zxshi_ok h x2
  obtain ⟨x5, h, x6⟩ := zxadd_ok h c3 d3
  obtain ⟨x7, h, x8⟩ := zxshi_ok h x6
  obtain ⟨x9, h, x10⟩ := zxadd_ok h g3 x4
  obtain ⟨x11, h, x12⟩ := zxsub_ok h f3 x10
  obtain ⟨x13, h, x14⟩ := zxshi_ok h x12
  obtain ⟨x15, h, x16⟩ := zxsub_ok h x4 x8
  obtain ⟨n0, f, hr⟩ := hr
  have h9 := hO w hd b ct wa kr n0 f a2 c2 b2 f2 d2 g2 hr
  have p2 := zcnt_pos 2 f w.toInt.toNat
  have p3 := zcnt_pos 3 f w.toInt.toNat
  have p4 := zcnt_le (c := 2) (d := 3) (by decide) f w.toInt.toNat
  unfold zstk at h9
  refine ⟨_, h, fun q hq => ?_⟩
  rcases List.mem_cons.mp hq with rfl | hq
  · exact ⟨_, x4, by omega⟩
  · rcases List.mem_cons.mp hq with rfl | hq
    · exact ⟨_, x8, by omega⟩
    · rcases List.mem_cons.mp hq with rfl | hq
      · exact ⟨_, x14, by omega⟩
      · rcases List.mem_cons.mp hq with rfl | hq
        · exact ⟨_, x16, by omega⟩
        · exact hF q hq
def zOF (A : AH) (id : Nat) : List Nat → List LX → (List LX → Bool) → Bool
  | [], F, k => k F
  | o :: O, F, k => (match Nat.ble 10 (o / 1000) && Nat.beq (o % 1000) id with
    | true => zofld A id 33 (fun H => zhget A H (fun c => match c with
      | .inr (.inl (t, _, _, _, _)) => Nat.beq t 0
      | _ => false)) && zstF (o / 1000 - 10) A id F (fun F => zOF A id O F k)
    | false => zOF A id O F k)
theorem zOF_ok {η : List Nat} {ρ : List Int} {A : AH} {hp : List zhE} {id : Nat} (hA : zaH η ρ A hp) : ∀ {O : List Nat} {F : List LX} {k : List LX → Bool}, zOF A id O F k = true → zaO η O hp → zaF ρ F → ∃ F', k F' = true ∧ zaF ρ F'
  | [], F, k, h, _, hF => ⟨F, h, hF⟩
  | o :: O, F, k, h, hO, hF => by
    have hO2 : zaO η O hp := fun q hq => hO q (List.mem_cons_of_mem _ hq)
    unfold zOF at h
    split at h
    · rename_i hc
      rw [Bool.and_eq_true] at hc h
      have hc1 := Nat.le_of_ble_eq_true hc.1
      have hc2 := Nat.eq_of_beq_eq_true hc.2
      obtain ⟨j, g1, g2⟩ := hO o List.mem_cons_self
      rw [hc2] at g1
      rw [show o / 1000 = (o / 1000 - 10) + 10 by omega] at g2
      obtain ⟨j1, vs, H, i, q1, q2, q3, q4, q5⟩ := zofld_ok h.1 hA
      cases g1.symm.trans q1
      obtain ⟨c2, q6, q7⟩ := zhget_ok q5
      split at q7
      · rename_i t n p rs es
        have ht := Nat.eq_of_beq_eq_true q7
        subst ht
        obtain ⟨i2, hh, r1, r2, f, rfl, ⟨g, rfl⟩, r4⟩ := hA.2.1 _ _ q6
        cases q4.symm.trans r1
        obtain ⟨F', k1, k2⟩ := zstF_ok h.2 hA g1 ⟨n, g, by rw [zofa_at q2 q3, zofr_arr r2]⟩ g2 hF
        exact zOF_ok hA k1 hO2 k2
      · cases q7
    · exact zOF_ok hA h hO2 hF
