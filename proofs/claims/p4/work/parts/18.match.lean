/-! patterns: a state held against one with symbols and cells of its own -/
/-- the pattern's symbols as expressions; the pattern's cells as cells -/
def zth (ρ : List Int) (θ : List LX) (ρ' : List Int) : Prop := θ.length = ρ'.length ∧ ∀ (i : Nat) (e : LX), θ[i]? = some e → ∃ x, ρ'[i]? = some x ∧ zxr ρ e x
def zmu (η : List Nat) (μ : List Nat) (η' : List Nat) : Prop := μ.length = η'.length ∧ ∀ (i m : Nat), μ[i]? = some m → ∃ x, η'[i]? = some x ∧ η[m]? = some x
section ZMT
variable {η η' : List Nat} {ρ ρ' : List Int} {θ : List LX} {μ : List Nat} {hp : List zhE}
theorem zth_push {e : LX} {x : Int} (h : zth ρ θ ρ') (he : zxr ρ e x) : zth ρ (θ ++ [e]) (ρ' ++ [x]) := by
  refine ⟨by simp [h.1], fun i f hf => ?_⟩
  by_cases q : i < θ.length
  · rw [List.getElem?_append_left q] at hf
    obtain ⟨y, h1, h2⟩ := h.2 i f hf
    exact ⟨y, by rw [List.getElem?_append_left (by rw [← h.1]; exact q)]; exact h1, h2⟩
  · rw [List.getElem?_append_right (by omega)] at hf
    have h2 := (List.getElem?_eq_some_iff.mp hf).1
    simp at h2
    rw [show i - θ.length = 0 by omega] at hf
    cases hf
    refine ⟨x, ?_, he⟩
    rw [List.getElem?_append_right (by rw [← h.1]; omega), ← h.1, show i - θ.length = 0 by omega]
    rfl
theorem zmu_push {m x : Nat} (h : zmu η μ η') (hm : η[m]? = some x) : zmu η (μ ++ [m]) (η' ++ [x]) := by
  refine ⟨by simp [h.1], fun i f hf => ?_⟩
  by_cases q : i < μ.length
  · rw [List.getElem?_append_left q] at hf
    obtain ⟨y, h1, h2⟩ := h.2 i f hf
    exact ⟨y, by rw [List.getElem?_append_left (by rw [← h.1]; exact q)]; exact h1, h2⟩
  · rw [List.getElem?_append_right (by omega)] at hf
    have h2 := (List.getElem?_eq_some_iff.mp hf).1
    simp at h2
    rw [show i - μ.length = 0 by omega] at hf
    cases hf
    refine ⟨x, ?_, hm⟩
    rw [List.getElem?_append_right (by rw [← h.1]; omega), ← h.1, show i - μ.length = 0 by omega]
    rfl
/-- an expression of the pattern's symbols, in the state's own -/
def zsbt (θ : List LX) : LT → (LX → Bool) → Bool
  | [], k => k (0, [])
  | q :: ts, k => zlg θ q.1 (fun e => zxscl q.2 e (fun e => zsbt θ ts (fun r => zxadd e r k)))
theorem zsbt_ok (h : zth ρ θ ρ') : ∀ {ts : LT} {k : LX → Bool}, zsbt θ ts k = true → ∃ r z, k r = true ∧ zxr ρ r z ∧ zxt ρ' ts z
  | [], k, hz => ⟨_, 0, hz, zxr_c _ _, rfl⟩
  | q :: ts, k, hz => by
    unfold zsbt at hz
    obtain ⟨e, h1, h2⟩ := zlg_ok hz
    obtain ⟨x, h3, h4⟩ := h.2 _ _ h1
    obtain ⟨e2, h5, h6⟩ := zxscl_ok h2 h4
    obtain ⟨r, z, h7, h8, h9⟩ := zsbt_ok h h5
    obtain ⟨r2, h10, h11⟩ := zxadd_ok h7 h6 h8
    exact ⟨r2, _, h10, h11, x, z, h3, h9, rfl⟩
def zsb (θ : List LX) (p : LX) (k : LX → Bool) : Bool := zsbt θ p.2 (fun e => zxshi e p.1 k)
theorem zsb_ok (h : zth ρ θ ρ') {p : LX} {k : LX → Bool} (hz : zsb θ p k = true) : ∃ r z, k r = true ∧ zxr ρ r z ∧ zxr ρ' p z := by
  obtain ⟨e, z, h1, h2, h3⟩ := zsbt_ok h hz
  obtain ⟨r, h4, h5⟩ := zxshi_ok h1 h2
  exact ⟨r, z + p.1, h4, h5, z, h3, Int.add_comm _ _⟩
theorem zsb_to (h : zth ρ θ ρ') {p : LX} {k : LX → Bool} (hz : zsb θ p k = true) {x : Int} (hx : zxr ρ' p x) : ∃ r, k r = true ∧ zxr ρ r x := by
  obtain ⟨r, z, h1, h2, h3⟩ := zsb_ok h hz
  cases zxr_fun h3 hx
  exact ⟨r, h1, h2⟩
/-- whether an expression is the pattern's next symbol -/
def znew (p : LX) (n : Nat) : Bool := match p.2 with
  | [q] => zeq p.1 0 && (Nat.beq q.1 n && zeq q.2 1)
  | _ => false
theorem znew_ok {p : LX} {n : Nat} (h : znew p n = true) : p = (0, [(n, 1)]) := by
  obtain ⟨c, ts⟩ := p
  unfold znew at h
  split at h
  · rename_i q hq
    simp only at hq
    subst hq
    simp only [Bool.and_eq_true, zeq_iff] at h
    obtain ⟨h1, h2, h3⟩ := h
    have h2 := Nat.eq_of_beq_eq_true h2
    obtain ⟨a, b⟩ := q
    simp only at h2 h3
    rw [h1, h2, h3]
  · cases h
/-- the pattern's terms that are known, those that aren't -/
def zsplU (n : Nat) : LT → (LT → LT → Bool) → Bool
  | [], k => k [] []
  | q :: ts, k => (match Nat.ble n q.1 with
    | true => zsplU n ts (fun b u => k b (q :: u))
    | false => zsplU n ts (fun b u => k (q :: b) u))
theorem zsplU_ex {n : Nat} : ∀ {ts : LT} {k : LT → LT → Bool}, zsplU n ts k = true → ∃ b u, k b u = true
  | [], k, h => ⟨[], [], h⟩
  | q :: ts, k, h => by
    unfold zsplU at h
    split at h
    · obtain ⟨b, u, h1⟩ := zsplU_ex h
      exact ⟨_, _, h1⟩
    · obtain ⟨b, u, h1⟩ := zsplU_ex h
      exact ⟨_, _, h1⟩
/-- the power of 2 that a number is, or is the negative of -/
def zlog2 (a : Int) : Nat → Int → (Int → Int → Bool) → Bool
  | 0, _, _ => false
  | n + 1, p, k => (match zeq a p with
    | true => k p 1
    | false => (match zeq a (-p) with
      | true => k p (-1)
      | false => zfi (2 * p) (fun p => zlog2 a n p k)))
theorem zlog2_ex {a : Int} : ∀ {n : Nat} {p : Int} {k : Int → Int → Bool}, zlog2 a n p k = true → ∃ q g, k q g = true
  | 0, _, _, h => by cases h
  | n + 1, p, k, h => by
    unfold zlog2 at h
    split at h
    · exact ⟨_, _, h⟩
    · split at h
      · exact ⟨_, _, h⟩
      · rw [zfi_eq] at h
        exact zlog2_ex h
/-- symbols guessed as bits of T -/
def zgsU (T : LX) : LT → List LX → (List LX → Bool) → Bool
  | [], θ, k => k θ
  | q :: u, θ, k => Nat.beq q.1 θ.length && zlog2 q.2 9 1 (fun p g => zdec1 T p (fun d => zxscl g d (fun d => zla θ d (fun θ => zgsU T u θ k))))
theorem zgsU_ok {T : LX} {x : Int} (hT : zxr ρ T x) : ∀ {u : LT} {θ : List LX} {ρ' : List Int} {k : List LX → Bool}, zgsU T u θ k = true → zth ρ θ ρ' → ∃ θ2 l, k θ2 = true ∧ zth ρ θ2 (ρ' ++ l)
  | [], θ, ρ', k, h, ht => ⟨θ, [], h, by rw [List.append_nil]; exact ht⟩
  | q :: u, θ, ρ', k, h, ht => by
    unfold zgsU at h
    rw [Bool.and_eq_true] at h
    obtain ⟨p, g, h1⟩ := zlog2_ex h.2
    obtain ⟨d, z, h2, h3⟩ := zdec1_ok h1 hT
    obtain ⟨d2, h4, h5⟩ := zxscl_ok h2 h3
    obtain ⟨θ2, l, h6, h7⟩ := zgsU_ok hT (zla_ok h4) (zth_push ht h5)
    exact ⟨θ2, _ :: l, h6, by rw [List.append_cons]; exact h7⟩
def zgs (p e : LX) (θ : List LX) (k : List LX → Bool) : Bool := zsplU θ.length p.2 (fun b u => match u with
  | [] => k θ
  | q :: u => zsb θ (p.1, b) (fun r => zxsub e r (fun T => zgsU T (q :: u) θ k)))
theorem zgs_ok (h : zth ρ θ ρ') {p e : LX} {k : List LX → Bool} {x : Int} (hz : zgs p e θ k = true) (he : zxr ρ e x) : ∃ θ2 l, k θ2 = true ∧ zth ρ θ2 (ρ' ++ l) := by
  unfold zgs at hz
  obtain ⟨b, u, h1⟩ := zsplU_ex hz
  split at h1
  · exact ⟨θ, [], h1, by rw [List.append_nil]; exact h⟩
  · obtain ⟨r, z, h2, h3, -⟩ := zsb_ok h h1
    obtain ⟨T, h4, h5⟩ := zxsub_ok h2 he h3
    exact zgsU_ok h5 h4 h
def zmx (p e : LX) (θ : List LX) (k : List LX → Bool) : Bool := match znew p θ.length with
  | true => zla θ e k
  | false => zgs p e θ (fun θ => zsb θ p (fun q => zxeq q e && k θ))
theorem zmx_ok (h : zth ρ θ ρ') {p e : LX} {k : List LX → Bool} {x : Int} (hz : zmx p e θ k = true) (he : zxr ρ e x) : ∃ θ2 l, k θ2 = true ∧ zth ρ θ2 (ρ' ++ l) ∧ zxr (ρ' ++ l) p x := by
  unfold zmx at hz
  split at hz
  · rename_i hc
    have hp := znew_ok hc
    have h1 := zla_ok hz
    refine ⟨_, [x], h1, zth_push h he, ?_⟩
    rw [hp]
    exact zxr_s (by rw [h.1]; simp)
  · obtain ⟨θ2, l, g1, g2⟩ := zgs_ok h hz he
    obtain ⟨r, z, h1, h2, h3⟩ := zsb_ok g2 g1
    rw [Bool.and_eq_true] at h1
    have h4 := zxeq_ok h1.1
    subst h4
    cases zxr_fun h2 he
    exact ⟨θ2, l, h1.2, g2, h3⟩
def zmi (p m : Nat) (μ : List Nat) (k : List Nat → Bool) : Bool := match Nat.beq p μ.length with
  | true => (match zmemN m μ with
    | true => false
    | false => zla μ m k)
  | false => zlg μ p (fun q => match Nat.beq q m with | true => k μ | false => false)
/-- cells are apart -/
def zap (μ : List Nat) : Prop := ∀ (i j m : Nat), μ[i]? = some m → μ[j]? = some m → i = j
theorem zmi_ok (h : zmu η μ η') (ha : zap μ) {p m x : Nat} {k : List Nat → Bool} (hz : zmi p m μ k = true) (hm : η[m]? = some x) : ∃ μ2 l, k μ2 = true ∧ zmu η μ2 (η' ++ l) ∧ zap μ2 ∧ (η' ++ l)[p]? = some x := by
  unfold zmi at hz
  split at hz
  · rename_i hc
    have hc := Nat.eq_of_beq_eq_true hc
    split at hz
    · cases hz
    · rename_i hn
      have hn : ¬ m ∈ μ := fun q => by rw [zmemN_iff.mpr q] at hn; cases hn
      have h1 := zla_ok hz
      refine ⟨_, [x], h1, zmu_push h hm, fun i j q hi hj => ?_, by rw [hc, h.1]; simp⟩
      have key : ∀ i : Nat, (μ ++ [m])[i]? = some q → (μ[i]? = some q ∧ i < μ.length) ∨ (i = μ.length ∧ q = m) := fun i hi => by
        by_cases e : i < μ.length
        · rw [List.getElem?_append_left e] at hi
          exact Or.inl ⟨hi, e⟩
        · rw [List.getElem?_append_right (by omega)] at hi
          have h2 := (List.getElem?_eq_some_iff.mp hi).1
          simp at h2
          rw [show i - μ.length = 0 by omega] at hi
          cases hi
          exact Or.inr ⟨by omega, rfl⟩
      rcases key i hi with ⟨a1, a2⟩ | ⟨a1, a2⟩ <;> rcases key j hj with ⟨b1, b2⟩ | ⟨b1, b2⟩
      · exact ha i j q a1 b1
      · subst b2; exact absurd (List.mem_of_getElem? a1) hn
      · subst a2; exact absurd (List.mem_of_getElem? b1) hn
      · omega
  · obtain ⟨q, h1, h2⟩ := zlg_ok hz
    split at h2
    · rename_i hc
      have hc := Nat.eq_of_beq_eq_true hc
      subst hc
      obtain ⟨y, h3, h4⟩ := h.2 _ _ h1
      cases h4.symm.trans hm
      exact ⟨μ, [], h2, by rw [List.append_nil]; exact h, ha, by rw [List.append_nil]; exact h3⟩
    · cases h2
/-- what is shown of a match -/
def zMs (η : List Nat) (ρ : List Int) (η' : List Nat) (ρ' : List Int) (k : List LX → List Nat → Bool) (P : List Nat → List Int → Prop) : Prop :=
  ∃ (θ2 : List LX) (μ2 : List Nat) (l : List Int) (m : List Nat), k θ2 μ2 = true ∧ zth ρ θ2 (ρ' ++ l) ∧ zmu η μ2 (η' ++ m) ∧ zap μ2 ∧ P (η' ++ m) (ρ' ++ l)
theorem zMs_then {k k2 : List LX → List Nat → Bool} {P P2 : List Nat → List Int → Prop} (h1 : zMs η ρ η' ρ' k P) (hP : ∀ {η2 ρ2 m l}, P η2 ρ2 → P (η2 ++ m) (ρ2 ++ l))
    (h2 : ∀ θ2 μ2 η2 ρ2, k θ2 μ2 = true → zth ρ θ2 ρ2 → zmu η μ2 η2 → zap μ2 → zMs η ρ η2 ρ2 k2 P2) : zMs η ρ η' ρ' k2 (fun a b => P a b ∧ P2 a b) := by
  obtain ⟨θ2, μ2, l, m, a1, a2, a3, a4, a5⟩ := h1
  obtain ⟨θ3, μ3, l2, m2, b1, b2, b3, b4, b5⟩ := h2 θ2 μ2 _ _ a1 a2 a3 a4
  exact ⟨θ3, μ3, l ++ l2, m ++ m2, b1, by rw [← List.append_assoc]; exact b2, by rw [← List.append_assoc]; exact b3, b4, by rw [← List.append_assoc, ← List.append_assoc]; exact ⟨hP a5, b5⟩⟩
def zmv (p a : AV) (θ : List LX) (μ : List Nat) (k : List LX → List Nat → Bool) : Bool := match p.1 with
  | 0 => zgI a (fun e => zmx p.2 e θ (fun θ => k θ μ))
  | 1 => zgL a (fun e => zmx p.2 e θ (fun θ => k θ μ))
  | 2 => (match a.1 with
    | 2 => zmi p.2.1.toNat a.2.1.toNat μ (fun μ => k θ μ)
    | _ => false)
  | 3 => Nat.beq a.1 3 && k θ μ
  | 4 => Nat.beq a.1 4 && k θ μ
  | 5 => Nat.beq (zcat a) 1 && k θ μ
  | _ => false
theorem zmv_ok (h : zth ρ θ ρ') (hm : zmu η μ η') (ha : zap μ) {p a : AV} {k : List LX → List Nat → Bool} {v : Value} (hz : zmv p a θ μ k = true) (hv : zav η ρ a v) : zMs η ρ η' ρ' k (fun η2 ρ2 => zav η2 ρ2 p v) := by
  have id0 : ∀ {P : List Nat → List Int → Prop}, k θ μ = true → P η' ρ' → zMs η ρ η' ρ' k P := fun hk hP => ⟨θ, μ, [], [], hk, by rw [List.append_nil]; exact h, by rw [List.append_nil]; exact hm, ha, by rw [List.append_nil, List.append_nil]; exact hP⟩
  obtain ⟨t, p⟩ := p
  unfold zmv at hz
  split at hz
  · rename_i q
    simp only at q
    subst q
    obtain ⟨x, rfl, h1, hx⟩ := zgI_ok hz hv
    obtain ⟨θ2, l, h2, h3, h4⟩ := zmx_ok h h1 hx
    exact ⟨θ2, μ, l, [], h2, h3, by rw [List.append_nil]; exact hm, ha, x, rfl, h4⟩
  · rename_i q
    simp only at q
    subst q
    obtain ⟨x, rfl, h1, hx⟩ := zgL_ok hz hv
    obtain ⟨θ2, l, h2, h3, h4⟩ := zmx_ok h h1 hx
    exact ⟨θ2, μ, l, [], h2, h3, by rw [List.append_nil]; exact hm, ha, x, rfl, h4⟩
  · rename_i q
    simp only at q
    subst q
    obtain ⟨t2, e⟩ := a
    split at hz
    · rename_i q
      simp only at q
      subst q
      obtain ⟨x, h1, rfl⟩ := hv
      obtain ⟨μ2, l, h2, h3, h4, h5⟩ := zmi_ok hm ha hz h1
      exact ⟨θ, μ2, [], l, h2, by rw [List.append_nil]; exact h, h3, h4, x, h5, rfl⟩
    · cases hz
  · rename_i q
    simp only at q
    subst q
    rw [Bool.and_eq_true] at hz
    obtain ⟨t2, e⟩ := a
    have := Nat.eq_of_beq_eq_true hz.1
    simp only at this
    subst this
    exact id0 hz.2 hv
  · rename_i q
    simp only at q
    subst q
    rw [Bool.and_eq_true] at hz
    obtain ⟨t2, e⟩ := a
    have := Nat.eq_of_beq_eq_true hz.1
    simp only at this
    subst this
    exact id0 hz.2 hv
  · rename_i q
    simp only at q
    subst q
    rw [Bool.and_eq_true] at hz
    refine id0 hz.2 ?_
    show v.category = 1
    rw [zcat_ok hv]
    exact Nat.eq_of_beq_eq_true hz.1
  · cases hz
def zmS : List AV → List AV → List LX → List Nat → (List LX → List Nat → Bool) → Bool
  | [], [], θ, μ, k => k θ μ
  | p :: ps, a :: as, θ, μ, k => zmv p a θ μ (fun θ μ => zmS ps as θ μ k)
  | _, _, _, _, _ => false
theorem zmS_ok : ∀ {ps as : List AV} {vs : List Value} {η' : List Nat} {ρ' : List Int} {θ : List LX} {μ : List Nat} {k : List LX → List Nat → Bool}, zth ρ θ ρ' → zmu η μ η' → zap μ → zmS ps as θ μ k = true → zaS η ρ as vs → zMs η ρ η' ρ' k (fun η2 ρ2 => zaS η2 ρ2 ps vs)
  | [], [], [], η', ρ', θ, μ, k, h, hm, ha, hz, _ => ⟨θ, μ, [], [], hz, by rw [List.append_nil]; exact h, by rw [List.append_nil]; exact hm, ha, trivial⟩
  | [], [], _ :: _, _, _, _, _, _, _, _, _, _, hv => hv.elim
  | [], _ :: _, _, _, _, _, _, _, _, _, _, hz, _ => by simp [zmS] at hz
  | _ :: _, [], _, _, _, _, _, _, _, _, _, hz, _ => by simp [zmS] at hz
  | _ :: _, _ :: _, [], _, _, _, _, _, _, _, _, _, hv => hv.elim
  | p :: ps, a :: as, v :: vs, η', ρ', θ, μ, k, h, hm, ha, hz, hv => by
    have h1 := zmv_ok h hm ha (k := fun θ μ => zmS ps as θ μ k) hz hv.1
    exact zMs_then h1 (fun q => zav_mono q) (fun θ2 μ2 η2 ρ2 b1 b2 b3 b4 => zmS_ok b2 b3 b4 b1 hv.2)
def zmLv : AL → AL → List LX → List Nat → (List LX → List Nat → Bool) → Bool
  | [], _, θ, μ, k => k θ μ
  | q :: ps, A, θ, μ, k => zal A q.1 (fun a => zmv q.2 a θ μ (fun θ μ => zmLv ps A θ μ k))
theorem zmLv_ok {A : AL} {L : zL} (hL : zaL η ρ A L) : ∀ {ps : AL} {η' : List Nat} {ρ' : List Int} {θ : List LX} {μ : List Nat} {k : List LX → List Nat → Bool}, zth ρ θ ρ' → zmu η μ η' → zap μ → zmLv ps A θ μ k = true → zMs η ρ η' ρ' k (fun η2 ρ2 => zaL η2 ρ2 ps L)
  | [], η', ρ', θ, μ, k, h, hm, ha, hz => ⟨θ, μ, [], [], hz, by rw [List.append_nil]; exact h, by rw [List.append_nil]; exact hm, ha, fun q hq => absurd hq List.not_mem_nil⟩
  | q :: ps, η', ρ', θ, μ, k, h, hm, ha, hz => by
    unfold zmLv at hz
    obtain ⟨a, v, g1, g2, g3⟩ := zal_ok hz hL
    have h1 := zmv_ok h hm ha (k := fun θ μ => zmLv ps A θ μ k) g1 g3
    obtain ⟨θ2, μ2, l, m, b1, b2, b3, b4, b5, b6⟩ := zMs_then h1 (fun q => zav_mono q) (fun θ2 μ2 η2 ρ2 b1 b2 b3 b4 => zmLv_ok hL b2 b3 b4 b1)
    refine ⟨θ2, μ2, l, m, b1, b2, b3, b4, fun r hr => ?_⟩
    rcases List.mem_cons.mp hr with rfl | hr
    · exact ⟨v, g2, b5⟩
    · exact b6 r hr
/-- bounds within bounds -/
def zin2 (q r : Int × Int) : Bool := zle q.1 r.1 && zle r.2 q.2
def zin3 (q : Int × Int) : List (Int × Int) → Bool
  | [] => true
  | r :: rs => zin2 q r && zin3 q rs
def zin4 (r : Int × Int) : List (Int × Int) → Bool
  | [] => true
  | q :: qs => zin2 q r && zin4 r qs
def zin5 : List (Int × Int) → List (Int × Int) → Bool
  | [], [] => true
  | q :: qs, r :: rs => zin2 q r && zin5 qs rs
  | _, _ => false
def zinr (p p' : Nat) (rs rs' : List (Int × Int)) : Bool := Nat.beq rs.length p && (Nat.ble 1 p && (match Nat.beq p p' with
  | true => zin5 rs rs'
  | false => (match Nat.beq p' 1 with
    | true => (match rs' with | [r] => zin4 r rs | _ => false)
    | false => (match rs with | [q] => zin3 q rs' | _ => false))))
theorem zin3_ok {q : Int × Int} : ∀ {rs : List (Int × Int)}, zin3 q rs = true → ∀ r ∈ rs, q.1 ≤ r.1 ∧ r.2 ≤ q.2
  | [], _, r, hr => absurd hr List.not_mem_nil
  | s :: rs, h, r, hr => by
    simp only [zin3, zin2, Bool.and_eq_true, zle_iff] at h
    rcases List.mem_cons.mp hr with rfl | hr
    · exact h.1
    · exact zin3_ok h.2 r hr
theorem zin4_ok {r : Int × Int} : ∀ {qs : List (Int × Int)}, zin4 r qs = true → ∀ q ∈ qs, q.1 ≤ r.1 ∧ r.2 ≤ q.2
  | [], _, q, hq => absurd hq List.not_mem_nil
  | s :: qs, h, q, hq => by
    simp only [zin4, zin2, Bool.and_eq_true, zle_iff] at h
    rcases List.mem_cons.mp hq with rfl | hq
    · exact h.1
    · exact zin4_ok h.2 q hq
theorem zin5_ok : ∀ {qs rs : List (Int × Int)}, zin5 qs rs = true → ∀ (i : Nat) (q : Int × Int), qs[i]? = some q → ∃ r, rs[i]? = some r ∧ q.1 ≤ r.1 ∧ r.2 ≤ q.2
  | [], [], _, i, q, hq => by simp at hq
  | [], _ :: _, h, _, _, _ => by simp [zin5] at h
  | _ :: _, [], h, _, _, _ => by simp [zin5] at h
  | s :: qs, t :: rs, h, i, q, hq => by
    simp only [zin5, zin2, Bool.and_eq_true, zle_iff] at h
    match i, hq with
    | 0, hq => cases hq; exact ⟨t, rfl, h.1⟩
    | i + 1, hq =>
      obtain ⟨r, h1, h2⟩ := zin5_ok h.2 i q (by simpa using hq)
      exact ⟨r, by simpa using h1, h2⟩
theorem zinr_ok {n p p' : Nat} {rs rs' : List (Int × Int)} {es : List (LX × LX)} {f : zhA} (hz : zinr p p' rs rs' = true) (hA : zaA ρ n p' rs' es f) : rs.length = p ∧ 0 < p ∧ ∀ j, j < n → ∀ q : Int × Int, rs[j % p]? = some q → q.1 ≤ zei f j ∧ zei f j ≤ q.2 := by
  obtain ⟨a1, a2, a3, a4⟩ := hA
  unfold zinr at hz
  simp only [Bool.and_eq_true] at hz
  obtain ⟨h1, h2, h3⟩ := hz
  have h1 := Nat.eq_of_beq_eq_true h1
  have h2 := Nat.le_of_ble_eq_true h2
  refine ⟨h1, h2, fun j hj q hq => ?_⟩
  have fin : ∀ r : Int × Int, rs'[j % p']? = some r → q.1 ≤ r.1 ∧ r.2 ≤ q.2 → q.1 ≤ zei f j ∧ zei f j ≤ q.2 := fun r hr h => by
    have := a3 j hj r hr
    omega
  split at h3
  · rename_i hc
    have hc := Nat.eq_of_beq_eq_true hc
    subst hc
    obtain ⟨r, g1, g2⟩ := zin5_ok h3 _ q hq
    exact fin r g1 g2
  · split at h3
    · rename_i hc
      have hc := Nat.eq_of_beq_eq_true hc
      subst hc
      split at h3
      · rename_i r
        exact fin r (by rw [Nat.mod_one]; rfl) (zin4_ok h3 q (List.mem_of_getElem? hq))
      · cases h3
    · match rs, hq, h3 with
      | [q0], hq, h3 =>
        have hlt : j % p' < rs'.length := by rw [a1]; exact Nat.mod_lt _ a2
        have hq0 : q = q0 := List.mem_singleton.mp (List.mem_of_getElem? hq)
        subst hq0
        exact fin _ (List.getElem?_eq_getElem hlt) (zin3_ok h3 _ (List.getElem_mem hlt))
      | [], hq, _ => simp at hq
      | _ :: _ :: _, _, h3 => cases h3
/-- entries of the pattern among the state's own -/
def zmE (es' : List (LX × LX)) : List (LX × LX) → List LX → (List LX → Bool) → Bool
  | [], θ, k => k θ
  | q :: es, θ, k => zsb θ q.1 (fun i => match zlkE i es' with
    | some v => zmx q.2 v θ (fun θ => zmE es' es θ k)
    | none => false)
theorem zmE_ok {n : Nat} {es' : List (LX × LX)} {f : zhA} (he : ∀ e ∈ es', ∃ j : Nat, zxr ρ e.1 (j : Int) ∧ j < n ∧ zxr ρ e.2 (zei f j)) : ∀ {es : List (LX × LX)} {ρ' : List Int} {θ : List LX} {k : List LX → Bool}, zth ρ θ ρ' → zmE es' es θ k = true → ∃ θ2 l, k θ2 = true ∧ zth ρ θ2 (ρ' ++ l) ∧ ∀ e ∈ es, ∃ j : Nat, zxr (ρ' ++ l) e.1 (j : Int) ∧ j < n ∧ zxr (ρ' ++ l) e.2 (zei f j)
  | [], ρ', θ, k, h, hz => ⟨θ, [], hz, by rw [List.append_nil]; exact h, fun e he => absurd he List.not_mem_nil⟩
  | q :: es, ρ', θ, k, h, hz => by
    unfold zmE at hz
    obtain ⟨i, z, h1, h2, h3⟩ := zsb_ok h hz
    split at h1
    · rename_i v hv
      obtain ⟨j, g1, g2, g3⟩ := he _ (zlkE_ok hv)
      cases zxr_fun h2 g1
      obtain ⟨θ2, l, h4, h5, h6⟩ := zmx_ok h h1 g3
      obtain ⟨θ3, l2, h7, h8, h9⟩ := zmE_ok he h5 h4
      refine ⟨θ3, l ++ l2, h7, by rw [← List.append_assoc]; exact h8, fun e he => ?_⟩
      rw [← List.append_assoc]
      rcases List.mem_cons.mp he with rfl | he
      · exact ⟨j, zxr_mono (zxr_mono h3), g2, zxr_mono h6⟩
      · exact h9 e he
    · cases h1
def zmC (p c : AC) (θ : List LX) (μ : List Nat) (k : List LX → List Nat → Bool) : Bool := match p, c with
  | .inl (ci, ps), .inl (cj, as) => Nat.beq ci cj && zmS ps as θ μ k
  | .inr (.inl (t, n, p, rs, es)), .inr (.inl (t', n', p', rs', es')) => Nat.beq t t' && (Nat.beq n n' && (zinr p p' rs rs' && zmE es' es θ (fun θ => k θ μ)))
  | .inr (.inr ps), .inr (.inr as) => zmS ps as θ μ k
  | _, _ => false
theorem zrf_list {as : List AV} {f : Nat → Option Nat} (h : ∀ j a, as[j]? = some a → zav η ρ a (va_rf (f j))) : zaS η ρ as ((List.range as.length).map (fun j => va_rf (f j))) := by
  have gen : ∀ (as : List AV) (g : Nat → Value), (∀ j a, as[j]? = some a → zav η ρ a (g j)) → zaS η ρ as ((List.range as.length).map g) := by
    intro as
    induction as with
    | nil => intro g _; trivial
    | cons a as ih =>
      intro g hg
      rw [List.length_cons, List.range_succ_eq_map, List.map_cons, List.map_map]
      exact ⟨hg 0 a rfl, ih (fun j => g (j + 1)) (fun j b hb => hg (j + 1) b (by simpa using hb))⟩
  exact gen as _ h
theorem zrf_back {ps : List AV} {n : Nat} {f : Nat → Option Nat} (h : zaS η ρ ps ((List.range n).map (fun j => va_rf (f j)))) : ps.length = n ∧ ∀ j a, ps[j]? = some a → zav η ρ a (va_rf (f j)) := by
  have hl := zAll_len h
  simp at hl
  refine ⟨hl, fun j a ha => ?_⟩
  obtain ⟨v, h1, h2⟩ := zAll_get h ha
  have hj : j < n := by rw [← hl]; exact (List.getElem?_eq_some_iff.mp ha).1
  rw [List.getElem?_map, List.getElem?_range hj] at h1
  cases h1
  exact h2
theorem zmC_ok (h : zth ρ θ ρ') (hm : zmu η μ η') (ha : zap μ) {p c : AC} {k : List LX → List Nat → Bool} {x : zhE} (hz : zmC p c θ μ k = true) (hv : zac η ρ c x) : zMs η ρ η' ρ' k (fun η2 ρ2 => zac η2 ρ2 p x) := by
  unfold zmC at hz
  split at hz
  · rw [Bool.and_eq_true] at hz
    have hci := Nat.eq_of_beq_eq_true hz.1
    subst hci
    obtain ⟨vs, rfl, h1⟩ := hv
    obtain ⟨θ2, μ2, l, m, b1, b2, b3, b4, b5⟩ := zmS_ok h hm ha hz.2 h1
    exact ⟨θ2, μ2, l, m, b1, b2, b3, b4, vs, rfl, b5⟩
  · simp only [Bool.and_eq_true] at hz
    obtain ⟨z1, z2, z3, z4⟩ := hz
    have z1 := Nat.eq_of_beq_eq_true z1
    have z2 := Nat.eq_of_beq_eq_true z2
    subst z1; subst z2
    obtain ⟨f, rfl, h1, h2⟩ := hv
    obtain ⟨c1, c2, c3⟩ := zinr_ok z3 h2
    obtain ⟨θ2, l, b1, b2, b3⟩ := zmE_ok h2.2.2.2 h z4
    exact ⟨θ2, μ, l, [], b1, b2, by rw [List.append_nil]; exact hm, ha, f, rfl, h1, c1, c2, c3, b3⟩
  · obtain ⟨f, rfl, h1⟩ := hv
    obtain ⟨θ2, μ2, l, m, b1, b2, b3, b4, b5⟩ := zmS_ok h hm ha hz (zrf_list h1)
    obtain ⟨d1, d2⟩ := zrf_back b5
    exact ⟨θ2, μ2, l, m, b1, b2, b3, b4, f, by rw [d1], d2⟩
  · cases hz
abbrev PC : Type := List (Nat × AC)
/-- what a list of cells says -/
def zcl2 (η : List Nat) (ρ : List Int) (C : PC) (hp : List zhE) : Prop := ∀ q ∈ C, ∃ (x : Nat) (h : zhE), η[q.1]? = some x ∧ hp[x]? = some h ∧ zac η ρ q.2 h
theorem zcl2_mono {m : List Nat} {l : List Int} {C : PC} (h : zcl2 η ρ C hp) : zcl2 (η ++ m) (ρ ++ l) C hp := fun q hq => by
  obtain ⟨x, c, h1, h2, h3⟩ := h q hq
  exact ⟨x, c, by rw [List.getElem?_append_left (List.getElem?_eq_some_iff.mp h1).1]; exact h1, h2, zac_mono h3⟩
def zmH (A : AH) : PC → List LX → List Nat → (List LX → List Nat → Bool) → Bool
  | [], θ, μ, k => k θ μ
  | q :: C, θ, μ, k => zlg μ q.1 (fun m => zhget A m (fun c => zmC q.2 c θ μ (fun θ μ => zmH A C θ μ k)))
theorem zmH_ok {A : AH} (hA : zaH η ρ A hp) : ∀ {C : PC} {η' : List Nat} {ρ' : List Int} {θ : List LX} {μ : List Nat} {k : List LX → List Nat → Bool}, zth ρ θ ρ' → zmu η μ η' → zap μ → zmH A C θ μ k = true → zMs η ρ η' ρ' k (fun η2 ρ2 => zcl2 η2 ρ2 C hp)
  | [], η', ρ', θ, μ, k, h, hm, ha, hz => ⟨θ, μ, [], [], hz, by rw [List.append_nil]; exact h, by rw [List.append_nil]; exact hm, ha, fun q hq => absurd hq List.not_mem_nil⟩
  | q :: C, η', ρ', θ, μ, k, h, hm, ha, hz => by
    unfold zmH at hz
    obtain ⟨m0, g1, g2⟩ := zlg_ok hz
    obtain ⟨c, g3, g4⟩ := zhget_ok g2
    obtain ⟨x, y, g5, g6, g7⟩ := hA.2.1 _ _ g3
    obtain ⟨x', g8, g9⟩ := hm.2 _ _ g1
    cases g5.symm.trans g9
    have h1 := zmC_ok h hm ha (k := fun θ μ => zmH A C θ μ k) g4 g7
    obtain ⟨θ2, μ2, l, m, b1, b2, b3, b4, b5, b6⟩ := zMs_then h1 (fun q => zac_mono q) (fun θ2 μ2 η2 ρ2 b1 b2 b3 b4 => zmH_ok hA b2 b3 b4 b1)
    refine ⟨θ2, μ2, l, m, b1, b2, b3, b4, fun r hr => ?_⟩
    rcases List.mem_cons.mp hr with rfl | hr
    · exact ⟨x, y, by rw [List.getElem?_append_left (List.getElem?_eq_some_iff.mp g8).1]; exact g8, g6, b5⟩
    · exact b6 r hr
/-- the pattern's bounds, its facts, what else it knows -/
def zmB (G : AG) : LE → List LX → Bool
  | [], [] => true
  | q :: E, e :: θ => zbd G.2.1 e (fun lo hi => (zle q.1 lo || zxshi e (-q.1) (fun d => zprv G.2.1 G.2.2.1 d)) && ((zle hi q.2 || zxsub (q.2, []) e (fun d => zprv G.2.1 G.2.2.1 d)) && zmB G E θ))
  | _, _ => false
theorem zmB_ok {G : AG} (hG : zaG ρ G) : ∀ {E : LE} {θ : List LX}, zmB G E θ = true → E.length = θ.length ∧ ∀ (i : Nat) (q : Int × Int) (e : LX) (x : Int), E[i]? = some q → θ[i]? = some e → zxr ρ e x → q.1 ≤ x ∧ x ≤ q.2
  | [], [], _ => ⟨rfl, fun i q e x hq => by simp at hq⟩
  | [], _ :: _, hz => by simp [zmB] at hz
  | _ :: _, [], hz => by simp [zmB] at hz
  | q :: E, e :: θ, hz => by
    unfold zmB at hz
    obtain ⟨z, lo, hi, h1, h2, h3, h4⟩ := zbd_ok hG.2.1 hz
    simp only [Bool.and_eq_true, Bool.or_eq_true, zle_iff] at h2
    obtain ⟨a1, a2, a3⟩ := h2
    obtain ⟨b1, b2⟩ := zmB_ok hG a3
    refine ⟨by simp [b1], fun i q' e' x hq he hx => ?_⟩
    match i, hq, he with
    | 0, hq, he =>
      cases hq; cases he
      cases zxr_fun h1 hx
      constructor
      · rcases a1 with a1 | a1
        · omega
        · obtain ⟨d, d1, d2⟩ := zxshi_ok a1 h1
          have := zprv_ok hG.2.1 d1 hG.2.2.1 d2
          omega
      · rcases a2 with a2 | a2
        · omega
        · obtain ⟨d, d1, d2⟩ := zxsub_ok a2 (zxr_c ρ q.2) h1
          have := zprv_ok hG.2.1 d1 hG.2.2.1 d2
          omega
    | i + 1, hq, he => exact b2 i q' e' x (by simpa using hq) (by simpa using he) hx
def zmF (G : AG) (θ : List LX) : List LX → Bool
  | [] => true
  | f :: F => zsb θ f (fun g => zprv G.2.1 G.2.2.1 g) && zmF G θ F
theorem zmF_ok {G : AG} (hG : zaG ρ G) (h : zth ρ θ ρ') : ∀ {F : List LX}, zmF G θ F = true → zaF ρ' F
  | [], _, f, hf => absurd hf List.not_mem_nil
  | g :: F, hz, f, hf => by
    simp only [zmF, Bool.and_eq_true] at hz
    rcases List.mem_cons.mp hf with rfl | hf
    · obtain ⟨r, z, h1, h2, h3⟩ := zsb_ok h hz.1
      exact ⟨z, h3, zprv_ok hG.2.1 h1 hG.2.2.1 h2⟩
    · exact zmF_ok hG h hz.2 f hf
def zmO (A : AH) (G : AG) (μ : List Nat) : List Nat → Bool
  | [] => true
  | o :: O => zlg μ (o % 1000) (fun m => Nat.ble (m + 1) 1000 && (zmemN (1000 * (o / 1000) + m) G.2.2.2.2 || zOI (o / 1000) m A G)) && zmO A G μ O
theorem zmO_ok {A : AH} {G : AG} (hG : zaG ρ G) (hA : zaH η ρ A hp) (hO : zaO η G.2.2.2.2 hp) (hm : zmu η μ η') : ∀ {O : List Nat}, zmO A G μ O = true → zaO η' O hp
  | [], _, o, ho => absurd ho List.not_mem_nil
  | q :: O, hz, o, ho => by
    simp only [zmO, Bool.and_eq_true] at hz
    rcases List.mem_cons.mp ho with rfl | ho
    · obtain ⟨m, h1, h2⟩ := zlg_ok hz.1
      rw [Bool.and_eq_true, Bool.or_eq_true] at h2
      have hlt := Nat.le_of_ble_eq_true h2.1
      obtain ⟨x, h3, h4⟩ := hm.2 _ _ h1
      rcases h2.2 with h2 | h2
      · obtain ⟨j, h5, h6⟩ := hO _ (zmemN_iff.mp h2)
        rw [show (1000 * (o / 1000) + m) % 1000 = m by omega] at h5
        rw [show (1000 * (o / 1000) + m) / 1000 = o / 1000 by omega] at h6
        cases h4.symm.trans h5
        exact ⟨_, h3, h6⟩
      · obtain ⟨j, h5, h6⟩ := zOI_ok h2 hG hA
        cases h4.symm.trans h5
        exact ⟨_, h3, h6⟩
    · exact zmO_ok hG hA hO hm hz.2 o ho
/-- a pattern: local variables, stack, cells, bounds, facts, what else -/
abbrev PT : Type := AL × List AV × PC × LE × List LX × List Nat
def zptS (η : List Nat) (ρ : List Int) (P : PT) (L : zL) (st : List Value) (hp : List zhE) : Prop := zaL η ρ P.1 L ∧ zaS η ρ P.2.1 st ∧ zcl2 η ρ P.2.2.1 hp ∧ zaE ρ P.2.2.2.1 ∧ zaF ρ P.2.2.2.2.1 ∧ zaO η P.2.2.2.2.2 hp
def zmt (P : PT) (A : AL) (S : List AV) (h : AH) (G : AG) (θ : List LX) (μ : List Nat) (k : List LX → List Nat → Bool) : Bool :=
  zmS P.2.1 S θ μ (fun θ μ => zmLv P.1 A θ μ (fun θ μ => zmH h P.2.2.1 θ μ (fun θ μ => zmB G P.2.2.2.1 θ && (zmF G θ P.2.2.2.2.1 && (zmO h G μ P.2.2.2.2.2 && k θ μ)))))
theorem zmt_ok {P : PT} {A : AL} {S : List AV} {h : AH} {G : AG} {k : List LX → List Nat → Bool} {L : zL} {st : List Value} (ht : zth ρ θ ρ') (hm : zmu η μ η') (ha : zap μ) (hz : zmt P A S h G θ μ k = true) (hL : zaL η ρ A L) (hs : zaS η ρ S st) (hA : zaH η ρ h hp) (hG : zaG ρ G) (hO : zaO η G.2.2.2.2 hp) : zMs η ρ η' ρ' k (fun η2 ρ2 => zptS η2 ρ2 P L st hp) := by
  have h1 := zmS_ok ht hm ha hz hs
  have h2 := zMs_then h1 (fun q => zaS_mono q) (fun θ2 μ2 η2 ρ2 b1 b2 b3 b4 => zmLv_ok hL b2 b3 b4 b1)
  have h3 := zMs_then h2 (fun q => ⟨zaS_mono q.1, zaL_mono q.2⟩) (fun θ2 μ2 η2 ρ2 b1 b2 b3 b4 => zmH_ok hA b2 b3 b4 b1)
  obtain ⟨θ2, μ2, l, m, b1, b2, b3, b4, ⟨b5, b6⟩, b7⟩ := h3
  simp only [Bool.and_eq_true] at b1
  obtain ⟨c1, c2, c3, c4⟩ := b1
  obtain ⟨d1, d2⟩ := zmB_ok hG c1
  refine ⟨θ2, μ2, l, m, c4, b2, b3, b4, b6, b5, b7, ⟨d1.trans b2.1, fun i q x hq hx => ?_⟩, zmF_ok hG b2 c2, zmO_ok hG hA hO b3 c3⟩
  have hlt : i < θ2.length := by rw [← d1]; exact (List.getElem?_eq_some_iff.mp hq).1
  obtain ⟨y, g1, g2⟩ := b2.2 i _ (List.getElem?_eq_getElem hlt)
  cases hx.symm.trans g1
  exact d2 i q _ x hq (List.getElem?_eq_getElem hlt) g2
end ZMT
