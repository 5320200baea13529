/-! linear expressions over symbols, their bounds, facts of them; all computed in passing style -/
/-- numbers made small before they are kept -/
def zfn (n : Nat) (k : Nat → Bool) : Bool := match n with
  | 0 => k 0
  | m + 1 => k (Nat.succ m)
theorem zfn_eq (n : Nat) (k : Nat → Bool) : zfn n k = k n := by cases n <;> rfl
def zfi (x : Int) (k : Int → Bool) : Bool := match x with
  | .ofNat n => zfn n (fun n => k (.ofNat n))
  | .negSucc n => zfn n (fun n => k (.negSucc n))
theorem zfi_eq (x : Int) (k : Int → Bool) : zfi x k = k x := by cases x <;> simp [zfi, zfn_eq]
def zle (a b : Int) : Bool := match b - a with
  | .ofNat _ => true
  | .negSucc _ => false
theorem zle_iff {a b : Int} : zle a b = true ↔ a ≤ b := by
  unfold zle
  split
  · rename_i n h
    have h1 : b - a = (n : Int) := h
    simp only [true_iff]; omega
  · rename_i n h
    have h1 : b - a = Int.negSucc n := h
    have h2 := Int.negSucc_lt_zero n
    simp only [Bool.false_eq_true, false_iff]; omega
theorem zle_not {a b : Int} : zle a b = false ↔ b < a := by
  rw [← Bool.not_eq_true, zle_iff]; omega
def zeq (a b : Int) : Bool := zle a b && zle b a
theorem zeq_iff {a b : Int} : zeq a b = true ↔ a = b := by
  simp only [zeq, Bool.and_eq_true, zle_iff]; omega
abbrev LT : Type := List (Nat × Int)
abbrev LX : Type := Int × LT
/-- the symbols' bounds -/
abbrev LE : Type := List (Int × Int)
def zxt (ρ : List Int) : LT → Int → Prop
  | [], z => z = 0
  | q :: ts, z => ∃ x y, ρ[q.1]? = some x ∧ zxt ρ ts y ∧ z = q.2 * x + y
def zxr (ρ : List Int) (e : LX) (z : Int) : Prop := ∃ y, zxt ρ e.2 y ∧ z = e.1 + y
theorem zxt_mono {ρ l : List Int} : ∀ {ts : LT} {z : Int}, zxt ρ ts z → zxt (ρ ++ l) ts z
  | [], _, h => h
  | q :: ts, z, ⟨x, y, h1, h2, h3⟩ => ⟨x, y, by rw [List.getElem?_append_left (List.getElem?_eq_some_iff.mp h1).1]; exact h1, zxt_mono h2, h3⟩
theorem zxr_mono {ρ l : List Int} {e : LX} {z : Int} (h : zxr ρ e z) : zxr (ρ ++ l) e z := by
  obtain ⟨y, h1, h2⟩ := h
  exact ⟨y, zxt_mono h1, h2⟩
theorem zxt_fun {ρ : List Int} : ∀ {ts : LT} {z w : Int}, zxt ρ ts z → zxt ρ ts w → z = w
  | [], _, _, h1, h2 => h1.trans h2.symm
  | q :: ts, z, w, ⟨x, y, h1, h2, h3⟩, ⟨x', y', h1', h2', h3'⟩ => by
    cases h1.symm.trans h1'
    cases zxt_fun h2 h2'
    rw [h3, h3']
theorem zxr_fun {ρ : List Int} {e : LX} {z w : Int} (h1 : zxr ρ e z) (h2 : zxr ρ e w) : z = w := by
  obtain ⟨y, a1, a2⟩ := h1
  obtain ⟨y', b1, b2⟩ := h2
  cases zxt_fun a1 b1
  rw [a2, b2]
theorem zxr_c (ρ : List Int) (c : Int) : zxr ρ (c, []) c := ⟨0, rfl, by omega⟩
theorem zxr_s {ρ : List Int} {i : Nat} {x : Int} (h : ρ[i]? = some x) : zxr ρ (0, [(i, 1)]) x := ⟨x, ⟨x, 0, h, rfl, by omega⟩, by omega⟩
def zaE (ρ : List Int) (E : LE) : Prop := E.length = ρ.length ∧ ∀ (i : Nat) (q : Int × Int) (x : Int), E[i]? = some q → ρ[i]? = some x → q.1 ≤ x ∧ x ≤ q.2
/-- the sum of two, fuel n -/
def zmg : Nat → LT → LT → (LT → Bool) → Bool
  | 0, _, _, _ => false
  | n + 1, ts, us, k => match ts, us with
    | [], us => k us
    | ts, [] => k ts
    | p :: ts, q :: us => (match Nat.beq p.1 q.1 with
      | true => zfi (p.2 + q.2) (fun c => match zeq c 0 with
        | true => zmg n ts us k
        | false => zmg n ts us (fun l => k ((p.1, c) :: l)))
      | false => (match Nat.ble p.1 q.1 with
        | true => zmg n ts (q :: us) (fun l => k (p :: l))
        | false => zmg n (p :: ts) us (fun l => k (q :: l))))
theorem zmg_ok {ρ : List Int} : ∀ (n : Nat) {ts us : LT} {k : LT → Bool} {x y : Int}, zmg n ts us k = true → zxt ρ ts x → zxt ρ us y → ∃ l, k l = true ∧ zxt ρ l (x + y)
  | 0, _, _, _, _, _, h, _, _ => by simp [zmg] at h
  | n + 1, ts, us, k, x, y, h, hx, hy => by
    unfold zmg at h
    split at h
    · have hx0 : x = 0 := hx
      subst hx0
      exact ⟨us, h, by rw [Int.zero_add]; exact hy⟩
    · have hy0 : y = 0 := hy
      subst hy0
      exact ⟨ts, h, by rw [Int.add_zero]; exact hx⟩
    · rename_i p ts q us
      obtain ⟨a, b, h1, h2, h3⟩ := hx
      obtain ⟨c, d, h4, h5, h6⟩ := hy
      split at h
      · rename_i e
        have e := Nat.eq_of_beq_eq_true e
        rw [← e, h1] at h4
        cases h4
        rw [zfi_eq] at h
        split at h
        · rename_i hz
          rw [zeq_iff] at hz
          obtain ⟨l, g1, g2⟩ := zmg_ok n h h2 h5
          refine ⟨l, g1, ?_⟩
          have e2 : x + y = b + d := by
            rw [h3, h6]
            have e3 : p.2 * a + q.2 * a = 0 := by rw [← Int.add_mul, hz, Int.zero_mul]
            omega
          rw [e2]; exact g2
        · obtain ⟨l, g1, g2⟩ := zmg_ok n h h2 h5
          refine ⟨_, g1, a, b + d, h1, g2, ?_⟩
          show x + y = (p.2 + q.2) * a + (b + d)
          rw [h3, h6, Int.add_mul]; omega
      · split at h
        · obtain ⟨l, g1, g2⟩ := zmg_ok n h h2 (show zxt ρ (q :: us) y from ⟨c, d, h4, h5, h6⟩)
          exact ⟨_, g1, a, b + y, h1, g2, by omega⟩
        · obtain ⟨l, g1, g2⟩ := zmg_ok n h (show zxt ρ (p :: ts) x from ⟨a, b, h1, h2, h3⟩) h5
          exact ⟨_, g1, c, x + d, h4, g2, by omega⟩
def zsc (a : Int) : LT → (LT → Bool) → Bool
  | [], k => k []
  | q :: ts, k => zfi (a * q.2) (fun c => zsc a ts (fun l => k ((q.1, c) :: l)))
theorem zsc_ok {ρ : List Int} {a : Int} : ∀ {ts : LT} {k : LT → Bool} {x : Int}, zsc a ts k = true → zxt ρ ts x → ∃ l, k l = true ∧ zxt ρ l (a * x)
  | [], k, x, h, hx => ⟨[], h, by have hx0 : x = 0 := hx; subst hx0; rw [Int.mul_zero]; exact (rfl : (0 : Int) = 0)⟩
  | q :: ts, k, x, h, ⟨b, y, h1, h2, h3⟩ => by
    unfold zsc at h
    rw [zfi_eq] at h
    obtain ⟨l, g1, g2⟩ := zsc_ok h h2
    refine ⟨_, g1, b, a * y, h1, g2, ?_⟩
    show a * x = a * q.2 * b + a * y
    rw [h3, Int.mul_add, Int.mul_assoc]
def zxadd (e f : LX) (k : LX → Bool) : Bool := zmg 99 e.2 f.2 (fun l => zfi (e.1 + f.1) (fun c => k (c, l)))
theorem zxadd_ok {ρ : List Int} {e f : LX} {k : LX → Bool} {x y : Int} (h : zxadd e f k = true) (hx : zxr ρ e x) (hy : zxr ρ f y) : ∃ r, k r = true ∧ zxr ρ r (x + y) := by
  obtain ⟨a, h1, h2⟩ := hx
  obtain ⟨b, h3, h4⟩ := hy
  obtain ⟨l, g1, g2⟩ := zmg_ok 99 h h1 h3
  rw [zfi_eq] at g1
  exact ⟨_, g1, a + b, g2, by show x + y = e.1 + f.1 + (a + b); omega⟩
/-- a times e; a isn't 0 -/
def zxscl (a : Int) (e : LX) (k : LX → Bool) : Bool := match zeq a 0 with
  | true => k (0, [])
  | false => zsc a e.2 (fun l => zfi (a * e.1) (fun c => k (c, l)))
theorem zxscl_ok {ρ : List Int} {a : Int} {e : LX} {k : LX → Bool} {x : Int} (h : zxscl a e k = true) (hx : zxr ρ e x) : ∃ r, k r = true ∧ zxr ρ r (a * x) := by
  unfold zxscl at h
  split at h
  · rename_i h0
    rw [zeq_iff] at h0
    subst h0
    exact ⟨_, h, by rw [Int.zero_mul]; exact zxr_c ρ 0⟩
  · obtain ⟨b, h1, h2⟩ := hx
    obtain ⟨l, g1, g2⟩ := zsc_ok h h1
    rw [zfi_eq] at g1
    exact ⟨_, g1, a * b, g2, by show a * x = a * e.1 + a * b; rw [h2, Int.mul_add]⟩
def zxsub (e f : LX) (k : LX → Bool) : Bool := zxscl (-1) f (fun f => zxadd e f k)
theorem zxsub_ok {ρ : List Int} {e f : LX} {k : LX → Bool} {x y : Int} (h : zxsub e f k = true) (hx : zxr ρ e x) (hy : zxr ρ f y) : ∃ r, k r = true ∧ zxr ρ r (x - y) := by
  obtain ⟨r, h1, h2⟩ := zxscl_ok h hy
  obtain ⟨q, h3, h4⟩ := zxadd_ok h1 hx h2
  exact ⟨q, h3, by rw [show x - y = x + -1 * y by omega]; exact h4⟩
/-- e and a number -/
def zxshi (e : LX) (c : Int) (k : LX → Bool) : Bool := zfi (e.1 + c) (fun d => k (d, e.2))
theorem zxshi_ok {ρ : List Int} {e : LX} {c : Int} {k : LX → Bool} {x : Int} (h : zxshi e c k = true) (hx : zxr ρ e x) : ∃ r, k r = true ∧ zxr ρ r (x + c) := by
  unfold zxshi at h
  rw [zfi_eq] at h
  obtain ⟨b, h1, h2⟩ := hx
  exact ⟨_, h, b, h1, by show x + c = e.1 + c + b; omega⟩
def zgE (E : LE) (i : Nat) (k : Int → Int → Bool) : Bool := match E, i with
  | [], _ => false
  | q :: _, 0 => k q.1 q.2
  | _ :: E, i + 1 => zgE E i k
theorem zgE_ok : ∀ {E : LE} {i : Nat} {k : Int → Int → Bool}, zgE E i k = true → ∃ q, E[i]? = some q ∧ k q.1 q.2 = true
  | [], _, _, h => by simp [zgE] at h
  | q :: _, 0, _, h => ⟨q, rfl, h⟩
  | _ :: E, i + 1, k, h => by
    obtain ⟨q, h1, h2⟩ := zgE_ok (E := E) (i := i) (k := k) h
    exact ⟨q, by simpa using h1, h2⟩
theorem zaE_get {ρ : List Int} {E : LE} (hE : zaE ρ E) {i : Nat} {q : Int × Int} (h : E[i]? = some q) : ∃ x, ρ[i]? = some x ∧ q.1 ≤ x ∧ x ≤ q.2 := by
  have h1 := (List.getElem?_eq_some_iff.mp h).1
  have h2 : i < ρ.length := by rw [← hE.1]; exact h1
  exact ⟨ρ[i], List.getElem?_eq_getElem h2, hE.2 i q _ h (List.getElem?_eq_getElem h2)⟩
/-- bounds of the terms -/
def zbnt (E : LE) : LT → (Int → Int → Bool) → Bool
  | [], k => k 0 0
  | q :: ts, k => zgE E q.1 (fun lo hi => zbnt E ts (fun l h => match zle 0 q.2 with
    | true => zfi (q.2 * lo + l) (fun l => zfi (q.2 * hi + h) (fun h => k l h))
    | false => zfi (q.2 * hi + l) (fun l => zfi (q.2 * lo + h) (fun h => k l h))))
theorem zbnt_ok {ρ : List Int} {E : LE} (hE : zaE ρ E) : ∀ {ts : LT} {k : Int → Int → Bool}, zbnt E ts k = true → ∃ y lo hi, zxt ρ ts y ∧ k lo hi = true ∧ lo ≤ y ∧ y ≤ hi
  | [], k, h => ⟨0, 0, 0, rfl, h, Int.le_refl _, Int.le_refl _⟩
  | q :: ts, k, h => by
    unfold zbnt at h
    obtain ⟨b, h1, h2⟩ := zgE_ok h
    obtain ⟨x, h3, h4, h5⟩ := zaE_get hE h1
    obtain ⟨y, l, u, h6, h7, h8, h9⟩ := zbnt_ok hE h2
    split at h7
    · rename_i hc
      rw [zle_iff] at hc
      rw [zfi_eq, zfi_eq] at h7
      refine ⟨_, _, _, ⟨x, y, h3, h6, rfl⟩, h7, ?_, ?_⟩
      · have := Int.mul_le_mul_of_nonneg_left h4 hc; omega
      · have := Int.mul_le_mul_of_nonneg_left h5 hc; omega
    · rename_i hc
      rw [zle_not] at hc
      rw [zfi_eq, zfi_eq] at h7
      refine ⟨_, _, _, ⟨x, y, h3, h6, rfl⟩, h7, ?_, ?_⟩
      · have := Int.mul_le_mul_of_nonpos_left (Int.le_of_lt hc) h5; omega
      · have := Int.mul_le_mul_of_nonpos_left (Int.le_of_lt hc) h4; omega
def zbd (E : LE) (e : LX) (k : Int → Int → Bool) : Bool := zbnt E e.2 (fun l h => zfi (e.1 + l) (fun l => zfi (e.1 + h) (fun h => k l h)))
theorem zbd_ok {ρ : List Int} {E : LE} (hE : zaE ρ E) {e : LX} {k : Int → Int → Bool} (h : zbd E e k = true) : ∃ z lo hi, zxr ρ e z ∧ k lo hi = true ∧ lo ≤ z ∧ z ≤ hi := by
  obtain ⟨y, l, u, h1, h2, h3, h4⟩ := zbnt_ok hE h
  rw [zfi_eq, zfi_eq] at h2
  exact ⟨_, _, _, ⟨y, h1, rfl⟩, h2, by omega, by omega⟩
theorem zbd_at {ρ : List Int} {E : LE} (hE : zaE ρ E) {e : LX} {k : Int → Int → Bool} (h : zbd E e k = true) {x : Int} (hx : zxr ρ e x) : ∃ lo hi, k lo hi = true ∧ lo ≤ x ∧ x ≤ hi := by
  obtain ⟨z, lo, hi, h1, h2, h3, h4⟩ := zbd_ok hE h
  cases zxr_fun h1 hx
  exact ⟨lo, hi, h2, h3, h4⟩
/-- facts: expressions that aren't below 0 -/
def zaF (ρ : List Int) (F : List LX) : Prop := ∀ f ∈ F, ∃ z, zxr ρ f z ∧ 0 ≤ z
/-- expressions that aren't 0 -/
def zaN (ρ : List Int) (N : List LX) : Prop := ∀ f ∈ N, ∃ z, zxr ρ f z ∧ z ≠ 0
theorem zaF_mono {ρ l : List Int} {F : List LX} (h : zaF ρ F) : zaF (ρ ++ l) F := fun f hf => by
  obtain ⟨z, h1, h2⟩ := h f hf
  exact ⟨z, zxr_mono h1, h2⟩
theorem zaN_mono {ρ l : List Int} {F : List LX} (h : zaN ρ F) : zaN (ρ ++ l) F := fun f hf => by
  obtain ⟨z, h1, h2⟩ := h f hf
  exact ⟨z, zxr_mono h1, h2⟩
def zge0 (E : LE) (e : LX) : Bool := zbd E e (fun lo _ => zle 0 lo)
theorem zge0_ok {ρ : List Int} {E : LE} (hE : zaE ρ E) {e : LX} (h : zge0 E e = true) {x : Int} (hx : zxr ρ e x) : 0 ≤ x := by
  obtain ⟨lo, hi, h1, h2, h3⟩ := zbd_at hE h hx
  rw [zle_iff] at h1
  omega
/-- by one of the facts, n more after it -/
def zpr (E : LE) : List LX → Nat → LX → Bool
  | [], _, _ => false
  | _ :: _, 0, _ => false
  | f :: F, n + 1, g => (match zxsub g f (fun d => zge0 E d || zpr E F n d) with
    | true => true
    | false => zpr E F (n + 1) g)
theorem zpr_ok {ρ : List Int} {E : LE} (hE : zaE ρ E) : ∀ {F : List LX} {n : Nat} {g : LX} {x : Int}, zpr E F n g = true → zaF ρ F → zxr ρ g x → 0 ≤ x
  | [], _, _, _, h, _, _ => by simp [zpr] at h
  | f :: F, 0, _, _, h, _, _ => by simp [zpr] at h
  | f :: F, n + 1, g, x, h, hF, hx => by
    simp only [zpr] at h
    cases hc : zxsub g f (fun d => zge0 E d || zpr E F n d) with
    | true =>
      obtain ⟨z, h1, h2⟩ := hF f List.mem_cons_self
      obtain ⟨d, h3, h4⟩ := zxsub_ok hc hx h1
      rw [Bool.or_eq_true] at h3
      rcases h3 with h3 | h3
      · have := zge0_ok hE h3 h4; omega
      · have := zpr_ok hE h3 (fun f hf => hF f (List.mem_cons_of_mem _ hf)) h4; omega
    | false =>
      rw [hc] at h
      exact zpr_ok hE h (fun f hf => hF f (List.mem_cons_of_mem _ hf)) hx
def zprv (E : LE) (F : List LX) (g : LX) : Bool := zge0 E g || zpr E F 2 g
theorem zprv_ok {ρ : List Int} {E : LE} (hE : zaE ρ E) {F : List LX} {g : LX} {x : Int} (h : zprv E F g = true) (hF : zaF ρ F) (hx : zxr ρ g x) : 0 ≤ x := by
  unfold zprv at h
  rw [Bool.or_eq_true] at h
  rcases h with h | h
  · exact zge0_ok hE h hx
  · exact zpr_ok hE h hF hx
