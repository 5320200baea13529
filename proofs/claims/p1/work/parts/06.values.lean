/-! abstract values: int intervals (0), a symbol and an offset (1), long intervals (2), references (3), null (4), the script (5) -/
abbrev AV : Type := Nat × Int × Int
abbrev AE : Type := List (Int × Int)
def za (ρ : Nat → Int) (a : AV) (v : Value) : Prop := match a with
  | (0, lo, hi) => ∃ x : Int32, v = .int x ∧ lo ≤ x.toInt ∧ x.toInt ≤ hi
  | (1, i, o) => ∃ x : Int32, v = .int x ∧ x.toInt = ρ i.toNat + o
  | (2, lo, hi) => ∃ x : Int64, v = .long x ∧ lo ≤ x.toInt ∧ x.toInt ≤ hi
  | (3, i, _) => v = .ref i.toNat
  | (4, _, _) => v = .null
  | (5, _, _) => v = .float 0
  | _ => False
def zaE (ρ : Nat → Int) (E : AE) : Prop := ∀ (i : Nat) (q : Int × Int), E[i]? = some q → q.1 ≤ ρ i ∧ ρ i ≤ q.2
theorem zb_rng (x : Int32) : -2147483648 ≤ x.toInt ∧ x.toInt ≤ 2147483647 := by
  have h1 := Int32.le_toInt x
  have h2 := Int32.toInt_lt x
  omega
theorem zb_rngL (x : Int64) : -9223372036854775808 ≤ x.toInt ∧ x.toInt ≤ 9223372036854775807 := by
  have h1 := Int64.le_toInt x
  have h2 := Int64.toInt_lt x
  omega
theorem zb_add {x y : Int32} (h1 : -2147483648 ≤ x.toInt + y.toInt) (h2 : x.toInt + y.toInt ≤ 2147483647) : (x + y).toInt = x.toInt + y.toInt := by
  rw [Int32.toInt_add, Int.bmod_eq_of_le (by omega) (by omega)]
theorem zb_sub {x y : Int32} (h1 : -2147483648 ≤ x.toInt - y.toInt) (h2 : x.toInt - y.toInt ≤ 2147483647) : (x - y).toInt = x.toInt - y.toInt := by
  rw [Int32.toInt_sub, Int.bmod_eq_of_le (by omega) (by omega)]
theorem zb_mul {x y : Int32} (h1 : -2147483648 ≤ x.toInt * y.toInt) (h2 : x.toInt * y.toInt ≤ 2147483647) : (x * y).toInt = x.toInt * y.toInt := by
  rw [Int32.toInt_mul, Int.bmod_eq_of_le (by omega) (by omega)]
theorem zb_of {x : Int32} {z : Int} (h : x.toInt = z) : x = Int32.ofInt z := by rw [← h, Int32.ofInt_toInt]
theorem zb_z0 : Int32.ofInt 0 = 0 := by decide
theorem zb_ofL {x : Int64} {z : Int} (h : x.toInt = z) : x = Int64.ofInt z := by rw [← h, Int64.ofInt_toInt]
/-- numbers made small before they are kept -/
def zfn (n : Nat) (k : Nat → Bool) : Bool := match n with
  | 0 => k 0
  | m + 1 => k (Nat.succ m)
theorem zfn_eq (n : Nat) (k : Nat → Bool) : zfn n k = k n := by cases n <;> rfl
def zfi (x : Int) (k : Int → Bool) : Bool := match x with
  | .ofNat n => zfn n (fun n => k (.ofNat n))
  | .negSucc n => zfn n (fun n => k (.negSucc n))
theorem zfi_eq (x : Int) (k : Int → Bool) : zfi x k = k x := by cases x <;> simp [zfi, zfn_eq]
def zle (a b : Int) : Bool := match b - a with
  | .ofNat _ => true
  | .negSucc _ => false
theorem zle_iff {a b : Int} : zle a b = true ↔ a ≤ b := by
  unfold zle
  split
  · rename_i n h
    have h1 : b - a = (n : Int) := h
    simp only [true_iff]; omega
  · rename_i n h
    have h1 : b - a = Int.negSucc n := h
    have h2 := Int.negSucc_lt_zero n
    simp only [Bool.false_eq_true, false_iff]; omega
theorem zle_not {a b : Int} : zle a b = false ↔ b < a := by
  rw [← Bool.not_eq_true, zle_iff]; omega
def zeq (a b : Int) : Bool := zle a b && zle b a
theorem zeq_iff {a b : Int} : zeq a b = true ↔ a = b := by
  simp only [zeq, Bool.and_eq_true, zle_iff]; omega
def zgE (E : AE) (i : Nat) (k : Int → Int → Bool) : Bool := match E, i with
  | [], _ => false
  | q :: _, 0 => k q.1 q.2
  | _ :: E, i + 1 => zgE E i k
theorem zgE_ok : ∀ {E : AE} {i : Nat} {k : Int → Int → Bool}, zgE E i k = true → ∃ q, E[i]? = some q ∧ k q.1 q.2 = true
  | [], _, _, h => by simp [zgE] at h
  | q :: _, 0, _, h => ⟨q, rfl, h⟩
  | _ :: E, i + 1, k, h => by
    obtain ⟨q, h1, h2⟩ := zgE_ok (E := E) (i := i) (k := k) h
    exact ⟨q, by simpa using h1, h2⟩
/-- the interval of an int -/
def ziv (E : AE) (a : AV) (k : Int → Int → Bool) : Bool := match a with
  | (0, lo, hi) => k lo hi
  | (1, i, o) => zgE E i.toNat (fun lo hi => k (lo + o) (hi + o))
  | _ => false
theorem ziv_ok {ρ : Nat → Int} {E : AE} {a : AV} {k : Int → Int → Bool} {v : Value} (h : ziv E a k = true) (hE : zaE ρ E) (ha : za ρ a v) : ∃ (x : Int32) (lo hi : Int), v = .int x ∧ k lo hi = true ∧ lo ≤ x.toInt ∧ x.toInt ≤ hi := by
  unfold ziv at h
  split at h
  · obtain ⟨x, h1, h2, h3⟩ := ha
    exact ⟨x, _, _, h1, h, h2, h3⟩
  · obtain ⟨x, h1, h2⟩ := ha
    obtain ⟨q, g1, g2⟩ := zgE_ok h
    have g3 := hE _ _ g1
    exact ⟨x, _, _, h1, g2, by omega, by omega⟩
  · cases h
def zliv (a : AV) (k : Int → Int → Bool) : Bool := match a with
  | (2, lo, hi) => k lo hi
  | _ => false
theorem zliv_ok {ρ : Nat → Int} {a : AV} {k : Int → Int → Bool} {v : Value} (h : zliv a k = true) (ha : za ρ a v) : ∃ (x : Int64) (lo hi : Int), v = .long x ∧ k lo hi = true ∧ lo ≤ x.toInt ∧ x.toInt ≤ hi := by
  unfold zliv at h
  split at h
  · obtain ⟨x, h1, h2, h3⟩ := ha
    exact ⟨x, _, _, h1, h, h2, h3⟩
  · cases h
def zk0 (lo hi : Int) (k : AV → Bool) : Bool := zfi lo (fun lo => zfi hi (fun hi => k (0, lo, hi)))
theorem zk0_eq (lo hi : Int) (k : AV → Bool) : zk0 lo hi k = k (0, lo, hi) := by simp [zk0, zfi_eq]
def zk2 (lo hi : Int) (k : AV → Bool) : Bool := zfi lo (fun lo => zfi hi (fun hi => k (2, lo, hi)))
theorem zk2_eq (lo hi : Int) (k : AV → Bool) : zk2 lo hi k = k (2, lo, hi) := by simp [zk2, zfi_eq]
def zk1 (i o : Int) (k : AV → Bool) : Bool := zfi o (fun o => k (1, i, o))
theorem zk1_eq (i o : Int) (k : AV → Bool) : zk1 i o k = k (1, i, o) := by simp [zk1, zfi_eq]
def ztop (k : AV → Bool) : Bool := k (0, -2147483648, 2147483647)
def ztopL (k : AV → Bool) : Bool := k (2, -9223372036854775808, 9223372036854775807)
theorem za_top (ρ : Nat → Int) (x : Int32) : za ρ (0, -2147483648, 2147483647) (.int x) := ⟨x, rfl, (zb_rng x).1, (zb_rng x).2⟩
theorem za_topL (ρ : Nat → Int) (x : Int64) : za ρ (2, -9223372036854775808, 9223372036854775807) (.long x) := ⟨x, rfl, (zb_rngL x).1, (zb_rngL x).2⟩
/-- what a two-sided int operation must do -/
def zO2 (F : AE → AV → AV → (AV → Bool) → Bool) (op : Int32 → Int32 → Int32) : Prop := ∀ (ρ : Nat → Int) (E : AE) (a b : AV) (k : AV → Bool) (v w : Value), F E a b k = true → zaE ρ E → za ρ a v → za ρ b w → ∃ (x y : Int32) (r : AV), v = .int x ∧ w = .int y ∧ k r = true ∧ za ρ r (.int (op x y))
def zO2L (F : AV → AV → (AV → Bool) → Bool) (op : Int64 → Int64 → Int64) : Prop := ∀ (ρ : Nat → Int) (a b : AV) (k : AV → Bool) (v w : Value), F a b k = true → za ρ a v → za ρ b w → ∃ (x y : Int64) (r : AV), v = .long x ∧ w = .long y ∧ k r = true ∧ za ρ r (.long (op x y))
/-- by the numbers themselves where both are known, else by the rule sp -/
def zbin (op : Int32 → Int32 → Int32) (sp : AE → AV → AV → (AV → Bool) → Bool) (E : AE) (a b : AV) (k : AV → Bool) : Bool :=
  ziv E a (fun l1 h1 => ziv E b (fun l2 h2 => match zeq l1 h1 && zeq l2 h2 with
    | true => zfi (op (Int32.ofInt l1) (Int32.ofInt l2)).toInt (fun r => k (0, r, r))
    | false => sp E a b k))
theorem zbin_ok {op : Int32 → Int32 → Int32} {sp : AE → AV → AV → (AV → Bool) → Bool} (hsp : zO2 sp op) : zO2 (zbin op sp) op := by
  intro ρ E a b k v w h hE ha hb
  obtain ⟨x, l1, h1, rfl, g1, g2, g3⟩ := ziv_ok h hE ha
  obtain ⟨y, l2, h2, rfl, g4, g5, g6⟩ := ziv_ok g1 hE hb
  split at g4
  · rename_i hz
    simp only [Bool.and_eq_true, zeq_iff] at hz
    rw [zfi_eq] at g4
    have ex : x = Int32.ofInt l1 := zb_of (by omega)
    have ey : y = Int32.ofInt l2 := zb_of (by omega)
    refine ⟨x, y, _, rfl, rfl, g4, ?_⟩
    rw [ex, ey]
    exact ⟨_, rfl, Int.le_refl _, Int.le_refl _⟩
  · exact hsp ρ E a b k _ _ g4 hE ha hb
def ztop2 (_ : AE) (a b : AV) (k : AV → Bool) : Bool := match a.1, b.1 with
  | 0, 0 => ztop k
  | 0, 1 => ztop k
  | 1, 0 => ztop k
  | 1, 1 => ztop k
  | _, _ => false
theorem zint_of {ρ : Nat → Int} {a : AV} {v : Value} (h : a.1 = 0 ∨ a.1 = 1) (ha : za ρ a v) : ∃ x : Int32, v = .int x := by
  obtain ⟨t, lo, hi⟩ := a
  rcases h with h | h <;> (simp only at h; subst h)
  · obtain ⟨x, h1, -⟩ := ha; exact ⟨x, h1⟩
  · obtain ⟨x, h1, -⟩ := ha; exact ⟨x, h1⟩
theorem ztop2_ok (op : Int32 → Int32 → Int32) : zO2 ztop2 op := by
  intro ρ E a b k v w h hE ha hb
  have hk : (a.1 = 0 ∨ a.1 = 1) ∧ (b.1 = 0 ∨ b.1 = 1) ∧ ztop k = true := by
    unfold ztop2 at h
    split at h
    · rename_i e1 e2; exact ⟨Or.inl e1, Or.inl e2, h⟩
    · rename_i e1 e2; exact ⟨Or.inl e1, Or.inr e2, h⟩
    · rename_i e1 e2; exact ⟨Or.inr e1, Or.inl e2, h⟩
    · rename_i e1 e2; exact ⟨Or.inr e1, Or.inr e2, h⟩
    · cases h
  obtain ⟨x, rfl⟩ := zint_of hk.1 ha
  obtain ⟨y, rfl⟩ := zint_of hk.2.1 hb
  exact ⟨x, y, _, rfl, rfl, hk.2.2, za_top ρ _⟩
def zadd (E : AE) (a b : AV) (k : AV → Bool) : Bool :=
  ziv E a (fun l1 h1 => ziv E b (fun l2 h2 => match zle (-2147483648) (l1 + l2) && zle (h1 + h2) 2147483647 with
    | true => (match a, b with
      | (1, i, o), (0, c, d) => (match zeq c d with | true => zk1 i (o + c) k | false => zk0 (l1 + l2) (h1 + h2) k)
      | (0, c, d), (1, i, o) => (match zeq c d with | true => zk1 i (o + c) k | false => zk0 (l1 + l2) (h1 + h2) k)
      | _, _ => zk0 (l1 + l2) (h1 + h2) k)
    | false => ztop k))
theorem zadd_ok : zO2 zadd (fun x y => x + y) := by
  intro ρ E a b k v w h hE ha hb
  obtain ⟨x, l1, h1, rfl, g1, g2, g3⟩ := ziv_ok h hE ha
  obtain ⟨y, l2, h2, rfl, g4, g5, g6⟩ := ziv_ok g1 hE hb
  split at g4
  · rename_i hz
    simp only [Bool.and_eq_true, zle_iff] at hz
    have es : (x + y).toInt = x.toInt + y.toInt := zb_add (by omega) (by omega)
    have hg : zk0 (l1 + l2) (h1 + h2) k = true → ∃ (x' y' : Int32) (r : AV), Value.int x = .int x' ∧ Value.int y = .int y' ∧ k r = true ∧ za ρ r (.int (x' + y')) := by
      intro h
      rw [zk0_eq] at h
      exact ⟨x, y, _, rfl, rfl, h, x + y, rfl, by omega, by omega⟩
    split at g4
    · rename_i i o c d
      split at g4
      · rename_i hc
        rw [zeq_iff] at hc
        rw [zk1_eq] at g4
        obtain ⟨x', q1, q2⟩ := ha
        obtain ⟨y', q3, q4, q5⟩ := hb
        cases q1; cases q3
        exact ⟨x, y, _, rfl, rfl, g4, x + y, rfl, by rw [es]; omega⟩
      · exact hg g4
    · rename_i c d i o
      split at g4
      · rename_i hc
        rw [zeq_iff] at hc
        rw [zk1_eq] at g4
        obtain ⟨x', q1, q2⟩ := hb
        obtain ⟨y', q3, q4, q5⟩ := ha
        cases q1; cases q3
        exact ⟨x, y, _, rfl, rfl, g4, x + y, rfl, by rw [es]; omega⟩
      · exact hg g4
    · exact hg g4
  · exact ⟨x, y, _, rfl, rfl, g4, za_top ρ _⟩
def zsub (E : AE) (a b : AV) (k : AV → Bool) : Bool :=
  ziv E a (fun l1 h1 => ziv E b (fun l2 h2 => match zle (-2147483648) (l1 - h2) && zle (h1 - l2) 2147483647 with
    | true => (match a, b with
      | (1, i, o), (0, c, d) => (match zeq c d with | true => zk1 i (o - c) k | false => zk0 (l1 - h2) (h1 - l2) k)
      | _, _ => zk0 (l1 - h2) (h1 - l2) k)
    | false => ztop k))
theorem zsub_ok : zO2 zsub (fun x y => x - y) := by
  intro ρ E a b k v w h hE ha hb
  obtain ⟨x, l1, h1, rfl, g1, g2, g3⟩ := ziv_ok h hE ha
  obtain ⟨y, l2, h2, rfl, g4, g5, g6⟩ := ziv_ok g1 hE hb
  split at g4
  · rename_i hz
    simp only [Bool.and_eq_true, zle_iff] at hz
    have es : (x - y).toInt = x.toInt - y.toInt := zb_sub (by omega) (by omega)
    have hg : zk0 (l1 - h2) (h1 - l2) k = true → ∃ (x' y' : Int32) (r : AV), Value.int x = .int x' ∧ Value.int y = .int y' ∧ k r = true ∧ za ρ r (.int (x' - y')) := by
      intro h
      rw [zk0_eq] at h
      exact ⟨x, y, _, rfl, rfl, h, x - y, rfl, by omega, by omega⟩
    split at g4
    · rename_i i o c d
      split at g4
      · rename_i hc
        rw [zeq_iff] at hc
        rw [zk1_eq] at g4
        obtain ⟨x', q1, q2⟩ := ha
        obtain ⟨y', q3, q4, q5⟩ := hb
        cases q1; cases q3
        exact ⟨x, y, _, rfl, rfl, g4, x - y, rfl, by rw [es]; omega⟩
      · exact hg g4
    · exact hg g4
  · exact ⟨x, y, _, rfl, rfl, g4, za_top ρ _⟩
/-- a product of what isn't below 0 -/
def zmulS (E : AE) (a b : AV) (k : AV → Bool) : Bool :=
  ziv E a (fun l1 h1 => ziv E b (fun l2 h2 => match zle 0 l1 && (zle 0 l2 && zle (h1 * h2) 2147483647) with
    | true => zk0 (l1 * l2) (h1 * h2) k
    | false => ztop k))
theorem zmulS_ok : zO2 zmulS (fun x y => x * y) := by
  intro ρ E a b k v w h hE ha hb
  obtain ⟨x, l1, h1, rfl, g1, g2, g3⟩ := ziv_ok h hE ha
  obtain ⟨y, l2, h2, rfl, g4, g5, g6⟩ := ziv_ok g1 hE hb
  split at g4
  · rename_i hz
    simp only [Bool.and_eq_true, zle_iff] at hz
    rw [zk0_eq] at g4
    have b1 : l1 * l2 ≤ x.toInt * y.toInt := Int.mul_le_mul g2 g5 hz.2.1 (by omega)
    have b2 : x.toInt * y.toInt ≤ h1 * h2 := Int.mul_le_mul g3 g6 (by omega) (by omega)
    have b3 : 0 ≤ l1 * l2 := Int.mul_nonneg hz.1 hz.2.1
    have es : (x * y).toInt = x.toInt * y.toInt := zb_mul (by omega) (by omega)
    exact ⟨x, y, _, rfl, rfl, g4, x * y, rfl, by rw [es]; exact b1, by rw [es]; exact b2⟩
  · exact ⟨x, y, _, rfl, rfl, g4, za_top ρ _⟩
theorem zb_and0 {x y : Int32} (h : 0 ≤ y.toInt) : 0 ≤ (x &&& y).toInt ∧ (x &&& y).toInt ≤ y.toInt := by
  have e1 : (x &&& y).toBitVec = x.toBitVec &&& y.toBitVec := rfl
  have hy : y.toInt = (y.toBitVec.toNat : Int) ∧ 2 * y.toBitVec.toNat < 2 ^ 32 := by
    have h1 : y.toInt = y.toBitVec.toInt := rfl
    rw [h1, BitVec.toInt_eq_toNat_cond] at h ⊢
    split
    · rename_i h2; exact ⟨rfl, h2⟩
    · rename_i h2; rw [if_neg h2] at h
      have := y.toBitVec.isLt
      omega
  have hle : (x &&& y).toBitVec.toNat ≤ y.toBitVec.toNat := by
    rw [e1, BitVec.toNat_and]
    exact Nat.and_le_right
  have h3 : (x &&& y).toInt = ((x &&& y).toBitVec.toNat : Int) := by
    have h4 : (x &&& y).toInt = (x &&& y).toBitVec.toInt := rfl
    rw [h4, BitVec.toInt_eq_toNat_cond, if_pos (by omega)]
  omega
theorem zb_andm1 (x : Int32) : x &&& (Int32.ofInt (-1)) = x := by
  apply Int32.toBitVec_inj.1
  show x.toBitVec &&& (Int32.ofInt (-1)).toBitVec = x.toBitVec
  rw [show (Int32.ofInt (-1)).toBitVec = BitVec.allOnes 32 from by decide]
  exact BitVec.and_allOnes
theorem zb_andC (x y : Int32) : x &&& y = y &&& x := Int32.and_comm x y
def zand3 (l1 h1 l2 h2 : Int) (k : AV → Bool) : Bool := match zle 0 l1 && zle h1 h2 with
  | true => zk0 0 h1 k
  | false => (match zle 0 l2 with | true => zk0 0 h2 k | false => (match zle 0 l1 with | true => zk0 0 h1 k | false => ztop k))
def zandS (E : AE) (a b : AV) (k : AV → Bool) : Bool :=
  ziv E a (fun l1 h1 => ziv E b (fun l2 h2 => match zeq l2 (-1) && zeq h2 (-1) with
    | true => k a
    | false => (match zeq l1 (-1) && zeq h1 (-1) with
      | true => k b
      | false => (match a, b with
        | (1, i, o), (1, j, q) => (match zeq i j && zeq o q with
          | true => k a
          | false => zand3 l1 h1 l2 h2 k)
        | _, _ => zand3 l1 h1 l2 h2 k))))
theorem zandS_ok : zO2 zandS (fun x y => x &&& y) := by
  intro ρ E a b k v w h hE ha hb
  obtain ⟨x, l1, h1, rfl, g1, g2, g3⟩ := ziv_ok h hE ha
  obtain ⟨y, l2, h2, rfl, g4, g5, g6⟩ := ziv_ok g1 hE hb
  have hg : zand3 l1 h1 l2 h2 k = true → ∃ (x' y' : Int32) (r : AV), Value.int x = .int x' ∧ Value.int y = .int y' ∧ k r = true ∧ za ρ r (.int (x' &&& y')) := by
    intro h
    unfold zand3 at h
    split at h
    · rename_i hz
      simp only [Bool.and_eq_true, zle_iff] at hz
      rw [zk0_eq] at h
      have h9 := zb_and0 (x := y) (y := x) (by omega)
      rw [zb_andC y x] at h9
      exact ⟨x, y, _, rfl, rfl, h, _, rfl, h9.1, by omega⟩
    · split at h
      · rename_i hz
        rw [zle_iff] at hz
        rw [zk0_eq] at h
        have h9 := zb_and0 (x := x) (y := y) (by omega)
        exact ⟨x, y, _, rfl, rfl, h, _, rfl, h9.1, by omega⟩
      · split at h
        · rename_i hz
          rw [zle_iff] at hz
          rw [zk0_eq] at h
          have h9 := zb_and0 (x := y) (y := x) (by omega)
          rw [zb_andC y x] at h9
          exact ⟨x, y, _, rfl, rfl, h, _, rfl, h9.1, by omega⟩
        · exact ⟨x, y, _, rfl, rfl, h, za_top ρ _⟩
  split at g4
  · rename_i hz
    simp only [Bool.and_eq_true, zeq_iff] at hz
    have ey : y = Int32.ofInt (-1) := zb_of (by omega)
    refine ⟨x, y, a, rfl, rfl, g4, ?_⟩
    show za ρ a (.int (x &&& y))
    rw [ey, zb_andm1]; exact ha
  · split at g4
    · rename_i hz
      simp only [Bool.and_eq_true, zeq_iff] at hz
      have ex : x = Int32.ofInt (-1) := zb_of (by omega)
      refine ⟨x, y, b, rfl, rfl, g4, ?_⟩
      show za ρ b (.int (x &&& y))
      rw [ex, zb_andC, zb_andm1]; exact hb
    · split at g4
      · rename_i i o j q
        split at g4
        · rename_i hc
          simp only [Bool.and_eq_true, zeq_iff] at hc
          obtain ⟨x', q1, q2⟩ := ha
          obtain ⟨y', q3, q4⟩ := hb
          cases q1; cases q3
          have exy : x = y := Int32.toInt_inj.1 (by rw [q2, q4, hc.1, hc.2])
          subst exy
          refine ⟨x, x, _, rfl, rfl, g4, x &&& x, rfl, ?_⟩
          rw [Int32.and_self]; exact q2
        · exact hg g4
      · exact hg g4
/-- or with 0, shift by 0: the other itself -/
def zorS (E : AE) (a b : AV) (k : AV → Bool) : Bool :=
  ziv E a (fun l1 h1 => ziv E b (fun l2 h2 => match zeq l2 0 && zeq h2 0 with
    | true => k a
    | false => (match zeq l1 0 && zeq h1 0 with
      | true => k b
      | false => ztop k)))
theorem zorS_ok : zO2 zorS (fun x y => x ||| y) := by
  intro ρ E a b k v w h hE ha hb
  obtain ⟨x, l1, h1, rfl, g1, g2, g3⟩ := ziv_ok h hE ha
  obtain ⟨y, l2, h2, rfl, g4, g5, g6⟩ := ziv_ok g1 hE hb
  split at g4
  · rename_i hz
    simp only [Bool.and_eq_true, zeq_iff] at hz
    have ey : y = 0 := (zb_of (z := 0) (by omega)).trans zb_z0
    refine ⟨x, y, a, rfl, rfl, g4, ?_⟩
    show za ρ a (.int (x ||| y))
    rw [ey, Int32.or_zero]; exact ha
  · split at g4
    · rename_i hz
      simp only [Bool.and_eq_true, zeq_iff] at hz
      have ex : x = 0 := (zb_of (z := 0) (by omega)).trans zb_z0
      refine ⟨x, y, b, rfl, rfl, g4, ?_⟩
      show za ρ b (.int (x ||| y))
      rw [ex, Int32.zero_or]; exact hb
    · exact ⟨x, y, _, rfl, rfl, g4, za_top ρ _⟩
def zshS (E : AE) (a b : AV) (k : AV → Bool) : Bool :=
  ziv E a (fun _ _ => ziv E b (fun l2 h2 => match zeq l2 0 && zeq h2 0 with
    | true => k a
    | false => ztop k))
theorem zshS_ok (op : Int32 → Int32 → Int32) (h0 : ∀ x, op x 0 = x) : zO2 zshS op := by
  intro ρ E a b k v w h hE ha hb
  obtain ⟨x, l1, h1, rfl, g1, g2, g3⟩ := ziv_ok h hE ha
  obtain ⟨y, l2, h2, rfl, g4, g5, g6⟩ := ziv_ok g1 hE hb
  split at g4
  · rename_i hz
    simp only [Bool.and_eq_true, zeq_iff] at hz
    have ey : y = 0 := (zb_of (z := 0) (by omega)).trans zb_z0
    refine ⟨x, y, a, rfl, rfl, g4, ?_⟩
    rw [ey, h0]; exact ha
  · exact ⟨x, y, _, rfl, rfl, g4, za_top ρ _⟩
theorem zb_shl0 (x : Int32) : x <<< ((0 : Int32) &&& 31) = x := by
  apply Int32.toBitVec_inj.1
  show x.toBitVec <<< (((0 : Int32) &&& 31).toBitVec.smod 32) = x.toBitVec
  rw [show (((0 : Int32) &&& 31).toBitVec.smod 32) = 0#32 from by decide]
  simp
theorem zb_shr0 (x : Int32) : x >>> ((0 : Int32) &&& 31) = x := by
  apply Int32.toBitVec_inj.1
  show BitVec.sshiftRight' x.toBitVec (((0 : Int32) &&& 31).toBitVec.smod 32) = x.toBitVec
  rw [show (((0 : Int32) &&& 31).toBitVec.smod 32) = 0#32 from by decide]
  simp
/-- longs: known numbers, else whatever -/
def zbinL (op : Int64 → Int64 → Int64) (sp : AV → AV → (AV → Bool) → Bool) (a b : AV) (k : AV → Bool) : Bool :=
  zliv a (fun l1 h1 => zliv b (fun l2 h2 => match zeq l1 h1 && zeq l2 h2 with
    | true => zfi (op (Int64.ofInt l1) (Int64.ofInt l2)).toInt (fun r => k (2, r, r))
    | false => sp a b k))
theorem zbinL_ok {op : Int64 → Int64 → Int64} {sp : AV → AV → (AV → Bool) → Bool} (hsp : zO2L sp op) : zO2L (zbinL op sp) op := by
  intro ρ a b k v w h ha hb
  obtain ⟨x, l1, h1, rfl, g1, g2, g3⟩ := zliv_ok h ha
  obtain ⟨y, l2, h2, rfl, g4, g5, g6⟩ := zliv_ok g1 hb
  split at g4
  · rename_i hz
    simp only [Bool.and_eq_true, zeq_iff] at hz
    rw [zfi_eq] at g4
    have ex : x = Int64.ofInt l1 := zb_ofL (by omega)
    have ey : y = Int64.ofInt l2 := zb_ofL (by omega)
    refine ⟨x, y, _, rfl, rfl, g4, ?_⟩
    rw [ex, ey]
    exact ⟨_, rfl, Int.le_refl _, Int.le_refl _⟩
  · exact hsp ρ a b k _ _ g4 ha hb
def ztopS (a b : AV) (k : AV → Bool) : Bool := zliv a (fun _ _ => zliv b (fun _ _ => ztopL k))
theorem ztopS_ok (op : Int64 → Int64 → Int64) : zO2L ztopS op := by
  intro ρ a b k v w h ha hb
  obtain ⟨x, l1, h1, rfl, g1, g2, g3⟩ := zliv_ok h ha
  obtain ⟨y, l2, h2, rfl, g4, g5, g6⟩ := zliv_ok g1 hb
  exact ⟨x, y, _, rfl, rfl, g4, za_topL ρ _⟩
theorem zb_and0L {x y : Int64} (h : 0 ≤ y.toInt) : 0 ≤ (x &&& y).toInt ∧ (x &&& y).toInt ≤ y.toInt := by
  have e1 : (x &&& y).toBitVec = x.toBitVec &&& y.toBitVec := rfl
  have hy : y.toInt = (y.toBitVec.toNat : Int) ∧ 2 * y.toBitVec.toNat < 2 ^ 64 := by
    have h1 : y.toInt = y.toBitVec.toInt := rfl
    rw [h1, BitVec.toInt_eq_toNat_cond] at h ⊢
    split
    · rename_i h2; exact ⟨rfl, h2⟩
    · rename_i h2; rw [if_neg h2] at h
      have := y.toBitVec.isLt
      omega
  have hle : (x &&& y).toBitVec.toNat ≤ y.toBitVec.toNat := by
    rw [e1, BitVec.toNat_and]
    exact Nat.and_le_right
  have h3 : (x &&& y).toInt = ((x &&& y).toBitVec.toNat : Int) := by
    have h4 : (x &&& y).toInt = (x &&& y).toBitVec.toInt := rfl
    rw [h4, BitVec.toInt_eq_toNat_cond, if_pos (by omega)]
  omega
def zandL (a b : AV) (k : AV → Bool) : Bool := zliv a (fun _ _ => zliv b (fun l2 h2 => match zle 0 l2 with | true => zk2 0 h2 k | false => ztopL k))
theorem zandL_ok : zO2L zandL (fun x y => x &&& y) := by
  intro ρ a b k v w h ha hb
  obtain ⟨x, l1, h1, rfl, g1, g2, g3⟩ := zliv_ok h ha
  obtain ⟨y, l2, h2, rfl, g4, g5, g6⟩ := zliv_ok g1 hb
  split at g4
  · rename_i hz
    rw [zle_iff] at hz
    rw [zk2_eq] at g4
    have h9 := zb_and0L (x := x) (y := y) (by omega)
    exact ⟨x, y, _, rfl, rfl, g4, _, rfl, h9.1, Int.le_trans h9.2 g6⟩
  · exact ⟨x, y, _, rfl, rfl, g4, za_topL ρ _⟩
