/-! abstract instructions on the stack and the locals, in passing style; what they show of the machine -/
abbrev ZG : Type := Heap → List Loc → Nat → Nat → Nat → Array Slot → List Value → Prop
abbrev ZK : Type := Nat → AL → List AV → AH → AE → Nat → Nat → Bool
def zS (G : ZG) (D : va_G) (B : zB) (tA : Nat → ClassId) (H0 : Heap) (nL : Nat) (ρ : Nat → Int) (pc : Nat) (A : AL) (S : List AV) (h : AH) (E : AE) (c s : Nat) : Prop :=
  zaE ρ E → ∀ (L : zL) (st : List Value) (hp : List zhE), zaL ρ A L → zaS ρ S st → zaH ρ h hp → ∀ (H : Heap) (locs : List Loc) (ls : Array Slot), zH D B tA H0 hp H → (∀ q ∈ locs, B.1 ≤ q.base) → lv_has ls nL (zmL B L) → G H locs c s pc ls (st.map (zvm B))
def zKS (G : ZG) (D : va_G) (B : zB) (tA : Nat → ClassId) (H0 : Heap) (nL : Nat) (ρ : Nat → Int) (K : ZK) : Prop :=
  ∀ pc A S h E c s, K pc A S h E c s = true → zS G D B tA H0 nL ρ pc A S h E c s
section ZOP
variable {G : ZG} {D : va_G} {B : zB} {tA : Nat → ClassId} {H0 : Heap} {nL : Nat} {ρ : Nat → Int} {K : ZK} {pc : Nat} {A : AL} {S : List AV} {h : AH} {E : AE} {c s : Nat}
def zo_push (n : Nat) (a : AV) (pc : Nat) (A : AL) (S : List AV) (h : AH) (E : AE) (c s : Nat) (K : ZK) : Bool := zfn (pc + n) (fun pc => K pc A (a :: S) h E c s)
theorem zs_push {n : Nat} {a : AV} {v : Value} (hz : zo_push n a pc A S h E c s K = true) (hK : zKS G D B tA H0 nL ρ K) (ha : za ρ a v)
    (row : ∀ H locs ls st, G H locs c s (pc + n) ls (zvm B v :: st) → G H locs c s pc ls st) : zS G D B tA H0 nL ρ pc A S h E c s := by
  intro hE L st hp hL hS hH H locs ls h1 h2 h3
  unfold zo_push at hz
  rw [zfn_eq] at hz
  exact row _ _ _ _ (hK _ _ _ _ _ _ _ hz hE L (v :: st) hp hL ⟨ha, hS⟩ hH H locs ls h1 h2 h3)
def zo_pushI (n : Nat) (x : Int32) (pc : Nat) (A : AL) (S : List AV) (h : AH) (E : AE) (c s : Nat) (K : ZK) : Bool := zfi x.toInt (fun r => zo_push n (0, r, r) pc A S h E c s K)
theorem zs_pushI {n : Nat} {x : Int32} (hz : zo_pushI n x pc A S h E c s K = true) (hK : zKS G D B tA H0 nL ρ K)
    (row : ∀ H locs ls st, G H locs c s (pc + n) ls (.int x :: st) → G H locs c s pc ls st) : zS G D B tA H0 nL ρ pc A S h E c s := by
  unfold zo_pushI at hz
  rw [zfi_eq] at hz
  exact zs_push (v := .int x) hz hK ⟨x, rfl, Int.le_refl _, Int.le_refl _⟩ row
def zo_pushL (n : Nat) (x : Int64) (pc : Nat) (A : AL) (S : List AV) (h : AH) (E : AE) (c s : Nat) (K : ZK) : Bool := zfi x.toInt (fun r => zo_push n (2, r, r) pc A S h E c s K)
theorem zs_pushL {n : Nat} {x : Int64} (hz : zo_pushL n x pc A S h E c s K = true) (hK : zKS G D B tA H0 nL ρ K)
    (row : ∀ H locs ls st, G H locs c s (pc + n) ls (.long x :: st) → G H locs c s pc ls st) : zS G D B tA H0 nL ρ pc A S h E c s := by
  unfold zo_pushL at hz
  rw [zfi_eq] at hz
  exact zs_push (v := .long x) hz hK ⟨x, rfl, Int.le_refl _, Int.le_refl _⟩ row
def zo_bin (F : AE → AV → AV → (AV → Bool) → Bool) (pc : Nat) (A : AL) (S : List AV) (h : AH) (E : AE) (c s : Nat) (K : ZK) : Bool := match S with
  | y :: x :: S => F E x y (fun r => zfn (pc + 1) (fun pc => K pc A (r :: S) h E c s))
  | _ => false
theorem zs_bin {F : AE → AV → AV → (AV → Bool) → Bool} {op : Int32 → Int32 → Int32} (hF : zO2 F op) (hz : zo_bin F pc A S h E c s K = true) (hK : zKS G D B tA H0 nL ρ K)
    (row : ∀ H locs ls st x y, G H locs c s (pc + 1) ls (.int (op x y) :: st) → G H locs c s pc ls (.int y :: .int x :: st)) : zS G D B tA H0 nL ρ pc A S h E c s := by
  intro hE L st hp hL hS hH H locs ls h1 h2 h3
  unfold zo_bin at hz
  split at hz
  · match st, hS with
    | w :: v :: st, hS =>
      obtain ⟨x, y, r, rfl, rfl, g1, g2⟩ := hF ρ E _ _ _ _ _ hz hE hS.2.1 hS.1
      rw [zfn_eq] at g1
      exact row _ _ _ _ _ _ (hK _ _ _ _ _ _ _ g1 hE L (_ :: st) hp hL ⟨g2, hS.2.2⟩ hH H locs ls h1 h2 h3)
    | [], hS => exact hS.elim
    | [_], hS => exact hS.2.elim
  · cases hz
def zo_binL (F : AV → AV → (AV → Bool) → Bool) (pc : Nat) (A : AL) (S : List AV) (h : AH) (E : AE) (c s : Nat) (K : ZK) : Bool := match S with
  | y :: x :: S => F x y (fun r => zfn (pc + 1) (fun pc => K pc A (r :: S) h E c s))
  | _ => false
theorem zs_binL {F : AV → AV → (AV → Bool) → Bool} {op : Int64 → Int64 → Int64} (hF : zO2L F op) (hz : zo_binL F pc A S h E c s K = true) (hK : zKS G D B tA H0 nL ρ K)
    (row : ∀ H locs ls st x y, G H locs c s (pc + 1) ls (.long (op x y) :: st) → G H locs c s pc ls (.long y :: .long x :: st)) : zS G D B tA H0 nL ρ pc A S h E c s := by
  intro hE L st hp hL hS hH H locs ls h1 h2 h3
  unfold zo_binL at hz
  split at hz
  · match st, hS with
    | w :: v :: st, hS =>
      obtain ⟨x, y, r, rfl, rfl, g1, g2⟩ := hF ρ _ _ _ _ _ hz hS.2.1 hS.1
      rw [zfn_eq] at g1
      exact row _ _ _ _ _ _ (hK _ _ _ _ _ _ _ g1 hE L (_ :: st) hp hL ⟨g2, hS.2.2⟩ hH H locs ls h1 h2 h3)
    | [], hS => exact hS.elim
    | [_], hS => exact hS.2.elim
  · cases hz
/-- one value made of one -/
def zO1 (F : AE → AV → (AV → Bool) → Bool) (R : Value → Value → Prop) : Prop := ∀ (ρ : Nat → Int) (E : AE) (a : AV) (k : AV → Bool) (v : Value), F E a k = true → zaE ρ E → za ρ a v → ∃ (w : Value) (r : AV), R v w ∧ k r = true ∧ za ρ r w
def zo_un (F : AE → AV → (AV → Bool) → Bool) (pc : Nat) (A : AL) (S : List AV) (h : AH) (E : AE) (c s : Nat) (K : ZK) : Bool := match S with
  | x :: S => F E x (fun r => zfn (pc + 1) (fun pc => K pc A (r :: S) h E c s))
  | _ => false
theorem zs_un {F : AE → AV → (AV → Bool) → Bool} {R : Value → Value → Prop} (hF : zO1 F R) (hz : zo_un F pc A S h E c s K = true) (hK : zKS G D B tA H0 nL ρ K)
    (row : ∀ H locs ls st v w, R v w → G H locs c s (pc + 1) ls (zvm B w :: st) → G H locs c s pc ls (zvm B v :: st)) : zS G D B tA H0 nL ρ pc A S h E c s := by
  intro hE L st hp hL hS hH H locs ls h1 h2 h3
  unfold zo_un at hz
  split at hz
  · match st, hS with
    | v :: st, hS =>
      obtain ⟨w, r, g0, g1, g2⟩ := hF ρ E _ _ _ hz hE hS.1
      rw [zfn_eq] at g1
      exact row _ _ _ _ _ _ g0 (hK _ _ _ _ _ _ _ g1 hE L (w :: st) hp hL ⟨g2, hS.2⟩ hH H locs ls h1 h2 h3)
    | [], hS => exact hS.elim
  · cases hz
def zu_neg (E : AE) (a : AV) (k : AV → Bool) : Bool := ziv E a (fun l h => match zle (-2147483647) l with | true => zk0 (-h) (-l) k | false => ztop k)
theorem zu_neg_ok : zO1 zu_neg (fun v w => ∃ x : Int32, v = .int x ∧ w = .int (-x)) := by
  intro ρ E a k v h hE ha
  obtain ⟨x, l1, h1, rfl, g1, g2, g3⟩ := ziv_ok h hE ha
  split at g1
  · rename_i hz
    rw [zle_iff] at hz
    rw [zk0_eq] at g1
    have hr := zb_rng x
    have e : (-x).toInt = -x.toInt := by rw [Int32.toInt_neg, Int.bmod_eq_of_le (by omega) (by omega)]
    exact ⟨_, _, ⟨x, rfl, rfl⟩, g1, -x, rfl, by omega, by omega⟩
  · exact ⟨_, _, ⟨x, rfl, rfl⟩, g1, za_top ρ _⟩
def zu_i2b (E : AE) (a : AV) (k : AV → Bool) : Bool := ziv E a (fun l h => match zle (-128) l && zle h 127 with | true => k a | false => k (0, -128, 127))
theorem zb_byte {x : Int32} (h1 : -128 ≤ x.toInt) (h2 : x.toInt ≤ 127) : x.toInt8.toInt32 = x := by
  apply Int32.toInt_inj.1
  rw [Int8.toInt_toInt32, Int32.toInt_toInt8, Int.bmod_eq_of_le (by omega) (by omega)]
theorem zb_byteR (x : Int32) : -128 ≤ x.toInt8.toInt32.toInt ∧ x.toInt8.toInt32.toInt ≤ 127 := by
  rw [Int8.toInt_toInt32]
  have h1 := Int8.le_toInt x.toInt8
  have h2 := Int8.toInt_lt x.toInt8
  omega
theorem zu_i2b_ok : zO1 zu_i2b (fun v w => ∃ x : Int32, v = .int x ∧ w = .int x.toInt8.toInt32) := by
  intro ρ E a k v h hE ha
  obtain ⟨x, l1, h1, rfl, g1, g2, g3⟩ := ziv_ok h hE ha
  split at g1
  · rename_i hz
    simp only [Bool.and_eq_true, zle_iff] at hz
    refine ⟨_, _, ⟨x, rfl, rfl⟩, g1, ?_⟩
    rw [zb_byte (by omega) (by omega)]
    exact ha
  · exact ⟨_, _, ⟨x, rfl, rfl⟩, g1, _, rfl, (zb_byteR x).1, (zb_byteR x).2⟩
def zu_i2l (E : AE) (a : AV) (k : AV → Bool) : Bool := ziv E a (fun l h => zk2 l h k)
theorem zu_i2l_ok : zO1 zu_i2l (fun v w => ∃ x : Int32, v = .int x ∧ w = .long x.toInt64) := by
  intro ρ E a k v h hE ha
  obtain ⟨x, l1, h1, rfl, g1, g2, g3⟩ := ziv_ok h hE ha
  rw [zk2_eq] at g1
  exact ⟨_, _, ⟨x, rfl, rfl⟩, g1, _, rfl, by rw [Int32.toInt_toInt64]; exact g2, by rw [Int32.toInt_toInt64]; exact g3⟩
def zu_l2i (_ : AE) (a : AV) (k : AV → Bool) : Bool := zliv a (fun l h => match zle (-2147483648) l && zle h 2147483647 with | true => zk0 l h k | false => ztop k)
theorem zu_l2i_ok : zO1 zu_l2i (fun v w => ∃ x : Int64, v = .long x ∧ w = .int x.toInt32) := by
  intro ρ E a k v h hE ha
  obtain ⟨x, l1, h1, rfl, g1, g2, g3⟩ := zliv_ok h ha
  split at g1
  · rename_i hz
    simp only [Bool.and_eq_true, zle_iff] at hz
    rw [zk0_eq] at g1
    have e : x.toInt32.toInt = x.toInt := by rw [Int64.toInt_toInt32, Int.bmod_eq_of_le (by omega) (by omega)]
    exact ⟨_, _, ⟨x, rfl, rfl⟩, g1, _, rfl, by omega, by omega⟩
  · exact ⟨_, _, ⟨x, rfl, rfl⟩, g1, za_top ρ _⟩
def zu_lneg (_ : AE) (a : AV) (k : AV → Bool) : Bool := zliv a (fun l h => match zle (-9223372036854775807) l with | true => zk2 (-h) (-l) k | false => ztopL k)
theorem zu_lneg_ok : zO1 zu_lneg (fun v w => ∃ x : Int64, v = .long x ∧ w = .long (-x)) := by
  intro ρ E a k v h hE ha
  obtain ⟨x, l1, h1, rfl, g1, g2, g3⟩ := zliv_ok h ha
  split at g1
  · rename_i hz
    rw [zle_iff] at hz
    rw [zk2_eq] at g1
    have hr := zb_rngL x
    have e : (-x).toInt = -x.toInt := by rw [Int64.toInt_neg, Int.bmod_eq_of_le (by omega) (by omega)]
    exact ⟨_, _, ⟨x, rfl, rfl⟩, g1, -x, rfl, by omega, by omega⟩
  · exact ⟨_, _, ⟨x, rfl, rfl⟩, g1, za_topL ρ _⟩
/-- comparison of longs -/
def zo_lcmp (pc : Nat) (A : AL) (S : List AV) (h : AH) (E : AE) (c s : Nat) (K : ZK) : Bool := match S with
  | y :: x :: S => zliv x (fun l1 h1 => zliv y (fun l2 h2 => zfn (pc + 1) (fun pc => match zle (h1 + 1) l2 with
    | true => K pc A ((0, -1, -1) :: S) h E c s
    | false => (match zle (h2 + 1) l1 with
      | true => K pc A ((0, 1, 1) :: S) h E c s
      | false => (match zeq l1 h1 && (zeq l2 h2 && zeq l1 l2) with
        | true => K pc A ((0, 0, 0) :: S) h E c s
        | false => K pc A ((0, -1, 1) :: S) h E c s)))))
  | _ => false
theorem zb_cmp (x y : Int64) : (x.toInt < y.toInt → lg_cmp x y = -1) ∧ (y.toInt < x.toInt → lg_cmp x y = 1) ∧ (x = y → lg_cmp x y = 0) ∧ (-1 ≤ (lg_cmp x y).toInt ∧ (lg_cmp x y).toInt ≤ 1) := by
  have h1 : (y < x) ↔ y.toInt < x.toInt := Int64.lt_iff_toInt_lt
  refine ⟨fun h => ?_, fun h => ?_, fun h => ?_, ?_⟩
  · have h2 : ¬ y < x := by rw [h1]; omega
    have h3 : ¬ x = y := by intro e; subst e; omega
    simp [lg_cmp, h2, h3]
  · have h2 : y < x := by rw [h1]; omega
    simp [lg_cmp, h2]
  · subst h
    simp [lg_cmp]
  · unfold lg_cmp
    split
    · decide
    · split <;> decide
theorem zs_lcmp (hz : zo_lcmp pc A S h E c s K = true) (hK : zKS G D B tA H0 nL ρ K)
    (row : ∀ H locs ls st x y, G H locs c s (pc + 1) ls (.int (lg_cmp x y) :: st) → G H locs c s pc ls (.long y :: .long x :: st)) : zS G D B tA H0 nL ρ pc A S h E c s := by
  intro hE L st hp hL hS hH H locs ls h1 h2 h3
  unfold zo_lcmp at hz
  split at hz
  · match st, hS with
    | w :: v :: st, hS =>
      obtain ⟨x, l1, u1, rfl, g1, g2, g3⟩ := zliv_ok hz hS.2.1
      obtain ⟨y, l2, u2, rfl, g4, g5, g6⟩ := zliv_ok g1 hS.1
      rw [zfn_eq] at g4
      obtain ⟨b1, b2, b3, b4⟩ := zb_cmp x y
      apply row
      split at g4
      · rename_i hc
        rw [zle_iff] at hc
        exact hK _ _ _ _ _ _ _ g4 hE L (.int (lg_cmp x y) :: st) hp hL ⟨⟨_, rfl, by rw [b1 (by omega)]; decide, by rw [b1 (by omega)]; decide⟩, hS.2.2⟩ hH H locs ls h1 h2 h3
      · split at g4
        · rename_i hc
          rw [zle_iff] at hc
          exact hK _ _ _ _ _ _ _ g4 hE L (.int (lg_cmp x y) :: st) hp hL ⟨⟨_, rfl, by rw [b2 (by omega)]; decide, by rw [b2 (by omega)]; decide⟩, hS.2.2⟩ hH H locs ls h1 h2 h3
        · split at g4
          · rename_i hc
            simp only [Bool.and_eq_true, zeq_iff] at hc
            have exy : x = y := Int64.toInt_inj.1 (by omega)
            exact hK _ _ _ _ _ _ _ g4 hE L (.int (lg_cmp x y) :: st) hp hL ⟨⟨_, rfl, by rw [b3 exy]; decide, by rw [b3 exy]; decide⟩, hS.2.2⟩ hH H locs ls h1 h2 h3
          · exact hK _ _ _ _ _ _ _ g4 hE L (.int (lg_cmp x y) :: st) hp hL ⟨⟨_, rfl, b4.1, b4.2⟩, hS.2.2⟩ hH H locs ls h1 h2 h3
    | [], hS => exact hS.elim
    | [_], hS => exact hS.2.elim
  · cases hz
def zo_dup (pc : Nat) (A : AL) (S : List AV) (h : AH) (E : AE) (c s : Nat) (K : ZK) : Bool := match S with
  | x :: S => (match Nat.beq (zcat x) 1 with | true => zfn (pc + 1) (fun pc => K pc A (x :: x :: S) h E c s) | false => false)
  | _ => false
theorem zs_dup (hz : zo_dup pc A S h E c s K = true) (hK : zKS G D B tA H0 nL ρ K)
    (row : ∀ H locs ls st v, v.category = 1 → G H locs c s (pc + 1) ls (v :: v :: st) → G H locs c s pc ls (v :: st)) : zS G D B tA H0 nL ρ pc A S h E c s := by
  intro hE L st hp hL hS hH H locs ls h1 h2 h3
  unfold zo_dup at hz
  split at hz
  · split at hz
    · rename_i hc
      have hc := Nat.eq_of_beq_eq_true hc
      match st, hS with
      | v :: st, hS =>
        rw [zfn_eq] at hz
        exact row _ _ _ _ _ (by rw [zvm_cat, zcat_ok hS.1, hc]) (hK _ _ _ _ _ _ _ hz hE L (v :: v :: st) hp hL ⟨hS.1, hS⟩ hH H locs ls h1 h2 h3)
      | [], hS => exact hS.elim
    · cases hz
  · cases hz
def zo_pop (pc : Nat) (A : AL) (S : List AV) (h : AH) (E : AE) (c s : Nat) (K : ZK) : Bool := match S with
  | x :: S => (match Nat.beq (zcat x) 1 with | true => zfn (pc + 1) (fun pc => K pc A S h E c s) | false => false)
  | _ => false
theorem zs_pop (hz : zo_pop pc A S h E c s K = true) (hK : zKS G D B tA H0 nL ρ K)
    (row : ∀ H locs ls st v, v.category = 1 → G H locs c s (pc + 1) ls st → G H locs c s pc ls (v :: st)) : zS G D B tA H0 nL ρ pc A S h E c s := by
  intro hE L st hp hL hS hH H locs ls h1 h2 h3
  unfold zo_pop at hz
  split at hz
  · split at hz
    · rename_i hc
      have hc := Nat.eq_of_beq_eq_true hc
      match st, hS with
      | v :: st, hS =>
        rw [zfn_eq] at hz
        exact row _ _ _ _ _ (by rw [zvm_cat, zcat_ok hS.1, hc]) (hK _ _ _ _ _ _ _ hz hE L st hp hL hS.2 hH H locs ls h1 h2 h3)
      | [], hS => exact hS.elim
    · cases hz
  · cases hz
def zo_dup2 (pc : Nat) (A : AL) (S : List AV) (h : AH) (E : AE) (c s : Nat) (K : ZK) : Bool := match S with
  | x :: y :: S => (match Nat.beq (zcat x) 1 && Nat.beq (zcat y) 1 with | true => zfn (pc + 1) (fun pc => K pc A (x :: y :: x :: y :: S) h E c s) | false => false)
  | _ => false
theorem zs_dup2 (hz : zo_dup2 pc A S h E c s K = true) (hK : zKS G D B tA H0 nL ρ K)
    (row : ∀ H locs ls st v w, v.category = 1 → w.category = 1 → G H locs c s (pc + 1) ls (v :: w :: v :: w :: st) → G H locs c s pc ls (v :: w :: st)) : zS G D B tA H0 nL ρ pc A S h E c s := by
  intro hE L st hp hL hS hH H locs ls h1 h2 h3
  unfold zo_dup2 at hz
  split at hz
  · split at hz
    · rename_i hc
      simp only [Bool.and_eq_true] at hc
      have hc1 := Nat.eq_of_beq_eq_true hc.1
      have hc2 := Nat.eq_of_beq_eq_true hc.2
      match st, hS with
      | v :: w :: st, hS =>
        rw [zfn_eq] at hz
        exact row _ _ _ _ _ _ (by rw [zvm_cat, zcat_ok hS.1, hc1]) (by rw [zvm_cat, zcat_ok hS.2.1, hc2]) (hK _ _ _ _ _ _ _ hz hE L (v :: w :: v :: w :: st) hp hL ⟨hS.1, hS.2.1, hS⟩ hH H locs ls h1 h2 h3)
      | [], hS => exact hS.elim
      | [_], hS => exact hS.2.elim
    · cases hz
  · cases hz
-- locals
def zint (a : AV) : Bool := match a.1 with
  | 0 => true
  | 1 => true
  | _ => false
theorem zint_ok {a : AV} (h : zint a = true) : a.1 = 0 ∨ a.1 = 1 := by
  unfold zint at h
  split at h
  · rename_i e; exact Or.inl e
  · rename_i e; exact Or.inr e
  · cases h
def zlng (a : AV) : Bool := match a.1 with
  | 2 => true
  | _ => false
theorem zlng_ok {a : AV} {v : Value} (h : zlng a = true) (ha : za ρ a v) : ∃ x : Int64, v = .long x := by
  obtain ⟨t, lo, hi⟩ := a
  unfold zlng at h
  split at h
  · rename_i e
    simp only at e
    subst e
    obtain ⟨x, h1, -⟩ := ha
    exact ⟨x, h1⟩
  · cases h
def zrfn (a : AV) : Bool := match a.1 with
  | 3 => true
  | 5 => true
  | _ => false
theorem zrfn_ok {a : AV} {v : Value} (h : zrfn a = true) (ha : za ρ a v) : ∃ x : Nat, zvm B v = .ref x := by
  obtain ⟨t, lo, hi⟩ := a
  unfold zrfn at h
  split at h
  · rename_i e
    simp only at e
    subst e
    have h' : v = .ref lo.toNat := ha
    subst h'
    exact ⟨_, rfl⟩
  · rename_i e
    simp only at e
    subst e
    have h' : v = .float 0 := ha
    subst h'
    exact ⟨_, rfl⟩
  · cases h
theorem zmL_mem {L : zL} {i : Nat} {v : Value} (h : (i, v) ∈ L) : (i, zvm B v) ∈ zmL B L := List.mem_map.mpr ⟨(i, v), h, rfl⟩
def zo_load (n i : Nat) (ok : AV → Bool) (pc : Nat) (A : AL) (S : List AV) (h : AH) (E : AE) (c s : Nat) (K : ZK) : Bool :=
  zal A i (fun a => match ok a with | true => zfn (pc + n) (fun pc => K pc A (a :: S) h E c s) | false => false)
theorem zs_load {n i : Nat} {ok : AV → Bool} (hz : zo_load n i ok pc A S h E c s K = true) (hK : zKS G D B tA H0 nL ρ K)
    (row : ∀ H locs ls st a v, ok a = true → za ρ a v → ls[i]? = some (.val (zvm B v)) → G H locs c s (pc + n) ls (zvm B v :: st) → G H locs c s pc ls st) : zS G D B tA H0 nL ρ pc A S h E c s := by
  intro hE L st hp hL hS hH H locs ls h1 h2 h3
  obtain ⟨a, v, g1, g2, g3⟩ := zal_ok hz hL
  split at g1
  · rename_i hc
    rw [zfn_eq] at g1
    exact row _ _ _ _ a v hc g3 (h3.2.2 _ (zmL_mem g2)) (hK _ _ _ _ _ _ _ g1 hE L (v :: st) hp hL ⟨g3, hS⟩ hH H locs ls h1 h2 h3)
  · cases g1
def zo_st1 (n i : Nat) (nL : Nat) (ok : AV → Bool) (pc : Nat) (A : AL) (S : List AV) (h : AH) (E : AE) (c s : Nat) (K : ZK) : Bool := match S with
  | a :: S => (match ok a && Nat.ble (i + 1) nL with | true => zst1 A i a (fun A => zfn (pc + n) (fun pc => K pc A S h E c s)) | false => false)
  | _ => false
theorem zs_st1 {n i : Nat} {ok : AV → Bool} (hz : zo_st1 n i nL ok pc A S h E c s K = true) (hK : zKS G D B tA H0 nL ρ K)
    (row : ∀ H locs ls st a v lv, ok a = true → za ρ a v → i < nL → lv_has ls nL lv → (∀ ls', lv_has ls' nL ((i, zvm B v) :: lv.filter (fun q => !(q.1 == i) && !(q.1 + 1 == i && q.2.category == 2))) → G H locs c s (pc + n) ls' st) → G H locs c s pc ls (zvm B v :: st)) : zS G D B tA H0 nL ρ pc A S h E c s := by
  intro hE L st hp hL hS hH H locs ls h1 h2 h3
  unfold zo_st1 at hz
  split at hz
  · split at hz
    · rename_i hc
      simp only [Bool.and_eq_true] at hc
      match st, hS with
      | v :: st, hS =>
        obtain ⟨A', g1, g2⟩ := zst1_ok hz hL hS.1
        rw [zfn_eq] at g1
        refine row H locs ls _ _ v _ hc.1 hS.1 (Nat.le_of_ble_eq_true hc.2) h3 (fun ls' hl' => ?_)
        rw [← zmL_put1] at hl'
        exact hK _ _ _ _ _ _ _ g1 hE _ st hp g2 hS.2 hH H locs ls' h1 h2 hl'
      | [], hS => exact hS.elim
    · cases hz
  · cases hz
def zo_st2 (n i : Nat) (nL : Nat) (pc : Nat) (A : AL) (S : List AV) (h : AH) (E : AE) (c s : Nat) (K : ZK) : Bool := match S with
  | a :: S => (match zlng a && Nat.ble (i + 2) nL with | true => zst2 A i a (fun A => zfn (pc + n) (fun pc => K pc A S h E c s)) | false => false)
  | _ => false
theorem zs_st2 {n i : Nat} (hz : zo_st2 n i nL pc A S h E c s K = true) (hK : zKS G D B tA H0 nL ρ K)
    (row : ∀ H locs ls st (x : Int64) lv, i + 1 < nL → lv_has ls nL lv → (∀ ls', lv_has ls' nL ((i, .long x) :: lv.filter (fun q => !(q.1 == i) && (!(q.1 == i + 1) && !(q.1 + 1 == i && q.2.category == 2)))) → G H locs c s (pc + n) ls' st) → G H locs c s pc ls (.long x :: st)) : zS G D B tA H0 nL ρ pc A S h E c s := by
  intro hE L st hp hL hS hH H locs ls h1 h2 h3
  unfold zo_st2 at hz
  split at hz
  · split at hz
    · rename_i hc
      simp only [Bool.and_eq_true] at hc
      match st, hS with
      | v :: st, hS =>
        obtain ⟨A', g1, g2⟩ := zst2_ok hz hL hS.1
        rw [zfn_eq] at g1
        obtain ⟨x, rfl⟩ := zlng_ok hc.1 hS.1
        refine row H locs ls _ x _ (Nat.le_of_ble_eq_true hc.2) h3 (fun ls' hl' => ?_)
        have hl2 : lv_has ls' nL ((i, zvm B (.long x)) :: (zmL B L).filter (fun q => !(q.1 == i) && (!(q.1 == i + 1) && !(q.1 + 1 == i && q.2.category == 2)))) := hl'
        rw [← zmL_put2] at hl2
        exact hK _ _ _ _ _ _ _ g1 hE _ st hp g2 hS.2 hH H locs ls' h1 h2 hl2
      | [], hS => exact hS.elim
    · cases hz
  · cases hz
def zo_inc (i : Nat) (n : Int) (nL : Nat) (pc : Nat) (A : AL) (S : List AV) (h : AH) (E : AE) (c s : Nat) (K : ZK) : Bool :=
  match Nat.ble (i + 1) nL with
  | true => zal A i (fun a => zadd E a (0, (Int32.ofInt n).toInt, (Int32.ofInt n).toInt) (fun r => zst1 A i r (fun A => zfn (pc + 3) (fun pc => K pc A S h E c s))))
  | false => false
theorem zs_inc {i : Nat} {n : Int} (hz : zo_inc i n nL pc A S h E c s K = true) (hK : zKS G D B tA H0 nL ρ K)
    (row : ∀ H locs ls st (x : Int32) lv, i < nL → lv_has ls nL lv → (i, Value.int x) ∈ lv → (∀ ls', lv_has ls' nL ((i, .int (x + Int32.ofInt n)) :: lv.filter (fun q => !(q.1 == i) && !(q.1 + 1 == i && q.2.category == 2))) → G H locs c s (pc + 3) ls' st) → G H locs c s pc ls st) : zS G D B tA H0 nL ρ pc A S h E c s := by
  intro hE L st hp hL hS hH H locs ls h1 h2 h3
  unfold zo_inc at hz
  split at hz
  · rename_i hc
    obtain ⟨a, v, g1, g2, g3⟩ := zal_ok hz hL
    obtain ⟨x, y, r, rfl, hy, g5, g6⟩ := zadd_ok ρ E _ _ _ v (.int (Int32.ofInt n)) g1 hE g3 ⟨_, rfl, Int.le_refl _, Int.le_refl _⟩
    cases hy
    obtain ⟨A', g7, g8⟩ := zst1_ok g5 hL g6
    rw [zfn_eq] at g7
    refine row H locs ls _ x _ (Nat.le_of_ble_eq_true hc) h3 (zmL_mem (B := B) g2) (fun ls' hl' => ?_)
    have hl2 : lv_has ls' nL ((i, zvm B (.int (x + Int32.ofInt n))) :: (zmL B L).filter (fun q => !(q.1 == i) && !(q.1 + 1 == i && q.2.category == 2))) := hl'
    rw [← zmL_put1] at hl2
    exact hK _ _ _ _ _ _ _ g7 hE _ st hp g8 hS hH H locs ls' h1 h2 hl2
  · cases hz
end ZOP
