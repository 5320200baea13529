/-! bits: an expression as the sum of 2^i times what lies in 0..1 -/
theorem zb_nn {x : Int32} (h : 0 ≤ x.toInt) : x.toInt = (x.toBitVec.toNat : Int) ∧ 2 * x.toBitVec.toNat < 2 ^ 32 := by
  have h1 : x.toInt = x.toBitVec.toInt := rfl
  rw [h1, BitVec.toInt_eq_toNat_cond] at h ⊢
  split
  · rename_i h2; exact ⟨rfl, h2⟩
  · rename_i h2
    rw [if_neg h2] at h
    have := x.toBitVec.isLt
    omega
theorem zb_nn2 {x : Int32} (h : x.toBitVec.toNat < 2 ^ 31) : x.toInt = (x.toBitVec.toNat : Int) := by
  have h1 : x.toInt = x.toBitVec.toInt := rfl
  rw [h1, BitVec.toInt_eq_toNat_cond, if_pos (by omega)]
theorem zb_smod {y : Int32} (h1 : 0 ≤ y.toInt) (h2 : y.toInt ≤ 31) : ((y &&& 31).toBitVec.smod 32).toNat = y.toInt.toNat := by
  obtain ⟨a1, a2⟩ := zb_nn h1
  have e1 : (y &&& 31) = y := by
    apply Int32.toBitVec_inj.1
    apply BitVec.eq_of_toNat_eq
    show (y.toBitVec &&& (31 : Int32).toBitVec).toNat = y.toBitVec.toNat
    rw [BitVec.toNat_and, show (31 : Int32).toBitVec.toNat = 2 ^ 5 - 1 from by decide, Nat.and_two_pow_sub_one_eq_mod]
    exact Nat.mod_eq_of_lt (by omega)
  rw [e1]
  have hm : y.toBitVec.smod 32 = y.toBitVec := by
    have h3 : y.toBitVec.toNat < 32 := by omega
    apply BitVec.eq_of_toInt_eq
    rw [BitVec.toInt_smod]
    have h4 : y.toBitVec.toInt = (y.toBitVec.toNat : Int) := by
      rw [BitVec.toInt_eq_toNat_cond, if_pos (by omega)]
    rw [h4, show (32 : BitVec 32).toInt = 32 from by decide, Int.fmod_eq_emod_of_nonneg _ (by decide)]
    exact Int.emod_eq_of_lt (by omega) (by omega)
  rw [hm]
  omega
def zxeq (e f : LX) : Bool := zeq e.1 f.1 && zteq e.2 f.2
where zteq : LT → LT → Bool
  | [], [] => true
  | p :: ts, q :: us => Nat.beq p.1 q.1 && (zeq p.2 q.2 && zteq ts us)
  | _, _ => false
theorem zteq_ok : ∀ {ts us : LT}, zxeq.zteq ts us = true → ts = us
  | [], [], _ => rfl
  | [], _ :: _, h => by simp [zxeq.zteq] at h
  | _ :: _, [], h => by simp [zxeq.zteq] at h
  | p :: ts, q :: us, h => by
    simp only [zxeq.zteq, Bool.and_eq_true, zeq_iff] at h
    have h1 := Nat.eq_of_beq_eq_true h.1
    have h3 := zteq_ok h.2.2
    subst h3
    have : p = q := Prod.ext h1 h.2.1
    rw [this]
theorem zxeq_ok {e f : LX} (h : zxeq e f = true) : e = f := by
  unfold zxeq at h
  rw [Bool.and_eq_true, zeq_iff] at h
  exact Prod.ext h.1 (zteq_ok h.2)
def zdct (p : Int) : LT → (LT → Bool) → Bool
  | [], k => k []
  | q :: ts, k => (match zeq q.2 p with
    | true => zdct p ts (fun l => k ((q.1, 1) :: l))
    | false => (match zeq q.2 (-p) with
      | true => zdct p ts (fun l => k ((q.1, -1) :: l))
      | false => zdct p ts k))
theorem zdct_ok {ρ : List Int} {p : Int} : ∀ {ts : LT} {k : LT → Bool} {y : Int}, zdct p ts k = true → zxt ρ ts y → ∃ l z, k l = true ∧ zxt ρ l z
  | [], k, y, h, _ => ⟨[], 0, h, rfl⟩
  | q :: ts, k, y, h, ⟨a, b, h1, h2, h3⟩ => by
    unfold zdct at h
    split at h
    · obtain ⟨l, z, g1, g2⟩ := zdct_ok h h2
      exact ⟨_, _, g1, a, z, h1, g2, rfl⟩
    · split at h
      · obtain ⟨l, z, g1, g2⟩ := zdct_ok h h2
        exact ⟨_, _, g1, a, z, h1, g2, rfl⟩
      · exact zdct_ok h h2
theorem zdct_ex {p : Int} : ∀ {ts : LT} {k : LT → Bool}, zdct p ts k = true → ∃ l, k l = true
  | [], k, h => ⟨[], h⟩
  | q :: ts, k, h => by
    unfold zdct at h
    split at h
    · obtain ⟨l, g1⟩ := zdct_ex h
      exact ⟨_, g1⟩
    · split at h
      · obtain ⟨l, g1⟩ := zdct_ex h
        exact ⟨_, g1⟩
      · exact zdct_ex h
def zdcc (c p : Int) (k : Int → Bool) : Bool := match zle 0 c with
  | true => zfi (c / p % 2) k
  | false => zfi (-((-c) / p % 2)) k
theorem zdcc_ok {c p : Int} {k : Int → Bool} (h : zdcc c p k = true) : ∃ d, k d = true := by
  unfold zdcc at h
  split at h
  · rw [zfi_eq] at h; exact ⟨_, h⟩
  · rw [zfi_eq] at h; exact ⟨_, h⟩
def zdec1 (e : LX) (p : Int) (k : LX → Bool) : Bool := zdcc e.1 p (fun c => zdct p e.2 (fun ts => k (c, ts)))
theorem zdec1_ok {ρ : List Int} {e : LX} {p x : Int} {k : LX → Bool} (h : zdec1 e p k = true) (he : zxr ρ e x) : ∃ d z, k d = true ∧ zxr ρ d z := by
  obtain ⟨c, h1⟩ := zdcc_ok h
  obtain ⟨y, h2, -⟩ := he
  obtain ⟨l, z, g1, g2⟩ := zdct_ok h1 h2
  exact ⟨_, _, g1, z, g2, rfl⟩
def zdecN (e : LX) : Nat → Int → (List LX → Bool) → Bool
  | 0, _, k => k []
  | n + 1, p, k => zdec1 e p (fun d => zfi (2 * p) (fun p => zdecN e n p (fun ds => k (d :: ds))))
theorem zdecN_ok {e : LX} : ∀ {n : Nat} {p : Int} {k : List LX → Bool}, zdecN e n p k = true → ∃ ds, k ds = true ∧ ds.length = n
  | 0, p, k, h => ⟨[], h, rfl⟩
  | n + 1, p, k, h => by
    unfold zdecN at h
    obtain ⟨c, h1⟩ := zdcc_ok h
    obtain ⟨l, h2⟩ := zdct_ex h1
    simp only [zfi_eq] at h2
    obtain ⟨ds, h3, h4⟩ := zdecN_ok h2
    exact ⟨_, h3, by simp [h4]⟩
def zhr : List Int → Int
  | [] => 0
  | x :: xs => x + 2 * zhr xs
def zbx (ρ : List Int) : List LX → List Int → Prop
  | [], [] => True
  | d :: ds, x :: xs => zxr ρ d x ∧ (x = 0 ∨ x = 1) ∧ zbx ρ ds xs
  | _, _ => False
def zrec : List LX → (LX → Bool) → Bool
  | [], k => k (0, [])
  | d :: ds, k => zrec ds (fun r => zxscl 2 r (fun r => zxadd d r k))
theorem zrec_ok {ρ : List Int} : ∀ {ds : List LX} {xs : List Int} {k : LX → Bool}, zrec ds k = true → zbx ρ ds xs → ∃ r, k r = true ∧ zxr ρ r (zhr xs)
  | [], [], k, h, _ => ⟨_, h, zxr_c _ _⟩
  | [], _ :: _, _, _, h => h.elim
  | _ :: _, [], _, _, h => h.elim
  | d :: ds, x :: xs, k, h, hx => by
    unfold zrec at h
    obtain ⟨r, h1, h2⟩ := zrec_ok h hx.2.2
    obtain ⟨r2, h3, h4⟩ := zxscl_ok h1 h2
    exact zxadd_ok h3 hx.1 h4
def zpr1 (E : LE) (F : List LX) (g : LX) : Bool := zge0 E g || zpr E F 1 g
theorem zpr1_ok {ρ : List Int} {E : LE} (hE : zaE ρ E) {F : List LX} {g : LX} {x : Int} (h : zpr1 E F g = true) (hF : zaF ρ F) (hx : zxr ρ g x) : 0 ≤ x := by
  unfold zpr1 at h
  rw [Bool.or_eq_true] at h
  rcases h with h | h
  · exact zge0_ok hE h hx
  · exact zpr_ok hE h hF hx
def zb01 (E : LE) (F : List LX) : List LX → Bool
  | [] => true
  | d :: ds => zbd E d (fun lo hi => (zle 0 lo || zpr E F 1 d) && (zle hi 1 || zxsub (1, []) d (fun g => zpr E F 1 g))) && zb01 E F ds
theorem zb01_ok {ρ : List Int} {E : LE} {F : List LX} (hE : zaE ρ E) (hF : zaF ρ F) : ∀ {ds : List LX}, zb01 E F ds = true → ∃ xs, zbx ρ ds xs
  | [], _ => ⟨[], trivial⟩
  | d :: ds, h => by
    unfold zb01 at h
    rw [Bool.and_eq_true] at h
    obtain ⟨xs, h1⟩ := zb01_ok hE hF h.2
    obtain ⟨z, lo, hi, g1, g2, g3, g4⟩ := zbd_ok hE h.1
    simp only [Bool.and_eq_true, Bool.or_eq_true, zle_iff] at g2
    have a1 : 0 ≤ z := by
      rcases g2.1 with q | q
      · omega
      · exact zpr_ok hE q hF g1
    have a2 : z ≤ 1 := by
      rcases g2.2 with q | q
      · omega
      · obtain ⟨m, m1, m2⟩ := zxsub_ok q (zxr_c ρ 1) g1
        have := zpr_ok hE m1 hF m2
        omega
    exact ⟨z :: xs, g1, by omega, h1⟩
/-- on with the bits, if it has some -/
def zbts (E : LE) (F : List LX) (e : LX) (kn : Bool) (k : List LX → Bool) : Bool := zdecN e 9 1 (fun ds => match zrec ds (fun r => zxeq r e) && zb01 E F ds with
  | true => k ds
  | false => kn)
theorem zbx_len {ρ : List Int} : ∀ {ds : List LX} {xs : List Int}, zbx ρ ds xs → xs.length = ds.length
  | [], [], _ => rfl
  | [], _ :: _, h => h.elim
  | _ :: _, [], h => h.elim
  | _ :: ds, _ :: xs, h => by simp [zbx_len h.2.2]
theorem zbts_ok {ρ : List Int} {E : LE} {F : List LX} {e : LX} {kn : Bool} {k : List LX → Bool} {x : Int} (h : zbts E F e kn k = true) (hE : zaE ρ E) (hF : zaF ρ F) (he : zxr ρ e x) : kn = true ∨ ∃ ds xs, k ds = true ∧ zbx ρ ds xs ∧ xs.length = 9 ∧ x = zhr xs := by
  unfold zbts at h
  obtain ⟨ds, h1, h2⟩ := zdecN_ok h
  split at h1
  · rename_i hc
    rw [Bool.and_eq_true] at hc
    obtain ⟨xs, g1⟩ := zb01_ok hE hF hc.2
    obtain ⟨r, g2, g3⟩ := zrec_ok hc.1 g1
    have g2 := zxeq_ok g2
    subst g2
    exact Or.inr ⟨ds, xs, h1, g1, (zbx_len g1).trans h2, zxr_fun he g3⟩
  · exact Or.inl h1
abbrev ZCH : Type := LX → LX → (LX → Bool) → Bool → Bool
def zbg (ch : ZCH) (kn : Bool) : List LX → List LX → (List LX → Bool) → Bool
  | [], [], k => k []
  | x :: xs, y :: ys, k => ch x y (fun d => zbg ch kn xs ys (fun r => k (d :: r))) kn
  | _, _, _ => kn
def zchOK (ρ : List Int) (ch : ZCH) (g : Int → Int → Int) : Prop := ∀ (x y : LX) (k : LX → Bool) (kn : Bool) (a b : Int), ch x y k kn = true → zxr ρ x a → zxr ρ y b → (a = 0 ∨ a = 1) → (b = 0 ∨ b = 1) → kn = true ∨ ∃ d, k d = true ∧ zxr ρ d (g a b)
theorem zbg_ok {ρ : List Int} {ch : ZCH} {g : Int → Int → Int} (hch : zchOK ρ ch g) (hg : ∀ a b : Int, (a = 0 ∨ a = 1) → (b = 0 ∨ b = 1) → g a b = 0 ∨ g a b = 1) {kn : Bool} : ∀ {xs ys : List LX} {as bs : List Int} {k : List LX → Bool}, zbg ch kn xs ys k = true → zbx ρ xs as → zbx ρ ys bs → kn = true ∨ ∃ rs, k rs = true ∧ zbx ρ rs (List.zipWith g as bs)
  | [], [], [], [], k, h, _, _ => Or.inr ⟨[], h, trivial⟩
  | [], [], _ :: _, _, _, _, h, _ => h.elim
  | [], [], [], _ :: _, _, _, _, h => h.elim
  | [], _ :: _, _, _, _, h, _, _ => Or.inl h
  | _ :: _, [], _, _, _, h, _, _ => Or.inl h
  | _ :: _, _ :: _, [], _, _, _, h, _ => h.elim
  | _ :: _, _ :: _, _ :: _, [], _, _, _, h => h.elim
  | x :: xs, y :: ys, a :: as, b :: bs, k, h, hx, hy => by
    unfold zbg at h
    rcases hch x y _ kn a b h hx.1 hy.1 hx.2.1 hy.2.1 with q | ⟨d, d1, d2⟩
    · exact Or.inl q
    · rcases zbg_ok hch hg d1 hx.2.2 hy.2.2 with q | ⟨rs, r1, r2⟩
      · exact Or.inl q
      · exact Or.inr ⟨_, r1, d2, hg a b hx.2.1 hy.2.1, r2⟩
def zcA (E : LE) (F : List LX) : ZCH := fun x y k kn => zbd E x (fun l1 h1 => zbd E y (fun l2 h2 => match zle h1 0 || zle h2 0 with
  | true => k (0, [])
  | false => (match zle 1 l2 with
    | true => k x
    | false => (match zle 1 l1 with
      | true => k y
      | false => (match zxsub y x (fun d => zpr1 E F d) with
        | true => k x
        | false => (match zxsub x y (fun d => zpr1 E F d) with
          | true => k y
          | false => kn))))))
def zcN1 (E : LE) (F : List LX) : ZCH := fun x y k kn => zbd E x (fun l1 h1 => zbd E y (fun l2 h2 => match zle h2 0 with
  | true => k x
  | false => (match zle h1 0 || zle 1 l2 with
    | true => k (0, [])
    | false => (match zxsub x y (fun d => zpr1 E F d) with
      | true => zxsub x y k
      | false => kn))))
def zcO (E : LE) (_ : List LX) : ZCH := fun x y k kn => zbd E x (fun l1 h1 => zbd E y (fun l2 h2 => match zle h2 0 || zle h1 0 with
  | true => zxadd x y k
  | false => (match zle 1 l2 || zle 1 l1 with
    | true => k (1, [])
    | false => kn)))
section ZBC
variable {ρ : List Int} {E : LE} {F : List LX}
theorem zcA_ok (hE : zaE ρ E) (hF : zaF ρ F) : zchOK ρ (zcA E F) (fun a b => a * b) := by
  intro x y k kn a b h hx hy ha hb
  unfold zcA at h
  obtain ⟨l1, h1, g1, g2, g3⟩ := zbd_at hE h hx
  obtain ⟨l2, h2, g4, g5, g6⟩ := zbd_at hE g1 hy
  split at g4
  · rename_i hc
    simp only [Bool.or_eq_true, zle_iff] at hc
    refine Or.inr ⟨_, g4, ?_⟩
    have e : a * b = 0 := by
      rcases hc with hc | hc
      · rw [show a = 0 by omega, Int.zero_mul]
      · rw [show b = 0 by omega, Int.mul_zero]
    show zxr ρ (0, []) (a * b)
    rw [e]
    exact zxr_c ρ 0
  · split at g4
    · rename_i hc
      rw [zle_iff] at hc
      refine Or.inr ⟨_, g4, ?_⟩
      show zxr ρ x (a * b)
      rw [show b = 1 by omega, Int.mul_one]
      exact hx
    · split at g4
      · rename_i hc
        rw [zle_iff] at hc
        refine Or.inr ⟨_, g4, ?_⟩
        show zxr ρ y (a * b)
        rw [show a = 1 by omega, Int.one_mul]
        exact hy
      · split at g4
        · rename_i hc
          obtain ⟨d, d1, d2⟩ := zxsub_ok hc hy hx
          have := zpr1_ok hE d1 hF d2
          refine Or.inr ⟨_, g4, ?_⟩
          show zxr ρ x (a * b)
          have e : a * b = a := by
            rcases ha with ha | ha
            · rw [ha, Int.zero_mul]
            · rw [show b = 1 by omega, Int.mul_one]
          rw [e]
          exact hx
        · split at g4
          · rename_i hc
            obtain ⟨d, d1, d2⟩ := zxsub_ok hc hx hy
            have := zpr1_ok hE d1 hF d2
            refine Or.inr ⟨_, g4, ?_⟩
            show zxr ρ y (a * b)
            have e : a * b = b := by
              rcases hb with hb | hb
              · rw [hb, Int.mul_zero]
              · rw [show a = 1 by omega, Int.one_mul]
            rw [e]
            exact hy
          · exact Or.inl g4
theorem zcN1_ok (hE : zaE ρ E) (hF : zaF ρ F) : zchOK ρ (zcN1 E F) (fun a b => a * (1 - b)) := by
  intro x y k kn a b h hx hy ha hb
  unfold zcN1 at h
  obtain ⟨l1, h1, g1, g2, g3⟩ := zbd_at hE h hx
  obtain ⟨l2, h2, g4, g5, g6⟩ := zbd_at hE g1 hy
  split at g4
  · rename_i hc
    rw [zle_iff] at hc
    refine Or.inr ⟨_, g4, ?_⟩
    show zxr ρ x (a * (1 - b))
    rw [show 1 - b = 1 by omega, Int.mul_one]
    exact hx
  · split at g4
    · rename_i hc
      simp only [Bool.or_eq_true, zle_iff] at hc
      refine Or.inr ⟨_, g4, ?_⟩
      have e : a * (1 - b) = 0 := by
        rcases hc with hc | hc
        · rw [show a = 0 by omega, Int.zero_mul]
        · rw [show 1 - b = 0 by omega, Int.mul_zero]
      show zxr ρ (0, []) (a * (1 - b))
      rw [e]
      exact zxr_c ρ 0
    · split at g4
      · rename_i hc
        obtain ⟨d, d1, d2⟩ := zxsub_ok hc hx hy
        have := zpr1_ok hE d1 hF d2
        obtain ⟨e, e1, e2⟩ := zxsub_ok g4 hx hy
        refine Or.inr ⟨_, e1, ?_⟩
        show zxr ρ e (a * (1 - b))
        have e3 : a * (1 - b) = a - b := by
          rcases hb with hb | hb
          · rw [hb]; omega
          · rw [hb]; omega
        rw [e3]
        exact e2
      · exact Or.inl g4
theorem zcO_ok (hE : zaE ρ E) : zchOK ρ (zcO E F) (fun a b => a + b - a * b) := by
  intro x y k kn a b h hx hy ha hb
  unfold zcO at h
  obtain ⟨l1, h1, g1, g2, g3⟩ := zbd_at hE h hx
  obtain ⟨l2, h2, g4, g5, g6⟩ := zbd_at hE g1 hy
  split at g4
  · rename_i hc
    simp only [Bool.or_eq_true, zle_iff] at hc
    obtain ⟨e, e1, e2⟩ := zxadd_ok g4 hx hy
    refine Or.inr ⟨_, e1, ?_⟩
    show zxr ρ e (a + b - a * b)
    have e3 : a * b = 0 := by
      rcases hc with hc | hc
      · rw [show b = 0 by omega, Int.mul_zero]
      · rw [show a = 0 by omega, Int.zero_mul]
    rw [e3, Int.sub_zero]
    exact e2
  · split at g4
    · rename_i hc
      simp only [Bool.or_eq_true, zle_iff] at hc
      refine Or.inr ⟨_, g4, ?_⟩
      show zxr ρ (1, []) (a + b - a * b)
      have e3 : a + b - a * b = 1 := by
        rcases ha with ha | ha
        · rw [ha]; omega
        · rw [ha]; omega
      rw [e3]
      exact zxr_c ρ 1
    · exact Or.inl g4
end ZBC
-- the words themselves
def zhn : List Int → Nat
  | [] => 0
  | x :: xs => x.toNat + 2 * zhn xs
def z01 (xs : List Int) : Prop := ∀ x ∈ xs, x = 0 ∨ x = 1
theorem zbx_01 {ρ : List Int} : ∀ {ds : List LX} {xs : List Int}, zbx ρ ds xs → z01 xs
  | [], [], _ => fun x hx => absurd hx List.not_mem_nil
  | [], _ :: _, h => h.elim
  | _ :: _, [], h => h.elim
  | _ :: ds, x :: xs, h => fun y hy => by
    rcases List.mem_cons.mp hy with rfl | hy
    · exact h.2.1
    · exact zbx_01 h.2.2 y hy
theorem z01_tl {x : Int} {xs : List Int} (h : z01 (x :: xs)) : (x = 0 ∨ x = 1) ∧ z01 xs := ⟨h x List.mem_cons_self, fun y hy => h y (List.mem_cons_of_mem _ hy)⟩
theorem zhr_hn : ∀ {xs : List Int}, z01 xs → zhr xs = (zhn xs : Int) ∧ zhn xs < 2 ^ xs.length
  | [], _ => ⟨rfl, by decide⟩
  | x :: xs, h => by
    obtain ⟨h1, h2⟩ := z01_tl h
    obtain ⟨h3, h4⟩ := zhr_hn h2
    have h5 : zhn (x :: xs) = x.toNat + 2 * zhn xs := rfl
    have h6 : zhr (x :: xs) = x + 2 * zhr xs := rfl
    rw [List.length_cons, Nat.pow_succ, h5, h6]
    omega
theorem zbit_and {d e n m : Nat} (hd : d < 2) (he : e < 2) : (d + 2 * n) &&& (e + 2 * m) = d * e + 2 * (n &&& m) := by
  have h1 : ((d + 2 * n) &&& (e + 2 * m)) / 2 = n &&& m := by
    rw [Nat.and_div_two, show (d + 2 * n) / 2 = n by omega, show (e + 2 * m) / 2 = m by omega]
  have h2 : ((d + 2 * n) &&& (e + 2 * m)) % 2 = d * e := by
    have h3 := Nat.and_mod_two_pow (a := d + 2 * n) (b := e + 2 * m) (n := 1)
    simp only [Nat.pow_one] at h3
    rw [h3, show (d + 2 * n) % 2 = d by omega, show (e + 2 * m) % 2 = e by omega]
    rcases (show d = 0 ∨ d = 1 by omega) with rfl | rfl <;> rcases (show e = 0 ∨ e = 1 by omega) with rfl | rfl <;> decide
  omega
theorem zbit_or {d e n m : Nat} (hd : d < 2) (he : e < 2) : (d + 2 * n) ||| (e + 2 * m) = (d + e - d * e) + 2 * (n ||| m) := by
  have h1 : ((d + 2 * n) ||| (e + 2 * m)) / 2 = n ||| m := by
    rw [Nat.or_div_two, show (d + 2 * n) / 2 = n by omega, show (e + 2 * m) / 2 = m by omega]
  have h2 : ((d + 2 * n) ||| (e + 2 * m)) % 2 = d + e - d * e := by
    have h3 := Nat.or_mod_two_pow (a := d + 2 * n) (b := e + 2 * m) (n := 1)
    simp only [Nat.pow_one] at h3
    rw [h3, show (d + 2 * n) % 2 = d by omega, show (e + 2 * m) % 2 = e by omega]
    rcases (show d = 0 ∨ d = 1 by omega) with rfl | rfl <;> rcases (show e = 0 ∨ e = 1 by omega) with rfl | rfl <;> decide
  omega
theorem zhn_and : ∀ {as bs : List Int}, z01 as → z01 bs → as.length = bs.length → zhn as &&& zhn bs = zhn (List.zipWith (fun a b => a * b) as bs)
  | [], [], _, _, _ => by decide
  | [], _ :: _, _, _, h => by simp at h
  | _ :: _, [], _, _, h => by simp at h
  | a :: as, b :: bs, ha, hb, hl => by
    obtain ⟨a1, a2⟩ := z01_tl ha
    obtain ⟨b1, b2⟩ := z01_tl hb
    show (a.toNat + 2 * zhn as) &&& (b.toNat + 2 * zhn bs) = (a * b).toNat + 2 * zhn (List.zipWith (fun a b => a * b) as bs)
    rw [zbit_and (by omega) (by omega), zhn_and a2 b2 (by simpa using hl)]
    rcases a1 with rfl | rfl <;> rcases b1 with rfl | rfl <;> rfl
theorem zhn_or : ∀ {as bs : List Int}, z01 as → z01 bs → as.length = bs.length → zhn as ||| zhn bs = zhn (List.zipWith (fun a b => a + b - a * b) as bs)
  | [], [], _, _, _ => by decide
  | [], _ :: _, _, _, h => by simp at h
  | _ :: _, [], _, _, h => by simp at h
  | a :: as, b :: bs, ha, hb, hl => by
    obtain ⟨a1, a2⟩ := z01_tl ha
    obtain ⟨b1, b2⟩ := z01_tl hb
    show (a.toNat + 2 * zhn as) ||| (b.toNat + 2 * zhn bs) = (a + b - a * b).toNat + 2 * zhn (List.zipWith (fun a b => a + b - a * b) as bs)
    rw [zbit_or (by omega) (by omega), zhn_or a2 b2 (by simpa using hl)]
    rcases a1 with rfl | rfl <;> rcases b1 with rfl | rfl <;> rfl
theorem zhn_andn : ∀ {as bs : List Int} (k : Nat), z01 as → z01 bs → as.length = bs.length → zhn as &&& (2 ^ (bs.length + k) - 1 - zhn bs) = zhn (List.zipWith (fun a b => a * (1 - b)) as bs)
  | [], [], k, _, _, _ => by
    show 0 &&& _ = 0
    exact Nat.zero_and _
  | [], _ :: _, _, _, _, h => by simp at h
  | _ :: _, [], _, _, _, h => by simp at h
  | a :: as, b :: bs, k, ha, hb, hl => by
    obtain ⟨a1, a2⟩ := z01_tl ha
    obtain ⟨b1, b2⟩ := z01_tl hb
    have h0 := (zhr_hn b2).2
    have h1 : 2 ^ bs.length ≤ 2 ^ (bs.length + k) := Nat.pow_le_pow_right (by decide) (by omega)
    have h2 : 2 ^ ((b :: bs).length + k) = 2 * 2 ^ (bs.length + k) := by
      rw [List.length_cons, show bs.length + 1 + k = (bs.length + k) + 1 by omega, Nat.pow_succ, Nat.mul_comm]
    have h3 : 2 ^ ((b :: bs).length + k) - 1 - zhn (b :: bs) = (1 - b.toNat) + 2 * (2 ^ (bs.length + k) - 1 - zhn bs) := by
      rw [h2]
      show 2 * 2 ^ (bs.length + k) - 1 - (b.toNat + 2 * zhn bs) = _
      omega
    rw [h3]
    show (a.toNat + 2 * zhn as) &&& ((1 - b.toNat) + 2 * (2 ^ (bs.length + k) - 1 - zhn bs)) = (a * (1 - b)).toNat + 2 * zhn (List.zipWith (fun a b => a * (1 - b)) as bs)
    rw [zbit_and (by omega) (by omega), zhn_andn k a2 b2 (by simpa using hl)]
    rcases a1 with rfl | rfl <;> rcases b1 with rfl | rfl <;> rfl
theorem zhn_drop : ∀ {xs : List Int} (k : Nat), z01 xs → zhn xs / 2 ^ k = zhn (xs.drop k)
  | xs, 0, _ => by simp
  | [], k + 1, _ => by
    show 0 / _ = 0
    exact Nat.zero_div _
  | x :: xs, k + 1, h => by
    obtain ⟨h1, h2⟩ := z01_tl h
    rw [List.drop_succ_cons, ← zhn_drop k h2, Nat.pow_succ, Nat.mul_comm, ← Nat.div_div_eq_div_mul]
    show (x.toNat + 2 * zhn xs) / 2 / 2 ^ k = _
    rw [show (x.toNat + 2 * zhn xs) / 2 = zhn xs by omega]
theorem z01_zip {g : Int → Int → Int} (hg : ∀ a b : Int, (a = 0 ∨ a = 1) → (b = 0 ∨ b = 1) → g a b = 0 ∨ g a b = 1) : ∀ {as bs : List Int}, z01 as → z01 bs → z01 (List.zipWith g as bs)
  | [], _, _, _ => by simp [z01]
  | _ :: _, [], _, _ => by simp [z01]
  | a :: as, b :: bs, ha, hb => by
    obtain ⟨a1, a2⟩ := z01_tl ha
    obtain ⟨b1, b2⟩ := z01_tl hb
    intro y hy
    rw [List.zipWith_cons_cons] at hy
    rcases List.mem_cons.mp hy with rfl | hy
    · exact hg a b a1 b1
    · exact z01_zip hg a2 b2 y hy
theorem zg_and (a b : Int) (ha : a = 0 ∨ a = 1) (hb : b = 0 ∨ b = 1) : a * b = 0 ∨ a * b = 1 := by
  rcases ha with rfl | rfl <;> rcases hb with rfl | rfl <;> decide
theorem zg_andn (a b : Int) (ha : a = 0 ∨ a = 1) (hb : b = 0 ∨ b = 1) : a * (1 - b) = 0 ∨ a * (1 - b) = 1 := by
  rcases ha with rfl | rfl <;> rcases hb with rfl | rfl <;> decide
theorem zg_or (a b : Int) (ha : a = 0 ∨ a = 1) (hb : b = 0 ∨ b = 1) : a + b - a * b = 0 ∨ a + b - a * b = 1 := by
  rcases ha with rfl | rfl <;> rcases hb with rfl | rfl <;> decide
theorem zhr_nat {x : Int32} {as : List Int} (ha : z01 as) (hl : as.length = 9) (hx : x.toInt = zhr as) : x.toBitVec.toNat = zhn as ∧ zhn as < 512 := by
  obtain ⟨h1, h2⟩ := zhr_hn ha
  rw [hl] at h2
  obtain ⟨h3, h4⟩ := zb_nn (x := x) (by omega)
  exact ⟨by omega, by omega⟩
theorem zhr_back {x : Int32} {as : List Int} (ha : z01 as) (hl : as.length ≤ 9) (hx : x.toBitVec.toNat = zhn as) : x.toInt = zhr as := by
  obtain ⟨h1, h2⟩ := zhr_hn ha
  have h3 : 2 ^ as.length ≤ 2 ^ 9 := Nat.pow_le_pow_right (by decide) hl
  rw [zb_nn2 (by omega), h1, hx]
theorem zb_and9 {x y : Int32} {as bs : List Int} (ha : z01 as) (hb : z01 bs) (hla : as.length = 9) (hlb : bs.length = 9) (hx : x.toInt = zhr as) (hy : y.toInt = zhr bs) : (x &&& y).toInt = zhr (List.zipWith (fun a b => a * b) as bs) := by
  refine zhr_back (z01_zip zg_and ha hb) (by simp [hla, hlb]) ?_
  have e : (x &&& y).toBitVec.toNat = x.toBitVec.toNat &&& y.toBitVec.toNat := BitVec.toNat_and ..
  rw [e, (zhr_nat ha hla hx).1, (zhr_nat hb hlb hy).1]
  exact zhn_and ha hb (by omega)
theorem zb_or9 {x y : Int32} {as bs : List Int} (ha : z01 as) (hb : z01 bs) (hla : as.length = 9) (hlb : bs.length = 9) (hx : x.toInt = zhr as) (hy : y.toInt = zhr bs) : (x ||| y).toInt = zhr (List.zipWith (fun a b => a + b - a * b) as bs) := by
  refine zhr_back (z01_zip zg_or ha hb) (by simp [hla, hlb]) ?_
  have e : (x ||| y).toBitVec.toNat = x.toBitVec.toNat ||| y.toBitVec.toNat := BitVec.toNat_or ..
  rw [e, (zhr_nat ha hla hx).1, (zhr_nat hb hlb hy).1]
  exact zhn_or ha hb (by omega)
theorem zb_andn9 {x y : Int32} {as bs : List Int} (ha : z01 as) (hb : z01 bs) (hla : as.length = 9) (hlb : bs.length = 9) (hx : x.toInt = zhr as) (hy : -y.toInt - 1 = zhr bs) : (x &&& y).toInt = zhr (List.zipWith (fun a b => a * (1 - b)) as bs) := by
  refine zhr_back (z01_zip zg_andn ha hb) (by simp [hla, hlb]) ?_
  have e : (x &&& y).toBitVec.toNat = x.toBitVec.toNat &&& y.toBitVec.toNat := BitVec.toNat_and ..
  obtain ⟨h1, h2⟩ := zhr_hn hb
  rw [hlb] at h2
  have h3 : y.toBitVec.toNat = 2 ^ 32 - 1 - zhn bs := by
    have h4 : y.toInt = y.toBitVec.toInt := rfl
    have h5 := y.toBitVec.isLt
    rw [BitVec.toInt_eq_toNat_cond] at h4
    split at h4 <;> omega
  rw [e, (zhr_nat ha hla hx).1, h3]
  have h6 := zhn_andn 23 ha hb (by omega)
  rw [hlb] at h6
  exact h6
theorem z01_drop {xs : List Int} {k : Nat} (h : z01 xs) : z01 (xs.drop k) := fun y hy => h y (List.mem_of_mem_drop hy)
theorem zbx_drop {ρ : List Int} : ∀ {ds : List LX} {xs : List Int} (k : Nat), zbx ρ ds xs → zbx ρ (ds.drop k) (xs.drop k)
  | ds, xs, 0, h => by simpa using h
  | [], [], _ + 1, _ => trivial
  | [], _ :: _, _, h => h.elim
  | _ :: _, [], _, h => h.elim
  | _ :: ds, _ :: xs, k + 1, h => by
    rw [List.drop_succ_cons, List.drop_succ_cons]
    exact zbx_drop k h.2.2
theorem zb_shr9 {x y : Int32} {as : List Int} (ha : z01 as) (hla : as.length = 9) (hx : x.toInt = zhr as) (h1 : 0 ≤ y.toInt) (h2 : y.toInt ≤ 31) : (x >>> (y &&& 31)).toInt = zhr (as.drop y.toInt.toNat) := by
  refine zhr_back (z01_drop ha) (by simp [hla]) ?_
  obtain ⟨a1, a2⟩ := zhr_nat ha hla hx
  have e : (x >>> (y &&& 31)).toBitVec = x.toBitVec.sshiftRight' ((y &&& 31).toBitVec.smod 32) := rfl
  have hm : x.toBitVec.msb = false := by
    rw [BitVec.msb_eq_decide]
    simp only [decide_eq_false_iff_not]
    omega
  rw [e, BitVec.sshiftRight', BitVec.sshiftRight_eq_of_msb_false hm, BitVec.toNat_ushiftRight, zb_smod h1 h2, Nat.shiftRight_eq_div_pow, a1]
  exact zhn_drop _ ha
theorem zb_and1 {x y : Int32} {a : Int} {as : List Int} (ha : z01 (a :: as)) (hl : as.length = 8) (hx : x.toInt = zhr (a :: as)) (hy : y.toInt = 1) : (x &&& y).toInt = a := by
  obtain ⟨a1, a2⟩ := z01_tl ha
  have e : (x &&& y).toBitVec.toNat = x.toBitVec.toNat &&& y.toBitVec.toNat := BitVec.toNat_and ..
  have hy2 : y.toBitVec.toNat = 1 := by
    obtain ⟨b1, b2⟩ := zb_nn (x := y) (by omega)
    omega
  rw [(zhr_nat ha (by simp [hl]) hx).1, hy2, Nat.and_one_is_mod] at e
  have e2 : zhn (a :: as) = a.toNat + 2 * zhn as := rfl
  rw [zb_nn2 (by omega)]
  omega
theorem zb_and1s {x y : Int32} (h1 : 0 ≤ x.toInt) (h2 : x.toInt ≤ 1) (hy : y.toInt = 1) : (x &&& y).toInt = x.toInt := by
  have hy2 : y = Int32.ofInt 1 := zb_of hy
  rcases (show x.toInt = 0 ∨ x.toInt = 1 by omega) with e | e
  · rw [zb_of e, hy2]; decide
  · rw [zb_of e, hy2]; decide
