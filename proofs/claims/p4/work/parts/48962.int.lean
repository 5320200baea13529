/-! the steps over whole numbers: every int is Int32.ofInt of one -/
def zR (a : Int) : Prop := -2147483648 ≤ a ∧ a ≤ 2147483647
theorem zRt {a : Int} (h : zR a) : (Int32.ofInt a).toInt = a := by
  have e : Int32.size = 4294967296 := rfl
  rw [Int32.toInt_ofInt, e]
  exact Int.bmod_eq_of_le (by have := h.1; omega) (by have := h.2; omega)
theorem zRinj {a b : Int} (ha : zR a) (hb : zR b) (h : Int32.ofInt a = Int32.ofInt b) : a = b := by
  rw [← zRt ha, ← zRt hb, h]
theorem zRn {a : Int} (h : zR a) (h0 : 0 ≤ a) : (Int32.ofInt a).toNatClampNeg = a.toNat := by rw [zb_cl, zRt h]
def zAr (t : Nat → Int) : Nat → Int32 := fun q => Int32.ofInt (t q)
def zuq (t : Nat → Int) (j : Nat) (y : Int) : Nat → Int := fun q => if q = j then y else t q
theorem zAr_up {t : Nat → Int} {j : Nat} {y : Int} : va_up (zAr t) j (Int32.ofInt y) = zAr (zuq t j y) := by
  funext q
  unfold va_up zAr zuq
  by_cases e : q = j
  · rw [if_pos e, if_pos e]
  · rw [if_neg e, if_neg e]
theorem zAr_of (f : Nat → Int32) : f = zAr (fun q => (f q).toInt) := by
  funext q
  exact (Int32.ofInt_toInt (f q)).symm
/-- an object's fields: a few by name, the rest by a function -/
def zug : List (Nat × Value) → (Nat → Value) → Nat → Value
  | [], g => g
  | p :: l, g => fun i => cond (Nat.beq i p.1) p.2 (zug l g i)
def zrep : List (Nat × Value) → Nat → Value → List (Nat × Value)
  | [], _, _ => []
  | p :: l, b, w => cond (Nat.beq b p.1) ((p.1, w) :: l) (p :: zrep l b w)
def zqhas : List (Nat × Value) → Nat → Bool
  | [], _ => false
  | p :: l, b => Nat.beq b p.1 || zqhas l b
def zFs (g : Nat → Value) (N : Nat) : List Value := (List.range N).map g
theorem zFs_get {g : Nat → Value} {N b : Nat} (h : b < N) : (zFs g N)[b]? = some (g b) := by
  unfold zFs
  rw [List.getElem?_map, List.getElem?_range h]
  rfl
theorem zug_rep {g : Nat → Value} {b : Nat} {w : Value} : ∀ {l : List (Nat × Value)}, zqhas l b = true → ∀ i, zug (zrep l b w) g i = if i = b then w else zug l g i
  | [], h, _ => by cases h
  | p :: l, h, i => by
    unfold zrep
    cases hb : Nat.beq b p.1 with
    | true =>
      have e := Nat.eq_of_beq_eq_true hb
      show zug ((p.1, w) :: l) g i = _
      show cond (Nat.beq i p.1) w (zug l g i) = if i = b then w else cond (Nat.beq i p.1) p.2 (zug l g i)
      by_cases hi : i = b
      · rw [if_pos hi, hi, hb]
        rfl
      · have : Nat.beq i p.1 = false := by
          cases hc : Nat.beq i p.1 with
          | false => rfl
          | true => exact absurd ((Nat.eq_of_beq_eq_true hc).trans e.symm) hi
        rw [if_neg hi, this]
        rfl
    | false =>
      have h : zqhas l b = true := by
        simp only [zqhas, hb, Bool.false_or] at h
        exact h
      show cond (Nat.beq i p.1) p.2 (zug (zrep l b w) g i) = if i = b then w else cond (Nat.beq i p.1) p.2 (zug l g i)
      rw [zug_rep h i]
      by_cases hi : i = b
      · have : Nat.beq i p.1 = false := by rw [hi]; exact hb
        rw [this, if_pos hi, if_pos hi]
        rfl
      · rw [if_neg hi, if_neg hi]
theorem zFs_set {g : Nat → Value} {l : List (Nat × Value)} {N b : Nat} {w : Value} (hb : zqhas l b = true) : (zFs (zug l g) N).set b w = zFs (zug (zrep l b w) g) N := by
  unfold zFs
  apply List.ext_getElem?
  intro i
  rw [List.getElem?_set]
  by_cases hi : i < N
  · rw [List.getElem?_map, List.getElem?_map, List.getElem?_range hi]
    show (if b = i then (if b < ((List.range N).map (zug l g)).length then some w else none) else some (zug l g i)) = some (zug (zrep l b w) g i)
    rw [zug_rep hb i]
    by_cases e : b = i
    · rw [if_pos e, if_pos e.symm, if_pos (by rw [List.length_map, List.length_range]; omega)]
    · rw [if_neg e, if_neg (fun q => e q.symm)]
  · rw [List.getElem?_eq_none (by simp; omega), List.getElem?_eq_none (by simp; omega)]
    by_cases e : b = i
    · rw [if_pos e, if_neg (by rw [List.length_map, List.length_range]; omega)]
    · rw [if_neg e]
section ZPI
variable {Lx : Nat} {xs : Nat → Int32} {n k : Nat} {pc : Nat} {L : zL} {st : List Value} {hp : List zhE} {c s : Nat} {Q : ZP} {e : Nat → Nat} {C : List zhE} {N : Nat}
theorem zq_get {p0 q a b j m : Nat} {v : Int} {g : Nat → Value} (he : zeI e hp C.length) (h : zatp k pc = some (p0, .getfield q, a, b, v)) (hc : C[j]? = some (.inr (a, zFs g m))) (hb : Nat.ble (b + 1) m = true) (hn : zPn Lx xs n k (pc + 3, L, g b :: st, zHe e 0 C hp, c, s) Q) : zPn Lx xs n k (pc, L, .ref (e j) :: st, zHe e 0 C hp, c, s) Q := zp_get he h hc (zFs_get (Nat.le_of_ble_eq_true hb)) hn
theorem zq_put {p0 q a b j m : Nat} {v : Int} {l : List (Nat × Value)} {g : Nat → Value} {w : Value} (he : zeI e hp C.length) (h : zatp k pc = some (p0, .putfield q, a, b, v)) (hc : C[j]? = some (.inr (a, zFs (zug l g) m))) (hl : zqhas l b = true) (hn : zPn Lx xs n k (pc + 3, L, st, zHe e 0 (C.set j (.inr (a, zFs (zug (zrep l b w) g) m))) hp, c, s) Q) : zPn Lx xs n k (pc, L, w :: .ref (e j) :: st, zHe e 0 C hp, c, s) Q := by
  refine zp_put he h hc fun _ => ?_
  rw [zFs_set hl]
  exact hn
theorem zq_ald {p0 a b j m : Nat} {v : Int} {t : Nat → Int} {x : Int} (he : zeI e hp C.length) (h : zatp k pc = some (p0, .iaload, a, b, v)) (hc : C[j]? = some (.inl (0, m, .inl (zAr t)))) (hx : zR x) (hn : 0 ≤ x → x < m → zPn Lx xs n k (pc + 1, L, .int (Int32.ofInt (t x.toNat)) :: st, zHe e 0 C hp, c, s) Q) : zPn Lx xs n k (pc, L, .int (Int32.ofInt x) :: .ref (e j) :: st, zHe e 0 C hp, c, s) Q := by
  refine zp_aldI he h hc fun h1 h2 => ?_
  rw [zRt hx] at h1 h2
  rw [zRn hx h1]
  exact hn h1 h2
theorem zq_aldB {p0 a b j m : Nat} {v : Int} {t : Nat → Int} {x : Int} (he : zeI e hp C.length) (h : zatp k pc = some (p0, .baload, a, b, v)) (hc : C[j]? = some (.inl (2, m, .inl (zAr t)))) (hx : zR x) (hn : 0 ≤ x → x < m → zPn Lx xs n k (pc + 1, L, .int (Int32.ofInt (t x.toNat)) :: st, zHe e 0 C hp, c, s) Q) : zPn Lx xs n k (pc, L, .int (Int32.ofInt x) :: .ref (e j) :: st, zHe e 0 C hp, c, s) Q := by
  refine zp_aldB he h hc fun h1 h2 => ?_
  rw [zRt hx] at h1 h2
  rw [zRn hx h1]
  exact hn h1 h2
theorem zq_ast {p0 a b j m : Nat} {v : Int} {t : Nat → Int} {x y : Int} (he : zeI e hp C.length) (h : zatp k pc = some (p0, .iastore, a, b, v)) (hc : C[j]? = some (.inl (0, m, .inl (zAr t)))) (hx : zR x) (hn : 0 ≤ x → x < m → zPn Lx xs n k (pc + 1, L, st, zHe e 0 (C.set j (.inl (0, m, .inl (zAr (zuq t x.toNat y))))) hp, c, s) Q) : zPn Lx xs n k (pc, L, .int (Int32.ofInt y) :: .int (Int32.ofInt x) :: .ref (e j) :: st, zHe e 0 C hp, c, s) Q := by
  refine zp_astI he h hc fun h1 h2 => ?_
  rw [zRt hx] at h1 h2
  rw [zRn hx h1, zAr_up]
  exact hn h1 h2
theorem zq_bip {p0 a b : Nat} {v m : Int} (h : zatp k pc = some (p0, .bipush m, a, b, v)) (hm : (Int8.ofInt m).toInt32 = Int32.ofInt m) (hn : zPn Lx xs n k (pc + 2, L, .int (Int32.ofInt m) :: st, hp, c, s) Q) : zPn Lx xs n k (pc, L, st, hp, c, s) Q := by
  refine zp0 h rfl ?_ hn
  show some (pc + 2, L, Value.int (Int8.ofInt m).toInt32 :: st, hp, c, s) = _
  rw [hm]
theorem zq_sip {p0 a b : Nat} {v m : Int} (h : zatp k pc = some (p0, .sipush m, a, b, v)) (hm : (Int16.ofInt m).toInt32 = Int32.ofInt m) (hn : zPn Lx xs n k (pc + 3, L, .int (Int32.ofInt m) :: st, hp, c, s) Q) : zPn Lx xs n k (pc, L, st, hp, c, s) Q := by
  refine zp0 h rfl ?_ hn
  show some (pc + 3, L, Value.int (Int16.ofInt m).toInt32 :: st, hp, c, s) = _
  rw [hm]
theorem zq_add {p0 a b : Nat} {v x y : Int} (h : zatp k pc = some (p0, .iadd, a, b, v)) (hn : zPn Lx xs n k (pc + 1, L, .int (Int32.ofInt (x + y)) :: st, hp, c, s) Q) : zPn Lx xs n k (pc, L, .int (Int32.ofInt y) :: .int (Int32.ofInt x) :: st, hp, c, s) Q := by
  refine zp0 h rfl ?_ hn
  show some (pc + 1, L, Value.int (Int32.ofInt x + Int32.ofInt y) :: st, hp, c, s) = _
  rw [← Int32.ofInt_add]
theorem zq_sub {p0 a b : Nat} {v x y : Int} (h : zatp k pc = some (p0, .isub, a, b, v)) (hn : zPn Lx xs n k (pc + 1, L, .int (Int32.ofInt (x - y)) :: st, hp, c, s) Q) : zPn Lx xs n k (pc, L, .int (Int32.ofInt y) :: .int (Int32.ofInt x) :: st, hp, c, s) Q := by
  refine zp0 h rfl ?_ hn
  show some (pc + 1, L, Value.int (Int32.ofInt x - Int32.ofInt y) :: st, hp, c, s) = _
  rw [← Int32.ofInt_sub]
theorem zq_mul {p0 a b : Nat} {v x y : Int} (h : zatp k pc = some (p0, .imul, a, b, v)) (hn : zPn Lx xs n k (pc + 1, L, .int (Int32.ofInt (x * y)) :: st, hp, c, s) Q) : zPn Lx xs n k (pc, L, .int (Int32.ofInt y) :: .int (Int32.ofInt x) :: st, hp, c, s) Q := by
  refine zp0 h rfl ?_ hn
  show some (pc + 1, L, Value.int (Int32.ofInt x * Int32.ofInt y) :: st, hp, c, s) = _
  rw [← Int32.ofInt_mul]
/-- what a comparison says -/
def zcf : ClassFile.Cond → Int → Int → Prop
  | .eq, x, y => x = y
  | .ne, x, y => x ≠ y
  | .lt, x, y => x < y
  | .ge, x, y => y ≤ x
  | .gt, x, y => y < x
  | .le, x, y => x ≤ y
theorem zcf_iff {cd : ClassFile.Cond} {x y : Int} (hx : zR x) (hy : zR y) : zcb cd (Int32.ofInt x) (Int32.ofInt y) = true ↔ zcf cd x y := by
  cases cd
  · show decide (Int32.ofInt x = Int32.ofInt y) = true ↔ x = y
    rw [decide_eq_true_eq]
    exact ⟨zRinj hx hy, fun h => by rw [h]⟩
  · show (!decide (Int32.ofInt x = Int32.ofInt y)) = true ↔ x ≠ y
    rw [Bool.not_eq_true', decide_eq_false_iff_not]
    exact ⟨fun h q => h (by rw [q]), fun h q => h (zRinj hx hy q)⟩
  · show decide (Int32.ofInt x < Int32.ofInt y) = true ↔ x < y
    rw [decide_eq_true_eq, Int32.lt_iff_toInt_lt, zRt hx, zRt hy]
  · show decide (Int32.ofInt y ≤ Int32.ofInt x) = true ↔ y ≤ x
    rw [decide_eq_true_eq, Int32.le_iff_toInt_le, zRt hx, zRt hy]
  · show decide (Int32.ofInt y < Int32.ofInt x) = true ↔ y < x
    rw [decide_eq_true_eq, Int32.lt_iff_toInt_lt, zRt hx, zRt hy]
  · show decide (Int32.ofInt x ≤ Int32.ofInt y) = true ↔ x ≤ y
    rw [decide_eq_true_eq, Int32.le_iff_toInt_le, zRt hx, zRt hy]
theorem zq_icmp {p0 t : Nat} {cd : ClassFile.Cond} {off : Int} {a b : Nat} {v x y : Int} (h : zatp k pc = some (p0, .if_icmp cd off, a, b, v)) (ht : zJ pc off = some t) (hx : zR x) (hy : zR y) (h1 : zcf cd x y → zPn Lx xs n k (t, L, st, hp, c, s) Q) (h2 : ¬ zcf cd x y → zPn Lx xs n k (pc + 3, L, st, hp, c, s) Q) : zPn Lx xs n k (pc, L, .int (Int32.ofInt y) :: .int (Int32.ofInt x) :: st, hp, c, s) Q :=
  zp_icmp h ht (fun q => h1 ((zcf_iff hx hy).mp q)) (fun q => h2 fun r => by rw [(zcf_iff hx hy).mpr r] at q; cases q)
theorem zq_if {p0 t : Nat} {cd : ClassFile.Cond} {off : Int} {a b : Nat} {v x : Int} (h : zatp k pc = some (p0, .ifCond cd off, a, b, v)) (ht : zJ pc off = some t) (hx : zR x) (h1 : zcf cd x 0 → zPn Lx xs n k (t, L, st, hp, c, s) Q) (h2 : ¬ zcf cd x 0 → zPn Lx xs n k (pc + 3, L, st, hp, c, s) Q) : zPn Lx xs n k (pc, L, .int (Int32.ofInt x) :: st, hp, c, s) Q :=
  zp_if h ht (fun q => h1 ((zcf_iff hx (y := 0) ⟨by decide, by decide⟩).mp q)) (fun q => h2 fun r => by rw [show (0 : Int32) = Int32.ofInt 0 from rfl, (zcf_iff hx (y := 0) ⟨by decide, by decide⟩).mpr r] at q; cases q)
end ZPI
