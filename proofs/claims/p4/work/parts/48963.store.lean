/-! a heap by what its cells are and one function for all their numbers -/
abbrev zDe : Type := (Nat × List Nat × Nat) ⊕ (Nat × Nat)
/-- values that are no numbers, by numbers -/
def zxv (k : Nat) : Value := match k % 4 with
  | 0 => .null
  | 1 => .ref (k / 4)
  | 2 => .float (UInt32.ofNat (k / 4))
  | _ => .retAddr (k / 4)
theorem zxv_1 (a : Nat) : zxv (4 * a + 1) = .ref a := by
  unfold zxv
  rw [show (4 * a + 1) % 4 = 1 by omega, show (4 * a + 1) / 4 = a by omega]
  rfl
theorem zxv_2 (b : UInt32) : zxv (4 * b.toNat + 2) = .float b := by
  unfold zxv
  rw [show (4 * b.toNat + 2) % 4 = 2 by omega, show (4 * b.toNat + 2) / 4 = b.toNat by omega]
  show Value.float (UInt32.ofNat b.toNat) = .float b
  rw [UInt32.ofNat_toNat]
theorem zxv_3 (a : Nat) : zxv (4 * a + 3) = .retAddr a := by
  unfold zxv
  rw [show (4 * a + 3) % 4 = 3 by omega, show (4 * a + 3) / 4 = a by omega]
  rfl
theorem zxv_of {v : Value} (h : v.category = 1) : (∃ x, v = .int x) ∨ ∃ k, v = zxv k := by
  cases v with
  | int x => exact Or.inl ⟨x, rfl⟩
  | long x => cases h
  | double x => cases h
  | null => exact Or.inr ⟨0, rfl⟩
  | ref a => exact Or.inr ⟨_, (zxv_1 a).symm⟩
  | float b => exact Or.inr ⟨_, (zxv_2 b).symm⟩
  | retAddr a => exact Or.inr ⟨_, (zxv_3 a).symm⟩
def zOb (tab : List Nat) (e : Nat → Nat) (s : Nat → Int32) (i : Nat) : Value := match tab.getD i 0 with
  | 0 => .int (s i)
  | r + 1 => cond (Nat.ble 1000 r) (zxv (r - 1000)) (.ref (e r))
/-- a field that holds a cell of the list -/
def zrf (tab : List Nat) (b r : Nat) : Bool := Nat.beq (tab.getD b 0) (r + 1) && !(Nat.ble 1000 r)
theorem zrf_ok {tab : List Nat} {e : Nat → Nat} {s : Nat → Int32} {b r : Nat} (h : zrf tab b r = true) : zOb tab e s b = .ref (e r) := by
  unfold zrf at h
  rw [Bool.and_eq_true] at h
  unfold zOb
  rw [Nat.eq_of_beq_eq_true h.1]
  show cond (Nat.ble 1000 r) _ _ = _
  cases hb : Nat.ble 1000 r with
  | false => rfl
  | true =>
    rw [hb] at h
    exact absurd h.2 (by decide)
def zCell (e : Nat → Nat) (s : Nat → Int32) : zDe → zhE
  | .inl (ci, tab, N) => .inr (ci, zFs (zOb tab e s) N)
  | .inr (t, m) => .inl (t, m, .inl s)
def zCs (e : Nat → Nat) (S : Nat → Nat → Int32) : Nat → List zDe → List zhE
  | _, [] => []
  | i, d :: D => zCell e (S i) d :: zCs e S (i + 1) D
def zuS (S : Nat → Nat → Int32) (i b : Nat) (x : Int32) : Nat → Nat → Int32 := fun q => if q = i then va_up (S i) b x else S q
theorem zCs_len {e : Nat → Nat} {S : Nat → Nat → Int32} : ∀ {D : List zDe} {i : Nat}, (zCs e S i D).length = D.length
  | [], _ => rfl
  | d :: D, i => by
    show (zCs e S (i + 1) D).length + 1 = D.length + 1
    rw [zCs_len]
theorem zCs_get {e : Nat → Nat} {S : Nat → Nat → Int32} : ∀ {D : List zDe} {i j : Nat} {d : zDe}, D[j]? = some d → (zCs e S i D)[j]? = some (zCell e (S (i + j)) d)
  | [], _, _, _, h => by simp at h
  | x :: D, i, 0, d, h => by
    cases h
    rfl
  | x :: D, i, j + 1, d, h => by
    have h : D[j]? = some d := by simpa using h
    show (zCs e S (i + 1) D)[j]? = _
    rw [zCs_get h, show i + 1 + j = i + (j + 1) by omega]
theorem zCs_congr {e : Nat → Nat} {S S' : Nat → Nat → Int32} : ∀ {D : List zDe} {i : Nat}, (∀ q, i ≤ q → S' q = S q) → zCs e S' i D = zCs e S i D
  | [], _, _ => rfl
  | d :: D, i, h => by
    show zCell e (S' i) d :: zCs e S' (i + 1) D = zCell e (S i) d :: zCs e S (i + 1) D
    rw [h i (Nat.le_refl i), zCs_congr (fun q hq => h q (by omega))]
theorem zCs_set {e : Nat → Nat} {S S' : Nat → Nat → Int32} {c : zhE} : ∀ {D : List zDe} {i j : Nat} {d : zDe}, D[j]? = some d → zCell e (S' (i + j)) d = c → (∀ q, q ≠ i + j → S' q = S q) → (zCs e S i D).set j c = zCs e S' i D
  | [], _, _, _, h, _, _ => by simp at h
  | x :: D, i, 0, d, h, hc, hq => by
    cases h
    show c :: zCs e S (i + 1) D = zCell e (S' i) x :: zCs e S' (i + 1) D
    rw [← hc, zCs_congr (fun q h2 => hq q (by omega))]
    rfl
  | x :: D, i, j + 1, d, h, hc, hq => by
    have h : D[j]? = some d := by simpa using h
    show zCell e (S i) x :: (zCs e S (i + 1) D).set j c = zCell e (S' i) x :: zCs e S' (i + 1) D
    rw [zCs_set (S' := S') h (by rw [show i + 1 + j = i + (j + 1) by omega]; exact hc) (fun q h2 => hq q (by omega)), hq i (by omega)]
theorem zOb_put {tab : List Nat} {e : Nat → Nat} {s : Nat → Int32} {N b : Nat} {x : Int32} (hb : tab.getD b 0 = 0) : (zFs (zOb tab e s) N).set b (.int x) = zFs (zOb tab e (va_up s b x)) N := by
  unfold zFs
  apply List.ext_getElem?
  intro i
  rw [List.getElem?_set]
  by_cases hi : i < N
  · rw [List.getElem?_map, List.getElem?_map, List.getElem?_range hi]
    show (if b = i then (if b < ((List.range N).map (zOb tab e s)).length then some (Value.int x) else none) else some (zOb tab e s i)) = some (zOb tab e (va_up s b x) i)
    by_cases h : b = i
    · subst h
      rw [if_pos rfl, if_pos (by rw [List.length_map, List.length_range]; exact hi)]
      unfold zOb va_up
      rw [hb]
      show _ = some (Value.int (if b = b then x else s b))
      rw [if_pos rfl]
    · rw [if_neg h]
      unfold zOb
      cases tab.getD i 0 with
      | zero =>
        show some (Value.int (s i)) = some (Value.int (if i = b then x else s i))
        rw [if_neg (fun q => h q.symm)]
      | succ r => rfl
  · rw [List.getElem?_eq_none (by simp; omega), List.getElem?_eq_none (by simp; omega)]
    by_cases h : b = i
    · rw [if_pos h, if_neg (by rw [List.length_map, List.length_range]; omega)]
    · rw [if_neg h]
def zHS (e : Nat → Nat) (D : List zDe) (S : Nat → Nat → Int32) (hp : List zhE) : List zhE := zHe e 0 (zCs e S 0 D) hp
section ZPS
variable {Lx : Nat} {xs : Nat → Int32} {n k : Nat} {pc : Nat} {L : zL} {st : List Value} {hp : List zhE} {c s : Nat} {Q : ZP} {e : Nat → Nat} {D : List zDe} {S : Nat → Nat → Int32}
theorem zy_get {p0 q a b j m : Nat} {v : Int} {tab : List Nat} (he : zeI e hp D.length) (h : zatp k pc = some (p0, .getfield q, a, b, v)) (hD : D[j]? = some (.inl (a, tab, m))) (hb : Nat.ble (b + 1) m = true) (ht : Nat.beq (tab.getD b 0) 0 = true) (hn : zPn Lx xs n k (pc + 3, L, .int (S j b) :: st, zHS e D S hp, c, s) Q) : zPn Lx xs n k (pc, L, .ref (e j) :: st, zHS e D S hp, c, s) Q := by
  have hc : (zCs e S 0 D)[j]? = some (.inr (a, zFs (zOb tab e (S j)) m)) := by
    have := zCs_get (e := e) (S := S) (i := 0) hD
    rwa [Nat.zero_add] at this
  refine zp_get (by rw [zCs_len]; exact he) h hc (zFs_get (Nat.le_of_ble_eq_true hb)) ?_
  have e1 : zOb tab e (S j) b = .int (S j b) := by
    unfold zOb
    rw [Nat.eq_of_beq_eq_true ht]
  rw [e1]
  exact hn
theorem zy_ref {p0 q a b j m r : Nat} {v : Int} {tab : List Nat} (he : zeI e hp D.length) (h : zatp k pc = some (p0, .getfield q, a, b, v)) (hD : D[j]? = some (.inl (a, tab, m))) (hb : Nat.ble (b + 1) m = true) (ht : zrf tab b r = true) (hn : zPn Lx xs n k (pc + 3, L, .ref (e r) :: st, zHS e D S hp, c, s) Q) : zPn Lx xs n k (pc, L, .ref (e j) :: st, zHS e D S hp, c, s) Q := by
  have hc : (zCs e S 0 D)[j]? = some (.inr (a, zFs (zOb tab e (S j)) m)) := by
    have := zCs_get (e := e) (S := S) (i := 0) hD
    rwa [Nat.zero_add] at this
  refine zp_get (by rw [zCs_len]; exact he) h hc (zFs_get (Nat.le_of_ble_eq_true hb)) ?_
  have e1 : zOb tab e (S j) b = .ref (e r) := zrf_ok ht
  rw [e1]
  exact hn
theorem zuS_self {i b : Nat} {x : Int32} : zuS S i b x i = va_up (S i) b x := if_pos rfl
theorem zuS_ne {i b q : Nat} {x : Int32} (h : q ≠ i) : zuS S i b x q = S q := if_neg h
theorem zy_put {p0 q a b j m : Nat} {v : Int} {x : Int32} {tab : List Nat} (he : zeI e hp D.length) (h : zatp k pc = some (p0, .putfield q, a, b, v)) (hD : D[j]? = some (.inl (a, tab, m))) (ht : Nat.beq (tab.getD b 0) 0 = true) (hn : zPn Lx xs n k (pc + 3, L, st, zHS e D (zuS S j b x) hp, c, s) Q) : zPn Lx xs n k (pc, L, .int x :: .ref (e j) :: st, zHS e D S hp, c, s) Q := by
  have hc : (zCs e S 0 D)[j]? = some (.inr (a, zFs (zOb tab e (S j)) m)) := by
    have := zCs_get (e := e) (S := S) (i := 0) hD
    rwa [Nat.zero_add] at this
  refine zp_put (by rw [zCs_len]; exact he) h hc fun _ => ?_
  rw [zOb_put (Nat.eq_of_beq_eq_true ht), zCs_set (S' := zuS S j b x) (i := 0) hD (by rw [Nat.zero_add, zuS_self]; rfl) (fun q hq => zuS_ne (by omega))]
  exact hn
theorem zFs_putR {tab : List Nat} {e : Nat → Nat} {s : Nat → Int32} {N b r : Nat} (hb : b < tab.length) (hr : Nat.ble 1000 r = false) : (zFs (zOb tab e s) N).set b (.ref (e r)) = zFs (zOb (tab.set b (r + 1)) e s) N := by
  unfold zFs
  apply List.ext_getElem?
  intro i
  rw [List.getElem?_set]
  by_cases hi : i < N
  · rw [List.getElem?_map, List.getElem?_map, List.getElem?_range hi]
    show (if b = i then (if b < ((List.range N).map (zOb tab e s)).length then some (Value.ref (e r)) else none) else some (zOb tab e s i)) = some (zOb (tab.set b (r + 1)) e s i)
    by_cases h : b = i
    · subst h
      rw [if_pos rfl, if_pos (by rw [List.length_map, List.length_range]; exact hi)]
      have h2 : (tab.set b (r + 1)).getD b 0 = r + 1 := by
        rw [List.getD_eq_getElem?_getD, List.getElem?_set_self hb]
        rfl
      unfold zOb
      rw [h2]
      show _ = some (cond (Nat.ble 1000 r) _ _)
      rw [hr]
      rfl
    · rw [if_neg h]
      have h2 : (tab.set b (r + 1)).getD i 0 = tab.getD i 0 := by
        rw [List.getD_eq_getElem?_getD, List.getElem?_set_ne h, List.getD_eq_getElem?_getD]
      unfold zOb
      rw [h2]
  · rw [List.getElem?_eq_none (by simp; omega), List.getElem?_eq_none (by simp; omega)]
    by_cases h : b = i
    · rw [if_pos h, if_neg (by rw [List.length_map, List.length_range]; omega)]
    · rw [if_neg h]
theorem zCs_setD {e : Nat → Nat} {S : Nat → Nat → Int32} {c : zhE} {d2 : zDe} : ∀ {D : List zDe} {i j : Nat}, zCell e (S (i + j)) d2 = c → (zCs e S i D).set j c = zCs e S i (D.set j d2)
  | [], _, _, _ => rfl
  | x :: D, i, 0, hc => by
    show c :: zCs e S (i + 1) D = zCell e (S i) d2 :: zCs e S (i + 1) D
    rw [← hc]
    rfl
  | x :: D, i, j + 1, hc => by
    show zCell e (S i) x :: (zCs e S (i + 1) D).set j c = zCell e (S i) x :: zCs e S (i + 1) (D.set j d2)
    rw [zCs_setD (d2 := d2) (by rw [show i + 1 + j = i + (j + 1) by omega]; exact hc)]
theorem zy_putR {p0 q a b j m r : Nat} {v : Int} {tab : List Nat} {D' : List zDe} (he : zeI e hp D.length) (h : zatp k pc = some (p0, .putfield q, a, b, v)) (hD : D[j]? = some (.inl (a, tab, m))) (hb : Nat.ble (b + 1) tab.length = true) (hr : Nat.ble 1000 r = false) (hD' : D.set j (.inl (a, tab.set b (r + 1), m)) = D') (hn : zPn Lx xs n k (pc + 3, L, st, zHS e D' S hp, c, s) Q) : zPn Lx xs n k (pc, L, .ref (e r) :: .ref (e j) :: st, zHS e D S hp, c, s) Q := by
  have hc : (zCs e S 0 D)[j]? = some (.inr (a, zFs (zOb tab e (S j)) m)) := by
    have := zCs_get (e := e) (S := S) (i := 0) hD
    rwa [Nat.zero_add] at this
  refine zp_put (by rw [zCs_len]; exact he) h hc fun _ => ?_
  rw [zFs_putR (Nat.le_of_ble_eq_true hb) hr, zCs_setD (d2 := .inl (a, tab.set b (r + 1), m)) (by rw [Nat.zero_add]; rfl), hD']
  exact hn
theorem zy_ald {p0 a b j m : Nat} {v : Int} {x : Int32} (he : zeI e hp D.length) (h : zatp k pc = some (p0, .iaload, a, b, v)) (hD : D[j]? = some (.inr (0, m))) (hn : 0 ≤ x.toInt → x.toInt < m → zPn Lx xs n k (pc + 1, L, .int (S j x.toNatClampNeg) :: st, zHS e D S hp, c, s) Q) : zPn Lx xs n k (pc, L, .int x :: .ref (e j) :: st, zHS e D S hp, c, s) Q := by
  have hc : (zCs e S 0 D)[j]? = some (.inl (0, m, .inl (S j))) := by
    have := zCs_get (e := e) (S := S) (i := 0) hD
    rwa [Nat.zero_add] at this
  exact zp_aldI (by rw [zCs_len]; exact he) h hc hn
theorem zy_aldB {p0 a b j m : Nat} {v : Int} {x : Int32} (he : zeI e hp D.length) (h : zatp k pc = some (p0, .baload, a, b, v)) (hD : D[j]? = some (.inr (2, m))) (hn : 0 ≤ x.toInt → x.toInt < m → zPn Lx xs n k (pc + 1, L, .int (S j x.toNatClampNeg) :: st, zHS e D S hp, c, s) Q) : zPn Lx xs n k (pc, L, .int x :: .ref (e j) :: st, zHS e D S hp, c, s) Q := by
  have hc : (zCs e S 0 D)[j]? = some (.inl (2, m, .inl (S j))) := by
    have := zCs_get (e := e) (S := S) (i := 0) hD
    rwa [Nat.zero_add] at this
  exact zp_aldB (by rw [zCs_len]; exact he) h hc hn
theorem zy_ast {p0 a b j m : Nat} {v : Int} {x y : Int32} (he : zeI e hp D.length) (h : zatp k pc = some (p0, .iastore, a, b, v)) (hD : D[j]? = some (.inr (0, m))) (hn : 0 ≤ x.toInt → x.toInt < m → zPn Lx xs n k (pc + 1, L, st, zHS e D (zuS S j x.toNatClampNeg y) hp, c, s) Q) : zPn Lx xs n k (pc, L, .int y :: .int x :: .ref (e j) :: st, zHS e D S hp, c, s) Q := by
  have hc : (zCs e S 0 D)[j]? = some (.inl (0, m, .inl (S j))) := by
    have := zCs_get (e := e) (S := S) (i := 0) hD
    rwa [Nat.zero_add] at this
  refine zp_astI (by rw [zCs_len]; exact he) h hc fun h1 h2 => ?_
  rw [zCs_set (S' := zuS S j x.toNatClampNeg y) (i := 0) hD (by rw [Nat.zero_add, zuS_self]; rfl) (fun q hq => zuS_ne (by omega))]
  exact hn h1 h2
theorem zy_len {p0 a b j t m : Nat} {v : Int} (he : zeI e hp D.length) (h : zatp k pc = some (p0, .arraylength, a, b, v)) (hD : D[j]? = some (.inr (t, m))) (hn : zPn Lx xs n k (pc + 1, L, .int (Int32.ofInt (m : Int)) :: st, zHS e D S hp, c, s) Q) : zPn Lx xs n k (pc, L, .ref (e j) :: st, zHS e D S hp, c, s) Q := by
  have hc : (zCs e S 0 D)[j]? = some (.inl (t, m, .inl (S j))) := by
    have := zCs_get (e := e) (S := S) (i := 0) hD
    rwa [Nat.zero_add] at this
  exact zp_len (by rw [zCs_len]; exact he) h hc hn
theorem zcf_of {cd : ClassFile.Cond} {x y : Int32} : zcb cd x y = true ↔ zcf cd x.toInt y.toInt := by
  have h1 := zcf_iff (cd := cd) (x := x.toInt) (y := y.toInt) ⟨Int32.le_toInt x, by have := Int32.toInt_lt x; omega⟩ ⟨Int32.le_toInt y, by have := Int32.toInt_lt y; omega⟩
  rwa [Int32.ofInt_toInt, Int32.ofInt_toInt] at h1
theorem zy_icmp {p0 t : Nat} {cd : ClassFile.Cond} {off : Int} {a b : Nat} {v : Int} {x y : Int32} {hp2 : List zhE} (h : zatp k pc = some (p0, .if_icmp cd off, a, b, v)) (ht : zJ pc off = some t) (h1 : zcf cd x.toInt y.toInt → zPn Lx xs n k (t, L, st, hp2, c, s) Q) (h2 : ¬ zcf cd x.toInt y.toInt → zPn Lx xs n k (pc + 3, L, st, hp2, c, s) Q) : zPn Lx xs n k (pc, L, .int y :: .int x :: st, hp2, c, s) Q :=
  zp_icmp h ht (fun q => h1 (zcf_of.mp q)) (fun q => h2 fun r => by rw [zcf_of.mpr r] at q; cases q)
theorem zy_icmpC {p0 t : Nat} {cd : ClassFile.Cond} {off : Int} {a b : Nat} {v m : Int} {x : Int32} {hp2 : List zhE} (h : zatp k pc = some (p0, .if_icmp cd off, a, b, v)) (ht : zJ pc off = some t) (hm : zR m) (h1 : zcf cd x.toInt m → zPn Lx xs n k (t, L, st, hp2, c, s) Q) (h2 : ¬ zcf cd x.toInt m → zPn Lx xs n k (pc + 3, L, st, hp2, c, s) Q) : zPn Lx xs n k (pc, L, .int (Int32.ofInt m) :: .int x :: st, hp2, c, s) Q :=
  zy_icmp h ht (fun q => h1 (by rwa [zRt hm] at q)) (fun q => h2 (by rwa [zRt hm] at q))
theorem zy_if {p0 t : Nat} {cd : ClassFile.Cond} {off : Int} {a b : Nat} {v : Int} {x : Int32} {hp2 : List zhE} (h : zatp k pc = some (p0, .ifCond cd off, a, b, v)) (ht : zJ pc off = some t) (h1 : zcf cd x.toInt 0 → zPn Lx xs n k (t, L, st, hp2, c, s) Q) (h2 : ¬ zcf cd x.toInt 0 → zPn Lx xs n k (pc + 3, L, st, hp2, c, s) Q) : zPn Lx xs n k (pc, L, .int x :: st, hp2, c, s) Q :=
  zp_if h ht (fun q => h1 (zcf_of.mp q)) (fun q => h2 fun r => by rw [zcf_of.mpr r] at q; cases q)
theorem zy_v0 {p0 q a j : Nat} {v : Int} {hp2 : List zhE} {P : ZP} (h : zatp k pc = some (p0, .invokevirtual q, a, 0, v)) (hP : zPn Lx xs n a (0, [(0, .ref j)], [], hp2, 0, 0) P) (hn : ∀ rv hp', P rv hp' → zPn Lx xs n k (pc + 3, L, rv.toList ++ st, hp', c + (zrm a).cells, s + (zrm a).slots) Q) : zPn Lx xs n k (pc, L, .ref j :: st, hp2, c, s) Q := zp_virt (vs := []) h rfl hP hn
theorem zy_v1 {p0 q a j : Nat} {v : Int} {x : Value} {hp2 : List zhE} {P : ZP} (h : zatp k pc = some (p0, .invokevirtual q, a, 1, v)) (hP : zPn Lx xs n a (0, lv_args 0 [.ref j, x], [], hp2, 0, 0) P) (hn : ∀ rv hp', P rv hp' → zPn Lx xs n k (pc + 3, L, rv.toList ++ st, hp', c + (zrm a).cells, s + (zrm a).slots) Q) : zPn Lx xs n k (pc, L, x :: .ref j :: st, hp2, c, s) Q := zp_virt (vs := [x]) h rfl hP hn
theorem zy_v2 {p0 q a j : Nat} {v : Int} {x y : Value} {hp2 : List zhE} {P : ZP} (h : zatp k pc = some (p0, .invokevirtual q, a, 2, v)) (hP : zPn Lx xs n a (0, lv_args 0 [.ref j, x, y], [], hp2, 0, 0) P) (hn : ∀ rv hp', P rv hp' → zPn Lx xs n k (pc + 3, L, rv.toList ++ st, hp', c + (zrm a).cells, s + (zrm a).slots) Q) : zPn Lx xs n k (pc, L, y :: x :: .ref j :: st, hp2, c, s) Q := zp_virt (vs := [x, y]) h rfl hP hn
theorem zy_v3 {p0 q a j : Nat} {v : Int} {x y z : Value} {hp2 : List zhE} {P : ZP} (h : zatp k pc = some (p0, .invokevirtual q, a, 3, v)) (hP : zPn Lx xs n a (0, lv_args 0 [.ref j, x, y, z], [], hp2, 0, 0) P) (hn : ∀ rv hp', P rv hp' → zPn Lx xs n k (pc + 3, L, rv.toList ++ st, hp', c + (zrm a).cells, s + (zrm a).slots) Q) : zPn Lx xs n k (pc, L, z :: y :: x :: .ref j :: st, hp2, c, s) Q := zp_virt (vs := [x, y, z]) h rfl hP hn
theorem zy_v0e {p0 q a j : Nat} {v : Int} {w : Value} {hp2 hp3 : List zhE} (h : zatp k pc = some (p0, .invokevirtual q, a, 0, v)) (hP : zPn Lx xs n a (0, lv_args 0 [.ref j], [], hp2, 0, 0) (fun rv hp1 => rv = some w ∧ hp1 = hp3)) (hn : zPn Lx xs n k (pc + 3, L, w :: st, hp3, c + (zrm a).cells, s + (zrm a).slots) Q) : zPn Lx xs n k (pc, L, .ref j :: st, hp2, c, s) Q := zp_virt (vs := []) h rfl hP (fun rv hp1 hq => by
  obtain ⟨q1, q2⟩ := hq
  rw [q1, q2]
  exact hn)
theorem zy_v1e {p0 q a j : Nat} {v : Int} {x : Value} {w : Value} {hp2 hp3 : List zhE} (h : zatp k pc = some (p0, .invokevirtual q, a, 1, v)) (hP : zPn Lx xs n a (0, lv_args 0 [.ref j, x], [], hp2, 0, 0) (fun rv hp1 => rv = some w ∧ hp1 = hp3)) (hn : zPn Lx xs n k (pc + 3, L, w :: st, hp3, c + (zrm a).cells, s + (zrm a).slots) Q) : zPn Lx xs n k (pc, L, x :: .ref j :: st, hp2, c, s) Q := zp_virt (vs := [x]) h rfl hP (fun rv hp1 hq => by
  obtain ⟨q1, q2⟩ := hq
  rw [q1, q2]
  exact hn)
theorem zy_v2e {p0 q a j : Nat} {v : Int} {x y : Value} {w : Value} {hp2 hp3 : List zhE} (h : zatp k pc = some (p0, .invokevirtual q, a, 2, v)) (hP : zPn Lx xs n a (0, lv_args 0 [.ref j, x, y], [], hp2, 0, 0) (fun rv hp1 => rv = some w ∧ hp1 = hp3)) (hn : zPn Lx xs n k (pc + 3, L, w :: st, hp3, c + (zrm a).cells, s + (zrm a).slots) Q) : zPn Lx xs n k (pc, L, y :: x :: .ref j :: st, hp2, c, s) Q := zp_virt (vs := [x, y]) h rfl hP (fun rv hp1 hq => by
  obtain ⟨q1, q2⟩ := hq
  rw [q1, q2]
  exact hn)
theorem zy_v3e {p0 q a j : Nat} {v : Int} {x y z : Value} {w : Value} {hp2 hp3 : List zhE} (h : zatp k pc = some (p0, .invokevirtual q, a, 3, v)) (hP : zPn Lx xs n a (0, lv_args 0 [.ref j, x, y, z], [], hp2, 0, 0) (fun rv hp1 => rv = some w ∧ hp1 = hp3)) (hn : zPn Lx xs n k (pc + 3, L, w :: st, hp3, c + (zrm a).cells, s + (zrm a).slots) Q) : zPn Lx xs n k (pc, L, z :: y :: x :: .ref j :: st, hp2, c, s) Q := zp_virt (vs := [x, y, z]) h rfl hP (fun rv hp1 hq => by
  obtain ⟨q1, q2⟩ := hq
  rw [q1, q2]
  exact hn)
theorem zy_v0n {p0 q a j : Nat} {v : Int} {hp2 hp3 : List zhE} (h : zatp k pc = some (p0, .invokevirtual q, a, 0, v)) (hP : zPn Lx xs n a (0, lv_args 0 [.ref j], [], hp2, 0, 0) (fun rv hp1 => rv = none ∧ hp1 = hp3)) (hn : zPn Lx xs n k (pc + 3, L, st, hp3, c + (zrm a).cells, s + (zrm a).slots) Q) : zPn Lx xs n k (pc, L, .ref j :: st, hp2, c, s) Q := zp_virt (vs := []) h rfl hP (fun rv hp1 hq => by
  obtain ⟨q1, q2⟩ := hq
  rw [q1, q2]
  exact hn)
theorem zy_v1n {p0 q a j : Nat} {v : Int} {x : Value} {hp2 hp3 : List zhE} (h : zatp k pc = some (p0, .invokevirtual q, a, 1, v)) (hP : zPn Lx xs n a (0, lv_args 0 [.ref j, x], [], hp2, 0, 0) (fun rv hp1 => rv = none ∧ hp1 = hp3)) (hn : zPn Lx xs n k (pc + 3, L, st, hp3, c + (zrm a).cells, s + (zrm a).slots) Q) : zPn Lx xs n k (pc, L, x :: .ref j :: st, hp2, c, s) Q := zp_virt (vs := [x]) h rfl hP (fun rv hp1 hq => by
  obtain ⟨q1, q2⟩ := hq
  rw [q1, q2]
  exact hn)
theorem zy_v2n {p0 q a j : Nat} {v : Int} {x y : Value} {hp2 hp3 : List zhE} (h : zatp k pc = some (p0, .invokevirtual q, a, 2, v)) (hP : zPn Lx xs n a (0, lv_args 0 [.ref j, x, y], [], hp2, 0, 0) (fun rv hp1 => rv = none ∧ hp1 = hp3)) (hn : zPn Lx xs n k (pc + 3, L, st, hp3, c + (zrm a).cells, s + (zrm a).slots) Q) : zPn Lx xs n k (pc, L, y :: x :: .ref j :: st, hp2, c, s) Q := zp_virt (vs := [x, y]) h rfl hP (fun rv hp1 hq => by
  obtain ⟨q1, q2⟩ := hq
  rw [q1, q2]
  exact hn)
theorem zy_v3n {p0 q a j : Nat} {v : Int} {x y z : Value} {hp2 hp3 : List zhE} (h : zatp k pc = some (p0, .invokevirtual q, a, 3, v)) (hP : zPn Lx xs n a (0, lv_args 0 [.ref j, x, y, z], [], hp2, 0, 0) (fun rv hp1 => rv = none ∧ hp1 = hp3)) (hn : zPn Lx xs n k (pc + 3, L, st, hp3, c + (zrm a).cells, s + (zrm a).slots) Q) : zPn Lx xs n k (pc, L, z :: y :: x :: .ref j :: st, hp2, c, s) Q := zp_virt (vs := [x, y, z]) h rfl hP (fun rv hp1 hq => by
  obtain ⟨q1, q2⟩ := hq
  rw [q1, q2]
  exact hn)
theorem zy_s1e {p0 q a : Nat} {v : Int} {x : Value} {w : Value} {hp2 hp3 : List zhE} (h : zatp k pc = some (p0, .invokestatic q, a, 1, v)) (hk : zkind (.invokestatic q) a 1 v = 2) (hP : zPn Lx xs n a (0, lv_args 0 [x], [], hp2, 0, 0) (fun rv hp1 => rv = some w ∧ hp1 = hp3)) (hn : zPn Lx xs n k (pc + 3, L, w :: st, hp3, c + (zrm a).cells, s + (zrm a).slots) Q) : zPn Lx xs n k (pc, L, x :: st, hp2, c, s) Q := zp_stat (vs := [x]) h hk rfl hP (fun rv hp1 hq => by
  obtain ⟨q1, q2⟩ := hq
  rw [q1, q2]
  exact hn)
theorem zy_s2e {p0 q a : Nat} {v : Int} {x y : Value} {w : Value} {hp2 hp3 : List zhE} (h : zatp k pc = some (p0, .invokestatic q, a, 2, v)) (hk : zkind (.invokestatic q) a 2 v = 2) (hP : zPn Lx xs n a (0, lv_args 0 [x, y], [], hp2, 0, 0) (fun rv hp1 => rv = some w ∧ hp1 = hp3)) (hn : zPn Lx xs n k (pc + 3, L, w :: st, hp3, c + (zrm a).cells, s + (zrm a).slots) Q) : zPn Lx xs n k (pc, L, y :: x :: st, hp2, c, s) Q := zp_stat (vs := [x, y]) h hk rfl hP (fun rv hp1 hq => by
  obtain ⟨q1, q2⟩ := hq
  rw [q1, q2]
  exact hn)
theorem zy_s3e {p0 q a : Nat} {v : Int} {x y z : Value} {w : Value} {hp2 hp3 : List zhE} (h : zatp k pc = some (p0, .invokestatic q, a, 3, v)) (hk : zkind (.invokestatic q) a 3 v = 2) (hP : zPn Lx xs n a (0, lv_args 0 [x, y, z], [], hp2, 0, 0) (fun rv hp1 => rv = some w ∧ hp1 = hp3)) (hn : zPn Lx xs n k (pc + 3, L, w :: st, hp3, c + (zrm a).cells, s + (zrm a).slots) Q) : zPn Lx xs n k (pc, L, z :: y :: x :: st, hp2, c, s) Q := zp_stat (vs := [x, y, z]) h hk rfl hP (fun rv hp1 hq => by
  obtain ⟨q1, q2⟩ := hq
  rw [q1, q2]
  exact hn)
theorem zy_s4e {p0 q a : Nat} {v : Int} {x y z u : Value} {w : Value} {hp2 hp3 : List zhE} (h : zatp k pc = some (p0, .invokestatic q, a, 4, v)) (hk : zkind (.invokestatic q) a 4 v = 2) (hP : zPn Lx xs n a (0, lv_args 0 [x, y, z, u], [], hp2, 0, 0) (fun rv hp1 => rv = some w ∧ hp1 = hp3)) (hn : zPn Lx xs n k (pc + 3, L, w :: st, hp3, c + (zrm a).cells, s + (zrm a).slots) Q) : zPn Lx xs n k (pc, L, u :: z :: y :: x :: st, hp2, c, s) Q := zp_stat (vs := [x, y, z, u]) h hk rfl hP (fun rv hp1 hq => by
  obtain ⟨q1, q2⟩ := hq
  rw [q1, q2]
  exact hn)
theorem zy_s1 {p0 q a : Nat} {v : Int} {x : Value} {hp2 : List zhE} {P : ZP} (h : zatp k pc = some (p0, .invokestatic q, a, 1, v)) (hk : zkind (.invokestatic q) a 1 v = 2) (hP : zPn Lx xs n a (0, lv_args 0 [x], [], hp2, 0, 0) P) (hn : ∀ rv hp', P rv hp' → zPn Lx xs n k (pc + 3, L, rv.toList ++ st, hp', c + (zrm a).cells, s + (zrm a).slots) Q) : zPn Lx xs n k (pc, L, x :: st, hp2, c, s) Q := zp_stat (vs := [x]) h hk rfl hP hn
end ZPS
theorem zuS_same {S : Nat → Nat → Int32} {i b : Nat} {x y : Int32} : zuS (zuS S i b x) i b y = zuS S i b y := by
  funext q p
  unfold zuS va_up
  by_cases hq : q = i
  · subst hq
    by_cases hp : p = b
    · simp [hp]
    · simp [hp]
  · simp [hq]
theorem zuS_id {S : Nat → Nat → Int32} {i b : Nat} {x : Int32} (h : S i b = x) : zuS S i b x = S := by
  funext q p
  unfold zuS va_up
  by_cases hq : q = i
  · subst hq
    by_cases hp : p = b
    · subst hp
      simp [h]
    · simp [hp]
  · simp [hq]
theorem zuS_at {S : Nat → Nat → Int32} {i b : Nat} {x : Int32} : zuS S i b x i b = x := by
  unfold zuS va_up
  simp
theorem zuS_off {S : Nat → Nat → Int32} {i b q p : Nat} {x : Int32} (h : q ≠ i ∨ p ≠ b) : zuS S i b x q p = S q p := by
  unfold zuS va_up
  by_cases hq : q = i
  · subst hq
    have h2 : p ≠ b := by
      rcases h with h | h
      · exact absurd rfl h
      · exact h
    simp [h2]
  · simp [hq]
/-- where a stretch of one kind ends -/
def zendA (p : Nat → Bool) : Nat → Nat → Nat
  | 0, a => a
  | d + 1, a => cond (p a) (zendA p d (a + 1)) a
def zend (p : Nat → Bool) (m a : Nat) : Nat := zendA p (m - a) a
theorem zend_up {p : Nat → Bool} {m a : Nat} (h : a < m) (hp : p a = true) : zend p m a = zend p m (a + 1) := by
  unfold zend
  rw [show m - a = (m - (a + 1)) + 1 by omega]
  show cond (p a) _ _ = _
  rw [hp]
  rfl
theorem zend_no {p : Nat → Bool} {m a : Nat} (h : m ≤ a ∨ p a = false) : zend p m a = a := by
  unfold zend
  rcases h with h | h
  · rw [show m - a = 0 by omega]
    rfl
  · cases m - a with
    | zero => rfl
    | succ d =>
      show cond (p a) _ _ = _
      rw [h]
      rfl
theorem zend_le {p : Nat → Bool} {m : Nat} : ∀ (d a : Nat), a + d = m → a ≤ zend p m a ∧ zend p m a ≤ m := by
  intro d
  induction d with
  | zero =>
    intro a ha
    rw [zend_no (Or.inl (by omega))]
    omega
  | succ d ih =>
    intro a ha
    cases hp : p a with
    | true =>
      rw [zend_up (by omega) hp]
      have := ih (a + 1) (by omega)
      omega
    | false =>
      rw [zend_no (Or.inr hp)]
      omega
