/-! abstract instructions on the heap -/
section ZHP
variable {G : ZG} {D : va_G} {B : zB} {tA : Nat → ClassId} {H0 : Heap} {nL : Nat} {ρ : Nat → Int} {K : ZK} {pc : Nat} {A : AL} {S : List AV} {h : AH} {E : AE} {c s : Nat}
def zref (a : AV) (k : Nat → Bool) : Bool := match a with
  | (3, i, _) => k i.toNat
  | _ => false
theorem zref_ok {a : AV} {k : Nat → Bool} {v : Value} (h : zref a k = true) (ha : za ρ a v) : ∃ i, v = .ref i ∧ k i = true := by
  unfold zref at h
  split at h
  · exact ⟨_, ha, h⟩
  · cases h
/-- an object's fields -/
def zobj (h : AH) (i ci : Nat) (k : List AV → Bool) : Bool := zhget h i (fun x => match x with
  | .inl (cj, fs) => (match Nat.beq cj ci with | true => k fs | false => false)
  | _ => false)
theorem zobj_ok {h : AH} {i ci : Nat} {k : List AV → Bool} {hp : List zhE} (hz : zobj h i ci k = true) (hH : zaH ρ h hp) : ∃ fs vs, zhg h.2 i = some (.inl (ci, fs)) ∧ k fs = true ∧ hp[i]? = some (.inr (ci, vs)) ∧ zaS ρ fs vs := by
  obtain ⟨x, g1, g2⟩ := zhget_ok hz
  split at g2
  · split at g2
    · rename_i e
      have e := Nat.eq_of_beq_eq_true e
      subst e
      obtain ⟨y, g3, vs, rfl, g4⟩ := hH.2 _ _ g1
      exact ⟨_, vs, g1, g2, g3, g4⟩
    · cases g2
  · cases g2
/-- an array -/
def zarr (h : AH) (i t : Nat) (k : Nat → AV → List (Nat × AV) → Bool) : Bool := zhget h i (fun x => match x with
  | .inr (t', n, d, ov) => (match Nat.beq t' t with | true => k n d ov | false => false)
  | _ => false)
theorem zarr_ok {h : AH} {i t : Nat} {k : Nat → AV → List (Nat × AV) → Bool} {hp : List zhE} (hz : zarr h i t k = true) (hH : zaH ρ h hp) : ∃ n d ov f, zhg h.2 i = some (.inr (t, n, d, ov)) ∧ k n d ov = true ∧ hp[i]? = some (.inl (t, n, f)) ∧ zaT t f ∧ ∀ j, j < n → za ρ (zov ov d j) (zel f j) := by
  obtain ⟨x, g1, g2⟩ := zhget_ok hz
  split at g2
  · split at g2
    · rename_i e
      have e := Nat.eq_of_beq_eq_true e
      subst e
      obtain ⟨y, g3, f, rfl, g4, g5⟩ := hH.2 _ _ g1
      exact ⟨_, _, _, f, g1, g2, g3, g4, g5⟩
    · cases g2
  · cases g2
def zo_get (ci k : Nat) (pc : Nat) (A : AL) (S : List AV) (h : AH) (E : AE) (c s : Nat) (K : ZK) : Bool := match S with
  | a :: S => zref a (fun i => zobj h i ci (fun fs => zlg fs k (fun r => zfn (pc + 3) (fun pc => K pc A (r :: S) h E c s))))
  | _ => false
theorem zs_get {ci k : Nat} (hz : zo_get ci k pc A S h E c s K = true) (hK : zKS G D B tA H0 nL ρ K)
    (row : ∀ H locs ls st i vs v hp, zH D B tA H0 hp H → hp[i]? = some (.inr (ci, vs)) → vs[k]? = some v → G H locs c s (pc + 3) ls (zvm B v :: st) → G H locs c s pc ls (.ref (B.1 + i) :: st)) : zS G D B tA H0 nL ρ pc A S h E c s := by
  intro hE L st hp hL hS hH H locs ls h1 h2 h3
  unfold zo_get at hz
  split at hz
  · match st, hS with
    | v :: st, hS =>
      obtain ⟨i, rfl, g1⟩ := zref_ok hz hS.1
      obtain ⟨fs, vs, g2, g3, g4, g5⟩ := zobj_ok g1 hH
      obtain ⟨r, g6, g7⟩ := zlg_ok g3
      rw [zfn_eq] at g7
      obtain ⟨v, g8, g9⟩ := zAll_get g5 g6
      exact row _ _ _ _ i vs v hp h1 g4 g8 (hK _ _ _ _ _ _ _ g7 hE L (v :: st) hp hL ⟨g9, hS.2⟩ hH H locs ls h1 h2 h3)
    | [], hS => exact hS.elim
  · cases hz
/-- what a field of a kind takes: 0 int, 1 boolean, 2 long, else a reference or null -/
def zfk (E : AE) (fk : Int) (a : AV) : Bool := match fk with
  | 0 => zint a
  | 1 => ziv E a (fun l u => zle 0 l && zle u 1)
  | 2 => zlng a
  | _ => (match a.1 with | 3 => true | 4 => true | _ => false)
def zfkT (fk : Int) (ty : FieldType) : Prop := match fk with
  | 0 => ty = .int
  | 1 => ty = .boolean
  | 2 => ty = .long
  | _ => (∃ n, ty = .object n) ∨ ∃ t, ty = .array t
theorem zb_01 {x : Int32} (h1 : 0 ≤ x.toInt) (h2 : x.toInt ≤ 1) : x = 0 ∨ x = 1 := by
  rcases (show x.toInt = 0 ∨ x.toInt = 1 by omega) with e | e
  · exact Or.inl ((zb_of e).trans (by decide))
  · exact Or.inr ((zb_of e).trans (by decide))
theorem zfk_ok {fk : Int} {a : AV} {v : Value} {ty : FieldType} (hz : zfk E fk a = true) (hE : zaE ρ E) (ha : za ρ a v) (ht : zfkT fk ty) : narrow ty (zvm B v) = zvm B v ∧ fits ty (zvm B v) = true := by
  unfold zfk at hz
  unfold zfkT at ht
  split at hz
  · subst ht
    obtain ⟨x, rfl⟩ := zint_of (zint_ok hz) ha
    exact ⟨rfl, rfl⟩
  · subst ht
    obtain ⟨x, l, u, rfl, g1, g2, g3⟩ := ziv_ok hz hE ha
    simp only [Bool.and_eq_true, zle_iff] at g1
    rcases zb_01 (x := x) (by omega) (by omega) with rfl | rfl
    · exact (show narrow .boolean (.int 0) = .int 0 ∧ fits .boolean (.int 0) = true by decide)
    · exact (show narrow .boolean (.int 1) = .int 1 ∧ fits .boolean (.int 1) = true by decide)
  · subst ht
    obtain ⟨x, rfl⟩ := zlng_ok hz ha
    exact ⟨rfl, rfl⟩
  · rename_i n0 n1 n2
    split at ht
    · exact absurd rfl n0
    · exact absurd rfl n1
    · exact absurd rfl n2
    · obtain ⟨t, lo, hi⟩ := a
      split at hz
      · rename_i e
        simp only at e
        subst e
        have hv : v = .ref lo.toNat := ha
        subst hv
        rcases ht with ⟨n, rfl⟩ | ⟨n, rfl⟩ <;> exact ⟨rfl, rfl⟩
      · rename_i e
        simp only at e
        subst e
        have hv : v = .null := ha
        subst hv
        rcases ht with ⟨n, rfl⟩ | ⟨n, rfl⟩ <;> exact ⟨rfl, rfl⟩
      · cases hz
def zo_put (ci k : Nat) (fk : Int) (pc : Nat) (A : AL) (S : List AV) (h : AH) (E : AE) (c s : Nat) (K : ZK) : Bool := match S with
  | v :: a :: S => (match zfk E fk v with
    | true => zref a (fun i => zobj h i ci (fun fs => zls fs k v (fun fs => zhset h i (.inl (ci, fs)) (fun h => zfn (pc + 3) (fun pc => K pc A S h E c s)))))
    | false => false)
  | _ => false
theorem zs_put {ci k : Nat} {fk : Int} {ty : FieldType} (hz : zo_put ci k fk pc A S h E c s K = true) (hK : zKS G D B tA H0 nL ρ K) (ht : zfkT fk ty)
    (row : ∀ H locs ls st i vs v hp, zH D B tA H0 hp H → (∀ q ∈ locs, B.1 ≤ q.base) → hp[i]? = some (.inr (ci, vs)) → k < vs.length → narrow ty (zvm B v) = zvm B v → fits ty (zvm B v) = true → (∀ H1 locs1, zH D B tA H0 (hp.set i (.inr (ci, vs.set k v))) H1 → (∀ q ∈ locs1, B.1 ≤ q.base) → G H1 locs1 c s (pc + 3) ls st) → G H locs c s pc ls (zvm B v :: .ref (B.1 + i) :: st)) : zS G D B tA H0 nL ρ pc A S h E c s := by
  intro hE L st hp hL hS hH H locs ls h1 h2 h3
  unfold zo_put at hz
  split at hz
  · split at hz
    · rename_i hfk
      match st, hS with
      | w :: v :: st, hS =>
        obtain ⟨i, rfl, g1⟩ := zref_ok hz hS.2.1
        obtain ⟨fs, vs, g2, g3, g4, g5⟩ := zobj_ok g1 hH
        obtain ⟨g6, g7⟩ := zls_ok g3
        have hi : i < hp.length := (List.getElem?_eq_some_iff.mp g4).1
        obtain ⟨h', g8, g9⟩ := zhset_ok (h' := .inr (ci, vs.set k w)) g7 hH ⟨_, rfl, zAll_set g5 hS.1⟩ hi
        rw [zfn_eq] at g8
        obtain ⟨n1, n2⟩ := zfk_ok (B := B) hfk hE hS.1 ht
        refine row _ _ _ _ i vs w hp h1 h2 g4 (by rw [← zAll_len g5]; exact g6) n1 n2 (fun H1 locs1 k1 k2 => ?_)
        exact hK _ _ _ _ _ _ _ g8 hE L st _ hL hS.2.2 g9 H1 locs1 ls k1 k2 h3
      | [], hS => exact hS.elim
      | [_], hS => exact hS.2.elim
    · cases hz
  · cases hz
/-- what stands at a place, or at any -/
def zrd (E : AE) (j : AV) (n : Nat) (d : AV) (ov : List (Nat × AV)) (k : AV → Bool) : Bool := ziv E j (fun l u => match zle 0 l && zle (u + 1) n with
  | true => (match zeq l u with
    | true => k (zov ov d l.toNat)
    | false => (match ov with
      | [] => k d
      | _ => false))
  | false => false)
theorem zb_cl (x : Int32) : x.toNatClampNeg = x.toInt.toNat := rfl
theorem zrd_ok {j : AV} {n : Nat} {d : AV} {ov : List (Nat × AV)} {k : AV → Bool} {v : Value} (hz : zrd E j n d ov k = true) (hE : zaE ρ E) (hj : za ρ j v) : ∃ x : Int32, v = .int x ∧ vp_in x n ∧ k (zov ov d x.toNatClampNeg) = true ∧ x.toNatClampNeg < n := by
  obtain ⟨x, l, u, rfl, g1, g2, g3⟩ := ziv_ok hz hE hj
  split at g1
  · rename_i hc
    simp only [Bool.and_eq_true, zle_iff] at hc
    refine ⟨x, rfl, vp_in_iff.mpr ⟨by omega, by omega⟩, ?_, by rw [zb_cl]; omega⟩
    split at g1
    · rename_i he
      rw [zeq_iff] at he
      rw [zb_cl, show x.toInt = l by omega]
      exact g1
    · split at g1
      · exact g1
      · cases g1
  · cases g1
def zo_ald (t : Nat) (pc : Nat) (A : AL) (S : List AV) (h : AH) (E : AE) (c s : Nat) (K : ZK) : Bool := match S with
  | j :: a :: S => zref a (fun i => zarr h i t (fun n d ov => zrd E j n d ov (fun r => zfn (pc + 1) (fun pc => K pc A (r :: S) h E c s))))
  | _ => false
theorem zs_ald {t : Nat} (hz : zo_ald t pc A S h E c s K = true) (hK : zKS G D B tA H0 nL ρ K)
    (row : ∀ H locs ls st i n f hp (j : Int32), zH D B tA H0 hp H → hp[i]? = some (.inl (t, n, f)) → zaT t f → vp_in j n → G H locs c s (pc + 1) ls (zvm B (zel f j.toNatClampNeg) :: st) → G H locs c s pc ls (.int j :: .ref (B.1 + i) :: st)) : zS G D B tA H0 nL ρ pc A S h E c s := by
  intro hE L st hp hL hS hH H locs ls h1 h2 h3
  unfold zo_ald at hz
  split at hz
  · match st, hS with
    | w :: v :: st, hS =>
      obtain ⟨i, rfl, g1⟩ := zref_ok hz hS.2.1
      obtain ⟨n, d, ov, f, g2, g3, g4, g5, g6⟩ := zarr_ok g1 hH
      obtain ⟨x, rfl, g7, g8, g9⟩ := zrd_ok g3 hE hS.1
      rw [zfn_eq] at g8
      exact row _ _ _ _ i n f hp x h1 g4 g5 g7 (hK _ _ _ _ _ _ _ g8 hE L (_ :: st) hp hL ⟨g6 _ g9, hS.2.2⟩ hH H locs ls h1 h2 h3)
    | [], hS => exact hS.elim
    | [_], hS => exact hS.2.elim
  · cases hz
/-- a place's new value among those that were put -/
def zrp (ov : List (Nat × AV)) (j : Nat) (a : AV) (k : List (Nat × AV) → Bool) : Bool := match ov with
  | [] => k [(j, a)]
  | q :: ov => (match Nat.beq q.1 j with
    | true => k ((j, a) :: ov)
    | false => zrp ov j a (fun ov => k (q :: ov)))
theorem zrp_ok : ∀ {ov : List (Nat × AV)} {j : Nat} {a : AV} {k : List (Nat × AV) → Bool}, zrp ov j a k = true → ∃ ov', k ov' = true ∧ ∀ d i, zov ov' d i = if i = j then a else zov ov d i
  | [], j, a, k, h => ⟨_, h, fun d i => by
    simp only [zov]
    by_cases e : i = j
    · subst e; simp
    · rw [if_neg e]
      split
      · rename_i e2; exact absurd (Nat.eq_of_beq_eq_true e2).symm e
      · rfl⟩
  | q :: ov, j, a, k, h => by
    unfold zrp at h
    split at h
    · rename_i e
      have e := Nat.eq_of_beq_eq_true e
      refine ⟨_, h, fun d i => ?_⟩
      simp only [zov]
      by_cases e2 : i = j
      · subst e2; simp
      · rw [if_neg e2]
        split
        · rename_i e3; exact absurd (Nat.eq_of_beq_eq_true e3).symm e2
        · split
          · rename_i e3; exact absurd ((Nat.eq_of_beq_eq_true e3).symm.trans e) e2
          · rfl
    · rename_i e
      obtain ⟨ov', h1, h2⟩ := zrp_ok h
      refine ⟨_, h1, fun d i => ?_⟩
      simp only [zov]
      split
      · rename_i e3
        have e3 := Nat.eq_of_beq_eq_true e3
        have : i ≠ j := by
          intro e4
          rw [← e3] at e4
          rw [e4, Nat.beq_refl] at e
          cases e
        rw [if_neg this]
      · exact h2 d i
def zaveq (a b : AV) : Bool := Nat.beq a.1 b.1 && (zeq a.2.1 b.2.1 && zeq a.2.2 b.2.2)
theorem zaveq_ok {a b : AV} (h : zaveq a b = true) : a = b := by
  simp only [zaveq, Bool.and_eq_true, zeq_iff] at h
  obtain ⟨h1, h2, h3⟩ := h
  have h1 := Nat.eq_of_beq_eq_true h1
  obtain ⟨a1, a2, a3⟩ := a
  obtain ⟨b1, b2, b3⟩ := b
  simp only at h1 h2 h3
  subst h1; subst h2; subst h3
  rfl
/-- a store: of what stands there already nothing is told -/
def zwr (h : AH) (E : AE) (i t n : Nat) (d : AV) (ov : List (Nat × AV)) (j a : AV) (k : AH → Bool) : Bool := ziv E j (fun l u => match zle 0 l && (zle (u + 1) n && zeq l u) with
  | true => (match zaveq (zov ov d l.toNat) a with
    | true => k h
    | false => zfn l.toNat (fun l => zrp ov l a (fun ov => zhset h i (.inr (t, n, d, ov)) k)))
  | false => false)
theorem zaH_same {h : AH} {hp : List zhE} {i : Nat} {x : AC} {y : zhE} (hH : zaH ρ h hp) (hx : zhg h.2 i = some x) (hy : zaC ρ x y) : zaH ρ h (hp.set i y) := by
  refine ⟨by rw [List.length_set]; exact hH.1, fun j d hj => ?_⟩
  by_cases e : i = j
  · subst e
    rw [hx] at hj
    cases hj
    obtain ⟨z, hz, -⟩ := hH.2 i x hx
    exact ⟨y, by rw [List.getElem?_set_self (List.getElem?_eq_some_iff.mp hz).1], hy⟩
  · obtain ⟨z, hz, hd⟩ := hH.2 j d hj
    exact ⟨z, by rw [List.getElem?_set_ne e]; exact hz, hd⟩
theorem zwr_ok {i t n : Nat} {d : AV} {ov : List (Nat × AV)} {j a : AV} {k : AH → Bool} {v w : Value} {hp : List zhE} {f : zhA} (hz : zwr h E i t n d ov j a k = true) (hE : zaE ρ E) (hH : zaH ρ h hp) (hx : zhg h.2 i = some (.inr (t, n, d, ov))) (hf : hp[i]? = some (.inl (t, n, f))) (hv : ∀ j, j < n → za ρ (zov ov d j) (zel f j)) (hj : za ρ j v) (ha : za ρ a w) :
    ∃ x : Int32, v = .int x ∧ vp_in x n ∧ ∀ f' : zhA, zaT t f' → (∀ q, zel f' q = if q = x.toNatClampNeg then w else zel f q) → ∃ h', k h' = true ∧ zaH ρ h' (hp.set i (.inl (t, n, f'))) := by
  obtain ⟨x, l, u, rfl, g1, g2, g3⟩ := ziv_ok hz hE hj
  have hi : i < hp.length := (List.getElem?_eq_some_iff.mp hf).1
  split at g1
  · rename_i hc
    simp only [Bool.and_eq_true, zle_iff, zeq_iff] at hc
    obtain ⟨c1, c2, c3⟩ := hc
    have ex : x.toNatClampNeg = l.toNat := by rw [zb_cl, show x.toInt = l by omega]
    refine ⟨x, rfl, vp_in_iff.mpr ⟨by omega, by omega⟩, fun f' ht hf' => ?_⟩
    split at g1
    · rename_i he
      have he := zaveq_ok he
      refine ⟨h, g1, zaH_same hH hx ⟨f', rfl, ht, fun q hq => ?_⟩⟩
      rw [hf']
      split
      · rename_i e
        rw [e, ex, he]; exact ha
      · exact hv q hq
    · rw [zfn_eq] at g1
      obtain ⟨ov', g4, g5⟩ := zrp_ok g1
      exact zhset_ok g4 hH ⟨f', rfl, ht, fun q hq => by
        rw [g5, hf', ex]
        split
        · exact ha
        · exact hv q hq⟩ hi
  · cases g1
/-- what is kept of a value in an array of a type -/
def zcut (t : Nat) (E : AE) (a : AV) (k : AV → Bool) : Bool := match t with
  | 0 => (match zint a with | true => k a | false => false)
  | 1 => (match zlng a with | true => k a | false => false)
  | 2 => zu_i2b E a k
  | 3 => (match ziv E a (fun l u => zle 0 l && zle u 1) with | true => k a | false => false)
  | _ => false
def zput (t : Nat) (f : zhA) (j : Nat) (v : Value) : zhA := match f, v with
  | .inl f, .int x => .inl (va_up f j (match t with | 2 => x.toInt8.toInt32 | _ => x))
  | .inr (.inl f), .long x => .inr (.inl (va_up f j x))
  | f, _ => f
def zcutv (t : Nat) (v : Value) : Value := match t, v with
  | 2, .int x => .int x.toInt8.toInt32
  | _, v => v
theorem zcut_ok {t : Nat} {a : AV} {k : AV → Bool} {v : Value} (hz : zcut t E a k = true) (hE : zaE ρ E) (ha : za ρ a v) : ∃ r, k r = true ∧ za ρ r (zcutv t v) ∧ ((t = 1 ∧ ∃ x, v = .long x) ∨ ((t = 0 ∨ t = 2) ∧ ∃ x, v = .int x) ∨ (t = 3 ∧ ∃ x, v = .int x ∧ narrow .boolean (.int x) = .int x)) := by
  unfold zcut at hz
  split at hz
  · split at hz
    · rename_i e
      obtain ⟨x, rfl⟩ := zint_of (zint_ok e) ha
      exact ⟨a, hz, ha, Or.inr (Or.inl ⟨Or.inl rfl, x, rfl⟩)⟩
    · cases hz
  · split at hz
    · rename_i e
      obtain ⟨x, rfl⟩ := zlng_ok e ha
      exact ⟨a, hz, ha, Or.inl ⟨rfl, x, rfl⟩⟩
    · cases hz
  · obtain ⟨w, r, ⟨x, rfl, rfl⟩, g1, g2⟩ := zu_i2b_ok ρ E a k v hz hE ha
    exact ⟨r, g1, g2, Or.inr (Or.inl ⟨Or.inr rfl, x, rfl⟩)⟩
  · split at hz
    · rename_i e
      obtain ⟨x, l, u, rfl, g1, g2, g3⟩ := ziv_ok e hE ha
      simp only [Bool.and_eq_true, zle_iff] at g1
      refine ⟨a, hz, ha, Or.inr (Or.inr ⟨rfl, x, rfl, ?_⟩)⟩
      rcases zb_01 (x := x) (by omega) (by omega) with rfl | rfl <;> decide
    · cases hz
  · cases hz
theorem zput_ok {t : Nat} {f : zhA} {v : Value} (ht : zaT t f) (hv : (t = 1 ∧ ∃ x, v = .long x) ∨ ((t = 0 ∨ t = 2) ∧ ∃ x, v = .int x) ∨ (t = 3 ∧ ∃ x, v = .int x ∧ narrow .boolean (.int x) = .int x)) (j : Nat) : zaT t (zput t f j v) ∧ ∀ q, zel (zput t f j v) q = if q = j then zcutv t v else zel f q := by
  rcases hv with ⟨rfl, x, rfl⟩ | ⟨rfl | rfl, x, rfl⟩ | ⟨rfl, x, rfl, -⟩
  all_goals
    obtain ⟨g, rfl⟩ := ht
    refine ⟨⟨_, rfl⟩, fun q => ?_⟩
    simp only [zput, zel, va_up, zcutv]
    split <;> rfl
def zo_ast (t : Nat) (pc : Nat) (A : AL) (S : List AV) (h : AH) (E : AE) (c s : Nat) (K : ZK) : Bool := match S with
  | v :: j :: a :: S => zref a (fun i => zarr h i t (fun n d ov => zcut t E v (fun v => zwr h E i t n d ov j v (fun h => zfn (pc + 1) (fun pc => K pc A S h E c s)))))
  | _ => false
theorem zs_ast {t : Nat} (hz : zo_ast t pc A S h E c s K = true) (hK : zKS G D B tA H0 nL ρ K)
    (row : ∀ H locs ls st i n f hp (j : Int32) v, zH D B tA H0 hp H → (∀ q ∈ locs, B.1 ≤ q.base) → hp[i]? = some (.inl (t, n, f)) → zaT t f → vp_in j n → ((t = 1 ∧ ∃ x, v = .long x) ∨ ((t = 0 ∨ t = 2) ∧ ∃ x, v = .int x) ∨ (t = 3 ∧ ∃ x, v = .int x ∧ narrow .boolean (.int x) = .int x)) → (∀ H1 locs1, zH D B tA H0 (hp.set i (.inl (t, n, zput t f j.toNatClampNeg v))) H1 → (∀ q ∈ locs1, B.1 ≤ q.base) → G H1 locs1 c s (pc + 1) ls st) → G H locs c s pc ls (zvm B v :: .int j :: .ref (B.1 + i) :: st)) : zS G D B tA H0 nL ρ pc A S h E c s := by
  intro hE L st hp hL hS hH H locs ls h1 h2 h3
  unfold zo_ast at hz
  split at hz
  · match st, hS with
    | v :: w :: a :: st, hS =>
      obtain ⟨i, rfl, g1⟩ := zref_ok hz hS.2.2.1
      obtain ⟨n, d, ov, f, g2, g3, g4, g5, g6⟩ := zarr_ok g1 hH
      obtain ⟨r, g7, g8, g9⟩ := zcut_ok g3 hE hS.1
      obtain ⟨x, rfl, g10, g11⟩ := zwr_ok g7 hE hH g2 g4 g6 hS.2.1 g8
      obtain ⟨g12, g13⟩ := zput_ok g5 g9 x.toNatClampNeg
      obtain ⟨h', g14, g15⟩ := g11 _ g12 g13
      rw [zfn_eq] at g14
      refine row _ _ _ _ i n f hp x v h1 h2 g4 g5 g10 g9 (fun H1 locs1 k1 k2 => ?_)
      exact hK _ _ _ _ _ _ _ g14 hE L st _ hL hS.2.2.2 g15 H1 locs1 ls k1 k2 h3
    | [], hS => exact hS.elim
    | [_], hS => exact hS.2.elim
    | [_, _], hS => exact hS.2.2.elim
  · cases hz
/-- a reference put into an array of them -/
def zo_aast (ci : Nat) (pc : Nat) (A : AL) (S : List AV) (h : AH) (E : AE) (c s : Nat) (K : ZK) : Bool := match S with
  | v :: j :: a :: S => zref v (fun x => zobj h x ci (fun _ => zref a (fun i => zarr h i 4 (fun n d ov => zwr h E i 4 n d ov j v (fun h => zfn (pc + 1) (fun pc => K pc A S h E c s))))))
  | _ => false
theorem zs_aast {ci : Nat} (hz : zo_aast ci pc A S h E c s K = true) (hK : zKS G D B tA H0 nL ρ K)
    (row : ∀ H locs ls st i n f x vs hp (j : Int32), zH D B tA H0 hp H → (∀ q ∈ locs, B.1 ≤ q.base) → hp[i]? = some (.inl (4, n, .inr (.inr f))) → hp[x]? = some (.inr (ci, vs)) → vp_in j n → (∀ H1 locs1, zH D B tA H0 (hp.set i (.inl (4, n, .inr (.inr (va_up f j.toNatClampNeg (some x)))))) H1 → (∀ q ∈ locs1, B.1 ≤ q.base) → G H1 locs1 c s (pc + 1) ls st) → G H locs c s pc ls (.ref (B.1 + x) :: .int j :: .ref (B.1 + i) :: st)) : zS G D B tA H0 nL ρ pc A S h E c s := by
  intro hE L st hp hL hS hH H locs ls h1 h2 h3
  unfold zo_aast at hz
  split at hz
  · match st, hS with
    | v :: w :: a :: st, hS =>
      obtain ⟨x, rfl, g0⟩ := zref_ok hz hS.1
      obtain ⟨fs, vs, -, g0, g00, -⟩ := zobj_ok g0 hH
      obtain ⟨i, rfl, g1⟩ := zref_ok g0 hS.2.2.1
      obtain ⟨n, d, ov, f, g2, g3, g4, g5, g6⟩ := zarr_ok g1 hH
      obtain ⟨g, rfl⟩ := g5
      obtain ⟨j, rfl, g10, g11⟩ := zwr_ok g3 hE hH g2 g4 g6 hS.2.1 hS.1
      obtain ⟨h', g14, g15⟩ := g11 (.inr (.inr (va_up g j.toNatClampNeg (some x)))) ⟨_, rfl⟩ (fun q => by
        simp only [zel, va_up]
        split <;> rfl)
      rw [zfn_eq] at g14
      refine row _ _ _ _ i n g x vs hp j h1 h2 g4 g00 g10 (fun H1 locs1 k1 k2 => ?_)
      exact hK _ _ _ _ _ _ _ g14 hE L st _ hL hS.2.2.2 g15 H1 locs1 ls k1 k2 h3
    | [], hS => exact hS.elim
    | [_], hS => exact hS.2.elim
    | [_, _], hS => exact hS.2.2.elim
  · cases hz
def zo_alen (pc : Nat) (A : AL) (S : List AV) (h : AH) (E : AE) (c s : Nat) (K : ZK) : Bool := match S with
  | a :: S => zref a (fun i => zhget h i (fun x => match x with
    | .inr (t, n, _, _) => (match Nat.ble (t + 1) 5 && Nat.ble n 100000 with | true => zfn n (fun n => zfn (pc + 1) (fun pc => K pc A ((0, n, n) :: S) h E c s)) | false => false)
    | _ => false))
  | _ => false
theorem zs_alen (hz : zo_alen pc A S h E c s K = true) (hK : zKS G D B tA H0 nL ρ K)
    (row : ∀ H locs ls st i t n f hp, zH D B tA H0 hp H → hp[i]? = some (.inl (t, n, f)) → t < 5 → G H locs c s (pc + 1) ls (.int (Int32.ofNat n) :: st) → G H locs c s pc ls (.ref (B.1 + i) :: st)) : zS G D B tA H0 nL ρ pc A S h E c s := by
  intro hE L st hp hL hS hH H locs ls h1 h2 h3
  unfold zo_alen at hz
  split at hz
  · match st, hS with
    | v :: st, hS =>
      obtain ⟨i, rfl, g1⟩ := zref_ok hz hS.1
      obtain ⟨x, g2, g3⟩ := zhget_ok g1
      split at g3
      · split at g3
        · rename_i hc
          simp only [Bool.and_eq_true] at hc
          have c1 := Nat.le_of_ble_eq_true hc.1
          have c2 := Nat.le_of_ble_eq_true hc.2
          rw [zfn_eq, zfn_eq] at g3
          obtain ⟨y, g4, f, rfl, -, -⟩ := hH.2 _ _ g2
          refine row _ _ _ _ i _ _ f hp h1 g4 c1 (hK _ _ _ _ _ _ _ g3 hE L (.int (Int32.ofNat _) :: st) hp hL ⟨⟨_, rfl, ?_, ?_⟩, hS.2⟩ hH H locs ls h1 h2 h3)
          · have := nI_toInt (n := _) (show _ < 2 ^ 31 from Nat.lt_of_le_of_lt c2 (by decide)); exact Int.le_of_eq this.symm
          · have := nI_toInt (n := _) (show _ < 2 ^ 31 from Nat.lt_of_le_of_lt c2 (by decide)); exact Int.le_of_eq this
        · cases g3
      · cases g3
    | [], hS => exact hS.elim
  · cases hz
/-- making: rc, rs are the frame's room -/
def zo_new (rc rs ci N : Nat) (fs : List AV) (pc : Nat) (A : AL) (S : List AV) (h : AH) (E : AE) (c s : Nat) (K : ZK) : Bool :=
  match Nat.ble (c + 1) rc && Nat.ble (s + N) rs with
  | true => zhpush h (.inl (ci, fs)) (fun h' => zfn (pc + 3) (fun pc => zfn (c + 1) (fun c => zfn (s + N) (fun s => K pc A ((3, h.1, 0) :: S) h' E c s))))
  | false => false
theorem zs_new {rc rs ci N : Nat} {fs : List AV} {vs : List Value} (hz : zo_new rc rs ci N fs pc A S h E c s K = true) (hK : zKS G D B tA H0 nL ρ K) (hf : zaS ρ fs vs)
    (row : ∀ H locs ls st hp, zH D B tA H0 hp H → c + 1 ≤ rc → s + N ≤ rs → (∀ H1, zH D B tA H0 (hp ++ [.inr (ci, vs)]) H1 → G H1 locs (c + 1) (s + N) (pc + 3) ls (.ref (B.1 + hp.length) :: st)) → G H locs c s pc ls st) : zS G D B tA H0 nL ρ pc A S h E c s := by
  intro hE L st hp hL hS hH H locs ls h1 h2 h3
  unfold zo_new at hz
  split at hz
  · rename_i hc
    simp only [Bool.and_eq_true] at hc
    obtain ⟨g0, h', g1, g2⟩ := zhpush_ok (h' := .inr (ci, vs)) hz hH ⟨_, rfl, hf⟩
    rw [zfn_eq, zfn_eq, zfn_eq] at g1
    refine row _ _ _ _ hp h1 (Nat.le_of_ble_eq_true hc.1) (Nat.le_of_ble_eq_true hc.2) (fun H1 k1 => ?_)
    exact hK _ _ _ _ _ _ _ g1 hE L (.ref hp.length :: st) _ hL ⟨by rw [g0]; rfl, hS⟩ g2 H1 locs ls k1 h2 h3
  · cases hz
def zdav (t : Nat) : AV := match t with
  | 1 => (2, 0, 0)
  | 4 => (4, 0, 0)
  | _ => (0, 0, 0)
def zo_newa (rc rs n t : Nat) (pc : Nat) (A : AL) (S : List AV) (h : AH) (E : AE) (c s : Nat) (K : ZK) : Bool := match S with
  | x :: S => ziv E x (fun l u => match zle 0 l && (zle u 10000 && (zeq l u && (Nat.ble (c + 1) rc && Nat.ble (s + l.toNat) rs))) with
    | true => zfn l.toNat (fun len => zhpush h (.inr (t, len, zdav t, [])) (fun h' => zfn (pc + n) (fun pc => zfn (c + 1) (fun c => zfn (s + len) (fun s => K pc A ((3, h.1, 0) :: S) h' E c s)))))
    | false => false)
  | _ => false
theorem zda_ok (ρ : Nat → Int) (t : Nat) : zaT t (zda t) ∧ ∀ j, za ρ (zdav t) (zel (zda t) j) := by
  match t with
  | 0 => exact ⟨⟨_, rfl⟩, fun j => ⟨0, rfl, by decide, by decide⟩⟩
  | 1 => exact ⟨⟨_, rfl⟩, fun j => ⟨0, rfl, by decide, by decide⟩⟩
  | 2 => exact ⟨⟨_, rfl⟩, fun j => ⟨0, rfl, by decide, by decide⟩⟩
  | 3 => exact ⟨⟨_, rfl⟩, fun j => ⟨0, rfl, by decide, by decide⟩⟩
  | 4 => exact ⟨⟨_, rfl⟩, fun j => rfl⟩
  | t + 5 => exact ⟨⟨_, rfl⟩, fun j => ⟨0, rfl, by decide, by decide⟩⟩
theorem zs_newa {rc rs n t : Nat} (hz : zo_newa rc rs n t pc A S h E c s K = true) (hK : zKS G D B tA H0 nL ρ K)
    (row : ∀ H locs ls st hp (x : Int32), zH D B tA H0 hp H → ¬ x < 0 → x.toNatClampNeg ≤ 10000 → c + 1 ≤ rc → s + x.toNatClampNeg ≤ rs → (∀ H1, zH D B tA H0 (hp ++ [.inl (t, x.toNatClampNeg, zda t)]) H1 → G H1 locs (c + 1) (s + x.toNatClampNeg) (pc + n) ls (.ref (B.1 + hp.length) :: st)) → G H locs c s pc ls (.int x :: st)) : zS G D B tA H0 nL ρ pc A S h E c s := by
  intro hE L st hp hL hS hH H locs ls h1 h2 h3
  unfold zo_newa at hz
  split at hz
  · match st, hS with
    | v :: st, hS =>
      obtain ⟨x, l, u, rfl, g1, g2, g3⟩ := ziv_ok hz hE hS.1
      split at g1
      · rename_i hc
        simp only [Bool.and_eq_true, zle_iff, zeq_iff] at hc
        obtain ⟨c1, c2, c3, c4, c5⟩ := hc
        have c4 := Nat.le_of_ble_eq_true c4
        have c5 := Nat.le_of_ble_eq_true c5
        have ex : x.toNatClampNeg = l.toNat := by rw [zb_cl, show x.toInt = l by omega]
        rw [zfn_eq] at g1
        rw [← ex] at g1 c5
        obtain ⟨g0, h', g4, g5⟩ := zhpush_ok (h' := .inl (t, x.toNatClampNeg, zda t)) g1 hH ⟨_, rfl, (zda_ok ρ t).1, fun j _ => (zda_ok ρ t).2 j⟩
        rw [zfn_eq, zfn_eq, zfn_eq] at g4
        refine row _ _ _ _ hp x h1 ?_ (by rw [ex]; omega) c4 c5 (fun H1 k1 => ?_)
        · rw [Int32.lt_iff_toInt_lt]; show ¬ x.toInt < 0; omega
        · exact hK _ _ _ _ _ _ _ g4 hE L (.ref hp.length :: st) _ hL ⟨by rw [g0]; rfl, hS.2⟩ g5 H1 locs ls k1 h2 h3
      · cases g1
    | [], hS => exact hS.elim
  · cases hz
def zo_obj (rf rl : Nat) (pc : Nat) (A : AL) (S : List AV) (h : AH) (E : AE) (c s : Nat) (K : ZK) : Bool := match S with
  | a :: S => (match Nat.ble 1 rf && Nat.ble (2 * S.length + 12) rl with
    | true => zref a (fun _ => zfn (pc + 3) (fun pc => K pc A S h E c s))
    | false => false)
  | _ => false
theorem zcat_le (B : zB) : ∀ (st : List Value), ((st.map (zvm B)).map fun v => v.category).sum ≤ 2 * st.length
  | [] => by simp
  | v :: st => by
    have h1 := zcat_le B st
    have h2 : (zvm B v).category ≤ 2 := by cases v <;> simp [zvm, Value.category]
    simp only [List.map_cons, List.sum_cons, List.length_cons]
    omega
theorem zs_obj {rf rl : Nat} (hz : zo_obj rf rl pc A S h E c s K = true) (hK : zKS G D B tA H0 nL ρ K)
    (row : ∀ H locs ls st a, ls.size = nL → 1 ≤ rf → (st.map fun v => v.category).sum + 12 ≤ rl → G H locs c s (pc + 3) ls st → G H locs c s pc ls (.ref a :: st)) : zS G D B tA H0 nL ρ pc A S h E c s := by
  intro hE L st hp hL hS hH H locs ls h1 h2 h3
  unfold zo_obj at hz
  split at hz
  · split at hz
    · rename_i hc
      simp only [Bool.and_eq_true] at hc
      have c1 := Nat.le_of_ble_eq_true hc.1
      have c2 := Nat.le_of_ble_eq_true hc.2
      match st, hS with
      | v :: st, hS =>
        obtain ⟨i, rfl, g1⟩ := zref_ok hz hS.1
        rw [zfn_eq] at g1
        have h9 := zcat_le B st
        have h8 := zAll_len hS.2
        exact row _ _ _ _ _ h3.1 c1 (by omega) (hK _ _ _ _ _ _ _ g1 hE L st hp hL hS.2 hH H locs ls h1 h2 h3)
      | [], hS => exact hS.elim
    · cases hz
  · cases hz
/-- System.arraycopy of no ints -/
def zo_cpy (rf rl : Nat) (pc : Nat) (A : AL) (S : List AV) (h : AH) (E : AE) (c s : Nat) (K : ZK) : Bool := match S with
  | n :: dp :: b :: sp :: a :: S => (match Nat.ble 1 rf && Nat.ble (2 * S.length + 40) rl && zaveq n (0, 0, 0) with
    | true => zref a (fun i => zref b (fun j => zarr h i 0 (fun n0 _ _ => zarr h j 0 (fun n1 _ _ => ziv E sp (fun l1 u1 => ziv E dp (fun l2 u2 => match zle 0 l1 && (zle u1 n0 && (zle 0 l2 && zle u2 n1)) with
      | true => zfn (pc + 3) (fun pc => K pc A S h E c s)
      | false => false))))))
    | false => false)
  | _ => false
theorem zs_cpy {rf rl : Nat} (hz : zo_cpy rf rl pc A S h E c s K = true) (hK : zKS G D B tA H0 nL ρ K)
    (row : ∀ H locs ls st i j n0 n1 f g hp (sp dp n : Int32), ls.size = nL → 1 ≤ rf → (st.map fun v => v.category).sum + 40 ≤ rl → zH D B tA H0 hp H → (∀ q ∈ locs, B.1 ≤ q.base) → hp[i]? = some (.inl (0, n0, .inl f)) → hp[j]? = some (.inl (0, n1, .inl g)) → ¬ sp < 0 → ¬ dp < 0 → ¬ n < 0 → sp.toNatClampNeg + n.toNatClampNeg ≤ n0 → dp.toNatClampNeg + n.toNatClampNeg ≤ n1 →
      (∀ H1 locs1, zH D B tA H0 (hp.set j (.inl (0, n1, .inl (va_cpy f g sp.toNatClampNeg dp.toNatClampNeg n.toNatClampNeg)))) H1 → (∀ q ∈ locs1, B.1 ≤ q.base) → G H1 locs1 c s (pc + 3) ls st) → G H locs c s pc ls (.int n :: .int dp :: .ref (B.1 + j) :: .int sp :: .ref (B.1 + i) :: st)) : zS G D B tA H0 nL ρ pc A S h E c s := by
  intro hE L st hp hL hS hH H locs ls h1 h2 h3
  unfold zo_cpy at hz
  split at hz
  · split at hz
    · rename_i hc
      simp only [Bool.and_eq_true] at hc
      have c1 := Nat.le_of_ble_eq_true hc.1.1
      have c2 := Nat.le_of_ble_eq_true hc.1.2
      have c3 := zaveq_ok hc.2
      match st, hS with
      | vn :: vdp :: vb :: vsp :: va :: st, hS =>
        obtain ⟨hn, hdp, hb, hsp, ha, hS⟩ := hS
        obtain ⟨i, rfl, g1⟩ := zref_ok hz ha
        obtain ⟨j, rfl, g2⟩ := zref_ok g1 hb
        obtain ⟨n0, d0, ov0, f, e1, g3, e2, ⟨f, rfl⟩, e3⟩ := zarr_ok g2 hH
        obtain ⟨n1, d1, ov1, g, e4, g4, e5, ⟨g, rfl⟩, e6⟩ := zarr_ok g3 hH
        obtain ⟨sp, l1, u1, rfl, g5, b1, b2⟩ := ziv_ok g4 hE hsp
        obtain ⟨dp, l2, u2, rfl, g6, b3, b4⟩ := ziv_ok g5 hE hdp
        rw [c3] at hn
        obtain ⟨n, rfl, b5, b6⟩ := hn
        have hn0 : n = 0 := (zb_of (z := 0) (by omega)).trans zb_z0
        subst hn0
        split at g6
        · rename_i hd
          simp only [Bool.and_eq_true, zle_iff] at hd
          rw [zfn_eq] at g6
          have h9 := zcat_le B st
          have h8 := zAll_len hS
          have z0 : (0 : Int32).toNatClampNeg = 0 := by decide
          refine row _ _ _ _ i j n0 n1 f g hp sp dp 0 h3.1 c1 (by omega) h1 h2 e2 e5 ?_ ?_ (by decide) ?_ ?_ (fun H1 locs1 k1 k2 => ?_)
          · rw [Int32.lt_iff_toInt_lt]; show ¬ sp.toInt < 0; omega
          · rw [Int32.lt_iff_toInt_lt]; show ¬ dp.toInt < 0; omega
          · rw [z0, zb_cl]; omega
          · rw [z0, zb_cl]; omega
          · have e7 : va_cpy f g sp.toNatClampNeg dp.toNatClampNeg (0 : Int32).toNatClampNeg = g := by
              funext q
              simp only [va_cpy, z0]
              rw [if_neg (by omega)]
            rw [e7] at k1
            have e8 : hp.set j (.inl (0, n1, .inl g)) = hp := by
              apply List.ext_getElem?
              intro q
              by_cases e9 : j = q
              · subst e9
                rw [List.getElem?_set_self (List.getElem?_eq_some_iff.mp e5).1, e5]
              · rw [List.getElem?_set_ne e9]
            rw [e8] at k1
            exact hK _ _ _ _ _ _ _ g6 hE L st hp hL hS hH H1 locs1 ls k1 k2 h3
        · cases g6
      | [], hS => exact hS.elim
      | [_], hS => exact hS.2.elim
      | [_, _], hS => exact hS.2.2.elim
      | [_, _, _], hS => exact hS.2.2.2.elim
      | [_, _, _, _], hS => exact hS.2.2.2.2.elim
    · cases hz
  · cases hz
end ZHP
