/-! abstract values, what is known of symbols, branches, arithmetic -/
theorem zb_rng (x : Int32) : -2147483648 ≤ x.toInt ∧ x.toInt ≤ 2147483647 := by
  have h1 := Int32.le_toInt x
  have h2 := Int32.toInt_lt x
  omega
theorem zb_rngL (x : Int64) : -9223372036854775808 ≤ x.toInt ∧ x.toInt ≤ 9223372036854775807 := by
  have h1 := Int64.le_toInt x
  have h2 := Int64.toInt_lt x
  omega
theorem zb_add {x y : Int32} (h1 : -2147483648 ≤ x.toInt + y.toInt) (h2 : x.toInt + y.toInt ≤ 2147483647) : (x + y).toInt = x.toInt + y.toInt := by
  rw [Int32.toInt_add, Int.bmod_eq_of_le (by omega) (by omega)]
theorem zb_sub {x y : Int32} (h1 : -2147483648 ≤ x.toInt - y.toInt) (h2 : x.toInt - y.toInt ≤ 2147483647) : (x - y).toInt = x.toInt - y.toInt := by
  rw [Int32.toInt_sub, Int.bmod_eq_of_le (by omega) (by omega)]
theorem zb_mul {x y : Int32} (h1 : -2147483648 ≤ x.toInt * y.toInt) (h2 : x.toInt * y.toInt ≤ 2147483647) : (x * y).toInt = x.toInt * y.toInt := by
  rw [Int32.toInt_mul, Int.bmod_eq_of_le (by omega) (by omega)]
theorem zb_of {x : Int32} {z : Int} (h : x.toInt = z) : x = Int32.ofInt z := by rw [← h, Int32.ofInt_toInt]
theorem zb_z0 : Int32.ofInt 0 = 0 := by decide
theorem zb_ofL {x : Int64} {z : Int} (h : x.toInt = z) : x = Int64.ofInt z := by rw [← h, Int64.ofInt_toInt]
theorem zb_and0 {x y : Int32} (h : 0 ≤ y.toInt) : 0 ≤ (x &&& y).toInt ∧ (x &&& y).toInt ≤ y.toInt := by
  have e1 : (x &&& y).toBitVec = x.toBitVec &&& y.toBitVec := rfl
  have hy : y.toInt = (y.toBitVec.toNat : Int) ∧ 2 * y.toBitVec.toNat < 2 ^ 32 := by
    have h1 : y.toInt = y.toBitVec.toInt := rfl
    rw [h1, BitVec.toInt_eq_toNat_cond] at h ⊢
    split
    · rename_i h2; exact ⟨rfl, h2⟩
    · rename_i h2; rw [if_neg h2] at h
      have := y.toBitVec.isLt
      omega
  have hle : (x &&& y).toBitVec.toNat ≤ y.toBitVec.toNat := by
    rw [e1, BitVec.toNat_and]
    exact Nat.and_le_right
  have h3 : (x &&& y).toInt = ((x &&& y).toBitVec.toNat : Int) := by
    have h4 : (x &&& y).toInt = (x &&& y).toBitVec.toInt := rfl
    rw [h4, BitVec.toInt_eq_toNat_cond, if_pos (by omega)]
  omega
theorem zb_andC (x y : Int32) : x &&& y = y &&& x := Int32.and_comm x y
theorem zb_and0L {x y : Int64} (h : 0 ≤ y.toInt) : 0 ≤ (x &&& y).toInt ∧ (x &&& y).toInt ≤ y.toInt := by
  have e1 : (x &&& y).toBitVec = x.toBitVec &&& y.toBitVec := rfl
  have hy : y.toInt = (y.toBitVec.toNat : Int) ∧ 2 * y.toBitVec.toNat < 2 ^ 64 := by
    have h1 : y.toInt = y.toBitVec.toInt := rfl
    rw [h1, BitVec.toInt_eq_toNat_cond] at h ⊢
    split
    · rename_i h2; exact ⟨rfl, h2⟩
    · rename_i h2; rw [if_neg h2] at h
      have := y.toBitVec.isLt
      omega
  have hle : (x &&& y).toBitVec.toNat ≤ y.toBitVec.toNat := by
    rw [e1, BitVec.toNat_and]
    exact Nat.and_le_right
  have h3 : (x &&& y).toInt = ((x &&& y).toBitVec.toNat : Int) := by
    have h4 : (x &&& y).toInt = (x &&& y).toBitVec.toInt := rfl
    rw [h4, BitVec.toInt_eq_toNat_cond, if_pos (by omega)]
  omega
def zlg {α : Type} : List α → Nat → (α → Bool) → Bool
  | [], _, _ => false
  | a :: _, 0, k => k a
  | _ :: l, n + 1, k => zlg l n k
theorem zlg_ok {α : Type} : ∀ {l : List α} {n : Nat} {k : α → Bool}, zlg l n k = true → ∃ a, l[n]? = some a ∧ k a = true
  | [], _, _, h => by simp [zlg] at h
  | a :: _, 0, _, h => ⟨a, rfl, h⟩
  | _ :: l, n + 1, k, h => by
    obtain ⟨a, h1, h2⟩ := zlg_ok (l := l) (n := n) (k := k) h
    exact ⟨a, by simpa using h1, h2⟩
def zls {α : Type} : List α → Nat → α → (List α → Bool) → Bool
  | [], _, _, _ => false
  | _ :: l, 0, x, k => k (x :: l)
  | a :: l, n + 1, x, k => zls l n x (fun l => k (a :: l))
theorem zls_ok {α : Type} : ∀ {l : List α} {n : Nat} {x : α} {k : List α → Bool}, zls l n x k = true → n < l.length ∧ k (l.set n x) = true
  | [], _, _, _, h => by simp [zls] at h
  | _ :: l, 0, x, _, h => ⟨by simp, h⟩
  | a :: l, n + 1, x, k, h => by
    obtain ⟨h1, h2⟩ := zls_ok (l := l) (n := n) (x := x) (k := fun l => k (a :: l)) h
    exact ⟨by simpa using h1, by simpa using h2⟩
def zla {α : Type} : List α → α → (List α → Bool) → Bool
  | [], x, k => k [x]
  | a :: l, x, k => zla l x (fun l => k (a :: l))
theorem zla_ok {α : Type} : ∀ {l : List α} {x : α} {k : List α → Bool}, zla l x k = true → k (l ++ [x]) = true
  | [], _, _, h => h
  | a :: l, x, k, h => by
    have h1 := zla_ok (l := l) (x := x) (k := fun l => k (a :: l)) h
    simpa using h1
abbrev AV : Type := Nat × LX
/-- 0 int, 1 long, 2 a reference, 3 null, 4 the script, 5 anything of one word, 6 a comparison of longs -/
def zav (η : List Nat) (ρ : List Int) (a : AV) (v : Value) : Prop := match a.1 with
  | 0 => ∃ x : Int32, v = .int x ∧ zxr ρ a.2 x.toInt
  | 1 => ∃ x : Int64, v = .long x ∧ zxr ρ a.2 x.toInt
  | 2 => ∃ i, η[a.2.1.toNat]? = some i ∧ v = .ref i
  | 3 => v = .null
  | 4 => v = .float 0
  | 5 => v.category = 1
  | 6 => ∃ (w : Int32) (z : Int), v = .int w ∧ zxr ρ a.2 z ∧ (z < 0 → w.toInt = -1) ∧ (z = 0 → w.toInt = 0) ∧ (0 < z → w.toInt = 1)
  | _ => False
theorem zav_mono {η m : List Nat} {ρ l : List Int} {a : AV} {v : Value} (h : zav η ρ a v) : zav (η ++ m) (ρ ++ l) a v := by
  obtain ⟨t, e⟩ := a
  match t, h with
  | 0, ⟨x, h1, h2⟩ => exact ⟨x, h1, zxr_mono h2⟩
  | 1, ⟨x, h1, h2⟩ => exact ⟨x, h1, zxr_mono h2⟩
  | 2, ⟨i, h1, h2⟩ => exact ⟨i, by rw [List.getElem?_append_left (List.getElem?_eq_some_iff.mp h1).1]; exact h1, h2⟩
  | 3, h => exact h
  | 4, h => exact h
  | 5, h => exact h
  | 6, ⟨w, z, h1, h2, h3⟩ => exact ⟨w, z, h1, zxr_mono h2, h3⟩
theorem zav_mono1 {η : List Nat} {ρ l : List Int} {a : AV} {v : Value} (h : zav η ρ a v) : zav η (ρ ++ l) a v := by
  have := zav_mono (m := []) (l := l) h
  rwa [List.append_nil] at this
def zcat (a : AV) : Nat := match a.1 with
  | 1 => 2
  | _ => 1
theorem zcat_ok {η : List Nat} {ρ : List Int} {a : AV} {v : Value} (h : zav η ρ a v) : v.category = zcat a := by
  obtain ⟨t, e⟩ := a
  match t, h with
  | 0, ⟨x, h1, h2⟩ => subst h1; rfl
  | 1, ⟨x, h1, h2⟩ => subst h1; rfl
  | 2, ⟨i, h1, h2⟩ => subst h2; rfl
  | 3, h => have h' : v = .null := h; subst h'; rfl
  | 4, h => have h' : v = .float 0 := h; subst h'; rfl
  | 5, h => exact h
  | 6, ⟨w, z, h1, h2⟩ => subst h1; rfl
/-- what is known: how many symbols, their bounds, facts, what isn't 0, what else holds -/
abbrev AG : Type := Nat × LE × List LX × List LX × List Nat
def zaG (ρ : List Int) (G : AG) : Prop := G.1 = ρ.length ∧ zaE ρ G.2.1 ∧ zaF ρ G.2.2.1 ∧ zaN ρ G.2.2.2.1
/-- a new symbol -/
def zfr (G : AG) (lo hi : Int) (k : LX → AG → Bool) : Bool := zfi lo (fun lo => zfi hi (fun hi => zla G.2.1 (lo, hi) (fun E => zfn (G.1 + 1) (fun n => k (0, [(G.1, 1)]) (n, E, G.2.2)))))
theorem zfr_ok {ρ : List Int} {G : AG} {lo hi x : Int} {k : LX → AG → Bool} (h : zfr G lo hi k = true) (hG : zaG ρ G) (h1 : lo ≤ x) (h2 : x ≤ hi) : ∃ r G', k r G' = true ∧ zaG (ρ ++ [x]) G' ∧ zxr (ρ ++ [x]) r x ∧ G'.2.2.2.2 = G.2.2.2.2 := by
  unfold zfr at h
  rw [zfi_eq, zfi_eq] at h
  have h := zla_ok h
  rw [zfn_eq] at h
  obtain ⟨g1, ⟨g2, g3⟩, g4, g5⟩ := hG
  refine ⟨_, _, h, ⟨by show G.1 + 1 = _; rw [g1]; simp, ⟨by simp [g2], fun i q y hq hy => ?_⟩, zaF_mono g4, zaN_mono g5⟩, zxr_s (by rw [g1]; simp), rfl⟩
  by_cases e : i < ρ.length
  · rw [List.getElem?_append_left (by rw [g2]; exact e)] at hq
    rw [List.getElem?_append_left e] at hy
    exact g3 i q y hq hy
  · rw [List.getElem?_append_right (by rw [g2]; omega)] at hq
    rw [List.getElem?_append_right (by omega)] at hy
    have hlt := (List.getElem?_eq_some_iff.mp hy).1
    simp at hlt
    rw [g2, show i - ρ.length = 0 by omega] at hq
    rw [show i - ρ.length = 0 by omega] at hy
    cases hq; cases hy
    exact ⟨h1, h2⟩
/-- bounds narrowed by a fact f of upper bound h -/
def ztg (f : LX) (h : Int) : LT → LE → (LE → Bool) → Bool
  | [], E, k => k E
  | q :: ts, E, k => zgE E q.1 (fun lo hi => match zle 1 q.2 with
    | true => zfi (-((h - q.2 * hi) / q.2)) (fun nl => match zle (lo + 1) nl && zxsub (q.2 - 1 - q.2 * nl, [(q.1, q.2)]) f (fun d => zge0 E d) with
      | true => zls E q.1 (nl, hi) (fun E => ztg f h ts E k)
      | false => ztg f h ts E k)
    | false => (match zle q.2 (-1) with
      | true => zfi ((h - q.2 * lo) / (-q.2)) (fun nh => match zle (nh + 1) hi && zxsub (-q.2 - 1 - q.2 * nh, [(q.1, q.2)]) f (fun d => zge0 E d) with
        | true => zls E q.1 (lo, nh) (fun E => ztg f h ts E k)
        | false => ztg f h ts E k)
      | false => ztg f h ts E k))
theorem zES_ok {ρ : List Int} {E : LE} {i : Nat} {lo hi x : Int} {k : LE → Bool} (h : zls E i (lo, hi) k = true) (hE : zaE ρ E) (hx : ρ[i]? = some x) (h1 : lo ≤ x) (h2 : x ≤ hi) : ∃ E', k E' = true ∧ zaE ρ E' := by
  obtain ⟨g1, g2⟩ := zls_ok h
  refine ⟨_, g2, by rw [List.length_set]; exact hE.1, fun j q y hq hy => ?_⟩
  by_cases e : i = j
  · subst e
    rw [List.getElem?_set_self g1] at hq
    cases hq
    cases hx.symm.trans hy
    exact ⟨h1, h2⟩
  · rw [List.getElem?_set_ne e] at hq
    exact hE.2 j q y hq hy
theorem zmul_pos {a b : Int} (ha : 0 < a) (h : -a < a * b) : 0 ≤ b := by
  rcases Int.lt_or_le b 0 with hb | hb
  · have h1 : a * b ≤ a * (-1) := Int.mul_le_mul_of_nonneg_left (by omega) (by omega)
    omega
  · exact hb
theorem ztg_ok {ρ : List Int} {f : LX} {h z : Int} (hf : zxr ρ f z) (hz : 0 ≤ z) : ∀ {ts : LT} {E : LE} {k : LE → Bool}, ztg f h ts E k = true → zaE ρ E → ∃ E', k E' = true ∧ zaE ρ E'
  | [], E, k, hk, hE => ⟨E, hk, hE⟩
  | q :: ts, E, k, hk, hE => by
    unfold ztg at hk
    obtain ⟨b, g1, g2⟩ := zgE_ok hk
    obtain ⟨x, g3, g4, g5⟩ := zaE_get hE g1
    split at g2
    · rename_i hp
      rw [zle_iff] at hp
      rw [zfi_eq] at g2
      split at g2
      · rename_i hc
        rw [Bool.and_eq_true] at hc
        have hx1 : zxr ρ (q.2 - 1 - q.2 * (-((h - q.2 * b.2) / q.2)), [(q.1, q.2)]) (q.2 - 1 - q.2 * (-((h - q.2 * b.2) / q.2)) + (q.2 * x + 0)) := ⟨_, ⟨x, 0, g3, rfl, rfl⟩, rfl⟩
        generalize hnl : -((h - q.2 * b.2) / q.2) = nl at *
        obtain ⟨d, g6, g7⟩ := zxsub_ok hc.2 hx1 hf
        have g8 := zge0_ok hE g6 g7
        have g9 : nl ≤ x := by
          have h3 : 0 ≤ x - nl := zmul_pos (a := q.2) (by omega) (by rw [Int.mul_sub]; omega)
          omega
        obtain ⟨E1, g10, g11⟩ := zES_ok g2 hE g3 g9 g5
        exact ztg_ok hf hz g10 g11
      · exact ztg_ok hf hz g2 hE
    · split at g2
      · rename_i hp
        rw [zle_iff] at hp
        rw [zfi_eq] at g2
        split at g2
        · rename_i hc
          rw [Bool.and_eq_true] at hc
          have hx1 : zxr ρ (-q.2 - 1 - q.2 * ((h - q.2 * b.1) / (-q.2)), [(q.1, q.2)]) (-q.2 - 1 - q.2 * ((h - q.2 * b.1) / (-q.2)) + (q.2 * x + 0)) := ⟨_, ⟨x, 0, g3, rfl, rfl⟩, rfl⟩
          generalize hnl : (h - q.2 * b.1) / (-q.2) = nh at *
          obtain ⟨d, g6, g7⟩ := zxsub_ok hc.2 hx1 hf
          have g8 := zge0_ok hE g6 g7
          have g9 : x ≤ nh := by
            have h3 : 0 ≤ nh - x := zmul_pos (a := -q.2) (by omega) (by rw [Int.mul_sub, Int.neg_mul, Int.neg_mul]; omega)
            omega
          obtain ⟨E1, g10, g11⟩ := zES_ok g2 hE g3 g4 g9
          exact ztg_ok hf hz g10 g11
        · exact ztg_ok hf hz g2 hE
      · exact ztg_ok hf hz g2 hE
/-- bounds narrowed by what isn't 0 -/
def ztn1 (i : Nat) : List LX → Int → Int → (Int → Int → Bool) → Bool
  | [], lo, hi, k => k lo hi
  | q :: N, lo, hi, k => (match q.2 with
    | [t] => (match Nat.beq t.1 i && ((zeq t.2 1 || zeq t.2 (-1)) && zle (lo + 1) hi) with
      | true => zfi (-q.1 * t.2) (fun v => match zeq v hi with
        | true => zfi (hi - 1) (fun hi => ztn1 i N lo hi k)
        | false => (match zeq v lo with
          | true => zfi (lo + 1) (fun lo => ztn1 i N lo hi k)
          | false => ztn1 i N lo hi k))
      | false => ztn1 i N lo hi k)
    | _ => ztn1 i N lo hi k)
theorem ztn1_ok {ρ : List Int} {i : Nat} {x : Int} (hx : ρ[i]? = some x) : ∀ {N : List LX} {lo hi : Int} {k : Int → Int → Bool}, ztn1 i N lo hi k = true → zaN ρ N → lo ≤ x → x ≤ hi → ∃ lo' hi', k lo' hi' = true ∧ lo' ≤ x ∧ x ≤ hi'
  | [], lo, hi, k, h, _, h1, h2 => ⟨lo, hi, h, h1, h2⟩
  | q :: N, lo, hi, k, h, hN, h1, h2 => by
    have hN2 : zaN ρ N := fun f hf => hN f (List.mem_cons_of_mem _ hf)
    obtain ⟨z, z1, z2⟩ := hN q List.mem_cons_self
    unfold ztn1 at h
    split at h
    · rename_i t ht
      split at h
      · rename_i hc
        simp only [Bool.and_eq_true, Bool.or_eq_true, zeq_iff, zle_iff] at hc
        obtain ⟨hc1, hc2, hc3⟩ := hc
        have hc1 := Nat.eq_of_beq_eq_true hc1
        obtain ⟨y, y1, y2⟩ := z1
        rw [ht] at y1
        obtain ⟨a, b, y3, y4, y5⟩ := y1
        have y4 : b = 0 := y4
        rw [hc1] at y3
        cases hx.symm.trans y3
        have hne : x ≠ -q.1 * t.2 := fun e => z2 (by
          rcases hc2 with hc2 | hc2
          · rw [hc2] at y5 e; omega
          · rw [hc2] at y5 e; omega)
        rw [zfi_eq] at h
        split at h
        · rename_i hv
          rw [zeq_iff] at hv
          rw [zfi_eq] at h
          exact ztn1_ok hx h hN2 h1 (by omega)
        · split at h
          · rename_i hv
            rw [zeq_iff] at hv
            rw [zfi_eq] at h
            exact ztn1_ok hx h hN2 (by omega) h2
          · exact ztn1_ok hx h hN2 h1 h2
      · exact ztn1_ok hx h hN2 h1 h2
    · exact ztn1_ok hx h hN2 h1 h2
/-- whether something is said of the symbol alone -/
def ztnH (i : Nat) : List LX → Bool
  | [] => false
  | q :: N => (match q.2 with
    | [t] => (match Nat.beq t.1 i with | true => true | false => ztnH i N)
    | _ => ztnH i N)
def ztnE (N : List LX) : LT → LE → (LE → Bool) → Bool
  | [], E, k => k E
  | q :: ts, E, k => (match ztnH q.1 N with
   | false => ztnE N ts E k
   | true => zgE E q.1 (fun lo hi => ztn1 q.1 N lo hi (fun lo1 hi1 => ztn1 q.1 N lo1 hi1 (fun lo1 hi1 => ztn1 q.1 N lo1 hi1 (fun lo1 hi1 => match zeq lo lo1 && zeq hi hi1 with
    | true => ztnE N ts E k
    | false => zls E q.1 (lo1, hi1) (fun E => ztnE N ts E k))))))
theorem ztnE_ok {ρ : List Int} {N : List LX} (hN : zaN ρ N) : ∀ {ts : LT} {E : LE} {k : LE → Bool}, ztnE N ts E k = true → zaE ρ E → ∃ E', k E' = true ∧ zaE ρ E'
  | [], E, k, h, hE => ⟨E, h, hE⟩
  | q :: ts, E, k, h, hE => by
    unfold ztnE at h
    split at h
    · exact ztnE_ok hN h hE
    · obtain ⟨b, g1, g2⟩ := zgE_ok h
      obtain ⟨x, g3, g4, g5⟩ := zaE_get hE g1
      obtain ⟨l1, u1, a1, a2, a3⟩ := ztn1_ok g3 g2 hN g4 g5
      obtain ⟨l2, u2, a4, a5, a6⟩ := ztn1_ok g3 a1 hN a2 a3
      obtain ⟨l3, u3, a7, a8, a9⟩ := ztn1_ok g3 a4 hN a5 a6
      split at a7
      · exact ztnE_ok hN a7 hE
      · obtain ⟨E1, e1, e2⟩ := zES_ok a7 hE g3 a8 a9
        exact ztnE_ok hN e1 e2
def ztnN (N : List LX) (ts : LT) (E : LE) (k : LE → Bool) : Bool := match N with
  | [] => k E
  | q :: N => ztnE (q :: N) ts E k
theorem ztnN_ok {ρ : List Int} {N : List LX} {ts : LT} {E : LE} {k : LE → Bool} (h : ztnN N ts E k = true) (hN : zaN ρ N) (hE : zaE ρ E) : ∃ E', k E' = true ∧ zaE ρ E' := by
  unfold ztnN at h
  split at h
  · exact ⟨E, h, hE⟩
  · exact ztnE_ok hN h hE
def zmany (ts : LT) : Bool := match ts with
  | _ :: _ :: _ :: _ :: _ :: _ => true
  | _ => false
/-- a fact that can't be, of those with many terms -/
def zdead (E : LE) : List LX → Bool
  | [] => false
  | f :: F => (match zmany f.2 with
    | true => zbd E f (fun _ hi => zle hi (-1)) || zdead E F
    | false => zdead E F)
theorem zdead_ok {ρ : List Int} {E : LE} (hE : zaE ρ E) : ∀ {F : List LX}, zdead E F = true → zaF ρ F → False
  | [], h, _ => by cases h
  | f :: F, h, hF => by
    unfold zdead at h
    split at h
    · rw [Bool.or_eq_true] at h
      rcases h with h | h
      · obtain ⟨z, h1, h2⟩ := hF f List.mem_cons_self
        obtain ⟨lo, hi, h3, h4, h5⟩ := zbd_at hE h h1
        rw [zle_iff] at h3
        omega
      · exact zdead_ok hE h (fun g hg => hF g (List.mem_cons_of_mem _ hg))
    · exact zdead_ok hE h (fun g hg => hF g (List.mem_cons_of_mem _ hg))
def zone1 (ts : LT) : Bool := match ts with
  | [_] => true
  | _ => false
/-- on with a fact -/
def zasm (G : AG) (f : LX) (k : AG → Bool) : Bool := zbd G.2.1 f (fun lo hi => match zle hi (-1) with
  | true => true
  | false => (match zle 0 lo with
    | true => k G
    | false => (match zxscl (-1) f (fun m => zxshi m (-1) (fun m => zpr G.2.1 G.2.2.1 2 m)) with
      | true => true
      | false => ztg f hi f.2 G.2.1 (fun E => ztnN G.2.2.2.1 f.2 E (fun E => match zdead E G.2.2.1 with
        | true => true
        | false => (match zone1 f.2 with
          | true => k (G.1, E, G.2.2)
          | false => k (G.1, E, f :: G.2.2.1, G.2.2.2)))))))
theorem zasm_ok {ρ : List Int} {G : AG} {f : LX} {k : AG → Bool} {z : Int} (h : zasm G f k = true) (hG : zaG ρ G) (hf : zxr ρ f z) (hz : 0 ≤ z) : ∃ G', k G' = true ∧ zaG ρ G' ∧ G'.2.2.2.2 = G.2.2.2.2 := by
  obtain ⟨g1, g2, g3, g4⟩ := id hG
  obtain ⟨lo, hi, h1, h2, h3⟩ := zbd_at g2 h hf
  split at h1
  · rename_i hc
    rw [zle_iff] at hc
    omega
  · split at h1
    · exact ⟨G, h1, hG, rfl⟩
    · split at h1
      · rename_i hc
        obtain ⟨m, m1, m2⟩ := zxscl_ok hc hf
        obtain ⟨m', m3, m4⟩ := zxshi_ok m1 m2
        have := zpr_ok g2 m3 g3 m4
        omega
      · obtain ⟨E0, e1, e2⟩ := ztg_ok hf hz h1 g2
        obtain ⟨E', e1, e2⟩ := ztnN_ok e1 g4 e2
        split at e1
        · rename_i hd
          exact (zdead_ok e2 hd g3).elim
        · split at e1
          · exact ⟨_, e1, ⟨g1, e2, g3, g4⟩, rfl⟩
          · refine ⟨_, e1, ⟨g1, e2, fun f' hf' => ?_, g4⟩, rfl⟩
            rcases List.mem_cons.mp hf' with rfl | hf'
            · exact ⟨z, hf, hz⟩
            · exact g3 f' hf'
/-- on with what isn't 0 -/
def zane (G : AG) (f : LX) (k : AG → Bool) : Bool := zbd G.2.1 f (fun lo hi => match zle 1 lo || zle hi (-1) with
  | true => k G
  | false => (match zprv G.2.1 G.2.2.1 f with
    | true => zxshi f (-1) (fun f => zasm G f k)
    | false => zxscl (-1) f (fun m => match zprv G.2.1 G.2.2.1 m with
      | true => zxshi m (-1) (fun m => zasm G m k)
      | false => k (G.1, G.2.1, G.2.2.1, f :: G.2.2.2.1, G.2.2.2.2))))
theorem zane_ok {ρ : List Int} {G : AG} {f : LX} {k : AG → Bool} {z : Int} (h : zane G f k = true) (hG : zaG ρ G) (hf : zxr ρ f z) (hz : z ≠ 0) : ∃ G', k G' = true ∧ zaG ρ G' ∧ G'.2.2.2.2 = G.2.2.2.2 := by
  obtain ⟨g1, g2, g3, g4⟩ := id hG
  obtain ⟨lo, hi, h1, h2, h3⟩ := zbd_at g2 h hf
  split at h1
  · exact ⟨G, h1, hG, rfl⟩
  · split at h1
    · rename_i hc
      have := zprv_ok g2 hc g3 hf
      obtain ⟨m', m3, m4⟩ := zxshi_ok h1 hf
      exact zasm_ok m3 hG m4 (by omega)
    · obtain ⟨m, m1, m2⟩ := zxscl_ok h1 hf
      split at m1
      · rename_i hc
        have := zprv_ok g2 hc g3 m2
        obtain ⟨m', m3, m4⟩ := zxshi_ok m1 m2
        exact zasm_ok m3 hG m4 (by omega)
      · refine ⟨_, m1, ⟨g1, g2, g3, fun f' hf' => ?_⟩, rfl⟩
        rcases List.mem_cons.mp hf' with rfl | hf'
        · exact ⟨z, hf, hz⟩
        · exact g4 f' hf'
/-- a branch by how d stands to 0 -/
def zcnd (cd : ClassFile.Cond) (G : AG) (d : LX) (kt kf : AG → Bool) : Bool := match cd with
  | .lt => zxscl (-1) d (fun m => zxshi m (-1) (fun m => zasm G m kt)) && zasm G d kf
  | .ge => zasm G d kt && zxscl (-1) d (fun m => zxshi m (-1) (fun m => zasm G m kf))
  | .gt => zxshi d (-1) (fun m => zasm G m kt) && zxscl (-1) d (fun m => zasm G m kf)
  | .le => zxscl (-1) d (fun m => zasm G m kt) && zxshi d (-1) (fun m => zasm G m kf)
  | .eq => zasm G d (fun G => zxscl (-1) d (fun m => zasm G m kt)) && zane G d kf
  | .ne => zane G d kt && zasm G d (fun G => zxscl (-1) d (fun m => zasm G m kf))
def zcdI (cd : ClassFile.Cond) (z : Int) : Bool := match cd with
  | .eq => decide (z = 0)
  | .ne => !decide (z = 0)
  | .lt => decide (z < 0)
  | .ge => decide (0 ≤ z)
  | .gt => decide (0 < z)
  | .le => decide (z ≤ 0)
theorem zcnd_ok {ρ : List Int} {G : AG} {d : LX} {cd : ClassFile.Cond} {kt kf : AG → Bool} {z : Int} (h : zcnd cd G d kt kf = true) (hG : zaG ρ G) (hd : zxr ρ d z) : ∃ G', cond (zcdI cd z) (kt G') (kf G') = true ∧ zaG ρ G' ∧ G'.2.2.2.2 = G.2.2.2.2 := by
  have pos : ∀ {k : AG → Bool}, zasm G d k = true → 0 ≤ z → ∃ G', k G' = true ∧ zaG ρ G' ∧ G'.2.2.2.2 = G.2.2.2.2 := fun h q => zasm_ok h hG hd q
  have neg : ∀ {G : AG} {k : AG → Bool}, zxscl (-1) d (fun m => zasm G m k) = true → zaG ρ G → z ≤ 0 → ∃ G', k G' = true ∧ zaG ρ G' ∧ G'.2.2.2.2 = G.2.2.2.2 := fun h hG q => by
    obtain ⟨m, m1, m2⟩ := zxscl_ok h hd
    exact zasm_ok m1 hG m2 (by omega)
  have pos1 : ∀ {k : AG → Bool}, zxshi d (-1) (fun m => zasm G m k) = true → 0 < z → ∃ G', k G' = true ∧ zaG ρ G' ∧ G'.2.2.2.2 = G.2.2.2.2 := fun h q => by
    obtain ⟨m, m1, m2⟩ := zxshi_ok h hd
    exact zasm_ok m1 hG m2 (by omega)
  have neg1 : ∀ {k : AG → Bool}, zxscl (-1) d (fun m => zxshi m (-1) (fun m => zasm G m k)) = true → z < 0 → ∃ G', k G' = true ∧ zaG ρ G' ∧ G'.2.2.2.2 = G.2.2.2.2 := fun h q => by
    obtain ⟨m, m1, m2⟩ := zxscl_ok h hd
    obtain ⟨m', m3, m4⟩ := zxshi_ok m1 m2
    exact zasm_ok m3 hG m4 (by omega)
  have zer : ∀ {k : AG → Bool}, zasm G d (fun G => zxscl (-1) d (fun m => zasm G m k)) = true → z = 0 → ∃ G', k G' = true ∧ zaG ρ G' ∧ G'.2.2.2.2 = G.2.2.2.2 := fun h q => by
    obtain ⟨G1, m1, m2, m3⟩ := zasm_ok h hG hd (by omega)
    obtain ⟨G2, n1, n2, n3⟩ := neg m1 m2 (by omega)
    exact ⟨G2, n1, n2, n3.trans m3⟩
  have fin : ∀ {b : Bool} {G' : AG}, (b = true → kt G' = true) → (b = false → kf G' = true) → cond b (kt G') (kf G') = true := by
    intro b G' h1 h2
    cases b
    · exact h2 rfl
    · exact h1 rfl
  cases cd
  all_goals
    simp only [zcnd, Bool.and_eq_true] at h
  · by_cases q : z = 0
    · obtain ⟨G', a1, a2, a3⟩ := zer h.1 q
      exact ⟨G', by simp only [zcdI, q, decide_true, cond_true]; exact a1, a2, a3⟩
    · obtain ⟨G', a1, a2, a3⟩ := zane_ok h.2 hG hd q
      exact ⟨G', by simp only [zcdI, q, decide_false, cond_false]; exact a1, a2, a3⟩
  · by_cases q : z = 0
    · obtain ⟨G', a1, a2, a3⟩ := zer h.2 q
      exact ⟨G', by simp only [zcdI, q, decide_true, Bool.not_true, cond_false]; exact a1, a2, a3⟩
    · obtain ⟨G', a1, a2, a3⟩ := zane_ok h.1 hG hd q
      exact ⟨G', by simp only [zcdI, q, decide_false, Bool.not_false, cond_true]; exact a1, a2, a3⟩
  · by_cases q : z < 0
    · obtain ⟨G', a1, a2, a3⟩ := neg1 h.1 q
      exact ⟨G', by simp only [zcdI, q, decide_true, cond_true]; exact a1, a2, a3⟩
    · obtain ⟨G', a1, a2, a3⟩ := pos h.2 (by omega)
      exact ⟨G', by simp only [zcdI, q, decide_false, cond_false]; exact a1, a2, a3⟩
  · by_cases q : 0 ≤ z
    · obtain ⟨G', a1, a2, a3⟩ := pos h.1 q
      exact ⟨G', by simp only [zcdI, q, decide_true, cond_true]; exact a1, a2, a3⟩
    · obtain ⟨G', a1, a2, a3⟩ := neg1 h.2 (by omega)
      exact ⟨G', by simp only [zcdI, q, decide_false, cond_false]; exact a1, a2, a3⟩
  · by_cases q : 0 < z
    · obtain ⟨G', a1, a2, a3⟩ := pos1 h.1 q
      exact ⟨G', by simp only [zcdI, q, decide_true, cond_true]; exact a1, a2, a3⟩
    · obtain ⟨G', a1, a2, a3⟩ := neg h.2 hG (by omega)
      exact ⟨G', by simp only [zcdI, q, decide_false, cond_false]; exact a1, a2, a3⟩
  · by_cases q : z ≤ 0
    · obtain ⟨G', a1, a2, a3⟩ := neg h.1 hG q
      exact ⟨G', by simp only [zcdI, q, decide_true, cond_true]; exact a1, a2, a3⟩
    · obtain ⟨G', a1, a2, a3⟩ := pos1 h.2 (by omega)
      exact ⟨G', by simp only [zcdI, q, decide_false, cond_false]; exact a1, a2, a3⟩
theorem zcb_I (cd : ClassFile.Cond) (x y : Int32) : zcb cd x y = zcdI cd (x.toInt - y.toInt) := by
  cases cd
  · have : (x = y) ↔ x.toInt - y.toInt = 0 := ⟨fun h => by subst h; omega, fun h => Int32.toInt_inj.1 (by omega)⟩
    simp only [zcb, zcdI, this]
  · have : (x = y) ↔ x.toInt - y.toInt = 0 := ⟨fun h => by subst h; omega, fun h => Int32.toInt_inj.1 (by omega)⟩
    simp only [zcb, zcdI, this]
  · have : (x < y) ↔ x.toInt - y.toInt < 0 := by rw [Int32.lt_iff_toInt_lt]; omega
    simp only [zcb, zcdI, this]
  · have : (y ≤ x) ↔ 0 ≤ x.toInt - y.toInt := by rw [Int32.le_iff_toInt_le]; omega
    simp only [zcb, zcdI, this]
  · have : (y < x) ↔ 0 < x.toInt - y.toInt := by rw [Int32.lt_iff_toInt_lt]; omega
    simp only [zcb, zcdI, this]
  · have : (x ≤ y) ↔ x.toInt - y.toInt ≤ 0 := by rw [Int32.le_iff_toInt_le]; omega
    simp only [zcb, zcdI, this]
