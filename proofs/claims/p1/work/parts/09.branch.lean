/-! abstract branches: symbols are narrowed -/
def zES (E : AE) (i : Nat) (lo hi : Int) (k : AE → Bool) : Bool := zfi lo (fun lo => zfi hi (fun hi => zls E i (lo, hi) k))
theorem zES_ok {ρ : Nat → Int} {E : AE} {i : Nat} {lo hi : Int} {k : AE → Bool} (h : zES E i lo hi k = true) (hE : zaE ρ E) (h1 : lo ≤ ρ i) (h2 : ρ i ≤ hi) : ∃ E', k E' = true ∧ zaE ρ E' := by
  unfold zES at h
  rw [zfi_eq, zfi_eq] at h
  obtain ⟨g1, g2⟩ := zls_ok h
  refine ⟨_, g2, fun j q hq => ?_⟩
  by_cases e : i = j
  · subst e
    rw [List.getElem?_set_self g1] at hq
    cases hq
    exact ⟨h1, h2⟩
  · rw [List.getElem?_set_ne e] at hq
    exact hE j q hq
/-- x < y -/
def zclt (E : AE) (x y : AV) (kt kf : AE → Bool) : Bool :=
  ziv E x (fun l1 h1 => ziv E y (fun l2 h2 => match zle (h1 + 1) l2 with
    | true => kt E
    | false => (match zle h2 l1 with
      | true => kf E
      | false => (match x, y with
        | (1, i, o), (0, c, d) => (match zeq c d with
          | true => zES E i.toNat (l1 - o) (c - o - 1) kt && zES E i.toNat (c - o) (h1 - o) kf
          | false => kt E && kf E)
        | (0, c, d), (1, i, o) => (match zeq c d with
          | true => zES E i.toNat (c - o + 1) (h2 - o) kt && zES E i.toNat (l2 - o) (c - o) kf
          | false => kt E && kf E)
        | _, _ => kt E && kf E))))
theorem zclt_ok {ρ : Nat → Int} {E : AE} {x y : AV} {kt kf : AE → Bool} {v w : Value} (h : zclt E x y kt kf = true) (hE : zaE ρ E) (hx : za ρ x v) (hy : za ρ y w) :
    ∃ a b : Int32, v = .int a ∧ w = .int b ∧ (a < b → ∃ E', kt E' = true ∧ zaE ρ E') ∧ (¬ a < b → ∃ E', kf E' = true ∧ zaE ρ E') := by
  obtain ⟨a, l1, h1, rfl, g1, g2, g3⟩ := ziv_ok h hE hx
  obtain ⟨b, l2, h2, rfl, g4, g5, g6⟩ := ziv_ok g1 hE hy
  refine ⟨a, b, rfl, rfl, ?_⟩
  have hlt : (a < b) ↔ a.toInt < b.toInt := Int32.lt_iff_toInt_lt
  rw [hlt]
  have hboth : (kt E && kf E) = true → (a.toInt < b.toInt → ∃ E', kt E' = true ∧ zaE ρ E') ∧ (¬ a.toInt < b.toInt → ∃ E', kf E' = true ∧ zaE ρ E') := by
    intro h
    simp only [Bool.and_eq_true] at h
    exact ⟨fun _ => ⟨E, h.1, hE⟩, fun _ => ⟨E, h.2, hE⟩⟩
  split at g4
  · rename_i hc
    rw [zle_iff] at hc
    exact ⟨fun _ => ⟨E, g4, hE⟩, fun hn => absurd (by omega) hn⟩
  · split at g4
    · rename_i hc
      rw [zle_iff] at hc
      exact ⟨fun hn => absurd hn (by omega), fun _ => ⟨E, g4, hE⟩⟩
    · split at g4
      · rename_i i o c d
        split at g4
        · rename_i hc
          rw [zeq_iff] at hc
          simp only [Bool.and_eq_true] at g4
          obtain ⟨a', q1, q2⟩ := hx
          obtain ⟨b', q3, q4, q5⟩ := hy
          cases q1; cases q3
          exact ⟨fun hn => zES_ok g4.1 hE (by omega) (by omega), fun hn => zES_ok g4.2 hE (by omega) (by omega)⟩
        · exact hboth g4
      · rename_i c d i o
        split at g4
        · rename_i hc
          rw [zeq_iff] at hc
          simp only [Bool.and_eq_true] at g4
          obtain ⟨a', q1, q2⟩ := hy
          obtain ⟨b', q3, q4, q5⟩ := hx
          cases q1; cases q3
          exact ⟨fun hn => zES_ok g4.1 hE (by omega) (by omega), fun hn => zES_ok g4.2 hE (by omega) (by omega)⟩
        · exact hboth g4
      · exact hboth g4
/-- a symbol is, or isn't, a number -/
def zceS (E : AE) (i : Nat) (lo hi d : Int) (kt kf : AE → Bool) : Bool :=
  zES E i d d kt && ((match zle lo (d - 1) with | true => zES E i lo (d - 1) kf | false => true) && (match zle (d + 1) hi with | true => zES E i (d + 1) hi kf | false => true))
theorem zceS_ok {ρ : Nat → Int} {E : AE} {i : Nat} {lo hi d : Int} {kt kf : AE → Bool} (h : zceS E i lo hi d kt kf = true) (hE : zaE ρ E) (h1 : lo ≤ ρ i) (h2 : ρ i ≤ hi) : (ρ i = d → ∃ E', kt E' = true ∧ zaE ρ E') ∧ (¬ ρ i = d → ∃ E', kf E' = true ∧ zaE ρ E') := by
  unfold zceS at h
  simp only [Bool.and_eq_true] at h
  obtain ⟨g1, g2, g3⟩ := h
  refine ⟨fun e => zES_ok g1 hE (by omega) (by omega), fun e => ?_⟩
  rcases Int.lt_or_gt_of_ne e with e | e
  · rw [zle_iff.mpr (show lo ≤ d - 1 by omega)] at g2
    exact zES_ok g2 hE h1 (by omega)
  · rw [zle_iff.mpr (show d + 1 ≤ hi by omega)] at g3
    exact zES_ok g3 hE (by omega) h2
def zceq (E : AE) (x y : AV) (kt kf : AE → Bool) : Bool :=
  ziv E x (fun l1 h1 => ziv E y (fun l2 h2 => match zle (h1 + 1) l2 with
    | true => kf E
    | false => (match zle (h2 + 1) l1 with
      | true => kf E
      | false => (match zeq l1 h1 && zeq l2 h2 with
        | true => kt E
        | false => (match x, y with
          | (1, i, o), (0, c, d) => (match zeq c d with
            | true => zceS E i.toNat (l1 - o) (h1 - o) (c - o) kt kf
            | false => kt E && kf E)
          | (0, c, d), (1, i, o) => (match zeq c d with
            | true => zceS E i.toNat (l2 - o) (h2 - o) (c - o) kt kf
            | false => kt E && kf E)
          | _, _ => kt E && kf E)))))
theorem zceq_ok {ρ : Nat → Int} {E : AE} {x y : AV} {kt kf : AE → Bool} {v w : Value} (h : zceq E x y kt kf = true) (hE : zaE ρ E) (hx : za ρ x v) (hy : za ρ y w) :
    ∃ a b : Int32, v = .int a ∧ w = .int b ∧ (a = b → ∃ E', kt E' = true ∧ zaE ρ E') ∧ (¬ a = b → ∃ E', kf E' = true ∧ zaE ρ E') := by
  obtain ⟨a, l1, h1, rfl, g1, g2, g3⟩ := ziv_ok h hE hx
  obtain ⟨b, l2, h2, rfl, g4, g5, g6⟩ := ziv_ok g1 hE hy
  refine ⟨a, b, rfl, rfl, ?_⟩
  have hlt : (a = b) ↔ a.toInt = b.toInt := Int32.toInt_inj.symm
  rw [hlt]
  have hboth : (kt E && kf E) = true → (a.toInt = b.toInt → ∃ E', kt E' = true ∧ zaE ρ E') ∧ (¬ a.toInt = b.toInt → ∃ E', kf E' = true ∧ zaE ρ E') := by
    intro h
    simp only [Bool.and_eq_true] at h
    exact ⟨fun _ => ⟨E, h.1, hE⟩, fun _ => ⟨E, h.2, hE⟩⟩
  split at g4
  · rename_i hc
    rw [zle_iff] at hc
    exact ⟨fun hn => absurd hn (by omega), fun _ => ⟨E, g4, hE⟩⟩
  · split at g4
    · rename_i hc
      rw [zle_iff] at hc
      exact ⟨fun hn => absurd hn (by omega), fun _ => ⟨E, g4, hE⟩⟩
    · rename_i b1 n1 b2 n2
      have m1 : l2 < h1 + 1 := zle_not.mp (by simpa using n1)
      have m2 : l1 < h2 + 1 := zle_not.mp (by simpa using n2)
      split at g4
      · rename_i hc
        simp only [Bool.and_eq_true, zeq_iff] at hc
        exact ⟨fun _ => ⟨E, g4, hE⟩, fun hn => absurd (by omega) hn⟩
      · split at g4
        · rename_i i o c d _
          split at g4
          · rename_i hc
            rw [zeq_iff] at hc
            obtain ⟨a', q1, q2⟩ := hx
            obtain ⟨b', q3, q4, q5⟩ := hy
            cases q1; cases q3
            obtain ⟨r1, r2⟩ := zceS_ok g4 hE (by omega) (by omega)
            exact ⟨fun e => r1 (by omega), fun e => r2 (by omega)⟩
          · exact hboth g4
        · rename_i c d i o _
          split at g4
          · rename_i hc
            rw [zeq_iff] at hc
            obtain ⟨a', q1, q2⟩ := hy
            obtain ⟨b', q3, q4, q5⟩ := hx
            cases q1; cases q3
            obtain ⟨r1, r2⟩ := zceS_ok g4 hE (by omega) (by omega)
            exact ⟨fun e => r1 (by omega), fun e => r2 (by omega)⟩
          · exact hboth g4
        · exact hboth g4
def zcmp (cd : ClassFile.Cond) (E : AE) (x y : AV) (kt kf : AE → Bool) : Bool := match cd with
  | .eq => zceq E x y kt kf
  | .ne => zceq E x y kf kt
  | .lt => zclt E x y kt kf
  | .ge => zclt E x y kf kt
  | .gt => zclt E y x kt kf
  | .le => zclt E y x kf kt
def zcnd (cd : ClassFile.Cond) (a b : Int32) : Prop := match cd with
  | .eq => a = b
  | .ne => ¬ a = b
  | .lt => a < b
  | .ge => b ≤ a
  | .gt => b < a
  | .le => a ≤ b
theorem zb_nlt (a b : Int32) : (b ≤ a) ↔ ¬ a < b := by
  rw [Int32.le_iff_toInt_le, Int32.lt_iff_toInt_lt]; omega
theorem zcmp_ok {ρ : Nat → Int} {cd : ClassFile.Cond} {E : AE} {x y : AV} {kt kf : AE → Bool} {v w : Value} (h : zcmp cd E x y kt kf = true) (hE : zaE ρ E) (hx : za ρ x v) (hy : za ρ y w) :
    ∃ a b : Int32, v = .int a ∧ w = .int b ∧ (zcnd cd a b → ∃ E', kt E' = true ∧ zaE ρ E') ∧ (¬ zcnd cd a b → ∃ E', kf E' = true ∧ zaE ρ E') := by
  cases cd
  all_goals simp only [zcmp] at h
  all_goals simp only [zcnd]
  · exact zceq_ok h hE hx hy
  · obtain ⟨a, b, e1, e2, e3, e4⟩ := zceq_ok h hE hx hy
    exact ⟨a, b, e1, e2, e4, fun n => e3 (Classical.not_not.mp n)⟩
  · exact zclt_ok h hE hx hy
  · obtain ⟨a, b, e1, e2, e3, e4⟩ := zclt_ok h hE hx hy
    exact ⟨a, b, e1, e2, fun n => e4 ((zb_nlt a b).mp n), fun n => e3 (by rw [zb_nlt] at n; exact Classical.not_not.mp n)⟩
  · obtain ⟨b, a, e2, e1, e3, e4⟩ := zclt_ok h hE hy hx
    exact ⟨a, b, e1, e2, e3, e4⟩
  · obtain ⟨b, a, e2, e1, e3, e4⟩ := zclt_ok h hE hy hx
    exact ⟨a, b, e1, e2, fun n => e4 ((zb_nlt b a).mp n), fun n => e3 (by rw [zb_nlt] at n; exact Classical.not_not.mp n)⟩
section ZBR
variable {G : ZG} {D : va_G} {B : zB} {tA : Nat → ClassId} {H0 : Heap} {nL : Nat} {ρ : Nat → Int} {K : ZK} {pc : Nat} {A : AL} {S : List AV} {h : AH} {E : AE} {c s : Nat}
/-- where a jump goes -/
def zjt (pc : Nat) (off : Int) (k : Nat → Bool) : Bool := match (pc : Int) + off with
  | .ofNat n => zfn n k
  | .negSucc _ => false
theorem zjt_ok {pc : Nat} {off : Int} {k : Nat → Bool} (h : zjt pc off k = true) : ∃ t : Nat, (pc : Int) + off = (t : Int) ∧ k t = true := by
  unfold zjt at h
  split at h
  · rename_i n e
    rw [zfn_eq] at h
    exact ⟨n, e, h⟩
  · cases h
def zo_goto (off : Int) (pc : Nat) (A : AL) (S : List AV) (h : AH) (E : AE) (c s : Nat) (K : ZK) : Bool := zjt pc off (fun pc => K pc A S h E c s)
theorem zs_goto {off : Int} (hz : zo_goto off pc A S h E c s K = true) (hK : zKS G D B tA H0 nL ρ K)
    (row : ∀ H locs ls st (t : Nat), (pc : Int) + off = (t : Int) → G H locs c s t ls st → G H locs c s pc ls st) : zS G D B tA H0 nL ρ pc A S h E c s := by
  intro hE L st hp hL hS hH H locs ls h1 h2 h3
  obtain ⟨t, g1, g2⟩ := zjt_ok hz
  exact row _ _ _ _ t g1 (hK _ _ _ _ _ _ _ g2 hE L st hp hL hS hH H locs ls h1 h2 h3)
def zo_icmp (cd : ClassFile.Cond) (off : Int) (pc : Nat) (A : AL) (S : List AV) (h : AH) (E : AE) (c s : Nat) (K : ZK) : Bool := match S with
  | y :: x :: S => zjt pc off (fun t => zfn (pc + 3) (fun f => zcmp cd E x y (fun E => K t A S h E c s) (fun E => K f A S h E c s)))
  | _ => false
theorem zs_icmp {cd : ClassFile.Cond} {off : Int} (hz : zo_icmp cd off pc A S h E c s K = true) (hK : zKS G D B tA H0 nL ρ K)
    (row : ∀ H locs ls st x y (t : Nat), (pc : Int) + off = (t : Int) → (zcnd cd x y → G H locs c s t ls st) → (¬ zcnd cd x y → G H locs c s (pc + 3) ls st) → G H locs c s pc ls (.int y :: .int x :: st)) : zS G D B tA H0 nL ρ pc A S h E c s := by
  intro hE L st hp hL hS hH H locs ls h1 h2 h3
  unfold zo_icmp at hz
  split at hz
  · match st, hS with
    | w :: v :: st, hS =>
      obtain ⟨t, g1, g2⟩ := zjt_ok hz
      rw [zfn_eq] at g2
      obtain ⟨x, y, rfl, rfl, g3, g4⟩ := zcmp_ok g2 hE hS.2.1 hS.1
      refine row _ _ _ _ x y t g1 (fun hc => ?_) (fun hc => ?_)
      · obtain ⟨E', g5, g6⟩ := g3 hc
        exact hK _ _ _ _ _ _ _ g5 g6 L st hp hL hS.2.2 hH H locs ls h1 h2 h3
      · obtain ⟨E', g5, g6⟩ := g4 hc
        exact hK _ _ _ _ _ _ _ g5 g6 L st hp hL hS.2.2 hH H locs ls h1 h2 h3
    | [], hS => exact hS.elim
    | [_], hS => exact hS.2.elim
  · cases hz
def zo_if (cd : ClassFile.Cond) (off : Int) (pc : Nat) (A : AL) (S : List AV) (h : AH) (E : AE) (c s : Nat) (K : ZK) : Bool := match S with
  | x :: S => zjt pc off (fun t => zfn (pc + 3) (fun f => zcmp cd E x (0, 0, 0) (fun E => K t A S h E c s) (fun E => K f A S h E c s)))
  | _ => false
theorem zs_if {cd : ClassFile.Cond} {off : Int} (hz : zo_if cd off pc A S h E c s K = true) (hK : zKS G D B tA H0 nL ρ K)
    (row : ∀ H locs ls st x (t : Nat), (pc : Int) + off = (t : Int) → (zcnd cd x 0 → G H locs c s t ls st) → (¬ zcnd cd x 0 → G H locs c s (pc + 3) ls st) → G H locs c s pc ls (.int x :: st)) : zS G D B tA H0 nL ρ pc A S h E c s := by
  intro hE L st hp hL hS hH H locs ls h1 h2 h3
  unfold zo_if at hz
  split at hz
  · match st, hS with
    | v :: st, hS =>
      obtain ⟨t, g1, g2⟩ := zjt_ok hz
      rw [zfn_eq] at g2
      obtain ⟨x, y, rfl, hy, g3, g4⟩ := zcmp_ok g2 hE hS.1 (show za ρ (0, 0, 0) (.int 0) from ⟨0, rfl, by decide, by decide⟩)
      cases hy
      refine row _ _ _ _ x t g1 (fun hc => ?_) (fun hc => ?_)
      · obtain ⟨E', g5, g6⟩ := g3 hc
        exact hK _ _ _ _ _ _ _ g5 g6 L st hp hL hS.2 hH H locs ls h1 h2 h3
      · obtain ⟨E', g5, g6⟩ := g4 hc
        exact hK _ _ _ _ _ _ _ g5 g6 L st hp hL hS.2 hH H locs ls h1 h2 h3
    | [], hS => exact hS.elim
  · cases hz
/-- whether a reference is null: neg, whether the jump is for what isn't -/
def zo_nul (neg : Bool) (off : Int) (pc : Nat) (A : AL) (S : List AV) (h : AH) (E : AE) (c s : Nat) (K : ZK) : Bool := match S with
  | (3, _, _) :: S => (match neg with | true => zjt pc off (fun t => K t A S h E c s) | false => zfn (pc + 3) (fun f => K f A S h E c s))
  | (4, _, _) :: S => (match neg with | false => zjt pc off (fun t => K t A S h E c s) | true => zfn (pc + 3) (fun f => K f A S h E c s))
  | _ => false
theorem zs_nul {neg : Bool} {off : Int} (hz : zo_nul neg off pc A S h E c s K = true) (hK : zKS G D B tA H0 nL ρ K)
    (row1 : ∀ H locs ls st a (t : Nat), neg = true → (pc : Int) + off = (t : Int) → G H locs c s t ls st → G H locs c s pc ls (.ref a :: st))
    (row2 : ∀ H locs ls st a, neg = false → G H locs c s (pc + 3) ls st → G H locs c s pc ls (.ref a :: st))
    (row3 : ∀ H locs ls st (t : Nat), neg = false → (pc : Int) + off = (t : Int) → G H locs c s t ls st → G H locs c s pc ls (.null :: st))
    (row4 : ∀ H locs ls st, neg = true → G H locs c s (pc + 3) ls st → G H locs c s pc ls (.null :: st)) : zS G D B tA H0 nL ρ pc A S h E c s := by
  intro hE L st hp hL hS hH H locs ls h1 h2 h3
  unfold zo_nul at hz
  split at hz
  · match st, hS with
    | v :: st, hS =>
      have hv : v = .ref _ := hS.1
      subst hv
      split at hz
      · obtain ⟨t, g1, g2⟩ := zjt_ok hz
        exact row1 _ _ _ _ _ t rfl g1 (hK _ _ _ _ _ _ _ g2 hE L st hp hL hS.2 hH H locs ls h1 h2 h3)
      · rw [zfn_eq] at hz
        exact row2 _ _ _ _ _ rfl (hK _ _ _ _ _ _ _ hz hE L st hp hL hS.2 hH H locs ls h1 h2 h3)
    | [], hS => exact hS.elim
  · match st, hS with
    | v :: st, hS =>
      have hv : v = .null := hS.1
      subst hv
      split at hz
      · obtain ⟨t, g1, g2⟩ := zjt_ok hz
        exact row3 _ _ _ _ t rfl g1 (hK _ _ _ _ _ _ _ g2 hE L st hp hL hS.2 hH H locs ls h1 h2 h3)
      · rw [zfn_eq] at hz
        exact row4 _ _ _ _ rfl (hK _ _ _ _ _ _ _ hz hE L st hp hL hS.2 hH H locs ls h1 h2 h3)
    | [], hS => exact hS.elim
  · cases hz
/-- narrows a value to an interval, if it is a symbol -/
def znar (E : AE) (x : AV) (lo hi : Int) (k : AE → Bool) : Bool := match x with
  | (1, i, o) => zES E i.toNat (lo - o) (hi - o) k
  | _ => k E
theorem znar_ok {ρ : Nat → Int} {E : AE} {x : AV} {lo hi : Int} {k : AE → Bool} {a : Int32} (h : znar E x lo hi k = true) (hE : zaE ρ E) (hx : za ρ x (.int a)) (h1 : lo ≤ a.toInt) (h2 : a.toInt ≤ hi) : ∃ E', k E' = true ∧ zaE ρ E' := by
  unfold znar at h
  split at h
  · obtain ⟨a', q1, q2⟩ := hx
    cases q1
    exact zES_ok h hE (by omega) (by omega)
  · exact ⟨E, h, hE⟩
/-- the cases of a switch, one after another -/
def zswi (offs : List Int) (j : Int) (E : AE) (x : AV) (l u : Int) (k : Int → AE → Bool) : Bool := match offs with
  | [] => true
  | off :: offs => (match zle l j && zle j u with
    | true => znar E x j j (k off)
    | false => true) && zfi (j + 1) (fun j => zswi offs j E x l u k)
theorem zswi_ok {ρ : Nat → Int} {E : AE} {x : AV} {l u : Int} {k : Int → AE → Bool} {a : Int32} (hE : zaE ρ E) (hx : za ρ x (.int a)) (h1 : l ≤ a.toInt) (h2 : a.toInt ≤ u) : ∀ (offs : List Int) (j : Int), zswi offs j E x l u k = true → ∀ (n : Nat) (off : Int), offs[n]? = some off → a.toInt = j + n → ∃ E', k off E' = true ∧ zaE ρ E'
  | [], _, _, n, off, hn, _ => by simp at hn
  | o :: offs, j, h, n, off, hn, hj => by
    unfold zswi at h
    simp only [Bool.and_eq_true] at h
    obtain ⟨g1, g2⟩ := h
    rw [zfi_eq] at g2
    match n, hn, hj with
    | 0, hn, hj =>
      simp only [List.getElem?_cons_zero, Option.some.injEq] at hn
      subst hn
      rw [zle_iff.mpr (show l ≤ j by omega), zle_iff.mpr (show j ≤ u by omega)] at g1
      exact znar_ok g1 hE hx (by omega) (by omega)
    | n + 1, hn, hj => exact zswi_ok hE hx h1 h2 offs (j + 1) g2 n off (by simpa using hn) (by omega)
def zo_tsw (dflt lo hi : Int) (offs : List Int) (pc : Nat) (A : AL) (S : List AV) (h : AH) (E : AE) (c s : Nat) (K : ZK) : Bool := match S with
  | x :: S => ziv E x (fun l u => zjt pc dflt (fun d =>
      (match zle l (lo - 1) with | true => znar E x l (lo - 1) (fun E => K d A S h E c s) | false => true) &&
      ((match zle (hi + 1) u with | true => znar E x (hi + 1) u (fun E => K d A S h E c s) | false => true) &&
      (zeq (hi - lo + 1) offs.length && zswi offs lo E x l u (fun off E => zjt pc off (fun t => K t A S h E c s))))))
  | _ => false
theorem zs_tsw {dflt lo hi : Int} {offs : List Int} (hz : zo_tsw dflt lo hi offs pc A S h E c s K = true) (hK : zKS G D B tA H0 nL ρ K)
    (row1 : ∀ H locs ls st (x : Int32) (t : Nat), (x.toInt < lo ∨ hi < x.toInt) → (pc : Int) + dflt = (t : Int) → G H locs c s t ls st → G H locs c s pc ls (.int x :: st))
    (row2 : ∀ H locs ls st (x : Int32) (off : Int) (t : Nat), ¬ x.toInt < lo → ¬ hi < x.toInt → offs[(x.toInt - lo).toNat]? = some off → (pc : Int) + off = (t : Int) → G H locs c s t ls st → G H locs c s pc ls (.int x :: st)) : zS G D B tA H0 nL ρ pc A S h E c s := by
  intro hE L st hp hL hS hH H locs ls h1 h2 h3
  unfold zo_tsw at hz
  split at hz
  · match st, hS with
    | v :: st, hS =>
      obtain ⟨x, l, u, rfl, g1, g2, g3⟩ := ziv_ok hz hE hS.1
      obtain ⟨d, g4, g5⟩ := zjt_ok g1
      simp only [Bool.and_eq_true] at g5
      obtain ⟨g5, g6, g7, g8⟩ := g5
      rw [zeq_iff] at g7
      by_cases q1 : x.toInt < lo
      · rw [zle_iff.mpr (show l ≤ lo - 1 by omega)] at g5
        obtain ⟨E', g9, g10⟩ := znar_ok g5 hE hS.1 g2 (by omega)
        exact row1 _ _ _ _ x d (Or.inl q1) g4 (hK _ _ _ _ _ _ _ g9 g10 L st hp hL hS.2 hH H locs ls h1 h2 h3)
      · by_cases q2 : hi < x.toInt
        · rw [zle_iff.mpr (show hi + 1 ≤ u by omega)] at g6
          obtain ⟨E', g9, g10⟩ := znar_ok g6 hE hS.1 (by omega) g3
          exact row1 _ _ _ _ x d (Or.inr q2) g4 (hK _ _ _ _ _ _ _ g9 g10 L st hp hL hS.2 hH H locs ls h1 h2 h3)
        · have hlt : (x.toInt - lo).toNat < offs.length := by omega
          obtain ⟨E', g9, g10⟩ := zswi_ok hE hS.1 g2 g3 offs lo g8 (x.toInt - lo).toNat _ (List.getElem?_eq_getElem hlt) (by omega)
          obtain ⟨t, g11, g12⟩ := zjt_ok g9
          exact row2 _ _ _ _ x _ t q1 q2 (List.getElem?_eq_getElem hlt) g11 (hK _ _ _ _ _ _ _ g12 g10 L st hp hL hS.2 hH H locs ls h1 h2 h3)
    | [], hS => exact hS.elim
  · cases hz
end ZBR
