/-! a contract held value by value of one of its symbols -/
def zctE (C : CT) (i : Nat) (a b : Int) : CT := (C.1, (C.2.1.1, C.2.1.2.1, C.2.1.2.2.1, C.2.1.2.2.2.1.set i (a, b), C.2.1.2.2.2.2.1, C.2.1.2.2.2.2.2), C.2.2.1, C.2.2.2.1, C.2.2.2.2)
theorem zHolds_split {lk : ZLP} {Lx : Nat} {xs : Nat → Int32} {C : CT} {i : Nat} {lo hi : Int} (vs : List (Int × Int)) (hE : C.2.1.2.2.2.1[i]? = some (lo, hi)) (hv : ∀ v : Int, lo ≤ v → v ≤ hi → ∃ r ∈ vs, r.1 ≤ v ∧ v ≤ r.2) (h : ∀ r ∈ vs, zHolds lk Lx xs (zctE C i r.1 r.2)) : zHolds lk Lx xs C := by
  intro η ρ hp av h1 h2 h3
  obtain ⟨p1, p2, p3, ⟨e1, e2⟩, p5, p6⟩ := h3
  have hi' : i < C.2.1.2.2.2.1.length := (List.getElem?_eq_some_iff.mp hE).1
  have hlt : i < ρ.length := by rw [← e1]; exact hi'
  obtain ⟨b1, b2⟩ := e2 i (lo, hi) ρ[i] hE (List.getElem?_eq_getElem hlt)
  obtain ⟨r, hr, r1, r2⟩ := hv _ b1 b2
  refine h r hr η ρ hp av h1 h2 ⟨p1, p2, p3, ⟨?_, ?_⟩, p5, p6⟩
  · show (C.2.1.2.2.2.1.set i (r.1, r.2)).length = ρ.length
    rw [List.length_set]
    exact e1
  · intro j q x hq hx
    have hq : (C.2.1.2.2.2.1.set i (r.1, r.2))[j]? = some q := hq
    by_cases e : i = j
    · subst e
      rw [List.getElem?_set_self hi'] at hq
      cases hq
      rw [List.getElem?_eq_getElem hlt] at hx
      cases hx
      exact ⟨r1, r2⟩
    · rw [List.getElem?_set_ne e] at hq
      exact e2 j q x hq hx
