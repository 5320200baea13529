/-! a contract held value by value of one of its symbols -/
def zctE (C : CT) (i : Nat) (v : Int) : CT := (C.1, (C.2.1.1, C.2.1.2.1, C.2.1.2.2.1, C.2.1.2.2.2.1.set i (v, v), C.2.1.2.2.2.2.1, C.2.1.2.2.2.2.2), C.2.2.1, C.2.2.2.1, C.2.2.2.2)
theorem zHolds_split {lk : ZLP} {Lx : Nat} {xs : Nat → Int32} {C : CT} {i : Nat} {lo hi : Int} (vs : List Int) (hE : C.2.1.2.2.2.1[i]? = some (lo, hi)) (hv : ∀ v : Int, lo ≤ v → v ≤ hi → v ∈ vs) (h : ∀ v ∈ vs, zHolds lk Lx xs (zctE C i v)) : zHolds lk Lx xs C := by
  intro η ρ hp av h1 h2 h3
  obtain ⟨p1, p2, p3, ⟨e1, e2⟩, p5, p6⟩ := h3
  have hi' : i < C.2.1.2.2.2.1.length := (List.getElem?_eq_some_iff.mp hE).1
  have hlt : i < ρ.length := by rw [← e1]; exact hi'
  obtain ⟨b1, b2⟩ := e2 i (lo, hi) ρ[i] hE (List.getElem?_eq_getElem hlt)
  refine h ρ[i] (hv _ b1 b2) η ρ hp av h1 h2 ⟨p1, p2, p3, ⟨?_, ?_⟩, p5, p6⟩
  · show (C.2.1.2.2.2.1.set i (ρ[i], ρ[i])).length = ρ.length
    rw [List.length_set]
    exact e1
  · intro j q x hq hx
    have hq : (C.2.1.2.2.2.1.set i (ρ[i], ρ[i]))[j]? = some q := hq
    by_cases e : i = j
    · subst e
      rw [List.getElem?_set_self hi'] at hq
      cases hq
      rw [List.getElem?_eq_getElem hlt] at hx
      cases hx
      exact ⟨Int.le_refl _, Int.le_refl _⟩
    · rw [List.getElem?_set_ne e] at hq
      exact e2 j q x hq hx
