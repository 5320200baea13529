/-! the law's loop of p3: what its turns stand on -/
def zlLL : AL := [(0, (4, (0, []))), (1, (2, (0, []))), (2, (2, (1, []))), (3, (2, (2, []))), (4, (0, (0, [(2, 1)])))]
theorem zLlk {η : List Nat} {ρ : List Int} {L : zL} {i : Int} (h : zaL η ρ zlLL L) (h1 : ρ[2]? = some i) : ∃ (a b o : Nat) (y : Int32), zlk L 0 = some (.float 0) ∧ zlk L 1 = some (.ref a) ∧ η[0]? = some a ∧ zlk L 2 = some (.ref b) ∧ η[1]? = some b ∧ zlk L 3 = some (.ref o) ∧ η[2]? = some o ∧ zlk L 4 = some (.int y) ∧ y.toInt = i := by
  obtain ⟨v0, a0, b0⟩ := h _ (List.mem_of_getElem? (l := zlLL) (i := 0) rfl)
  obtain ⟨v1, a1, a, c1, rfl⟩ := h _ (List.mem_of_getElem? (l := zlLL) (i := 1) rfl)
  obtain ⟨v2, a2, b, c2, rfl⟩ := h _ (List.mem_of_getElem? (l := zlLL) (i := 2) rfl)
  obtain ⟨v3, a3, o, c3, rfl⟩ := h _ (List.mem_of_getElem? (l := zlLL) (i := 3) rfl)
  obtain ⟨v4, a4, y, rfl, c4⟩ := h _ (List.mem_of_getElem? (l := zlLL) (i := 4) rfl)
  have b0 : v0 = .float 0 := b0
  subst b0
  exact ⟨a, b, o, y, a0, a1, c1, a2, c2, a3, c3, a4, zxr_fun c4 (zxr_s h1)⟩
theorem zl_virt {lk : ZLP} {Lx : Nat} {xs : Nat → Int32} {pc : Nat} {L : zL} {st : List Value} {hp : List zhE} {c s : Nat} {Q : ZP} {p0 q a j n ci : Nat} {v : Int} {vs : List Value} {fs : List Value} {P : ZP} (h : zatp 276 pc = some (p0, .invokevirtual q, a, n, v)) (hl : vs.length = n) (hc : hp[j]? = some (.inr (ci, fs))) (hci : v.toNat = ci) (h1 : (lg_sl (.ref j :: vs)).length ≤ (zrw a).2.1) (h2 : zsum st ≤ 8) (h3 : (zrm a).cells = 0) (h4 : (zrm a).slots = 0) (hca : c ≤ (zrm 276).cells) (hsa : s ≤ (zrm 276).slots) (hP : zWP lk Lx xs a (0, lv_args 0 (.ref j :: vs), [], hp, 0, 0) P) (hn : ∀ rv hp', P rv hp' → zWP lk Lx xs 276 (pc + 3, L, rv.toList ++ st, hp', c, s) Q) : zWP lk Lx xs 276 (pc, L, vs.reverse ++ .ref j :: st, hp, c, s) Q := by
  obtain ⟨m1, m2⟩ := zatp_ok h
  refine zWP.step ⟨_, m1, m2, ?_⟩
  show ∃ vs1 a1 st1 fs1, _
  refine ⟨vs, j, st, fs, rfl, hl, by rw [show ((p0, Instr.invokevirtual q, a, n, v) : zPE).2.2.2.2 = v from rfl, hci]; exact hc, h1, h2, ?_, ?_, P, hP, fun rv hp' hp1 => ?_⟩
  · show c + (zrm a).cells ≤ _
    omega
  · show s + (zrm a).slots ≤ _
    omega
  · show zWP lk Lx xs 276 (pc + 3, L, rv.toList ++ st, hp', c + (zrm a).cells, s + (zrm a).slots) Q
    rw [h3, h4]
    exact hn rv hp' hp1
/-! symbols put in -/
def zshg (k m s : Nat) : Nat := if s < k then s else s + m
theorem zshg_ok {a l b : List Int} : ∀ (s : Nat) (x : Int), (a ++ b)[s]? = some x → (a ++ l ++ b)[zshg a.length l.length s]? = some x := fun s x h => by
  unfold zshg
  split
  · rename_i hs
    rw [List.getElem?_append_left hs] at h
    rw [List.append_assoc, List.getElem?_append_left hs]
    exact h
  · rename_i hs
    rw [List.getElem?_append_right (by omega)] at h
    rw [List.getElem?_append_right (by rw [List.length_append]; omega), List.length_append, show s + l.length - (a.length + l.length) = s - a.length by omega]
    exact h
theorem zaE_insg {a l b : List Int} {E1 El E2 : LE} (h : zaE (a ++ b) (E1 ++ E2)) (hl : E1.length = a.length) (g : zaE l El) : zaE (a ++ l ++ b) (E1 ++ El ++ E2) := by
  obtain ⟨h1, h2⟩ := h
  obtain ⟨g1, g2⟩ := g
  refine ⟨by simp only [List.length_append] at h1 ⊢; omega, fun i q x hq hx => ?_⟩
  by_cases c1 : i < a.length
  · rw [List.append_assoc, List.getElem?_append_left (by omega)] at hq hx
    exact h2 i q x (by rw [List.getElem?_append_left (by omega)]; exact hq) (by rw [List.getElem?_append_left c1]; exact hx)
  by_cases c2 : i < a.length + l.length
  · rw [List.append_assoc, List.getElem?_append_right (by omega), List.getElem?_append_left (by omega)] at hq hx
    rw [hl] at hq
    exact g2 _ q x hq hx
  · rw [List.getElem?_append_right (by rw [List.length_append]; omega), List.length_append] at hq hx
    refine h2 (i - l.length) q x ?_ ?_
    · rw [List.getElem?_append_right (by omega), show i - l.length - E1.length = i - (E1.length + El.length) by omega]
      exact hq
    · rw [List.getElem?_append_right (by omega), show i - l.length - a.length = i - (a.length + l.length) by omega]
      exact hx
/-! the store and the heap -/
section ZSO
variable {e e' : Nat → Nat} {hp hp' : List zhE} {D : List zDe} {S : Nat → Nat → Int32}
theorem zSof_e {j j' : Nat} (h : e j = e' j') : zSof e hp j = zSof e' hp j' := by
  funext b
  unfold zSof
  rw [h]
theorem zSof_hp {j : Nat} (h : hp'[e j]? = hp[e j]?) : zSof e hp' j = zSof e hp j := by
  funext b
  unfold zSof
  rw [h]
theorem zHS_at {j : Nat} {d : zDe} (he : zeI e hp D.length) (hD : D[j]? = some d) : (zHS e D S hp)[e j]? = some (zCell e (S j) d) := by
  have h1 := zCs_get (e := e) (S := S) (i := 0) hD
  rw [Nat.zero_add] at h1
  have h2 := zHe_get0 (i := 0) he (by rw [zCs_len]; omega) h1
  rw [Nat.zero_add] at h2
  exact h2
theorem zSof_HA {j t m : Nat} (he : zeI e hp D.length) (hD : D[j]? = some (.inr (t, m))) : zSof e (zHS e D S hp) j = S j := by
  funext b
  unfold zSof
  rw [zHS_at he hD]
  rfl
theorem zSof_HO {j ci m b : Nat} {tab : List Nat} (he : zeI e hp D.length) (hD : D[j]? = some (.inl (ci, tab, m))) (hb : b < m) (ht : tab.getD b 0 = 0) : zSof e (zHS e D S hp) j b = S j b := by
  unfold zSof
  rw [zHS_at he hD]
  show (match (zFs (zOb tab e (S j)) m)[b]? with
    | some (.int x) => x
    | _ => 0) = _
  rw [zFs_get hb]
  unfold zOb
  rw [ht]
/-- a heap is the store that is read off it -/
theorem zSof_self (h : ∀ j d, D[j]? = some d → hp[e j]? = some (zCell e (zSof e hp j) d)) : zHS e D (zSof e hp) hp = hp := by
  refine zHe_self (fun j c hc => ?_)
  have hlt := (List.getElem?_eq_some_iff.mp hc).1
  rw [zCs_len] at hlt
  have h1 := zCs_get (e := e) (S := zSof e hp) (i := 0) (List.getElem?_eq_getElem hlt)
  rw [hc] at h1
  rw [h1, Nat.zero_add]
  exact h j _ (List.getElem?_eq_getElem hlt)
/-- a number in a field -/
def zflN (C : PC) (m b : Nat) (x : LX) : Bool := C.any (fun q => Nat.beq q.1 m && (match q.2 with
  | .inl (_, fs) => (match fs[b]? with
    | some a => Nat.beq a.1 0 && decide (a.2 = x)
    | none => false)
  | _ => false))
theorem zflN_ok {η : List Nat} {ρ : List Int} {idx : List Nat} {C : PC} {m b j : Nat} {x : LX} (hcl : zcl2 η ρ C hp) (hz : zflN C m b x = true) (hj : idx.getD j 0 = m) : zxr ρ x (zSof (zee η idx) hp j b).toInt := by
  obtain ⟨q, h1, h2⟩ := List.any_eq_true.mp hz
  rw [Bool.and_eq_true] at h2
  obtain ⟨y, h, g1, g2, g3⟩ := hcl q h1
  have e1 := Nat.eq_of_beq_eq_true h2.1
  obtain ⟨q1, q2⟩ := q
  simp only at e1 h2 g1 g3
  subst e1
  have e2 : zee η idx j = y := by
    unfold zee
    rw [hj, List.getD_eq_getElem?_getD, g1]
    rfl
  have h3 := h2.2
  split at h3
  · rename_i ci fs
    obtain ⟨vs, rfl, v2⟩ := g3
    split at h3
    · rename_i a ha
      obtain ⟨v, w1, w2⟩ := zAll_get v2 ha
      obtain ⟨t, e⟩ := a
      rw [Bool.and_eq_true, decide_eq_true_eq] at h3
      have e3 := Nat.eq_of_beq_eq_true h3.1
      simp only at e3
      subst e3
      obtain ⟨z, rfl, w3⟩ := w2
      have e4 : zSof (zee η idx) hp j b = z := by
        unfold zSof
        rw [e2, g2]
        simp only [w1]
      rw [e4, ← h3.2]
      exact w3
    · cases h3
  · cases h3
end ZSO
