/-! text: the words are spelled in every state of the law's -/
def zspJ (V : Nat → Int) : Nat → List (List Int) → Bool
  | f, [] => Nat.beq f 91
  | f, ws :: l => Nat.ble (f + ws.length + 1) 91 && ((List.range ws.length).all (fun i => decide (V (f + i) = ws.getD i 0) && !decide (ws.getD i 0 = 32)) && (decide (V (f + ws.length) = 32) && zspJ V (f + ws.length + 1) l))
theorem zspJ_ok {W : Nat → Int32} {V : Nat → Int} (h : ∀ j, j < 91 → (W j).toInt = V j) : ∀ {l : List (List Int)} {f : Nat}, zspJ V f l = true → zspell W f l
  | [], f, hz => Nat.eq_of_beq_eq_true hz
  | ws :: l, f, hz => by
    unfold zspJ at hz
    simp only [Bool.and_eq_true, decide_eq_true_eq] at hz
    obtain ⟨h1, h2, h3, h4⟩ := hz
    have h1 : f + ws.length + 1 ≤ 91 := Nat.le_of_ble_eq_true h1
    refine ⟨by omega, fun i hi => ?_, ?_, zspJ_ok h h4⟩
    · have h5 := List.all_eq_true.mp h2 i (List.mem_range.mpr hi)
      simp only [Bool.and_eq_true, decide_eq_true_eq, Bool.not_eq_true', decide_eq_false_iff_not] at h5
      exact ⟨by rw [h _ (by omega)]; exact h5.1, h5.2⟩
    · rw [h _ (by omega)]
      exact h3
def zspC (C : PC) : Bool := C.any (fun q => Nat.beq q.1 13 && (match q.2 with
  | .inr (.inl (t, n, _, rs, _)) => Nat.beq t 0 && (Nat.beq n 91 && (Nat.beq rs.length 91 && (rs.all (fun r => decide (r.1 = r.2)) && zspJ (fun j => (rs.getD j (0, 0)).1) 0 zWds)))
  | _ => false))
theorem zspC_ok {η : List Nat} {ρ : List Int} {hp : List zhE} {C : PC} (hcl : zcl2 η ρ C hp) (hz : zspC C = true) : zspell (zSof (zee η zxM) hp 2) 0 zWds := by
  obtain ⟨q, h1, h2⟩ := List.any_eq_true.mp hz
  rw [Bool.and_eq_true] at h2
  obtain ⟨y, h, g1, g2, g3⟩ := hcl q h1
  have e1 := Nat.eq_of_beq_eq_true h2.1
  obtain ⟨q1, q2⟩ := q
  simp only at e1 h2 g1 g3
  subst e1
  have e2 : zee η zxM 2 = y := by
    show η.getD 13 0 = y
    rw [List.getD_eq_getElem?_getD, g1]
    rfl
  have h3 := h2.2
  split at h3
  · rename_i t n p rs es
    obtain ⟨f, rfl, v2, v3⟩ := g3
    simp only [Bool.and_eq_true] at h3
    obtain ⟨k1, k2, k3, k4, k5⟩ := h3
    have e3 := Nat.eq_of_beq_eq_true k1
    have e4 := Nat.eq_of_beq_eq_true k2
    have e5 := Nat.eq_of_beq_eq_true k3
    subst e3
    subst e4
    obtain ⟨g, rfl⟩ : ∃ g, f = .inl g := v2
    have e6 : zSof (zee η zxM) hp 2 = g := by
      funext b
      unfold zSof
      rw [e2, g2]
    rw [e6]
    refine zspJ_ok (fun j hj => ?_) k5
    have hlt : j < rs.length := by omega
    have hp91 : p = 91 := by rw [← v3.1, e5]
    have h6 := v3.2.2.1 j hj rs[j] (by rw [hp91, Nat.mod_eq_of_lt hj]; exact List.getElem?_eq_getElem hlt)
    have h7 := of_decide_eq_true (List.all_eq_true.mp k4 rs[j] (List.getElem_mem hlt))
    have h8 : (rs.getD j (0, 0)).1 = rs[j].1 := by
      rw [List.getD_eq_getElem?_getD, List.getElem?_eq_getElem hlt]
      rfl
    show (g j).toInt = _
    rw [h8]
    have h9 : rs[j].1 ≤ (g j).toInt ∧ (g j).toInt ≤ rs[j].2 := h6
    omega
  · cases h3
theorem zspC_V : zspC zlPVA.2.2.1 = true ∧ zspC zlPVB.2.2.1 = true ∧ zspC zlPVC.2.2.1 = true ∧ zspC zlP23.2.2.1 = true := by decide +kernel
theorem zkM_V : zokD zxM [] zlPVA.2.2.1 zDM 0 = true ∧ zokD zxM [] zlPVB.2.2.1 zDM 0 = true ∧ zokD zxM [] zlPVC.2.2.1 zDM 0 = true := by decide +kernel
theorem zfM_V : zflN zlPVA.2.2.1 1 1 (0, [(1, 1)]) = true ∧ zflN zlPVB.2.2.1 1 1 (0, [(1, 1)]) = true ∧ zflN zlPVC.2.2.1 1 1 (0, [(1, 1)]) = true := by decide +kernel
theorem zpm_M : ∀ i, i < 35 → zlpm.getD (zxM.getD i 0) 0 = zxM.getD i 0 := by decide
