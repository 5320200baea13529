/-! text: D's cells in C's order -/
/-- D's cells in C's order -/
def zpm (m : Nat) : Nat := zlpm.getD m 0
def zpi (m : Nat) : Nat := zlpi.getD m 0
theorem zpm_lt : ∀ m, m < 208 → zpm m < 208 ∧ zpi (zpm m) = m ∧ zpi m < 208 ∧ zpm (zpi m) = m := by decide +kernel
theorem zlVD_C : zlPVD.2.2.1.map (fun q => (zpi q.1, zreC zpi id q.2)) = zlPVC.2.2.1 := zeqP_ok (by decide +kernel)
theorem zlVD_ok : zlPVD.2.2.1.all (fun q => Nat.ble (q.1 + 1) 208 && zokC 208 q.2) = true := by decide +kernel
theorem zlVD_L : zlPVD.1.map (fun q => (q.1, zreV zpi id q.2)) = zlPVC.1 := by decide +kernel
theorem zlVD_okL : zlPVD.1.all (fun q => zokV 208 q.2) = true := by decide +kernel
theorem zlVD_E : zlPVD.2.2.2.1 = zlPVC.2.2.2.1 := by decide +kernel
theorem zlVD_F : zlPVD.2.2.2.2.1 = zlPVC.2.2.2.2.1 := by decide +kernel
theorem zlVD_O : zlPVC.2.2.2.2.2.all (fun o => zlPVD.2.2.2.2.2.any (fun o0 => Nat.beq (o0 / 1000) (o / 1000) && (Nat.beq (zpi (o0 % 1000)) (o % 1000) && Nat.ble (o0 % 1000 + 1) 208))) = true := by decide +kernel
set_option maxRecDepth 100000 in
theorem zVDC {η : List Nat} {ρ : List Int} {L : zL} {st : List Value} {hp : List zhE} (hη : η.length = 208) (hinj : zinj η hp) (h : zptS η ρ zlPVD L st hp) : ∃ η2, η2.length = 208 ∧ zinj η2 hp ∧ zptS η2 ρ zlPVC L st hp ∧ ∀ m, m < 208 → η2.getD m 0 = η.getD (zpm m) 0 := by
  have hget : ∀ m, m < 208 → ((List.range 208).map (fun m => η.getD (zpm m) 0))[m]? = η[zpm m]? := fun m hm => by
    have h1 := (zpm_lt m hm).1
    rw [List.getElem?_map, List.getElem?_range hm]
    show some (η.getD (zpm m) 0) = _
    rw [List.getD_eq_getElem?_getD, List.getElem?_eq_getElem (by omega)]
    rfl
  have hlen : ((List.range 208).map (fun m => η.getD (zpm m) 0)).length = 208 := by simp
  have hf : ∀ (m x : Nat), m < 208 → η[m]? = some x → ((List.range 208).map (fun m => η.getD (zpm m) 0))[zpi m]? = some x := fun m x hm hx => by
    obtain ⟨-, -, a3, a4⟩ := zpm_lt m hm
    rw [hget _ a3, a4]
    exact hx
  have hfx : ∀ (s : Nat) (x : Int), ρ[s]? = some x → ρ[id s]? = some x := fun s x hx => hx
  obtain ⟨p1, p2, p3, p4, p5, p6⟩ := h
  have p2' : zaS ((List.range 208).map (fun m => η.getD (zpm m) 0)) ρ zlPVC.2.1 st := by
    obtain ⟨v, rfl, hv⟩ := zstk1 p2
    exact ⟨hv, trivial⟩
  refine ⟨_, hlen, ⟨fun i j x hi hj => ?_, fun i x hi => ?_⟩, ⟨?_, p2', ?_, ?_, ?_, ?_⟩, fun m hm => ?_⟩
  · have i1 : i < 208 := by rw [← hlen]; exact (List.getElem?_eq_some_iff.mp hi).1
    have j1 : j < 208 := by rw [← hlen]; exact (List.getElem?_eq_some_iff.mp hj).1
    rw [hget i i1] at hi
    rw [hget j j1] at hj
    have e := hinj.1 _ _ x hi hj
    rw [← (zpm_lt i i1).2.1, ← (zpm_lt j j1).2.1, e]
  · have i1 : i < 208 := by rw [← hlen]; exact (List.getElem?_eq_some_iff.mp hi).1
    rw [hget i i1] at hi
    exact hinj.2 _ x hi
  · rw [← zlVD_L]
    exact zreL_ok hf hfx zlVD_okL p1
  · rw [← zlVD_C]
    exact zreCl_ok hf hfx zlVD_ok p3
  · rw [← zlVD_E]
    exact p4
  · rw [← zlVD_F]
    exact p5
  · exact zreO_ok hf zlVD_O p6
  · have h1 := hget m hm
    rw [List.getD_eq_getElem?_getD, h1, ← List.getD_eq_getElem?_getD]

