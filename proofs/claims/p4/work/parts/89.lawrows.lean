/-! the law's own code -/
def zspb (m : zMe) (e : zPE) : Bool := decide (e.2.1 = .invokestatic 39) && (Nat.beq e.2.2.1 9999 && (Nat.beq e.2.2.2.1 4 && (zdk m.2.1 e.1 e.2.1 && decide (m.1.cls = "TinTowerLaw"))))
theorem zspb_ok {m : zMe} {e : zPE} (h : zspb m e = true) : zSp m e := by
  unfold zspb at h
  simp only [Bool.and_eq_true, decide_eq_true_eq] at h
  obtain ⟨h1, h2, h3, h4, h5⟩ := h
  have h6 := zdk_ok h4 (by rw [h1]; rfl)
  rw [h1] at h6
  exact ⟨h1, Nat.eq_of_beq_eq_true h2, Nat.eq_of_beq_eq_true h3, h6, h5⟩
def zchkL (m : zMe) : List zPE → List (List Nat) → Bool
  | [], _ => true
  | e :: es, q :: qs => (zspb m e || (zdk m.2.1 e.1 e.2.1 && (zsd m e.2.1 e.2.2.1 e.2.2.2.1 e.2.2.2.2 && zins (zwds m.1.cls e.2.1 e.2.2.1 e.2.2.2.1 e.2.2.2.2) q))) && zchkL m es qs
  | _, _ => false
theorem zchkL_ok (m : zMe) : ∀ (es : List zPE) (qs : List (List Nat)), zchkL m es qs = true → ∀ e ∈ es, zOK m e ∨ zSp m e
  | [], _, _, e, he => absurd he List.not_mem_nil
  | e :: es, [], h, _, _ => by simp [zchkL] at h
  | e :: es, q :: qs, h, z, hz => by
    unfold zchkL at h
    rw [Bool.and_eq_true, Bool.or_eq_true] at h
    rcases List.mem_cons.mp hz with rfl | hz
    · rcases h.1 with h1 | h1
      · exact Or.inr (zspb_ok h1)
      · simp only [Bool.and_eq_true] at h1
        exact Or.inl ⟨h1.1, h1.2.1, zins_ok _ _ h1.2.2⟩
    · exact zchkL_ok m es qs h.2 z hz
def zlw : Nat → List zPE
  | 0 => zp_276
  | n + 1 => (zlw n).drop 100
def zlv : Nat → List (List Nat)
  | 0 => zq_276
  | n + 1 => (zlv n).drop 100
set_option maxRecDepth 100000 in
theorem zlcc_0 : zchkL zmLaw ((zlw 0).take 100) ((zlv 0).take 100) = true := by decide +kernel
set_option maxRecDepth 100000 in
theorem zlcc_1 : zchkL zmLaw ((zlw 1).take 100) ((zlv 1).take 100) = true := by decide +kernel
set_option maxRecDepth 100000 in
theorem zlcc_2 : zchkL zmLaw ((zlw 2).take 100) ((zlv 2).take 100) = true := by decide +kernel
set_option maxRecDepth 100000 in
theorem zlcc_3 : zchkL zmLaw ((zlw 3).take 100) ((zlv 3).take 100) = true := by decide +kernel
set_option maxRecDepth 100000 in
theorem zlcc_4 : zchkL zmLaw ((zlw 4).take 100) ((zlv 4).take 100) = true := by decide +kernel
set_option maxRecDepth 100000 in
theorem zlcc_5 : zchkL zmLaw ((zlw 5).take 100) ((zlv 5).take 100) = true := by decide +kernel
set_option maxRecDepth 100000 in
theorem zlcc_6 : zchkL zmLaw ((zlw 6).take 100) ((zlv 6).take 100) = true := by decide +kernel
set_option maxRecDepth 100000 in
theorem zlcc_7 : zchkL zmLaw ((zlw 7).take 100) ((zlv 7).take 100) = true := by decide +kernel
theorem zlw_end : (zlw 8).isEmpty = true := by decide +kernel
theorem zlw_cut {n : Nat} {e : zPE} (h : e ∈ zlw n) : e ∈ (zlw n).take 100 ∨ e ∈ zlw (n + 1) := by
  have h2 : e ∈ (zlw n).take 100 ++ (zlw n).drop 100 := by rw [List.take_append_drop]; exact h
  exact List.mem_append.mp h2
theorem zLawOK : ∀ e ∈ zp_276, zOK zmLaw e ∨ zSp zmLaw e := by
  intro e h
  have h : e ∈ zlw 0 := h
  rcases zlw_cut h with h | h
  · exact zchkL_ok _ _ _ zlcc_0 e h
  rcases zlw_cut h with h | h
  · exact zchkL_ok _ _ _ zlcc_1 e h
  rcases zlw_cut h with h | h
  · exact zchkL_ok _ _ _ zlcc_2 e h
  rcases zlw_cut h with h | h
  · exact zchkL_ok _ _ _ zlcc_3 e h
  rcases zlw_cut h with h | h
  · exact zchkL_ok _ _ _ zlcc_4 e h
  rcases zlw_cut h with h | h
  · exact zchkL_ok _ _ _ zlcc_5 e h
  rcases zlw_cut h with h | h
  · exact zchkL_ok _ _ _ zlcc_6 e h
  rcases zlw_cut h with h | h
  · exact zchkL_ok _ _ _ zlcc_7 e h
  have h2 := zlw_end
  rw [List.isEmpty_iff] at h2
  rw [h2] at h
  exact absurd h List.not_mem_nil
theorem zMeLaw : zMeK 276 zmLaw := ⟨fun e he => by
  have he : e ∈ zp_276 := he
  rcases zLawOK e he with h | h
  · exact Or.inl h
  · exact Or.inr ⟨rfl, h⟩, rfl⟩
