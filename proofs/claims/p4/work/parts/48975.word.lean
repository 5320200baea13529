/-! a word of the language, found among the words -/
section ZTK6
variable {Lx : Nat} {xs : Nat → Int32} {hp : List zhE} {e : Nat → Nat} {S : Nat → Nat → Int32} {Q : ZP} {a b f N : Nat} {kk : Int32} {u5 u6 u7 : Value}
theorem zt_w1A (he : zeI e hp zDM.length) (n : Nat) (hf : f + N < 1000) (h32 : ∀ i, i < N → (S 2 (f + i)).toInt ≠ 32) (hN : (S 2 (f + N)).toInt = 32) {c s : Nat} (hn : zPn Lx xs n 164 (39, [(5, .int (Int32.ofInt (N : Int))), (4, .int (Int32.ofInt (f : Int))), (3, .int kk), (0, .ref (e 0)), (1, .int (Int32.ofInt (a : Int))), (2, .int (Int32.ofInt (b : Int)))], [], zHS e zDM S hp, c, s) Q) : ∀ (d i : Nat), i + d = N → zPn Lx xs n 164 (18, [(5, .int (Int32.ofInt (i : Int))), (4, .int (Int32.ofInt (f : Int))), (3, .int kk), (0, .ref (e 0)), (1, .int (Int32.ofInt (a : Int))), (2, .int (Int32.ofInt (b : Int)))], [], zHS e zDM S hp, c, s) Q := by
  intro d
  induction d with
  | zero =>
    intro i hi
    have hi : i = N := by omega
    subst hi
    have en : (Int32.ofInt (f : Int) + Int32.ofInt (i : Int)).toNatClampNeg = f + i := by rw [zof_add]; exact zof_cl (by omega)
    refine zp0 (by rfl) rfl rfl ?_
    refine zy_ref (r := 2) he (by rfl) (by rfl) (by rfl) (by rfl) ?_
    iterate 3 refine zp0 (by rfl) rfl rfl ?_
    refine zy_ald he (by rfl) (by rfl) (fun u1 w1 => ?_)
    refine zq_bip (by rfl) (by decide) ?_
    refine zy_icmpC (by rfl) (by rfl) ⟨by decide, by decide⟩ (fun h2 => ?_) (fun h2 => ?_)
    · exact hn
    · exfalso
      simp only [zcf, en] at h2
      omega
  | succ d ih =>
    intro i hi
    have en : (Int32.ofInt (f : Int) + Int32.ofInt (i : Int)).toNatClampNeg = f + i := by rw [zof_add]; exact zof_cl (by omega)
    have h3 := h32 i (by omega)
    have h4 := ih (i + 1) (by omega)
    rw [← zof_up] at h4
    refine zp0 (by rfl) rfl rfl ?_
    refine zy_ref (r := 2) he (by rfl) (by rfl) (by rfl) (by rfl) ?_
    iterate 3 refine zp0 (by rfl) rfl rfl ?_
    refine zy_ald he (by rfl) (by rfl) (fun u1 w1 => ?_)
    refine zq_bip (by rfl) (by decide) ?_
    refine zy_icmpC (by rfl) (by rfl) ⟨by decide, by decide⟩ (fun h2 => ?_) (fun h2 => ?_)
    · exfalso
      simp only [zcf, en] at h2
      omega
    · iterate 2 refine zp0 (by rfl) rfl rfl ?_
      exact h4
theorem zt_w2A (he : zeI e hp zDM.length) (n : Nat) (hf : f + N < 1000) (ha : a + N < 1000) {c s : Nat} : ∀ (d j : Nat) (t : Bool), j + d = N → (∀ (j2 : Nat) (t2 : Bool), (t2 = true ↔ t = true ∧ ∀ i, j ≤ i → i < N → (S 2 (f + i)).toInt = (S 1 (a + i)).toInt) → zPn Lx xs n 164 (104, [(7, .int (Int32.ofInt (j2 : Int))), (6, .int (cond t2 (Int32.ofInt 1) (Int32.ofInt 0))), (5, .int (Int32.ofInt (N : Int))), (4, .int (Int32.ofInt (f : Int))), (3, .int kk), (0, .ref (e 0)), (1, .int (Int32.ofInt (a : Int))), (2, .int (Int32.ofInt (b : Int)))], [], zHS e zDM S hp, c, s) Q) → zPn Lx xs n 164 (57, [(7, .int (Int32.ofInt (j : Int))), (6, .int (cond t (Int32.ofInt 1) (Int32.ofInt 0))), (5, .int (Int32.ofInt (N : Int))), (4, .int (Int32.ofInt (f : Int))), (3, .int kk), (0, .ref (e 0)), (1, .int (Int32.ofInt (a : Int))), (2, .int (Int32.ofInt (b : Int)))], [], zHS e zDM S hp, c, s) Q := by
  intro d
  induction d with
  | zero =>
    intro j t hj hn
    have hj : j = N := by omega
    subst hj
    have h9 := hn j t (by constructor
                          · intro h
                            exact ⟨h, fun i h1 h2 => by omega⟩
                          · intro h
                            exact h.1)
    iterate 2 refine zp0 (by rfl) rfl rfl ?_
    refine zy_icmp (by rfl) (by rfl) (fun h1 => ?_) (fun h1 => ?_)
    · exact h9
    · exfalso
      simp only [zcf] at h1
      omega
  | succ d ih =>
    intro j t hj hn
    have ej : (Int32.ofInt (j : Int)).toInt = j := zof_ix (by omega)
    have eN : (Int32.ofInt (N : Int)).toInt = N := zof_ix (by omega)
    have en : (Int32.ofInt (f : Int) + Int32.ofInt (j : Int)).toNatClampNeg = f + j := by rw [zof_add]; exact zof_cl (by omega)
    have em : (Int32.ofInt (a : Int) + Int32.ofInt (j : Int)).toNatClampNeg = a + j := by rw [zof_add]; exact zof_cl (by omega)
    cases t with
    | false =>
      have h9 := hn j false (by constructor
                                · intro h
                                  cases h
                                · intro h
                                  cases h.1)
      iterate 2 refine zp0 (by rfl) rfl rfl ?_
      refine zy_icmp (by rfl) (by rfl) (fun h1 => ?_) (fun h1 => ?_)
      · exfalso
        simp only [zcf, ej, eN] at h1
        omega
      · refine zp0 (by rfl) rfl rfl ?_
        refine zy_if (by rfl) (by rfl) (fun h2 => ?_) (fun h2 => ?_)
        · exact h9
        · exact absurd (show (Int32.ofInt 0).toInt = 0 from z0i) h2
    | true =>
      have hup : ∀ t3 : Bool, (t3 = true ↔ (S 2 (f + j)).toInt = (S 1 (a + j)).toInt) → ∀ (j2 : Nat) (t2 : Bool), (t2 = true ↔ t3 = true ∧ ∀ i, j + 1 ≤ i → i < N → (S 2 (f + i)).toInt = (S 1 (a + i)).toInt) → (t2 = true ↔ true = true ∧ ∀ i, j ≤ i → i < N → (S 2 (f + i)).toInt = (S 1 (a + i)).toInt) := by
        intro t3 h3 j2 t2 h2
        rw [h2, h3]
        constructor
        · intro h
          refine ⟨rfl, fun i h4 h5 => ?_⟩
          by_cases hi : i = j
          · subst hi
            exact h.1
          · exact h.2 i (by omega) h5
        · intro h
          exact ⟨h.2 j (Nat.le_refl j) (by omega), fun i h4 h5 => h.2 i (by omega) h5⟩
      have hT := fun (h : (S 2 (f + j)).toInt = (S 1 (a + j)).toInt) => ih (j + 1) true (by omega) (fun j2 t2 h2 => hn j2 t2 (hup true ⟨fun _ => h, fun _ => rfl⟩ j2 t2 h2))
      have hF := fun (h : ¬ (S 2 (f + j)).toInt = (S 1 (a + j)).toInt) => ih (j + 1) false (by omega) (fun j2 t2 h2 => hn j2 t2 (hup false ⟨fun q => (by cases q), fun q => absurd q h⟩ j2 t2 h2))
      rw [← zof_up] at hT hF
      iterate 2 refine zp0 (by rfl) rfl rfl ?_
      refine zy_icmp (by rfl) (by rfl) (fun h1 => ?_) (fun h1 => ?_)
      · exfalso
        simp only [zcf, ej, eN] at h1
        omega
      · refine zp0 (by rfl) rfl rfl ?_
        refine zy_if (by rfl) (by rfl) (fun h2 => ?_) (fun h2 => ?_)
        · exact absurd (show (Int32.ofInt 1).toInt = 0 from h2) (by rw [z1i]; decide)
        · refine zp0 (by rfl) rfl rfl ?_
          refine zy_ref (r := 2) he (by rfl) (by rfl) (by rfl) (by rfl) ?_
          iterate 3 refine zp0 (by rfl) rfl rfl ?_
          refine zy_ald he (by rfl) (by rfl) (fun u3 w3 => ?_)
          refine zp0 (by rfl) rfl rfl ?_
          refine zy_ref (r := 1) he (by rfl) (by rfl) (by rfl) (by rfl) ?_
          iterate 3 refine zp0 (by rfl) rfl rfl ?_
          refine zy_ald he (by rfl) (by rfl) (fun u4 w4 => ?_)
          refine zy_icmp (by rfl) (by rfl) (fun h5 => ?_) (fun h5 => ?_)
          · iterate 4 refine zp0 (by rfl) rfl rfl ?_
            simp only [zcf, en, em] at h5
            exact hF h5
          · iterate 5 refine zp0 (by rfl) rfl rfl ?_
            simp only [zcf, en, em, ne_eq, Classical.not_not] at h5
            exact hT h5
theorem zt_w1B (he : zeI e hp zDM.length) (n : Nat) (hf : f + N < 1000) (h32 : ∀ i, i < N → (S 2 (f + i)).toInt ≠ 32) (hN : (S 2 (f + N)).toInt = 32) {c s : Nat} (hn : zPn Lx xs n 164 (39, [(5, .int (Int32.ofInt (N : Int))), (3, .int kk), (4, .int (Int32.ofInt (f : Int))), (7, u7), (6, u6), (0, .ref (e 0)), (1, .int (Int32.ofInt (a : Int))), (2, .int (Int32.ofInt (b : Int)))], [], zHS e zDM S hp, c, s) Q) : ∀ (d i : Nat), i + d = N → zPn Lx xs n 164 (18, [(5, .int (Int32.ofInt (i : Int))), (3, .int kk), (4, .int (Int32.ofInt (f : Int))), (7, u7), (6, u6), (0, .ref (e 0)), (1, .int (Int32.ofInt (a : Int))), (2, .int (Int32.ofInt (b : Int)))], [], zHS e zDM S hp, c, s) Q := by
  intro d
  induction d with
  | zero =>
    intro i hi
    have hi : i = N := by omega
    subst hi
    have en : (Int32.ofInt (f : Int) + Int32.ofInt (i : Int)).toNatClampNeg = f + i := by rw [zof_add]; exact zof_cl (by omega)
    refine zp0 (by rfl) rfl rfl ?_
    refine zy_ref (r := 2) he (by rfl) (by rfl) (by rfl) (by rfl) ?_
    iterate 3 refine zp0 (by rfl) rfl rfl ?_
    refine zy_ald he (by rfl) (by rfl) (fun u1 w1 => ?_)
    refine zq_bip (by rfl) (by decide) ?_
    refine zy_icmpC (by rfl) (by rfl) ⟨by decide, by decide⟩ (fun h2 => ?_) (fun h2 => ?_)
    · exact hn
    · exfalso
      simp only [zcf, en] at h2
      omega
  | succ d ih =>
    intro i hi
    have en : (Int32.ofInt (f : Int) + Int32.ofInt (i : Int)).toNatClampNeg = f + i := by rw [zof_add]; exact zof_cl (by omega)
    have h3 := h32 i (by omega)
    have h4 := ih (i + 1) (by omega)
    rw [← zof_up] at h4
    refine zp0 (by rfl) rfl rfl ?_
    refine zy_ref (r := 2) he (by rfl) (by rfl) (by rfl) (by rfl) ?_
    iterate 3 refine zp0 (by rfl) rfl rfl ?_
    refine zy_ald he (by rfl) (by rfl) (fun u1 w1 => ?_)
    refine zq_bip (by rfl) (by decide) ?_
    refine zy_icmpC (by rfl) (by rfl) ⟨by decide, by decide⟩ (fun h2 => ?_) (fun h2 => ?_)
    · exfalso
      simp only [zcf, en] at h2
      omega
    · iterate 2 refine zp0 (by rfl) rfl rfl ?_
      exact h4
theorem zt_w2B (he : zeI e hp zDM.length) (n : Nat) (hf : f + N < 1000) (ha : a + N < 1000) {c s : Nat} : ∀ (d j : Nat) (t : Bool), j + d = N → (∀ (j2 : Nat) (t2 : Bool), (t2 = true ↔ t = true ∧ ∀ i, j ≤ i → i < N → (S 2 (f + i)).toInt = (S 1 (a + i)).toInt) → zPn Lx xs n 164 (104, [(7, .int (Int32.ofInt (j2 : Int))), (6, .int (cond t2 (Int32.ofInt 1) (Int32.ofInt 0))), (5, .int (Int32.ofInt (N : Int))), (3, .int kk), (4, .int (Int32.ofInt (f : Int))), (0, .ref (e 0)), (1, .int (Int32.ofInt (a : Int))), (2, .int (Int32.ofInt (b : Int)))], [], zHS e zDM S hp, c, s) Q) → zPn Lx xs n 164 (57, [(7, .int (Int32.ofInt (j : Int))), (6, .int (cond t (Int32.ofInt 1) (Int32.ofInt 0))), (5, .int (Int32.ofInt (N : Int))), (3, .int kk), (4, .int (Int32.ofInt (f : Int))), (0, .ref (e 0)), (1, .int (Int32.ofInt (a : Int))), (2, .int (Int32.ofInt (b : Int)))], [], zHS e zDM S hp, c, s) Q := by
  intro d
  induction d with
  | zero =>
    intro j t hj hn
    have hj : j = N := by omega
    subst hj
    have h9 := hn j t (by constructor
                          · intro h
                            exact ⟨h, fun i h1 h2 => by omega⟩
                          · intro h
                            exact h.1)
    iterate 2 refine zp0 (by rfl) rfl rfl ?_
    refine zy_icmp (by rfl) (by rfl) (fun h1 => ?_) (fun h1 => ?_)
    · exact h9
    · exfalso
      simp only [zcf] at h1
      omega
  | succ d ih =>
    intro j t hj hn
    have ej : (Int32.ofInt (j : Int)).toInt = j := zof_ix (by omega)
    have eN : (Int32.ofInt (N : Int)).toInt = N := zof_ix (by omega)
    have en : (Int32.ofInt (f : Int) + Int32.ofInt (j : Int)).toNatClampNeg = f + j := by rw [zof_add]; exact zof_cl (by omega)
    have em : (Int32.ofInt (a : Int) + Int32.ofInt (j : Int)).toNatClampNeg = a + j := by rw [zof_add]; exact zof_cl (by omega)
    cases t with
    | false =>
      have h9 := hn j false (by constructor
                                · intro h
                                  cases h
                                · intro h
                                  cases h.1)
      iterate 2 refine zp0 (by rfl) rfl rfl ?_
      refine zy_icmp (by rfl) (by rfl) (fun h1 => ?_) (fun h1 => ?_)
      · exfalso
        simp only [zcf, ej, eN] at h1
        omega
      · refine zp0 (by rfl) rfl rfl ?_
        refine zy_if (by rfl) (by rfl) (fun h2 => ?_) (fun h2 => ?_)
        · exact h9
        · exact absurd (show (Int32.ofInt 0).toInt = 0 from z0i) h2
    | true =>
      have hup : ∀ t3 : Bool, (t3 = true ↔ (S 2 (f + j)).toInt = (S 1 (a + j)).toInt) → ∀ (j2 : Nat) (t2 : Bool), (t2 = true ↔ t3 = true ∧ ∀ i, j + 1 ≤ i → i < N → (S 2 (f + i)).toInt = (S 1 (a + i)).toInt) → (t2 = true ↔ true = true ∧ ∀ i, j ≤ i → i < N → (S 2 (f + i)).toInt = (S 1 (a + i)).toInt) := by
        intro t3 h3 j2 t2 h2
        rw [h2, h3]
        constructor
        · intro h
          refine ⟨rfl, fun i h4 h5 => ?_⟩
          by_cases hi : i = j
          · subst hi
            exact h.1
          · exact h.2 i (by omega) h5
        · intro h
          exact ⟨h.2 j (Nat.le_refl j) (by omega), fun i h4 h5 => h.2 i (by omega) h5⟩
      have hT := fun (h : (S 2 (f + j)).toInt = (S 1 (a + j)).toInt) => ih (j + 1) true (by omega) (fun j2 t2 h2 => hn j2 t2 (hup true ⟨fun _ => h, fun _ => rfl⟩ j2 t2 h2))
      have hF := fun (h : ¬ (S 2 (f + j)).toInt = (S 1 (a + j)).toInt) => ih (j + 1) false (by omega) (fun j2 t2 h2 => hn j2 t2 (hup false ⟨fun q => (by cases q), fun q => absurd q h⟩ j2 t2 h2))
      rw [← zof_up] at hT hF
      iterate 2 refine zp0 (by rfl) rfl rfl ?_
      refine zy_icmp (by rfl) (by rfl) (fun h1 => ?_) (fun h1 => ?_)
      · exfalso
        simp only [zcf, ej, eN] at h1
        omega
      · refine zp0 (by rfl) rfl rfl ?_
        refine zy_if (by rfl) (by rfl) (fun h2 => ?_) (fun h2 => ?_)
        · exact absurd (show (Int32.ofInt 1).toInt = 0 from h2) (by rw [z1i]; decide)
        · refine zp0 (by rfl) rfl rfl ?_
          refine zy_ref (r := 2) he (by rfl) (by rfl) (by rfl) (by rfl) ?_
          iterate 3 refine zp0 (by rfl) rfl rfl ?_
          refine zy_ald he (by rfl) (by rfl) (fun u3 w3 => ?_)
          refine zp0 (by rfl) rfl rfl ?_
          refine zy_ref (r := 1) he (by rfl) (by rfl) (by rfl) (by rfl) ?_
          iterate 3 refine zp0 (by rfl) rfl rfl ?_
          refine zy_ald he (by rfl) (by rfl) (fun u4 w4 => ?_)
          refine zy_icmp (by rfl) (by rfl) (fun h5 => ?_) (fun h5 => ?_)
          · iterate 4 refine zp0 (by rfl) rfl rfl ?_
            simp only [zcf, en, em] at h5
            exact hF h5
          · iterate 5 refine zp0 (by rfl) rfl rfl ?_
            simp only [zcf, en, em, ne_eq, Classical.not_not] at h5
            exact hT h5
end ZTK6
