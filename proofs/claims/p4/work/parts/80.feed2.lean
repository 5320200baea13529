/-! feed: both tapes take the same bytes -/
section ZFD2
variable {lk : ZLP} {Lx : Nat} {xs : Nat → Int32} {η : List Nat} {ρ : List Int} {L : zL} {st : List Value} {hp hp1 : List zhE} {n1 n2 n3 n4 n5 : Int32}
theorem zeM (hη : η.length = 208) (hinj : zinj η hp) : zeI (zee η zxM) hp 18 := zee_I hinj (fun i hi => by rw [hη]; exact zxM_lt i hi) (fun i j hi hj => zxM_nd i hi j hj)
theorem zeF (hη : η.length = 208) (hinj : zinj η hp) : zeI (zee η zxF) hp 2 := zee_I hinj (fun i hi => by rw [hη]; exact zxF_lt i hi) (fun i j hi hj => zxF_nd i hi j hj)
theorem zMself {C : PC} (hcl : zcl2 η ρ C hp) (hz : zokD zxM [] C zDM 0 = true) : zHS (zee η zxM) zDM (zSof (zee η zxM) hp) hp = hp := zSof_self (fun j d hj => by
  have := zokD_ok hcl hz j d hj List.not_mem_nil
  rwa [Nat.zero_add] at this)
theorem zFself {C : PC} (hcl : zcl2 η ρ C hp) (hz : zokD zxF [] C zDF 0 = true) : zHS (zee η zxF) zDF (zSof (zee η zxF) hp) hp = hp := zSof_self (fun j d hj => by
  have := zokD_ok hcl hz j d hj List.not_mem_nil
  rwa [Nat.zero_add] at this)
/-- a cell that isn't among those written -/
theorem zkeep {W : List Nat} {m : Nat} (hη : η.length = 208) (hinj : zinj η hp) (hm : m < 208) (hW : m ∉ W) (hk : ∀ i, i < hp.length → (∀ w ∈ W, η[w]? ≠ some i) → hp1[i]? = hp[i]?) : hp1[η.getD m 0]? = hp[η.getD m 0]? := by
  have h1 : η[m]? = some (η.getD m 0) := by
    rw [List.getD_eq_getElem?_getD, List.getElem?_eq_getElem (by omega)]
    rfl
  refine hk _ (hinj.2 _ _ h1) (fun w hw h2 => ?_)
  have := hinj.1 _ _ _ h2 h1
  exact hW (this ▸ hw)
theorem zW_no : 12 ∉ zlW1 ∧ 3 ∉ zlW2 ∧ 3 ∉ zlW ∧ 12 ∉ zlW := by decide
/-- what the class's feed does -/
theorem zfeed1 (hη : η.length = 208) (hinj : zinj η hp) {t : Nat} (ht : t ≤ 600) (hcl : zcl2 η ρ zlPF0.2.2.1 hp) (hr : ρ[1]? = some (t : Int)) {C1 : Nat → Nat → Int32} (hC1 : C1 = zSof (zee η zxF) hp) {n : Nat} : zPn Lx xs n 119 (0, lv_args 0 [.ref (zee η zxF 0), .int n1, .int n2, .int n3, .int n4, .int n5], [], hp, 0, 0) (fun rv hp1 => ∃ C', zSof (zee η zxC) hp1 5 = C' ∧ ((580 < t ∧ C' = C1 1) ∨ (t ≤ 580 ∧ (∀ q, q < t → C' q = C1 1 q) ∧ ∀ k : Nat, k < 20 → C' (t + k) &&& Int32.ofInt 255 = zfd n1 n2 n3 n4 n5 k))) := by
  have he := zeF hη hinj
  have hs := zFself hcl zkF_F0
  have h1 := zflN_ok (idx := zxF) (j := 0) hcl zfF_F0 rfl
  have e1 : (zSof (zee η zxF) hp 0 1).toInt = (t : Int) := zxr_fun h1 (zxr_s hr)
  have e2 : zSof (zee η zxF) hp 0 1 = Int32.ofInt (t : Int) := by
    apply Int32.toInt_inj.1
    rw [e1, zof_ix (by omega)]
  have hf := zc_feed (Lx := Lx) (xs := xs) (n := n) (hp := hp) (a := n1) (b := n2) (c := n3) (d := n4) (f := n5) (e := zee η zxF) he e2 ht
  rw [hs] at hf
  intro rv hp1 hE
  obtain ⟨C', h2, h3⟩ := hf rv hp1 hE
  have e3 : zSof (zee η zxC) hp1 5 = C' 1 := by
    rw [h2]
    exact (zSof_e (e := zee η zxC) (e' := zee η zxF) (j := 5) (j' := 1) rfl).trans (zSof_HA (t := 2) (m := 600) he rfl)
  refine ⟨C' 1, e3, ?_⟩
  subst hC1
  rcases h3 with ⟨a1, -, a2⟩ | ⟨a1, -, -, -, a2, a3⟩
  · exact Or.inl ⟨a1, by rw [a2]⟩
  · exact Or.inr ⟨a1, a2, a3⟩
/-- what the model's feed does -/
theorem zfeed2 (hη : η.length = 208) (hinj : zinj η hp) {t : Nat} (ht : t ≤ 600) {C : PC} (hcl : zcl2 η ρ C hp) (hz : zokD zxM [] C zDM 0 = true) (hz1 : zflN C 1 1 (0, [(1, 1)]) = true) (hr : ρ[1]? = some (t : Int)) {n : Nat} : zPn Lx xs n 159 (0, lv_args 0 [.ref (zee η zxM 0), .int n1, .int n2, .int n3, .int n4, .int n5], [], hp, 0, 0) (fun rv hp1 => (580 < t ∧ zSof (zee η zxM) hp1 0 1 = Int32.ofInt (t : Int) ∧ zSof (zee η zxM) hp1 1 = zSof (zee η zxM) hp 1) ∨ (t ≤ 580 ∧ zSof (zee η zxM) hp1 0 1 = Int32.ofInt ((t + 20 : Nat) : Int) ∧ (∀ q, q < t → zSof (zee η zxM) hp1 1 q = zSof (zee η zxM) hp 1 q) ∧ ∀ k : Nat, k < 20 → zSof (zee η zxM) hp1 1 (t + k) = zfd n1 n2 n3 n4 n5 k)) := by
  have he := zeM hη hinj
  have hs := zMself hcl hz
  have h1 := zflN_ok (idx := zxM) (j := 0) hcl hz1 rfl
  have e1 : (zSof (zee η zxM) hp 0 1).toInt = (t : Int) := zxr_fun h1 (zxr_s hr)
  have e2 : zSof (zee η zxM) hp 0 1 = Int32.ofInt (t : Int) := by
    apply Int32.toInt_inj.1
    rw [e1, zof_ix (by omega)]
  have hf := zt_feed (Lx := Lx) (xs := xs) (n := n) (hp := hp) (a := n1) (b := n2) (c := n3) (d := n4) (f := n5) (e := zee η zxM) he e2 ht
  rw [hs] at hf
  intro rv hp1 hE
  obtain ⟨S', h2, -, h3⟩ := hf rv hp1 hE
  have e3 : zSof (zee η zxM) hp1 1 = S' 1 := by
    rw [h2]
    exact zSof_HA (t := 0) (m := 600) he rfl
  have e4 : zSof (zee η zxM) hp1 0 1 = S' 0 1 := by
    rw [h2]
    exact zSof_HO (ci := 12) (m := 71) (tab := zMtab) he rfl (by decide) rfl
  rw [e3, e4]
  rcases h3 with ⟨a1, -, a2, a3⟩ | ⟨a1, -, a2, a3, a4⟩
  · exact Or.inl ⟨a1, a2.trans e2, a3⟩
  · exact Or.inr ⟨a1, a2, a3, a4⟩
/-- the tapes agree behind both -/
theorem zfeedT {A B C1 S1 : Nat → Int32} {t : Nat} {v : Int32} (hT : ∀ q : Nat, (q : Int) < (t : Int) → C1 q &&& Int32.ofInt 255 = S1 q) (ht : t ≤ 600) (h1 : (580 < t ∧ A = C1) ∨ (t ≤ 580 ∧ (∀ q, q < t → A q = C1 q) ∧ ∀ k : Nat, k < 20 → A (t + k) &&& Int32.ofInt 255 = zfd n1 n2 n3 n4 n5 k)) (h2 : (580 < t ∧ v = Int32.ofInt (t : Int) ∧ B = S1) ∨ (t ≤ 580 ∧ v = Int32.ofInt ((t + 20 : Nat) : Int) ∧ (∀ q, q < t → B q = S1 q) ∧ ∀ k : Nat, k < 20 → B (t + k) = zfd n1 n2 n3 n4 n5 k)) : ∀ q : Nat, (q : Int) < v.toInt → A q &&& Int32.ofInt 255 = B q := by
  intro q hq
  rcases h1 with ⟨a1, a2⟩ | ⟨a1, a2, a3⟩
  · rcases h2 with ⟨b1, b2, b3⟩ | ⟨b1, -⟩
    · rw [b2, zof_ix (by omega)] at hq
      rw [a2, b3]
      exact hT q hq
    · omega
  · rcases h2 with ⟨b1, -⟩ | ⟨b1, b2, b3, b4⟩
    · omega
    · rw [b2, zof_ix (by omega)] at hq
      by_cases c : q < t
      · rw [a2 q c, b3 q c]
        exact hT q (by omega)
      · obtain ⟨k, rfl⟩ : ∃ k, q = t + k := ⟨q - t, by omega⟩
        rw [a3 k (by omega), b4 k (by omega)]
end ZFD2
