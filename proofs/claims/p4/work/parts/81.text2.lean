/-! text: both answers -/
section ZTX2
variable {Lx : Nat} {xs : Nat → Int32} {η : List Nat} {ρ : List Int} {hp : List zhE} {C : PC}
theorem zintf {m b ci : Nat} {x : LX} {vs : List Value} (hcl : zcl2 η ρ C hp) (hz : zflN C m b x = true) (hh : hp[η.getD m 0]? = some (.inr (ci, vs))) : ∃ z : Int32, vs[b]? = some (.int z) ∧ zxr ρ x z.toInt := by
  obtain ⟨q, h1, h2⟩ := List.any_eq_true.mp hz
  rw [Bool.and_eq_true] at h2
  obtain ⟨y, h, g1, g2, g3⟩ := hcl q h1
  have e1 := Nat.eq_of_beq_eq_true h2.1
  obtain ⟨q1, q2⟩ := q
  simp only at e1 h2 g1 g3
  subst e1
  have e2 : η.getD q1 0 = y := by
    rw [List.getD_eq_getElem?_getD, g1]
    rfl
  rw [e2, g2] at hh
  have h3 := h2.2
  split at h3
  · obtain ⟨vs2, rfl, v2⟩ := g3
    cases hh
    split at h3
    · rename_i a ha
      obtain ⟨v, w1, w2⟩ := zAll_get v2 ha
      obtain ⟨t, e⟩ := a
      rw [Bool.and_eq_true, decide_eq_true_eq] at h3
      have e3 := Nat.eq_of_beq_eq_true h3.1
      simp only at e3
      subst e3
      obtain ⟨z, rfl, w3⟩ := w2
      exact ⟨z, w1, by rw [← h3.2]; exact w3⟩
    · cases h3
  · cases h3
theorem zget_ne {m k : Nat} (hη : η.length = 208) (hinj : zinj η hp) (hm : m < 208) (hk : k < 208) (h : m ≠ k) : η.getD m 0 ≠ η.getD k 0 := fun q => by
  have h1 : ∀ j, j < 208 → η[j]? = some (η.getD j 0) := fun j hj => by
    rw [List.getD_eq_getElem?_getD, List.getElem?_eq_getElem (by omega)]
    rfl
  have h2 := h1 k hk
  rw [← q] at h2
  exact h (hinj.1 _ _ _ (h1 m hm) h2)
theorem zkT_T : zflN zlPT.2.2.1 0 1 (0, [(1, 1)]) = true ∧ zflN zlPT.2.2.1 1 1 (0, [(1, 1)]) = true ∧ zlPT.2.2.1.any (fun q => Nat.beq q.1 0 && (match q.2 with
    | .inl (c, _) => Nat.beq c 11
    | _ => false)) = true ∧ zlPT.2.2.1.any (fun q => Nat.beq q.1 6 && (match q.2 with
    | .inl (c, _) => Nat.beq c 3
    | _ => false)) = true := by decide +kernel
/-- the run of a text that the model's reader stands for -/
def zRun (T : Nat → Int32) (nn r : Int32) (S' : Nat → Nat → Int32) : Prop := ∃ S1 j, zMd T nn.toNatClampNeg 0 S1 ∧ S1 0 15 = Int32.ofInt 0 ∧ S1 0 16 = Int32.ofInt 20 ∧ S1 0 4 = Int32.ofInt 0 ∧ S1 0 5 = Int32.ofInt (-1) ∧ S1 0 18 = Int32.ofInt 0 ∧ S1 0 19 = Int32.ofInt 0 ∧ zTxR T nn.toNatClampNeg j S1 0 r S'
theorem zSof_f {e : Nat → Nat} {hp : List zhE} {j b ci : Nat} {vs : List Value} {x : Int32} (h : hp[e j]? = some (.inr (ci, vs))) (hv : vs[b]? = some (.int x)) : zSof e hp j b = x := by
  unfold zSof
  rw [h]
  simp only [hv]
theorem ztxt1 (hη : η.length = 208) (hinj : zinj η hp) (hcl : zcl2 η ρ zlPT.2.2.1 hp) {t : Nat} (ht : t ≤ 600) (hr : ρ[1]? = some (t : Int)) (hT : zTA η hp) {nn : Int32} {n : Nat} : zPn Lx xs n 121 (0, lv_args 0 [.ref (η.getD 0 0), .int nn], [], hp, 0, 0) (fun rv hp1 => ∀ r S', (0 ≤ nn.toInt → nn.toInt ≤ (t : Int) → zRun (zSof (zee η zxM) hp 1) nn r S') → rv = some (.int (if nn.toInt < 0 ∨ (t : Int) < nn.toInt then Int32.ofInt (-2) else r)) ∧ ((nn.toInt < 0 ∨ (t : Int) < nn.toInt) → hp1 = hp) ∧ (0 ≤ nn.toInt → nn.toInt ≤ (t : Int) → zSof (zee η zxC) hp1 0 4 = S' 0 4 ∧ zSof (zee η zxC) hp1 0 5 = S' 0 5)) := by
  intro rv hp1 hE r S' hR
  obtain ⟨x1, x2, x3, x4, hself⟩ := zCself hcl zkC_T.1 zkC_T.2.1 zkC_T.2.2.1 zkC_T.2.2.2
  obtain ⟨fs, c0⟩ := zcobj hcl zkT_T.2.2.1
  obtain ⟨gs, hjn⟩ := zcobj hcl zkT_T.2.2.2
  obtain ⟨tp, f1, w1⟩ := zintf hcl zkT_T.1 c0
  have etp : tp.toInt = (t : Int) := zxr_fun w1 (zxr_s hr)
  have em : (zSof (zee η zxM) hp 0 1).toInt = (t : Int) := zxr_fun (zflN_ok (idx := zxM) (j := 0) hcl zkT_T.2.1 rfl) (zxr_s hr)
  have he : zeI (zee η zxC) hp 20 := zee_I hinj (fun i hi => by rw [hη]; exact zxC_lt i hi) (fun i j hi hj => zxC_nd i hi j hj)
  obtain ⟨k1, k2, k3, k4, k5, k6, k7⟩ := zkR_T
  obtain ⟨r', h1, h2⟩ := zc_text (Lx := Lx) (xs := xs) (n := n) (e := zee η zxC) (C := zSof (zee η zxC) hp) (T := zSof (zee η zxM) hp 1) (nn := nn) (r := r) (S' := S') c0 (zrfl_ok hcl k1 c0) f1 (zrfl_ok hcl k2 c0) (zrfl_ok hcl k3 c0) (zrfl_ok hcl k4 c0) (zrfl_ok hcl k5 c0) (zrfl_ok hcl k6 c0) hjn (zrfl_ok hcl k7 hjn) (fun i hi => zget_ne hη hinj (by decide) (zxC_lt i hi) (zxC_no i hi).1.symm) (fun i hi => zget_ne hη hinj (by decide) (zxC_lt i hi) (zxC_no i hi).2.symm) (zget_ne hη hinj (by decide) (by decide) (by decide)) he hself (by omega) (fun q hq => hT q (by rw [em]; omega)) (fun a b => hR a (by omega)) rv hp1 hE
  rw [h1]
  rcases h2 with ⟨a1, a2, a3⟩ | ⟨a1, a2, a3, -, gs', b4, b5, b6⟩
  · rw [if_pos (by omega), a2]
    exact ⟨rfl, fun _ => a3, fun b1 b2 => by omega⟩
  · rw [if_neg (by omega), a3]
    exact ⟨rfl, fun b1 => by omega, fun _ _ => ⟨zSof_f b4 b5, zSof_f b4 b6⟩⟩
theorem ztxt2 (hη : η.length = 208) (hinj : zinj η hp) (hcl : zcl2 η ρ C hp) (hz : zokD zxM [] C zDM 0 = true) (hz1 : zflN C 1 1 (0, [(1, 1)]) = true) (hs : zspell (zSof (zee η zxM) hp 2) 0 zWds) {t : Nat} (ht : t ≤ 600) (hr : ρ[1]? = some (t : Int)) {nn : Int32} {n : Nat} : zPn Lx xs n 182 (0, lv_args 0 [.ref (zee η zxM 0), .int nn], [], hp, 0, 0) (fun rv hp1 => ∃ r S2, (0 ≤ nn.toInt → nn.toInt ≤ (t : Int) → zRun (zSof (zee η zxM) hp 1) nn r S2) ∧ rv = some (.int (if nn.toInt < 0 ∨ (t : Int) < nn.toInt then Int32.ofInt (-2) else r)) ∧ (zSof (zee η zxM) hp1 0 1 = zSof (zee η zxM) hp 0 1 ∨ zSof (zee η zxM) hp1 0 1 = Int32.ofInt 0) ∧ ((nn.toInt < 0 ∨ (t : Int) < nn.toInt) → zSof (zee η zxM) hp1 0 4 = zSof (zee η zxM) hp 0 4 ∧ zSof (zee η zxM) hp1 0 5 = zSof (zee η zxM) hp 0 5) ∧ (0 ≤ nn.toInt → nn.toInt ≤ (t : Int) → zSof (zee η zxM) hp1 0 4 = S2 0 4 ∧ zSof (zee η zxM) hp1 0 5 = S2 0 5)) := by
  intro rv hp1 hE
  have e1 : (zSof (zee η zxM) hp 0 1).toInt = (t : Int) := zxr_fun (zflN_ok (idx := zxM) (j := 0) hcl hz1 rfl) (zxr_s hr)
  have hf := zt_text (Lx := Lx) (xs := xs) (k := n) (hp := hp) (e := zee η zxM) (zeM hη hinj) nn (by rw [e1]; omega) hs
  rw [zMself hcl hz] at hf
  obtain ⟨r, S', h1, hh, h2⟩ := hf rv hp1 hE
  have ef : ∀ b, b < 71 → zMtab.getD b 0 = 0 → zSof (zee η zxM) hp1 0 b = S' 0 b := fun b hb ht => by
    rw [hh]
    exact zSof_HO (ci := 12) (m := 71) (tab := zMtab) (zeM hη hinj) rfl hb ht
  have e4 := ef 1 (by decide) rfl
  have f4 := ef 4 (by decide) rfl
  have f5 := ef 5 (by decide) rfl
  rcases h2 with ⟨c, d, e⟩ | ⟨c, d, k1, k2, k3, S1, j, S2, m1, m2, m3, m4, m5, m6, m7, m8, m9⟩
  · rw [e1] at c
    refine ⟨r, S', fun a b => by omega, ?_, ?_, ?_, fun a b => by omega⟩
    · rw [h1, if_pos c, d]
    · rw [e4, e]
      exact Or.inl rfl
    · intro _
      rw [f4, f5, e]
      exact ⟨rfl, rfl⟩
  · rw [e1] at d
    refine ⟨r, S2, fun _ _ => ⟨S1, j, m1, m2, m3, m6, m7, m4, m5, m8⟩, ?_, ?_, fun b => by omega, ?_⟩
    · rw [h1, if_neg (by omega)]
    · rw [e4]
      exact Or.inr k3
    · intro _ _
      rw [f4, f5]
      rcases m9 with ⟨-, q⟩ | ⟨-, q⟩
      · rw [q]
        exact ⟨rfl, rfl⟩
      · exact ⟨q.2.2.2.2.2.2.2.2.2 4 (by decide) (by decide) (by decide) (by decide) (by decide) (by decide), q.2.2.2.2.2.2.2.2.2 5 (by decide) (by decide) (by decide) (by decide) (by decide) (by decide)⟩
end ZTX2
