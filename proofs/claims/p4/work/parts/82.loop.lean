/-! the law's loop of p3: its other turns, and all of them -/
section ZLO
variable {lk : ZLP} {Lx : Nat} {xs : Nat → Int32} {η : List Nat} {ρ : List Int} {L : zL} {st : List Value} {hp : List zhE} {i : Int} {ca sa : Nat} {Q : ZP}
set_option maxRecDepth 100000 in
/-- hands: by way of a place between its two calls -/
theorem z16 (hη : η.length = 208) (hinj : zinj η hp) (hpt : zptS η ρ zlPC L [] hp) (hT : zTA η hp) (h0 : ρ[0]? = some (Lx : Int)) (h1 : ρ[2]? = some i) (hLx : Lx ≤ 3072) (hca : ca ≤ (zrm 276).cells) (hsa : sa ≤ (zrm 276).slots)
    (IH : ∀ (i' : Int) (L' : zL) (hp' : List zhE), i < i' → zLI Lx L' hp' i' → zWP lk Lx xs 276 (23, L', [], hp', ca, sa) Q) : zWP lk Lx xs 276 (775, L, [], hp, ca, sa) Q := by
  refine zlcW_ok (q := (775, zlPC, (30788, [(2, -10)]))) zlt_c16 zlh_c16 hη hinj hpt h0 (by omega) (by have := (List.getElem?_eq_some_iff.mp h1).1; omega) (M := 30788 - 10 * i) (zrk h1) hca hsa ?_
  rintro q' hq' ρ' L' st' hp' r ⟨l, hl⟩ g2 g3 g4 g5 g6 gk
  rw [List.mem_singleton] at hq'
  subst hq'
  have h2 := (List.getElem?_eq_some_iff.mp h1).1
  have hk : ∀ k, k < 3 → ρ'[k]? = ρ[k]? := fun k hk => by
    rw [hl, List.getElem?_append_left (by rw [List.length_take]; omega), List.getElem?_take_of_lt hk]
  obtain ⟨x, hx⟩ : ∃ x, ρ[1]? = some x := ⟨_, List.getElem?_eq_getElem (by omega)⟩
  have t1 := zxr_fun (zflN_ok (idx := zxM) (j := 0) hpt.2.2.1 zlPC_1 rfl) (zxr_s hx)
  have t2 := zxr_fun (zflN_ok (idx := zxM) (j := 0) g2.2.2.1 zlPC_1 rfl) (zxr_s ((hk 1 (by decide)).trans hx))
  exact zto23 (q := (806, zlPC, (30785, [(2, -10)]))) zlt_d16 zlh_d16 rfl (by decide) zlPC_1 hη g3 g2 (zTA_keep hη hinj hT t1 t2 gk) ((hk 0 (by decide)).trans h0) ((hk 2 (by decide)).trans h1) hLx hca hsa IH
theorem zTA_same {hp' : List zhE} (hη : η.length = 208) (hT : zTA η hp) (hk : ∀ (k x : Nat), k ≠ 2 → η[k]? = some x → hp'[x]? = hp[x]?) : zTA η hp' := by
  have h1 : ∀ j, j < 208 → η[j]? = some (η.getD j 0) := fun j hj => by
    rw [List.getD_eq_getElem?_getD, List.getElem?_eq_getElem (by omega)]
    rfl
  have k1 : zSof (zee η zxC) hp' 5 = zSof (zee η zxC) hp 5 := zSof_hp (hk 3 _ (by decide) (h1 3 (by decide)))
  have k2 : zSof (zee η zxM) hp' 1 = zSof (zee η zxM) hp 1 := zSof_hp (hk 12 _ (by decide) (h1 12 (by decide)))
  have k3 : zSof (zee η zxM) hp' 0 = zSof (zee η zxM) hp 0 := zSof_hp (hk 1 _ (by decide) (h1 1 (by decide)))
  intro q hq
  rw [k1, k2]
  exact hT q (by rw [k3] at hq; exact hq)
end ZLO
theorem zf349 : zflN zlP349.2.2.1 1 1 (0, [(1, 1)]) = true := by decide +kernel
section ZLK4
variable {Lx : Nat} {xs : Nat → Int32} {η : List Nat} {ρ : List Int} {L : zL} {hp : List zhE} {i : Int} {ca sa : Nat} {Q : ZP}
set_option maxRecDepth 100000 in
/-- look -/
theorem z4 (hη : η.length = 208) (hinj : zinj η hp) (hpt : zptS η ρ zlPC L [] hp) (hT : zTA η hp) (h0 : ρ[0]? = some (Lx : Int)) (h1 : ρ[2]? = some i) (hi0 : 0 ≤ i) (hi6 : i + 6 ≤ (Lx : Int)) (hLx : Lx ≤ 3072) (hca : ca + 8 ≤ (zrm 276).cells) (hsa : sa + 100 ≤ (zrm 276).slots)
    (IH : ∀ (i' : Int) (L' : zL) (hp' : List zhE), i < i' → zLI Lx L' hp' i' → zWP (zlk2 Lx xs) Lx xs 276 (23, L', [], hp', ca + 8, sa + 100) Q) : zWP (zlk2 Lx xs) Lx xs 276 (332, L, [], hp, ca, sa) Q := by
  obtain ⟨p1, p2, p3, p4, p5, p6⟩ := id hpt
  obtain ⟨a, b, o, y, l0, l1, c1, l2, c2, l3, c3, l4, ey⟩ := zLlk p1 h1
  refine zl_ldR (by rfl) l1 ?_
  refine zl_ldS (by rfl) l0 ?_
  refine zl_ldI (by rfl) l4 ?_
  refine zs0 (by rfl) rfl rfl ?_
  refine zl_iadd (by rfl) ?_
  refine zl_sld (by rfl) (zargI ey hi0 hi6 (k := 1) (by decide) (by decide) hLx) ?_
  refine zl_ldS (by rfl) l0 ?_
  refine zl_ldI (by rfl) l4 ?_
  refine zs0 (by rfl) rfl rfl ?_
  refine zl_iadd (by rfl) ?_
  refine zl_sld (by rfl) (zargI ey hi0 hi6 (k := 2) (by decide) (by decide) hLx) ?_
  refine zl_ldR (by rfl) l3 ?_
  refine zl_look (vs := [.ref a, .int (xs (y + Int32.ofInt 1).toNatClampNeg), .int (xs (y + Int32.ofInt 2).toNatClampNeg), .ref o]) (st := []) (by rfl) rfl (by decide) hca hsa (zlk_at hη hinj hpt c1 c3 _ _) ?_
  rintro rv hp' ⟨w, rfl, w0, w1, g1, g2, g3⟩
  have hlen : ρ.length = 109 := by rw [← p4.1]; rfl
  refine zto23 (q := (349, zlP349, (30784, [(2, -10)]))) (ρ := ρ ++ [w.toInt]) zlt_k zlh_k rfl (by decide) zf349 hη g1 ⟨zaL_mono1 g2.1, ⟨⟨w, rfl, zxr_s (by rw [← hlen]; simp)⟩, trivial⟩, zcl2_mono1 g2.2.2.1, zaE_snoc (lo := 0) (hi := 2) g2.2.2.2.1 w0 w1, zaF_mono g2.2.2.2.2.1, g2.2.2.2.2.2⟩ (zTA_same hη hT g3) (by rw [List.getElem?_append_left (by omega)]; exact h0) (by rw [List.getElem?_append_left (by omega)]; exact h1) hLx hca hsa IH
set_option maxRecDepth 100000 in
/-- one turn -/
theorem zturn (hη : η.length = 208) (hinj : zinj η hp) (hpt : zptS η ρ zlPC L [] hp) (hT : zTA η hp) (h0 : ρ[0]? = some (Lx : Int)) (h1 : ρ[2]? = some i) (hi0 : 0 ≤ i) (hi6 : i + 6 ≤ (Lx : Int)) (hLx : Lx ≤ 3072) (hca : ca + 8 ≤ (zrm 276).cells) (hsa : sa + 100 ≤ (zrm 276).slots)
    (IH : ∀ (i' : Int) (L' : zL) (hp' : List zhE), i < i' → zLI Lx L' hp' i' → zWP (zlk2 Lx xs) Lx xs 276 (23, L', [], hp', ca, sa) Q)
    (IH4 : ∀ (i' : Int) (L' : zL) (hp' : List zhE), i < i' → zLI Lx L' hp' i' → zWP (zlk2 Lx xs) Lx xs 276 (23, L', [], hp', ca + 8, sa + 100) Q) : ∀ k : Nat, k < 32 → zWP (zlk2 Lx xs) Lx xs 276 (zltg.getD k 0, L, [], hp, ca, sa) Q := by
  intro k hk
  have hca1 : ca ≤ (zrm 276).cells := by omega
  have hsa1 : sa ≤ (zrm 276).slots := by omega
  rcases (show k = 0 ∨ k = 1 ∨ k = 2 ∨ k = 3 ∨ k = 4 ∨ k = 5 ∨ k = 6 ∨ k = 7 ∨ k = 8 ∨ k = 9 ∨ k = 10 ∨ k = 11 ∨ k = 12 ∨ k = 13 ∨ k = 14 ∨ k = 15 ∨ k = 16 ∨ k = 17 ∨ k = 18 ∨ k = 19 ∨ k = 20 ∨ k = 21 ∨ k = 22 ∨ k = 23 ∨ k = 24 ∨ k = 25 ∨ k = 26 ∨ k = 27 ∨ k = 28 ∨ k = 29 ∨ k = 30 ∨ k = 31 by omega) with rfl | rfl | rfl | rfl | rfl | rfl | rfl | rfl | rfl | rfl | rfl | rfl | rfl | rfl | rfl | rfl | rfl | rfl | rfl | rfl | rfl | rfl | rfl | rfl | rfl | rfl | rfl | rfl | rfl | rfl | rfl | rfl
  · exact z0 zuh_119 zuh_159 hη hinj hpt hT h0 h1 hi0 hi6 hLx hca1 hsa1 IH
  · exact z1 zuh_121 zuh_182 hη hinj hpt hT h0 h1 hi0 hi6 hLx hca1 hsa1 IH
  · exact z2 hη hinj hpt hT h0 h1 hi0 hi6 hLx hca1 hsa1 IH
  · exact zto23 (q := (307, zlPC, (30788, [(2, -10)]))) zlt_c3 zlh_c3 rfl (by decide) zlPC_1 hη hinj hpt hT h0 h1 hLx hca1 hsa1 IH
  · exact z4 hη hinj hpt hT h0 h1 hi0 hi6 hLx hca hsa IH4
  · exact zto23 (q := (372, zlPC, (30788, [(2, -10)]))) zlt_c5 zlh_c5 rfl (by decide) zlPC_1 hη hinj hpt hT h0 h1 hLx hca1 hsa1 IH
  · exact zto23 (q := (421, zlPC, (30788, [(2, -10)]))) zlt_c6 zlh_c6 rfl (by decide) zlPC_1 hη hinj hpt hT h0 h1 hLx hca1 hsa1 IH
  · exact zto23 (q := (446, zlPC, (30788, [(2, -10)]))) zlt_c7 zlh_c7 rfl (by decide) zlPC_1 hη hinj hpt hT h0 h1 hLx hca1 hsa1 IH
  · exact zto23 (q := (459, zlPC, (30788, [(2, -10)]))) zlt_c8 zlh_c8 rfl (by decide) zlPC_1 hη hinj hpt hT h0 h1 hLx hca1 hsa1 IH
  · exact zto23 (q := (496, zlPC, (30788, [(2, -10)]))) zlt_c9 zlh_c9 rfl (by decide) zlPC_1 hη hinj hpt hT h0 h1 hLx hca1 hsa1 IH
  · exact zto23 (q := (545, zlPC, (30788, [(2, -10)]))) zlt_c10 zlh_c10 rfl (by decide) zlPC_1 hη hinj hpt hT h0 h1 hLx hca1 hsa1 IH
  · exact zto23 (q := (582, zlPC, (30788, [(2, -10)]))) zlt_c11 zlh_c11 rfl (by decide) zlPC_1 hη hinj hpt hT h0 h1 hLx hca1 hsa1 IH
  · exact zto23 (q := (595, zlPC, (30788, [(2, -10)]))) zlt_c12 zlh_c12 rfl (by decide) zlPC_1 hη hinj hpt hT h0 h1 hLx hca1 hsa1 IH
  · exact zto23 (q := (632, zlPC, (30788, [(2, -10)]))) zlt_c13 zlh_c13 rfl (by decide) zlPC_1 hη hinj hpt hT h0 h1 hLx hca1 hsa1 IH
  · exact zto23 (q := (701, zlPC, (30788, [(2, -10)]))) zlt_c14 zlh_c14 rfl (by decide) zlPC_1 hη hinj hpt hT h0 h1 hLx hca1 hsa1 IH
  · exact zto23 (q := (726, zlPC, (30788, [(2, -10)]))) zlt_c15 zlh_c15 rfl (by decide) zlPC_1 hη hinj hpt hT h0 h1 hLx hca1 hsa1 IH
  · exact z16 hη hinj hpt hT h0 h1 hLx hca1 hsa1 IH
  · exact zto23 (q := (840, zlPC, (30788, [(2, -10)]))) zlt_c17 zlh_c17 rfl (by decide) zlPC_1 hη hinj hpt hT h0 h1 hLx hca1 hsa1 IH
  · exact zto23 (q := (865, zlPC, (30788, [(2, -10)]))) zlt_c18 zlh_c18 rfl (by decide) zlPC_1 hη hinj hpt hT h0 h1 hLx hca1 hsa1 IH
  · exact zto23 (q := (902, zlPC, (30788, [(2, -10)]))) zlt_c19 zlh_c19 rfl (by decide) zlPC_1 hη hinj hpt hT h0 h1 hLx hca1 hsa1 IH
  · exact zto23 (q := (927, zlPC, (30788, [(2, -10)]))) zlt_c20 zlh_c20 rfl (by decide) zlPC_1 hη hinj hpt hT h0 h1 hLx hca1 hsa1 IH
  · exact zto23 (q := (964, zlPC, (30788, [(2, -10)]))) zlt_c21 zlh_c21 rfl (by decide) zlPC_1 hη hinj hpt hT h0 h1 hLx hca1 hsa1 IH
  · exact zto23 (q := (1013, zlPC, (30788, [(2, -10)]))) zlt_c22 zlh_c22 rfl (by decide) zlPC_1 hη hinj hpt hT h0 h1 hLx hca1 hsa1 IH
  · exact zto23 (q := (1026, zlPC, (30788, [(2, -10)]))) zlt_c23 zlh_c23 rfl (by decide) zlPC_1 hη hinj hpt hT h0 h1 hLx hca1 hsa1 IH
  · exact zto23 (q := (1051, zlPC, (30788, [(2, -10)]))) zlt_c24 zlh_c24 rfl (by decide) zlPC_1 hη hinj hpt hT h0 h1 hLx hca1 hsa1 IH
  · exact zto23 (q := (1076, zlPC, (30788, [(2, -10)]))) zlt_c25 zlh_c25 rfl (by decide) zlPC_1 hη hinj hpt hT h0 h1 hLx hca1 hsa1 IH
  · exact zto23 (q := (1101, zlPC, (30788, [(2, -10)]))) zlt_c26 zlh_c26 rfl (by decide) zlPC_1 hη hinj hpt hT h0 h1 hLx hca1 hsa1 IH
  · exact zto23 (q := (1126, zlPC, (30788, [(2, -10)]))) zlt_c27 zlh_c27 rfl (by decide) zlPC_1 hη hinj hpt hT h0 h1 hLx hca1 hsa1 IH
  · exact zto23 (q := (1163, zlPC, (30788, [(2, -10)]))) zlt_c28 zlh_c28 rfl (by decide) zlPC_1 hη hinj hpt hT h0 h1 hLx hca1 hsa1 IH
  · exact zto23 (q := (1176, zlPC, (30788, [(2, -10)]))) zlt_c29 zlh_c29 rfl (by decide) zlPC_1 hη hinj hpt hT h0 h1 hLx hca1 hsa1 IH
  · exact zto23 (q := (1189, zlPC, (30788, [(2, -10)]))) zlt_c30 zlh_c30 rfl (by decide) zlPC_1 hη hinj hpt hT h0 h1 hLx hca1 hsa1 IH
  · exact zto23 (q := (1202, zlPC, (30788, [(2, -10)]))) zlt_c31 zlh_c31 rfl (by decide) zlPC_1 hη hinj hpt hT h0 h1 hLx hca1 hsa1 IH
theorem zrm276 : (zrm 276).cells = 601024 ∧ (zrm 276).slots = 7293034 := by decide +kernel
set_option maxRecDepth 100000 in
theorem zloop (hret : ∀ hp, Q (some (.int 1)) hp) (hLx : Lx ≤ 3072) : ∀ (n : Nat) (i : Int) (L : zL) (hp : List zhE) (c s : Nat), zLI Lx L hp i → 3072 - i < (n : Int) → (c : Int) + 8 * (3072 - i) ≤ 500000 → (s : Int) + 100 * (3072 - i) ≤ 6000000 → zWP (zlk2 Lx xs) Lx xs 276 (23, L, [], hp, c, s) Q := by
  intro n
  induction n with
  | zero =>
    intro i L hp c s hI hn
    obtain ⟨η, ρ, -, -, -, h1, hpt, -⟩ := hI
    obtain ⟨i', h1', -, hi'⟩ := zaE_get (ρ := ρ) hpt.2.2.2.1 (i := 2) (q := (0, 3072)) (by rfl)
    cases h1.symm.trans h1'
    simp only at hi'
    omega
  | succ n ih =>
    intro i L hp c s hI hn hc hs
    obtain ⟨η, ρ, hη, hinj, h0, h1, hpt, hT⟩ := hI
    obtain ⟨i', h1', hi0, hi1⟩ := zaE_get (ρ := ρ) hpt.2.2.2.1 (i := 2) (q := (0, 3072)) (by rfl)
    cases h1.symm.trans h1'
    simp only at hi0 hi1
    obtain ⟨r1, r2⟩ := zrm276
    obtain ⟨a, b, o, y, l0, l1, c1, l2, c2, l3, c3, l4, ey⟩ := zLlk hpt.1 h1
    refine zhead l0 l4 hLx (by omega) (hret hp) (by omega) (by omega) (fun h6 => ?_)
    rw [ey] at h6
    exact zturn hη hinj (zlPC_of hpt h0 h1 h6) hT h0 h1 hi0 h6 hLx (by omega) (by omega) (fun i2 L2 hp2 hlt hI2 => ih i2 L2 hp2 c s hI2 (by omega) (by omega) (by omega)) (fun i2 L2 hp2 hlt hI2 => ih i2 L2 hp2 (c + 8) (s + 100) hI2 (by omega) (by omega) (by omega))
end ZLK4
