/-! feed's turn from the case's place -/
section ZFX
variable {lk : ZLP} {Lx : Nat} {xs : Nat → Int32} {η : List Nat} {ρ : List Int} {L : zL} {hp : List zhE} {i : Int} {ca sa : Nat} {Q : ZP}
theorem zlE3 : (zlPC.2.2.2.1.take 3).length = 3 := by decide +kernel
theorem zaE_n5 {n1 n2 n3 n4 n5 : Int32} : zaE [n1.toInt, n2.toInt, n3.toInt, n4.toInt, n5.toInt] [(-2147483648, 2147483647), (-2147483648, 2147483647), (-2147483648, 2147483647), (-2147483648, 2147483647), (-2147483648, 2147483647)] := ⟨rfl, fun s q x hq hx => by
  match s, hq, hx with
  | 0, hq, hx => cases hq; cases hx; exact zb_rng _
  | 1, hq, hx => cases hq; cases hx; exact zb_rng _
  | 2, hq, hx => cases hq; cases hx; exact zb_rng _
  | 3, hq, hx => cases hq; cases hx; exact zb_rng _
  | 4, hq, hx => cases hq; cases hx; exact zb_rng _
  | s + 5, hq, hx => simp at hx⟩
set_option maxRecDepth 100000 in
theorem z0 (hu : zHolds lk Lx xs zu_119) (hu2 : zHolds lk Lx xs zu_159) (hη : η.length = 208) (hinj : zinj η hp) (hpt : zptS η ρ zlPC L [] hp) (hT : zTA η hp) (h0 : ρ[0]? = some (Lx : Int)) (h2 : ρ[2]? = some i) (hi0 : 0 ≤ i) (hi6 : i + 6 ≤ (Lx : Int)) (hLx : Lx ≤ 3072) (hca : ca ≤ (zrm 276).cells) (hsa : sa ≤ (zrm 276).slots)
    (IH : ∀ (i' : Int) (L' : zL) (hp' : List zhE), i < i' → zLI Lx L' hp' i' → zWP lk Lx xs 276 (23, L', [], hp', ca, sa) Q) : zWP lk Lx xs 276 (184, L, [], hp, ca, sa) Q := by
  obtain ⟨p1, p2, p3, p4, p5, p6⟩ := id hpt
  obtain ⟨a, b, o, y, l0, l1, c1, l2, c2, l3, c3, l4, ey⟩ := zLlk p1 h2
  refine zl_ldR (by rfl) l1 ?_
  refine zl_ldS (by rfl) l0 ?_
  refine zl_ldI (by rfl) l4 ?_
  refine zs0 (by rfl) rfl rfl ?_
  refine zl_iadd (by rfl) ?_
  refine zl_sld (by rfl) (zargI ey hi0 hi6 (k := 1) (by decide) (by decide) hLx) ?_
  refine zl_ldS (by rfl) l0 ?_
  refine zl_ldI (by rfl) l4 ?_
  refine zs0 (by rfl) rfl rfl ?_
  refine zl_iadd (by rfl) ?_
  refine zl_sld (by rfl) (zargI ey hi0 hi6 (k := 2) (by decide) (by decide) hLx) ?_
  refine zl_ldS (by rfl) l0 ?_
  refine zl_ldI (by rfl) l4 ?_
  refine zs0 (by rfl) rfl rfl ?_
  refine zl_iadd (by rfl) ?_
  refine zl_sld (by rfl) (zargI ey hi0 hi6 (k := 3) (by decide) (by decide) hLx) ?_
  refine zl_ldS (by rfl) l0 ?_
  refine zl_ldI (by rfl) l4 ?_
  refine zs0 (by rfl) rfl rfl ?_
  refine zl_iadd (by rfl) ?_
  refine zl_sld (by rfl) (zargI ey hi0 hi6 (k := 4) (by decide) (by decide) hLx) ?_
  refine zl_ldS (by rfl) l0 ?_
  refine zl_ldI (by rfl) l4 ?_
  refine zs0 (by rfl) rfl rfl ?_
  refine zl_iadd (by rfl) ?_
  refine zl_sld (by rfl) (zargI ey hi0 hi6 (k := 5) (by decide) (by decide) hLx) ?_
  generalize hn1 : xs (y + Int32.ofInt 1).toNatClampNeg = n1
  generalize hn2 : xs (y + Int32.ofInt 2).toNatClampNeg = n2
  generalize hn3 : xs (y + Int32.ofInt 3).toNatClampNeg = n3
  generalize hn4 : xs (y + Int32.ofInt 4).toNatClampNeg = n4
  generalize hn5 : xs (y + Int32.ofInt 5).toNatClampNeg = n5
  obtain ⟨tp, ht1, ht0, ht6⟩ := zaE_get (ρ := ρ) p4 (i := 1) (q := (0, 600)) (by rfl)
  simp only at ht0 ht6
  obtain ⟨t, rfl⟩ : ∃ t : Nat, tp = (t : Int) := ⟨tp.toNat, by omega⟩
  have ht : t ≤ 600 := by omega
  obtain ⟨u, rfl⟩ := zlist3 h0 ht1 h2
  have hsh : ∀ (s : Nat) (x : Int), ((Lx : Int) :: (t : Int) :: i :: u)[s]? = some x → ((Lx : Int) :: (t : Int) :: i :: n1.toInt :: n2.toInt :: n3.toInt :: n4.toInt :: n5.toInt :: u)[zshg 3 5 s]? = some x := zshg_ok (a := [(Lx : Int), (t : Int), i]) (l := [n1.toInt, n2.toInt, n3.toInt, n4.toInt, n5.toInt]) (b := u)
  have q1 : zaL η ((Lx : Int) :: (t : Int) :: i :: n1.toInt :: n2.toInt :: n3.toInt :: n4.toInt :: n5.toInt :: u) zlLL L := by
    rw [← zlLL_5]
    exact zreL_ok zpid hsh zlLL_ok p1
  have qC := zreCl_ok (f := zshg 3 5) (ρ' := (Lx : Int) :: (t : Int) :: i :: n1.toInt :: n2.toInt :: n3.toInt :: n4.toInt :: n5.toInt :: u) zpid hsh zlPC_ok p3
  rw [zlF0_C] at qC
  have p4' : zaE ([(Lx : Int), (t : Int), i] ++ u) (zlPC.2.2.2.1.take 3 ++ zlPC.2.2.2.1.drop 3) := by
    rw [List.take_append_drop]
    exact p4
  have qE : zaE ((Lx : Int) :: (t : Int) :: i :: n1.toInt :: n2.toInt :: n3.toInt :: n4.toInt :: n5.toInt :: u) zlPF0.2.2.2.1 := by
    rw [← zlF0_E.2]
    exact zaE_insg p4' zlE3 (zaE_n5 (n1 := n1) (n2 := n2) (n3 := n3) (n4 := n4) (n5 := n5))
  have qF0 : zptS η ((Lx : Int) :: (t : Int) :: i :: n1.toInt :: n2.toInt :: n3.toInt :: n4.toInt :: n5.toInt :: u) zlPF0 L [.int n5, .int n4, .int n3, .int n2, .int n1, .ref a] hp := ⟨q1, ⟨⟨n5, rfl, zxr_s rfl⟩, ⟨n4, rfl, zxr_s rfl⟩, ⟨n3, rfl, zxr_s rfl⟩, ⟨n2, rfl, zxr_s rfl⟩, ⟨n1, rfl, zxr_s rfl⟩, ⟨a, c1, rfl⟩, trivial⟩, qC, qE, zlF1 (Lx := Lx) rfl rfl hi6, p6⟩
  obtain ⟨fs, hfs⟩ := zcobj p3 zob59.1
  have ea : η.getD 0 0 = a := by rw [List.getD_eq_getElem?_getD, c1]; rfl
  rw [ea] at hfs
  have hW := zlcC_ok zlt_f0 hu hη hinj qF0 (by simp) (M := 30788 - 10 * i) (zrk rfl)
  have hF : ∀ n, zPn Lx xs n 119 (0, lv_args 0 [.ref a, .int n1, .int n2, .int n3, .int n4, .int n5], [], hp, 0, 0) _ := fun n => by
    have := zfeed1 (Lx := Lx) (xs := xs) (n1 := n1) (n2 := n2) (n3 := n3) (n4 := n4) (n5 := n5) (n := n) hη hinj ht qC rfl rfl
    rwa [show zee η zxF 0 = a from ea] at this
  have ht2 : (zSof (zee η zxM) hp 0 1).toInt = (t : Int) := zxr_fun (zflN_ok (idx := zxM) (j := 0) p3 zlPC_1 rfl) (zxr_s rfl)
  have hT1 : ∀ q : Nat, (q : Int) < (t : Int) → zSof (zee η zxF) hp 1 q &&& Int32.ofInt 255 = zSof (zee η zxM) hp 1 q := fun q hq => by
    rw [← zSof_e (e := zee η zxC) (e' := zee η zxF) (hp := hp) (j := 5) (j' := 1) rfl]
    exact hT q (by rw [ht2]; exact hq)
  refine zl_virt (vs := [.int n1, .int n2, .int n3, .int n4, .int n5]) (st := []) (by rfl) rfl hfs rfl (by show (6 : Nat) ≤ _; decide) (by decide) zrm59.1 zrm59.2.1 hca hsa (hW.and (by decide) hF) ?_
  rintro rv hp1 ⟨⟨q', hq', -, ρ', r, ⟨l, hl⟩, g2, g3, g4, g5, g6, -, gk⟩, C', f1, f2⟩
  have kS : zSof (zee η zxM) hp1 1 = zSof (zee η zxM) hp 1 := zSof_hp (zkeep (m := 12) hη hinj (by decide) zW_no.1 gk)
  subst hl
  rcases List.mem_cons.mp hq' with rfl | hq'
  · obtain ⟨v, hv, hv1⟩ := zstk1 g2.2.1
    rw [hv]
    refine zl_pop (by rfl) hv1 ?_
    exact zfeedB zlt_gA hu2 zlGA_e zlFA_L.1 zkM_FA zfM_FA.1 zob59.2.1 ey hi0 hi6 hn1 hn2 hn3 hn4 hn5 ht (u := l) rfl hη g3 g2 hT1 kS f1 f2 hLx hca hsa IH
  · rw [List.mem_singleton] at hq'
    subst hq'
    obtain ⟨v, hv, hv1⟩ := zstk1 g2.2.1
    rw [hv]
    refine zl_pop (by rfl) hv1 ?_
    exact zfeedB zlt_gB hu2 zlGB_e zlFA_L.2.1 zkM_FB zfM_FA.2 zob59.2.2 ey hi0 hi6 hn1 hn2 hn3 hn4 hn5 ht (u := l) rfl hη g3 g2 hT1 kS f1 f2 hLx hca hsa IH
end ZFX
