/-! text's turn whole -/
section ZTX5
variable {lk : ZLP} {Lx : Nat} {xs : Nat → Int32} {η : List Nat} {ρ : List Int} {L : zL} {hp : List zhE} {i : Int} {ca sa : Nat} {Q : ZP}
theorem zlLL_1 : zlLL.map (fun q => (q.1, zreV id (zshg 3 1) q.2)) = zlLL := by decide +kernel
theorem zlT_C : zlPC.2.2.1.map (fun q => (id q.1, zreC id (zshg 3 1) q.2)) = zlPT.2.2.1 := zeqP_ok (by decide +kernel)
theorem zlT_E : zlPC.2.2.2.1.take 3 ++ [(-2147483648, 2147483647)] ++ zlPC.2.2.2.1.drop 3 = zlPT.2.2.2.1 := by decide +kernel
theorem zaE_n1 {n : Int32} : zaE [n.toInt] [(-2147483648, 2147483647)] := ⟨rfl, fun s q x hq hx => by
  match s, hq, hx with
  | 0, hq, hx => cases hq; cases hx; exact zb_rng _
  | s + 1, hq, hx => simp at hx⟩
theorem zfl_C : zflN zlPC.2.2.1 1 4 (0, [(5, 1)]) = true ∧ zflN zlPC.2.2.1 1 5 (0, [(6, 1)]) = true ∧ zflN zlPC.2.2.1 5 4 (0, [(5, 1)]) = true ∧ zflN zlPC.2.2.1 5 5 (0, [(6, 1)]) = true := by decide +kernel
theorem zpm_3 : zpm 3 = 3 ∧ zpm 12 = 12 ∧ zpm 1 = 1 ∧ zpm 5 = 5 := by decide +kernel
set_option maxRecDepth 100000 in
theorem z1 (hu : zHolds lk Lx xs zu_121) (hu2 : zHolds lk Lx xs zu_182) (hη : η.length = 208) (hinj : zinj η hp) (hpt : zptS η ρ zlPC L [] hp) (hT : zTA η hp) (h0 : ρ[0]? = some (Lx : Int)) (h2 : ρ[2]? = some i) (hi0 : 0 ≤ i) (hi6 : i + 6 ≤ (Lx : Int)) (hLx : Lx ≤ 3072) (hca : ca ≤ (zrm 276).cells) (hsa : sa ≤ (zrm 276).slots)
    (IH : ∀ (i' : Int) (L' : zL) (hp' : List zhE), i < i' → zLI Lx L' hp' i' → zWP lk Lx xs 276 (23, L', [], hp', ca, sa) Q) : zWP lk Lx xs 276 (257, L, [], hp, ca, sa) Q := by
  obtain ⟨p1, p2, p3, p4, p5, p6⟩ := id hpt
  obtain ⟨a, b, o, y, l0, l1, c1, l2, c2, l3, c3, l4, ey⟩ := zLlk p1 h2
  refine zl_ldR (by rfl) l1 ?_
  refine zl_ldS (by rfl) l0 ?_
  refine zl_ldI (by rfl) l4 ?_
  refine zs0 (by rfl) rfl rfl ?_
  refine zl_iadd (by rfl) ?_
  refine zl_sld (by rfl) (zargI ey hi0 hi6 (k := 1) (by decide) (by decide) hLx) ?_
  generalize hn : xs (y + Int32.ofInt 1).toNatClampNeg = n
  obtain ⟨tp, ht1, ht0, ht6⟩ := zaE_get (ρ := ρ) p4 (i := 1) (q := (0, 600)) (by rfl)
  simp only at ht0 ht6
  obtain ⟨t, rfl⟩ : ∃ t : Nat, tp = (t : Int) := ⟨tp.toNat, by omega⟩
  have ht : t ≤ 600 := by omega
  obtain ⟨u, rfl⟩ := zlist3 h0 ht1 h2
  have hsh : ∀ (s : Nat) (x : Int), ((Lx : Int) :: (t : Int) :: i :: u)[s]? = some x → ((Lx : Int) :: (t : Int) :: i :: n.toInt :: u)[zshg 3 1 s]? = some x := zshg_ok (a := [(Lx : Int), (t : Int), i]) (l := [n.toInt]) (b := u)
  have q1 : zaL η ((Lx : Int) :: (t : Int) :: i :: n.toInt :: u) zlLL L := by
    rw [← zlLL_1]
    exact zreL_ok zpid hsh zlLL_ok p1
  have qC := zreCl_ok (f := zshg 3 1) (ρ' := (Lx : Int) :: (t : Int) :: i :: n.toInt :: u) zpid hsh zlPC_ok p3
  rw [zlT_C] at qC
  have p4' : zaE ([(Lx : Int), (t : Int), i] ++ u) (zlPC.2.2.2.1.take 3 ++ zlPC.2.2.2.1.drop 3) := by
    rw [List.take_append_drop]
    exact p4
  have qE : zaE ((Lx : Int) :: (t : Int) :: i :: n.toInt :: u) zlPT.2.2.2.1 := by
    rw [← zlT_E]
    exact zaE_insg p4' zlE3 (zaE_n1 (n := n))
  have qT : zptS η ((Lx : Int) :: (t : Int) :: i :: n.toInt :: u) zlPT L [.int n, .ref a] hp := ⟨q1, ⟨⟨n, rfl, zxr_s rfl⟩, ⟨a, c1, rfl⟩, trivial⟩, qC, qE, zlF1 (Lx := Lx) rfl rfl hi6, p6⟩
  obtain ⟨fs, hfs⟩ := zcobj p3 zob59.1
  have ea : η.getD 0 0 = a := by rw [List.getD_eq_getElem?_getD, c1]; rfl
  rw [ea] at hfs
  have hW := zlcC_ok zlt_t0 hu hη hinj qT (by simp) (M := 30788 - 10 * i) (zrk rfl)
  have hF : ∀ m, zPn Lx xs m 121 (0, lv_args 0 [.ref a, .int n], [], hp, 0, 0) _ := fun m => by
    have := ztxt1 (Lx := Lx) (xs := xs) (nn := n) (n := m) hη hinj qC ht rfl hT
    rwa [ea] at this
  have ht2 : (zSof (zee η zxM) hp 0 1).toInt = (t : Int) := zxr_fun (zflN_ok (idx := zxM) (j := 0) p3 zlPC_1 rfl) (zxr_s rfl)
  refine zl_virt (vs := [.int n]) (st := []) (by rfl) rfl hfs rfl (by show (2 : Nat) ≤ _; decide) (by decide) zrm182.1 zrm182.2.1 hca hsa (hW.and (by decide) hF) ?_
  rintro rv hp1 ⟨⟨q', hq', -, ρ', r, ⟨l, hl⟩, g2, g3, g4, g5, g6, -, gk⟩, f1⟩
  have kA : zSof (zee η zxC) hp1 5 = zSof (zee η zxC) hp 5 := zSof_hp (zkeep (m := 3) hη hinj (by decide) zW4_no.1 gk)
  have kB : zSof (zee η zxM) hp1 1 = zSof (zee η zxM) hp 1 := zSof_hp (zkeep (m := 12) hη hinj (by decide) zW4_no.2.1 gk)
  have kM : zSof (zee η zxM) hp1 0 = zSof (zee η zxM) hp 0 := zSof_hp (zkeep (m := 1) hη hinj (by decide) zW4_no.2.2 gk)
  have hfp : zSof (zee η zxC) hp 0 4 = zSof (zee η zxM) hp 0 4 ∧ zSof (zee η zxC) hp 0 5 = zSof (zee η zxM) hp 0 5 := by
    obtain ⟨x, hx, -⟩ := zaE_get (ρ := (Lx : Int) :: (t : Int) :: i :: u) p4 (i := 5) (q := (-2147483648, 2147483647)) (by rfl)
    obtain ⟨z, hz, -⟩ := zaE_get (ρ := (Lx : Int) :: (t : Int) :: i :: u) p4 (i := 6) (q := (-2147483648, 2147483647)) (by rfl)
    obtain ⟨g1, g2, g3, g4⟩ := zfl_C
    refine ⟨Int32.toInt_inj.1 ?_, Int32.toInt_inj.1 ?_⟩
    · rw [zxr_fun (zflN_ok (idx := zxC) (j := 0) p3 g3 rfl) (zxr_s hx), zxr_fun (zflN_ok (idx := zxM) (j := 0) p3 g1 rfl) (zxr_s hx)]
    · rw [zxr_fun (zflN_ok (idx := zxC) (j := 0) p3 g4 rfl) (zxr_s hz), zxr_fun (zflN_ok (idx := zxM) (j := 0) p3 g2 rfl) (zxr_s hz)]
  have tail : ∀ (η2 : List Nat) (PA PU : PT) (v : Value), rv = some v → v.category = 1 → η2.length = 208 → zinj η2 hp1 → zptS η2 ρ' PA L [v] hp1 → (∀ m, m < 208 → zpm m = m → η2.getD m 0 = η.getD m 0) → zlcC zlW3 [(278, zlP277, (30784, [(1, -10)]))] zu_182 1 278 (275, PU, (30785, [(2, -10)])) = true → PU = (PA.1, [(0, (0, [(3, 1)])), (2, (1, []))], PA.2.2) → PA.1 = zlLL → zokD zxM [] PA.2.2.1 zDM 0 = true → zflN PA.2.2.1 1 1 (0, [(1, 1)]) = true → zspC PA.2.2.1 = true → PA.2.2.1.any (fun q => Nat.beq q.1 1 && (match q.2 with
    | .inl (c, _) => Nat.beq c 12
    | _ => false)) = true → zWP lk Lx xs 276 (267, L, [v], hp1, ca, sa) Q := by
    intro η2 PA PU v hv hv1 b1 b2 b3 b4 b5 b6 b7 b8 b9 b10 b11
    have m3 : zSof (zee η2 zxC) hp1 5 = zSof (zee η zxC) hp1 5 := zSof_e (b4 3 (by decide) zpm_3.1)
    have m5 : zSof (zee η2 zxC) hp1 0 = zSof (zee η zxC) hp1 0 := zSof_e (b4 5 (by decide) zpm_3.2.2.2)
    have m1 : zSof (zee η2 zxM) hp1 0 = zSof (zee η zxM) hp1 0 := zSof_e (b4 1 (by decide) zpm_3.2.2.1)
    have m12 : zSof (zee η2 zxM) hp1 1 = zSof (zee η zxM) hp1 1 := zSof_e (b4 12 (by decide) zpm_3.2.1)
    refine ztxtB (u := l) b5 hu2 b6 b7 b8 b9 b10 b11 ey hi0 hi6 hn ht hl b1 b2 b3 (fun q hq => ?_) hv1 (fun r S' hr => ?_) hLx hca hsa IH
    · rw [m3, m12, kA, kB]
      exact hT q (by rw [ht2]; exact hq)
    · rw [m12, kB] at hr
      obtain ⟨o1, o2, o3⟩ := f1 r S' hr
      rw [m5, m1]
      exact ⟨fun g => by rw [kM, o2 g]; exact hfp, o3⟩
  obtain ⟨v, hv, hv1⟩ : ∃ v, rv = some v ∧ v.category = 1 := by
    have key : ∀ PA : PT, PA.2.1 = [(5, (0, []))] → zaS η ρ' PA.2.1 rv.toList → ∃ v, rv = some v ∧ v.category = 1 := fun PA e h => by
      rw [e] at h
      obtain ⟨v, h1, h2⟩ := zstk1 h
      cases rv with
      | none => cases h1
      | some w => cases h1; exact ⟨_, rfl, h2⟩
    rcases List.mem_cons.mp hq' with rfl | hq'
    · exact key _ rfl g2.2.1
    rcases List.mem_cons.mp hq' with rfl | hq'
    · exact key _ rfl g2.2.1
    rcases List.mem_cons.mp hq' with rfl | hq'
    · exact key _ rfl g2.2.1
    rw [List.mem_singleton] at hq'
    subst hq'
    exact key _ rfl g2.2.1
  subst hv
  rcases List.mem_cons.mp hq' with rfl | hq'
  · exact tail η _ _ v rfl hv1 hη g3 g2 (fun _ _ _ => rfl) zlt_uA zlU_e.1 zlU_e.2.2.2.1 zkM_V.1 zfM_V.1 zspC_V.1 zob182.1
  rcases List.mem_cons.mp hq' with rfl | hq'
  · exact tail η _ _ v rfl hv1 hη g3 g2 (fun _ _ _ => rfl) zlt_uB zlU_e.2.1 zlU_e.2.2.2.2.1 zkM_V.2.1 zfM_V.2.1 zspC_V.2.1 zob182.2.1
  rcases List.mem_cons.mp hq' with rfl | hq'
  · exact tail η _ _ v rfl hv1 hη g3 g2 (fun _ _ _ => rfl) zlt_uC zlU_e.2.2.1 zlU_e.2.2.2.2.2 zkM_V.2.2 zfM_V.2.2 zspC_V.2.2.1 zob182.2.2
  · rw [List.mem_singleton] at hq'
    subst hq'
    obtain ⟨η2, d1, d2, d3, d4⟩ := zVDC hη g3 g2
    exact tail η2 _ _ v rfl hv1 d1 d2 d3 (fun m hm e => by rw [d4 m hm, e]) zlt_uC zlU_e.2.2.1 zlU_e.2.2.2.2.2 zkM_V.2.2 zfM_V.2.2 zspC_V.2.2.1 zob182.2.2
end ZTX5
