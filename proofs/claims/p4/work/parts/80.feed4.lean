/-! feed's turn, whole -/
section ZFW
variable {lk : ZLP} {Lx : Nat} {xs : Nat → Int32} {η : List Nat} {ρ : List Int} {L : zL} {st : List Value} {hp hp1 : List zhE} {i : Int} {ca sa : Nat} {Q : ZP}
theorem zrm59 : (zrm 119).cells = 0 ∧ (zrm 119).slots = 0 ∧ (zrm 159).cells = 0 ∧ (zrm 159).slots = 0 := by decide +kernel
theorem zob59 : zlPC.2.2.1.any (fun q => Nat.beq q.1 0 && (match q.2 with
    | .inl (c, _) => Nat.beq c 11
    | _ => false)) = true ∧ zlPFA.2.2.1.any (fun q => Nat.beq q.1 1 && (match q.2 with
    | .inl (c, _) => Nat.beq c 12
    | _ => false)) = true ∧ zlPFB.2.2.1.any (fun q => Nat.beq q.1 1 && (match q.2 with
    | .inl (c, _) => Nat.beq c 12
    | _ => false)) = true := by decide +kernel
set_option maxRecDepth 100000 in
theorem zlGA_e : zlPGA = (zlPFA.1, [(0, (0, [(7, 1)])), (0, (0, [(6, 1)])), (0, (0, [(5, 1)])), (0, (0, [(4, 1)])), (0, (0, [(3, 1)])), (2, (1, []))], zlPFA.2.2) := rfl
set_option maxRecDepth 100000 in
theorem zlGB_e : zlPGB = (zlPFB.1, [(0, (0, [(7, 1)])), (0, (0, [(6, 1)])), (0, (0, [(5, 1)])), (0, (0, [(4, 1)])), (0, (0, [(3, 1)])), (2, (1, []))], zlPFB.2.2) := rfl
set_option maxRecDepth 100000 in
theorem zlFA_L : zlPFA.1 = zlLL ∧ zlPFB.1 = zlLL ∧ zlPF0.1 = zlLL ∧ zlPF0.2.1 = [(0, (0, [(7, 1)])), (0, (0, [(6, 1)])), (0, (0, [(5, 1)])), (0, (0, [(4, 1)])), (0, (0, [(3, 1)])), (2, (0, []))] := ⟨rfl, rfl, rfl, rfl⟩
theorem zlPC_1 : zflN zlPC.2.2.1 1 1 (0, [(1, 1)]) = true := by decide +kernel
set_option maxRecDepth 100000 in
/-- the model's feed and the way back -/
theorem zfeedB {PA PG : PT} (hz : zlcC zlW2 [(253, zlP253, (30784, [(1, -10)]))] zu_159 1 253 (250, PG, (30785, [(2, -10)])) = true) (hu : zHolds lk Lx xs zu_159) (hPG : PG = (PA.1, [(0, (0, [(7, 1)])), (0, (0, [(6, 1)])), (0, (0, [(5, 1)])), (0, (0, [(4, 1)])), (0, (0, [(3, 1)])), (2, (1, []))], PA.2.2)) (hPA : PA.1 = zlLL) (hkM : zokD zxM [] PA.2.2.1 zDM 0 = true) (hfM : zflN PA.2.2.1 1 1 (0, [(1, 1)]) = true) (hob : PA.2.2.1.any (fun q => Nat.beq q.1 1 && (match q.2 with
    | .inl (c, _) => Nat.beq c 12
    | _ => false)) = true) {y : Int32} (ey : y.toInt = i) (hi0 : 0 ≤ i) (hi6 : i + 6 ≤ (Lx : Int)) {n1 n2 n3 n4 n5 : Int32} (hn1 : xs (y + Int32.ofInt 1).toNatClampNeg = n1) (hn2 : xs (y + Int32.ofInt 2).toNatClampNeg = n2) (hn3 : xs (y + Int32.ofInt 3).toNatClampNeg = n3) (hn4 : xs (y + Int32.ofInt 4).toNatClampNeg = n4) (hn5 : xs (y + Int32.ofInt 5).toNatClampNeg = n5) {t : Nat} (ht : t ≤ 600) {u : List Int} (hρ : ρ = (Lx : Int) :: (t : Int) :: i :: n1.toInt :: n2.toInt :: n3.toInt :: n4.toInt :: n5.toInt :: u) (hη : η.length = 208) (hinj : zinj η hp1) (hpt : zptS η ρ PA L st hp1) {C1 S1 : Nat → Int32} (hT : ∀ q : Nat, (q : Int) < (t : Int) → C1 q &&& Int32.ofInt 255 = S1 q) (hS1 : zSof (zee η zxM) hp1 1 = S1) {C' : Nat → Int32} (hC' : zSof (zee η zxC) hp1 5 = C') (h1 : (580 < t ∧ C' = C1) ∨ (t ≤ 580 ∧ (∀ q, q < t → C' q = C1 q) ∧ ∀ k : Nat, k < 20 → C' (t + k) &&& Int32.ofInt 255 = zfd n1 n2 n3 n4 n5 k)) (hLx : Lx ≤ 3072) (hca : ca ≤ (zrm 276).cells) (hsa : sa ≤ (zrm 276).slots)
    (IH : ∀ (i' : Int) (L' : zL) (hp' : List zhE), i < i' → zLI Lx L' hp' i' → zWP lk Lx xs 276 (23, L', [], hp', ca, sa) Q) : zWP lk Lx xs 276 (219, L, [], hp1, ca, sa) Q := by
  obtain ⟨p1, p2, p3, p4, p5, p6⟩ := id hpt
  rw [hPA] at p1
  subst hρ
  obtain ⟨a, b, o, y2, l0, l1, c1, l2, c2, l3, c3, l4, ey2⟩ := zLlk (i := i) p1 rfl
  have e2 : y2 = y := Int32.toInt_inj.1 (by rw [ey2, ey])
  subst e2
  refine zl_ldR (by rfl) l2 ?_
  refine zl_ldS (by rfl) l0 ?_
  refine zl_ldI (by rfl) l4 ?_
  refine zs0 (by rfl) rfl rfl ?_
  refine zl_iadd (by rfl) ?_
  refine zl_sld (by rfl) (zargI ey hi0 hi6 (k := 1) (by decide) (by decide) hLx) ?_
  refine zl_ldS (by rfl) l0 ?_
  refine zl_ldI (by rfl) l4 ?_
  refine zs0 (by rfl) rfl rfl ?_
  refine zl_iadd (by rfl) ?_
  refine zl_sld (by rfl) (zargI ey hi0 hi6 (k := 2) (by decide) (by decide) hLx) ?_
  refine zl_ldS (by rfl) l0 ?_
  refine zl_ldI (by rfl) l4 ?_
  refine zs0 (by rfl) rfl rfl ?_
  refine zl_iadd (by rfl) ?_
  refine zl_sld (by rfl) (zargI ey hi0 hi6 (k := 3) (by decide) (by decide) hLx) ?_
  refine zl_ldS (by rfl) l0 ?_
  refine zl_ldI (by rfl) l4 ?_
  refine zs0 (by rfl) rfl rfl ?_
  refine zl_iadd (by rfl) ?_
  refine zl_sld (by rfl) (zargI ey hi0 hi6 (k := 4) (by decide) (by decide) hLx) ?_
  refine zl_ldS (by rfl) l0 ?_
  refine zl_ldI (by rfl) l4 ?_
  refine zs0 (by rfl) rfl rfl ?_
  refine zl_iadd (by rfl) ?_
  refine zl_sld (by rfl) (zargI ey hi0 hi6 (k := 5) (by decide) (by decide) hLx) ?_
  rw [hn1, hn2, hn3, hn4, hn5]
  obtain ⟨fs, hfs⟩ := zcobj p3 hob
  have eb : η.getD 1 0 = b := by rw [List.getD_eq_getElem?_getD, c2]; rfl
  rw [eb] at hfs
  have hpG : zptS η ((Lx : Int) :: (t : Int) :: i :: n1.toInt :: n2.toInt :: n3.toInt :: n4.toInt :: n5.toInt :: u) PG L [.int n5, .int n4, .int n3, .int n2, .int n1, .ref b] hp1 := by
    rw [hPG]
    exact ⟨hpt.1, ⟨⟨n5, rfl, zxr_s rfl⟩, ⟨n4, rfl, zxr_s rfl⟩, ⟨n3, rfl, zxr_s rfl⟩, ⟨n2, rfl, zxr_s rfl⟩, ⟨n1, rfl, zxr_s rfl⟩, ⟨b, c2, rfl⟩, trivial⟩, p3, p4, p5, p6⟩
  have hW := zlcC_ok hz hu hη hinj hpG (by simp) (M := 30785 - 10 * i) (zrk rfl)
  have hF : ∀ n, zPn Lx xs n 159 (0, lv_args 0 [.ref b, .int n1, .int n2, .int n3, .int n4, .int n5], [], hp1, 0, 0) _ := fun n => by
    have := zfeed2 (Lx := Lx) (xs := xs) (n1 := n1) (n2 := n2) (n3 := n3) (n4 := n4) (n5 := n5) (n := n) hη hinj ht p3 hkM hfM rfl
    rwa [show zee η zxM 0 = b from eb] at this
  refine zl_virt (vs := [.int n1, .int n2, .int n3, .int n4, .int n5]) (st := []) (by rfl) rfl hfs rfl (by show (6 : Nat) ≤ _; decide) (by decide) zrm59.2.2.1 zrm59.2.2.2 hca hsa (hW.and (by decide) hF) ?_
  rintro rv hp2 ⟨⟨q', hq', -, ρ', r, ⟨l, hl⟩, g2, g3, g4, g5, g6, -, gk⟩, f2⟩
  rw [List.mem_singleton] at hq'
  subst hq'
  have e0 : ρ'[0]? = some (Lx : Int) := by rw [hl]; rfl
  obtain ⟨ρ2, k1, k2, k3, v, hv, hv1⟩ := zl253 g2 e0 l4 ey hi6
  rw [hv]
  refine zl_pop (by rfl) hv1 ?_
  refine zs0 (by rfl) rfl rfl ?_
  have kA : zSof (zee η zxC) hp2 5 = C' := (zSof_hp (zkeep (m := 3) hη hinj (by decide) zW_no.2.1 gk)).trans hC'
  rw [hS1] at f2
  have hT2 : zTA η hp2 := fun q hq => by
    rw [kA]
    exact zfeedT hT ht h1 f2 q hq
  exact zto23 (q := (1227, zlPC, (30784, [(2, -10)]))) zlt_e (List.forall_mem_nil _) rfl (by decide) zlPC_1 hη g3 k1 hT2 k2 k3 hLx hca hsa IH
end ZFW
