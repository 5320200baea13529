/-! text's turn: the model's call and the comparison -/
section ZTX4
variable {lk : ZLP} {Lx : Nat} {xs : Nat → Int32} {η : List Nat} {ρ : List Int} {L : zL} {st : List Value} {hp1 : List zhE} {i : Int} {ca sa : Nat} {Q : ZP}
theorem zrm182 : (zrm 121).cells = 0 ∧ (zrm 121).slots = 0 ∧ (zrm 182).cells = 0 ∧ (zrm 182).slots = 0 := by decide +kernel
theorem zob182 : zlPVA.2.2.1.any (fun q => Nat.beq q.1 1 && (match q.2 with
    | .inl (c, _) => Nat.beq c 12
    | _ => false)) = true ∧ zlPVB.2.2.1.any (fun q => Nat.beq q.1 1 && (match q.2 with
    | .inl (c, _) => Nat.beq c 12
    | _ => false)) = true ∧ zlPVC.2.2.1.any (fun q => Nat.beq q.1 1 && (match q.2 with
    | .inl (c, _) => Nat.beq c 12
    | _ => false)) = true := by decide +kernel
set_option maxRecDepth 100000 in
theorem zlU_e : zlPUA = (zlPVA.1, [(0, (0, [(3, 1)])), (2, (1, []))], zlPVA.2.2) ∧ zlPUB = (zlPVB.1, [(0, (0, [(3, 1)])), (2, (1, []))], zlPVB.2.2) ∧ zlPUC = (zlPVC.1, [(0, (0, [(3, 1)])), (2, (1, []))], zlPVC.2.2) ∧ zlPVA.1 = zlLL ∧ zlPVB.1 = zlLL ∧ zlPVC.1 = zlLL := ⟨rfl, rfl, rfl, rfl, rfl, rfl⟩
set_option maxRecDepth 100000 in
theorem ztxtB {PA PU : PT} (hz : zlcC zlW [(277, zlP253, (30784, [(1, -10)]))] zu_182 1 277 (274, PU, (30785, [(2, -10)])) = true) (hu : zHolds lk Lx xs zu_182) (hPU : PU = (PA.1, [(0, (0, [(3, 1)])), (2, (1, []))], PA.2.2)) (hPA : PA.1 = zlLL) (hkM : zokD zxM [] PA.2.2.1 zDM 0 = true) (hfM : zflN PA.2.2.1 1 1 (0, [(1, 1)]) = true) (hsp : zspC PA.2.2.1 = true) (hob : PA.2.2.1.any (fun q => Nat.beq q.1 1 && (match q.2 with
    | .inl (c, _) => Nat.beq c 12
    | _ => false)) = true) {y : Int32} (ey : y.toInt = i) (hi0 : 0 ≤ i) (hi6 : i + 6 ≤ (Lx : Int)) {n : Int32} (hn : xs (y + Int32.ofInt 1).toNatClampNeg = n) {t : Nat} (ht : t ≤ 600) {u : List Int} (hρ : ρ = (Lx : Int) :: (t : Int) :: i :: n.toInt :: u) (hη : η.length = 208) (hinj : zinj η hp1) (hpt : zptS η ρ PA L st hp1) (hT : ∀ q : Nat, (q : Int) < (t : Int) → zSof (zee η zxC) hp1 5 q &&& Int32.ofInt 255 = zSof (zee η zxM) hp1 1 q) {v1 : Value} (hv1 : v1.category = 1) (hr1 : ∀ r, (0 ≤ n.toInt → n.toInt ≤ (t : Int) → zRun (zSof (zee η zxM) hp1 1) n r) → v1 = .int (if n.toInt < 0 ∨ (t : Int) < n.toInt then Int32.ofInt (-2) else r)) (hLx : Lx ≤ 3072) (hca : ca ≤ (zrm 276).cells) (hsa : sa ≤ (zrm 276).slots)
    (IH : ∀ (i' : Int) (L' : zL) (hp' : List zhE), i < i' → zLI Lx L' hp' i' → zWP lk Lx xs 276 (23, L', [], hp', ca, sa) Q) : zWP lk Lx xs 276 (267, L, [v1], hp1, ca, sa) Q := by
  obtain ⟨p1, p2, p3, p4, p5, p6⟩ := id hpt
  rw [hPA] at p1
  subst hρ
  obtain ⟨a, b, o, y2, l0, l1, c1, l2, c2, l3, c3, l4, ey2⟩ := zLlk (i := i) p1 rfl
  have e2 : y2 = y := Int32.toInt_inj.1 (by rw [ey2, ey])
  subst e2
  refine zl_ldR (by rfl) l2 ?_
  refine zl_ldS (by rfl) l0 ?_
  refine zl_ldI (by rfl) l4 ?_
  refine zs0 (by rfl) rfl rfl ?_
  refine zl_iadd (by rfl) ?_
  refine zl_sld (by rfl) (zargI ey hi0 hi6 (k := 1) (by decide) (by decide) hLx) ?_
  rw [hn]
  obtain ⟨fs, hfs⟩ := zcobj p3 hob
  have eb : η.getD 1 0 = b := by rw [List.getD_eq_getElem?_getD, c2]; rfl
  rw [eb] at hfs
  have hpG : zptS η ((Lx : Int) :: (t : Int) :: i :: n.toInt :: u) PU L [.int n, .ref b] hp1 := by
    rw [hPU]
    exact ⟨hpt.1, ⟨⟨n, rfl, zxr_s rfl⟩, ⟨b, c2, rfl⟩, trivial⟩, p3, p4, p5, p6⟩
  have hW := zlcC_ok hz hu hη hinj hpG (by simp) (M := 30785 - 10 * i) (zrk rfl)
  have hF : ∀ m, zPn Lx xs m 182 (0, lv_args 0 [.ref b, .int n], [], hp1, 0, 0) _ := fun m => by
    have := ztxt2 (Lx := Lx) (xs := xs) (nn := n) (n := m) hη hinj p3 hkM hfM (zspC_ok p3 hsp) ht rfl
    rwa [show zee η zxM 0 = b from eb] at this
  refine zl_virt (vs := [.int n]) (st := [v1]) (by rfl) rfl hfs rfl (by show (2 : Nat) ≤ _; decide) (by first | (show v1.category + 0 ≤ 8; omega) | (simp [zsum, hv1])) zrm182.2.2.1 zrm182.2.2.2 hca hsa (hW.and (by decide) hF) ?_
  rintro rv hp2 ⟨⟨q', hq', -, ρ', r, ⟨l, hl⟩, g2, g3, g4, g5, g6, -, gk⟩, r2, f1, f2, f3⟩
  rw [List.mem_singleton] at hq'
  subst hq'
  have e0 : ρ'[0]? = some (Lx : Int) := by rw [hl]; rfl
  obtain ⟨ρ2, k1, k2, k3, -⟩ := zl253 g2 e0 l4 ey hi6
  have er := hr1 r2 f1
  subst er
  subst f2
  have kA : zSof (zee η zxC) hp2 5 = zSof (zee η zxC) hp1 5 := zSof_hp (zkeep (m := 3) hη hinj (by decide) zW_no.2.2.1 gk)
  have kB : zSof (zee η zxM) hp2 1 = zSof (zee η zxM) hp1 1 := zSof_hp (zkeep (m := 12) hη hinj (by decide) zW_no.2.2.2 gk)
  have em : (zSof (zee η zxM) hp1 0 1).toInt = (t : Int) := zxr_fun (zflN_ok (idx := zxM) (j := 0) p3 hfM rfl) (zxr_s rfl)
  have z0' : (Int32.ofInt 0).toInt = 0 := by decide
  have hT2 : zTA η hp2 := fun q hq => by
    rw [kA, kB]
    rcases f3 with e | e
    · rw [e, em] at hq
      exact hT q hq
    · rw [e, z0'] at hq
      omega
  refine zs_icmp (by rfl) (t := 1227) (by rfl) (fun hb => ?_) (fun hb => ?_)
  · exact zto23 (q := (1227, zlPC, (30784, [(2, -10)]))) zlt_e (List.forall_mem_nil _) rfl (by decide) zlPC_1 hη g3 k1 hT2 k2 k3 hLx hca hsa IH
  · exact absurd hb (by unfold zcb; simp)
end ZTX4
