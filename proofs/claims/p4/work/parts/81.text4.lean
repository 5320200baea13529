/-! behind text's model call: fault and place are the same on both sides, so they share their symbols again -/
def zmf (s : Nat) : Nat := zMfl.getD s 0
theorem zmf_ok : ∀ s, s < 111 → zmf s < 109 ∧ (zPi.getD (zmf s) 0 = s ∨ (s = 45 ∧ zPi.getD (zmf s) 0 = 5) ∨ (s = 46 ∧ zPi.getD (zmf s) 0 = 6)) := by decide +kernel
theorem zPi_len : zPi.length = 109 ∧ zPi.getD 0 0 = 0 ∧ zPi.getD 2 0 = 1 ∧ zPi.all (fun s => Nat.ble (s + 1) 111) = true := by decide
theorem zl277_C : zlP277.2.2.1.map (fun q => (id q.1, zreC id zmf q.2)) = zlPC.2.2.1 := zeqP_ok (by decide +kernel)
theorem zl277_ok : zlP277.2.2.1.all (fun q => Nat.ble (q.1 + 1) 208 && zokC 208 q.2) = true := by decide +kernel
theorem zl277_L : zlP277.1.map (fun q => (q.1, zreV id zmf q.2)) = zlPC.1 ∧ zlP277.1.all (fun q => zokV 208 q.2) = true := by decide +kernel
theorem zl277_E : zlPC.2.2.2.1 = zPi.map (fun s => zlP277.2.2.2.1.getD s (0, 0)) ∧ zlP277.2.2.2.1.length = 111 := by decide +kernel
theorem zl277_O : zlP277.2.2.2.2.2 = zlPC.2.2.2.2.2 := by decide +kernel
theorem zl277_f : zflN zlP277.2.2.1 1 4 (0, [(5, 1)]) = true ∧ zflN zlP277.2.2.1 1 5 (0, [(6, 1)]) = true ∧ zflN zlP277.2.2.1 5 4 (0, [(45, 1)]) = true ∧ zflN zlP277.2.2.1 5 5 (0, [(46, 1)]) = true := by decide +kernel
set_option maxRecDepth 100000 in
theorem zl277 {Lx : Nat} {η : List Nat} {ρ : List Int} {L : zL} {st : List Value} {hp : List zhE} {i : Int} (hpt : zptS η ρ zlP277 L st hp) (h0 : ρ[0]? = some (Lx : Int)) {y : Int32} (l4 : zlk L 4 = some (.int y)) (ey : y.toInt = i) (hi6 : i + 6 ≤ (Lx : Int)) (f4 : zSof (zee η zxC) hp 0 4 = zSof (zee η zxM) hp 0 4) (f5 : zSof (zee η zxC) hp 0 5 = zSof (zee η zxM) hp 0 5) : ∃ ρ', zptS η ρ' zlPC L [] hp ∧ ρ'[0]? = some (Lx : Int) ∧ ρ'[2]? = some i ∧ ∃ v, st = [v] ∧ v.category = 1 := by
  obtain ⟨p1, p2, p3, p4, p5, p6⟩ := hpt
  have hlen : ρ.length = 111 := by rw [← p4.1]; exact zl277_E.2
  have hg : ∀ s, s < 111 → ρ[s]? = some (ρ.getD s 0) := fun s hs => by
    rw [List.getD_eq_getElem?_getD, List.getElem?_eq_getElem (by omega)]
    rfl
  obtain ⟨g1, g2, g3, g4⟩ := zl277_f
  have k5 : ρ.getD 45 0 = ρ.getD 5 0 := by
    have a1 := zxr_fun (zflN_ok (idx := zxM) (j := 0) p3 g1 rfl) (zxr_s (hg 5 (by decide)))
    have a2 := zxr_fun (zflN_ok (idx := zxC) (j := 0) p3 g3 rfl) (zxr_s (hg 45 (by decide)))
    rw [← a1, ← a2, f4]
  have k6 : ρ.getD 46 0 = ρ.getD 6 0 := by
    have a1 := zxr_fun (zflN_ok (idx := zxM) (j := 0) p3 g2 rfl) (zxr_s (hg 6 (by decide)))
    have a2 := zxr_fun (zflN_ok (idx := zxC) (j := 0) p3 g4 rfl) (zxr_s (hg 46 (by decide)))
    rw [← a1, ← a2, f5]
  have hget : ∀ j, j < 109 → (zPi.map (fun s => ρ.getD s 0))[j]? = some (ρ.getD (zPi.getD j 0) 0) := fun j hj => by
    rw [List.getElem?_map, List.getD_eq_getElem?_getD (l := zPi), List.getElem?_eq_getElem (by rw [zPi_len.1]; exact hj)]
    rfl
  have hf : ∀ (s : Nat) (x : Int), ρ[s]? = some x → (zPi.map (fun s => ρ.getD s 0))[zmf s]? = some x := fun s x hx => by
    have hs : s < 111 := by rw [← hlen]; exact (List.getElem?_eq_some_iff.mp hx).1
    have hx2 : ρ.getD s 0 = x := by
      rw [hg s hs] at hx
      exact Option.some.inj hx
    obtain ⟨b1, b2⟩ := zmf_ok s hs
    rw [hget _ b1, ← hx2]
    rcases b2 with b2 | ⟨b3, b2⟩ | ⟨b3, b2⟩
    · rw [b2]
    · rw [b2, b3, k5]
    · rw [b2, b3, k6]
  have q1 : zaL η (zPi.map (fun s => ρ.getD s 0)) zlPC.1 L := by
    rw [← zl277_L.1]
    exact zreL_ok zpid hf zl277_L.2 p1
  have q3 := zreCl_ok (f := zmf) (ρ' := zPi.map (fun s => ρ.getD s 0)) zpid hf zl277_ok p3
  rw [zl277_C] at q3
  have qE : zaE (zPi.map (fun s => ρ.getD s 0)) zlPC.2.2.2.1 := by
    rw [zl277_E.1]
    refine ⟨by rw [List.length_map, List.length_map], fun j q x hq hx => ?_⟩
    rw [List.getElem?_map] at hq hx
    cases hz : zPi[j]? with
    | none => rw [hz] at hq; cases hq
    | some s =>
      rw [hz] at hq hx
      cases hq
      cases hx
      have hs : s < 111 := Nat.le_of_ble_eq_true (List.all_eq_true.mp zPi_len.2.2.2 s (List.mem_of_getElem? hz))
      refine p4.2 s _ _ ?_ (hg s hs)
      show zlP277.2.2.2.1[s]? = some (zlP277.2.2.2.1.getD s (0, 0))
      rw [List.getD_eq_getElem?_getD, List.getElem?_eq_getElem (by rw [zl277_E.2]; exact hs)]
      rfl
  have r0 : (zPi.map (fun s => ρ.getD s 0))[0]? = some (Lx : Int) := by
    rw [hget 0 (by decide), zPi_len.2.1]
    rw [hg 0 (by decide)] at h0
    exact h0
  obtain ⟨b, hb⟩ : ∃ b, (zPi.map (fun s => ρ.getD s 0))[2]? = some b := ⟨_, hget 2 (by decide)⟩
  obtain ⟨-, -, -, y2, -, -, -, -, -, -, -, k4, e2⟩ := zLlk (i := b) q1 hb
  cases l4.symm.trans k4
  have eb : b = i := e2.symm.trans ey
  subst eb
  exact ⟨_, ⟨q1, trivial, q3, qE, by rw [zl253_O.2]; exact zlF1 (Lx := Lx) r0 hb hi6, by rw [← zl277_O]; exact p6⟩, r0, hb, zstk1 p2⟩
/-! text's turn: the model's call and the comparison -/
section ZTX4
variable {lk : ZLP} {Lx : Nat} {xs : Nat → Int32} {η : List Nat} {ρ : List Int} {L : zL} {st : List Value} {hp1 : List zhE} {i : Int} {ca sa : Nat} {Q : ZP}
theorem zW3_no : 3 ∉ zlW3 ∧ 12 ∉ zlW3 ∧ 5 ∉ zlW3 := by decide
theorem zW4_no : 3 ∉ zlW4 ∧ 12 ∉ zlW4 ∧ 1 ∉ zlW4 := by decide
theorem zrm182 : (zrm 121).cells = 0 ∧ (zrm 121).slots = 0 ∧ (zrm 182).cells = 0 ∧ (zrm 182).slots = 0 := by decide +kernel
theorem zob182 : zlPVA.2.2.1.any (fun q => Nat.beq q.1 1 && (match q.2 with
    | .inl (c, _) => Nat.beq c 12
    | _ => false)) = true ∧ zlPVB.2.2.1.any (fun q => Nat.beq q.1 1 && (match q.2 with
    | .inl (c, _) => Nat.beq c 12
    | _ => false)) = true ∧ zlPVC.2.2.1.any (fun q => Nat.beq q.1 1 && (match q.2 with
    | .inl (c, _) => Nat.beq c 12
    | _ => false)) = true := by decide +kernel
set_option maxRecDepth 100000 in
theorem zlU_e : zlPUA = (zlPVA.1, [(0, (0, [(3, 1)])), (2, (1, []))], zlPVA.2.2) ∧ zlPUB = (zlPVB.1, [(0, (0, [(3, 1)])), (2, (1, []))], zlPVB.2.2) ∧ zlPUC = (zlPVC.1, [(0, (0, [(3, 1)])), (2, (1, []))], zlPVC.2.2) ∧ zlPVA.1 = zlLL ∧ zlPVB.1 = zlLL ∧ zlPVC.1 = zlLL := ⟨rfl, rfl, rfl, rfl, rfl, rfl⟩
set_option maxRecDepth 100000 in
theorem ztxtB {PA PU : PT} (hz : zlcC zlW3 [(278, zlP277, (30784, [(1, -10)]))] zu_182 1 278 (275, PU, (30785, [(2, -10)])) = true) (hu : zHolds lk Lx xs zu_182) (hPU : PU = (PA.1, [(0, (0, [(3, 1)])), (2, (1, []))], PA.2.2)) (hPA : PA.1 = zlLL) (hkM : zokD zxM [] PA.2.2.1 zDM 0 = true) (hfM : zflN PA.2.2.1 1 1 (0, [(1, 1)]) = true) (hsp : zspC PA.2.2.1 = true) (hob : PA.2.2.1.any (fun q => Nat.beq q.1 1 && (match q.2 with
    | .inl (c, _) => Nat.beq c 12
    | _ => false)) = true) {y : Int32} (ey : y.toInt = i) (hi0 : 0 ≤ i) (hi6 : i + 6 ≤ (Lx : Int)) {n : Int32} (hn : xs (y + Int32.ofInt 1).toNatClampNeg = n) {t : Nat} (ht : t ≤ 600) {u : List Int} (hρ : ρ = (Lx : Int) :: (t : Int) :: i :: n.toInt :: u) (hη : η.length = 208) (hinj : zinj η hp1) (hpt : zptS η ρ PA L st hp1) (hT : ∀ q : Nat, (q : Int) < (t : Int) → zSof (zee η zxC) hp1 5 q &&& Int32.ofInt 255 = zSof (zee η zxM) hp1 1 q) {v1 : Value} (hv1 : v1.category = 1) (hr1 : ∀ r S', (0 ≤ n.toInt → n.toInt ≤ (t : Int) → zRun (zSof (zee η zxM) hp1 1) n r S') → ((n.toInt < 0 ∨ (t : Int) < n.toInt) → zSof (zee η zxC) hp1 0 4 = zSof (zee η zxM) hp1 0 4 ∧ zSof (zee η zxC) hp1 0 5 = zSof (zee η zxM) hp1 0 5) ∧ (0 ≤ n.toInt → n.toInt ≤ (t : Int) → zSof (zee η zxC) hp1 0 4 = S' 0 4 ∧ zSof (zee η zxC) hp1 0 5 = S' 0 5)) (hLx : Lx ≤ 3072) (hca : ca ≤ (zrm 276).cells) (hsa : sa ≤ (zrm 276).slots)
    (IH : ∀ (i' : Int) (L' : zL) (hp' : List zhE), i < i' → zLI Lx L' hp' i' → zWP lk Lx xs 276 (23, L', [], hp', ca, sa) Q) : zWP lk Lx xs 276 (267, L, [v1], hp1, ca, sa) Q := by
  obtain ⟨p1, p2, p3, p4, p5, p6⟩ := id hpt
  rw [hPA] at p1
  subst hρ
  obtain ⟨a, b, o, y2, l0, l1, c1, l2, c2, l3, c3, l4, ey2⟩ := zLlk (i := i) p1 rfl
  have e2 : y2 = y := Int32.toInt_inj.1 (by rw [ey2, ey])
  subst e2
  refine zl_pop (by rfl) hv1 ?_
  refine zl_ldR (by rfl) l2 ?_
  refine zl_ldS (by rfl) l0 ?_
  refine zl_ldI (by rfl) l4 ?_
  refine zs0 (by rfl) rfl rfl ?_
  refine zl_iadd (by rfl) ?_
  refine zl_sld (by rfl) (zargI ey hi0 hi6 (k := 1) (by decide) (by decide) hLx) ?_
  rw [hn]
  obtain ⟨fs, hfs⟩ := zcobj p3 hob
  have eb : η.getD 1 0 = b := by rw [List.getD_eq_getElem?_getD, c2]; rfl
  rw [eb] at hfs
  have hpG : zptS η ((Lx : Int) :: (t : Int) :: i :: n.toInt :: u) PU L [.int n, .ref b] hp1 := by
    rw [hPU]
    exact ⟨hpt.1, ⟨⟨n, rfl, zxr_s rfl⟩, ⟨b, c2, rfl⟩, trivial⟩, p3, p4, p5, p6⟩
  have hW := zlcC_ok hz hu hη hinj hpG (by simp) (M := 30785 - 10 * i) (zrk rfl)
  have hF : ∀ m, zPn Lx xs m 182 (0, lv_args 0 [.ref b, .int n], [], hp1, 0, 0) _ := fun m => by
    have := ztxt2 (Lx := Lx) (xs := xs) (nn := n) (n := m) hη hinj p3 hkM hfM (zspC_ok p3 hsp) ht rfl
    rwa [show zee η zxM 0 = b from eb] at this
  refine zl_virt (vs := [.int n]) (st := []) (by rfl) rfl hfs rfl (by show (2 : Nat) ≤ _; decide) (by decide) zrm182.2.2.1 zrm182.2.2.2 hca hsa (hW.and (by decide) hF) ?_
  rintro rv hp2 ⟨⟨q', hq', -, ρ', r, ⟨l, hl⟩, g2, g3, g4, g5, g6, -, gk⟩, r2, S2, f1, f2, f3, f4, f5⟩
  rw [List.mem_singleton] at hq'
  subst hq'
  have e0 : ρ'[0]? = some (Lx : Int) := by rw [hl]; rfl
  obtain ⟨o1, o2⟩ := hr1 r2 S2 f1
  have kR : zSof (zee η zxC) hp2 0 = zSof (zee η zxC) hp1 0 := zSof_hp (zkeep (m := 5) hη hinj (by decide) zW3_no.2.2 gk)
  have hf : zSof (zee η zxC) hp2 0 4 = zSof (zee η zxM) hp2 0 4 ∧ zSof (zee η zxC) hp2 0 5 = zSof (zee η zxM) hp2 0 5 := by
    rw [kR]
    by_cases g : n.toInt < 0 ∨ (t : Int) < n.toInt
    · rw [(f4 g).1, (f4 g).2]
      exact o1 g
    · rw [(f5 (by omega) (by omega)).1, (f5 (by omega) (by omega)).2]
      exact o2 (by omega) (by omega)
  obtain ⟨ρ2, k1, k2, k3, v2, hv2, hv3⟩ := zl277 g2 e0 l4 ey hi6 hf.1 hf.2
  have kA : zSof (zee η zxC) hp2 5 = zSof (zee η zxC) hp1 5 := zSof_hp (zkeep (m := 3) hη hinj (by decide) zW3_no.1 gk)
  have kB : zSof (zee η zxM) hp2 1 = zSof (zee η zxM) hp1 1 := zSof_hp (zkeep (m := 12) hη hinj (by decide) zW3_no.2.1 gk)
  have em : (zSof (zee η zxM) hp1 0 1).toInt = (t : Int) := zxr_fun (zflN_ok (idx := zxM) (j := 0) p3 hfM rfl) (zxr_s rfl)
  have z0' : (Int32.ofInt 0).toInt = 0 := by decide
  have hT2 : zTA η hp2 := fun q hq => by
    rw [kA, kB]
    rcases f3 with e | e
    · rw [e, em] at hq
      exact hT q hq
    · rw [e, z0'] at hq
      omega
  rw [hv2]
  refine zl_pop (by rfl) hv3 ?_
  refine zs0 (by rfl) rfl rfl ?_
  exact zto23 (q := (1227, zlPC, (30784, [(2, -10)]))) zlt_e (List.forall_mem_nil _) rfl (by decide) zlPC_1 hη g3 k1 hT2 k2 k3 hLx hca hsa IH
end ZTX4
