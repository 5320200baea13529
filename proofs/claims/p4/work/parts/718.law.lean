/-! the law's run in the machine, where the second throw has what it stands on -/
section ZSE
variable {l : Launch} {Lx : Nat} {xs : Nat → Int32} {lk : ZLP}
def zLKokE (l : Launch) (Lx : Nat) (xs : Nat → Int32) (lk : ZLP) : Prop :=
  ∀ (vs : List Value) (hp : List zhE) (P : ZP), lk vs hp P →
  ∀ (p : Program) (e : Env) (s0 : State) (m : MethodId) (args : Array Value) (below : List Frame) (meth : Method) (c0 : Code) (Q0 : State → Prop) (D : va_G) (B : zB) (tA : Nat → ClassId) (H0 : Heap) (me : zMe) (pc c s : Nat) (rest : List Value), zC p s0 m args meth c0 me → zK D B tA Lx xs H0 s0 → zKY s0 → me.1.cls = "TinTowerLaw" → decode me.2.1 pc = .ok (.invokestatic 39, 3) → zsum rest ≤ 8 → c + 8 ≤ (zrm 276).cells → s + 100 ≤ (zrm 276).slots →
  ∀ (H : Heap) (locs : List Loc) (ls : Array Slot), zH D B tA H0 hp H → (∀ q ∈ locs, B.1 ≤ q.base) → ls.size = me.2.2.1 →
  (∀ rv hp', P rv hp' → ∀ (H1 : Heap) (locs1 : List Loc), zH D B tA H0 hp' H1 → (∀ q ∈ locs1, B.1 ≤ q.base) → W p l e (zrm 276) s0 m args below meth c0 H1 locs1 (c + 8) (s + 100) Q0 (F0 m (pc + 3) ls ((rv.map (zvm B)).toList ++ rest.map (zvm B)))) →
  W p l e (zrm 276) s0 m args below meth c0 H locs c s Q0 (F0 m pc ls ((vs.map (zvm B)).reverse ++ rest.map (zvm B)))
theorem zlk2_ok (htr : l.stackTraces = false) (hTB : zTBok) : zLKokE l Lx xs (zlk2 Lx xs) := by
  intro vs hp P hlk p e s0 m args below meth c0 Q0 D B tA H0 me pc c s rest hC hK hY hcls hd hrest hc hs H locs ls hzH hl hls kk
  obtain ⟨i, j, n0, n1, fs, g, rfl, hrec, hout, hW⟩ := hlk
  obtain ⟨hx, hb, hr, hml, hown, hts, hlocks, hnm⟩ := hC
  rw [hcls] at hown
  have hsig : ∀ sig, parseMethodDescriptor zyL.desc = some sig → 4 = sig.parameters.length := fun sig h => by
    have h2 : (parseMethodDescriptor zyL.desc).map (fun d => d.parameters.length) = some 4 := by decide +kernel
    rw [h] at h2
    exact (Option.some.inj h2).symm
  have hrun := vx_runSW (l := l) (e := e) (R := zrm 276) (below := below) (meth := meth) (H := H) (locs := locs) (cells := c) (slots := s) (Ts := ztab) (hh := zhh) (own := "TinTowerLaw") (g := F0 m pc ls ((([.ref i, .int n0, .int n1, .ref j] : List Value).map (zvm B)).reverse ++ rest.map (zvm B))) (As := ([.ref i, .int n0, .int n1, .ref j] : List Value).map (zvm B)) (rest := rest.map (zvm B)) (n := 4) (index := 39) (bytes := method_3_code) (maxL := 5) (ret := some .int) (rm := zrmL) ⟨hx, hb, hml, hown, hts⟩ (zlook2_l htr hTB hrec hout hW D B tA H0)
    ⟨⟨rfl, rfl, by decide +kernel, by decide +kernel, pay_in hts zwsL_in, List.mem_cons_self⟩, hts _ (zW1_tab (by simp [zW1])), hts _ (zW1_tab (by simp [zW1, zyL])), ⟨by decide, by decide⟩, hsig, hts _ (zW1_tab (by simp [zW1])), hts _ (zW1_tab (by simp [zW1]))⟩
    ⟨zPcE_blind, fun U hU hW => ⟨⟨rfl, by rw [hU]; exact hzH, hK.moved hW⟩, hY.moved hW⟩⟩ rfl rfl hls rfl (by show 2 * 0 + ((rest.map (zvm B)).map fun v => v.category).sum ≤ 8; rw [zsum_vm]; omega) hd ⟨hc, hs⟩
  exact zr_call hrun hl (fun st o t h => h) kk
def zShowE (l : Launch) (Lx : Nat) (xs : Nat → Int32) : zCF → ZP → Prop := fun z Q =>
  ∀ (me : zMe), zMeK 276 me → ∀ (p : Program) (e : Env) (s0 : State) (m : MethodId) (args : Array Value) (below : List Frame) (meth : Method) (c0 : Code) (Q0 : State → Prop) (D : va_G) (B : zB) (tA : Nat → ClassId) (H0 : Heap), zC p s0 m args meth c0 me → zK D B tA Lx xs H0 s0 → zKY s0 → zRet p l e (zrm 276) s0 m args below meth c0 Q0 D B tA H0 me Q → zGo p l e (zrm 276) s0 m args below meth c0 Q0 D B tA H0 me.2.2.1 z
def zXE (l : Launch) (Lx : Nat) (xs : Nat → Int32) : ZX := fun k z Q => (k < 276 → zShow l Lx xs k z Q) ∧ (k = 276 → zShowE l Lx xs z Q)
theorem zXE_lt (hTB : zTBok) {k : Nat} {z : zCF} {Q : ZP} (hk : k < 276) (hf : zFX lk Lx xs (zXE l Lx xs) k z Q) : zShow l Lx xs k z Q := by
  refine zshow_closed hTB zLK0 k z Q ?_
  obtain ⟨⟨pc', i, a, b, v⟩, hin, hpc, hf⟩ := hf
  simp only at hpc hf
  have call : ∀ {k' av st}, k' < 276 → zCall (zXE l Lx xs) k k' av st z Q → zCall (zShow l Lx xs) k k' av st z Q := fun hk' hc => by
    obtain ⟨h1, h2, h3, h4, P, h5, h6⟩ := hc
    exact ⟨h1, h2, h3, h4, P, h5.1 hk', fun rv hp' q => (h6 rv hp' q).1 hk⟩
  refine ⟨_, hin, hpc, ?_⟩
  simp only
  split at hf
  · obtain ⟨z', h4, h5⟩ := hf
    exact ⟨z', h4, h5.1 hk⟩
  · rename_i hkk
    obtain ⟨vs, a, st, fs, h4, h5, h6, h7⟩ := hf
    exact ⟨vs, a, st, fs, h4, h5, h6, call (zroom (by omega) hin (Or.inl hkk)).2 h7⟩
  · rename_i hkk
    obtain ⟨vs, st, h4, h5, h6⟩ := hf
    exact ⟨vs, st, h4, h5, call (zroom (by omega) hin (Or.inr (Or.inl hkk))).2 h6⟩
  · rename_i hkk
    obtain ⟨vs, a, st, h4, h5, h6⟩ := hf
    exact ⟨vs, a, st, h4, h5, call (zroom (by omega) hin (Or.inr (Or.inr hkk))).2 h6⟩
  · exact hf
  · exact hf
  · exact hf
  · rename_i n0 n1 n2 n3 n4 n5 n6
    obtain ⟨x, rfl, hb, rfl⟩ := zkind_7 (i := i) (a := a) (b := b) (v := v) (fun j hj e => by
      rcases (show j = 0 ∨ j = 1 ∨ j = 2 ∨ j = 3 ∨ j = 4 ∨ j = 5 ∨ j = 6 by omega) with rfl | rfl | rfl | rfl | rfl | rfl | rfl
      · exact n0 e
      · exact n1 e
      · exact n2 e
      · exact n3 e
      · exact n4 e
      · exact n5 e
      · exact n6 e)
    obtain ⟨m2, hm2, hOK, -, -⟩ := hTB k hk
    obtain ⟨m', hm, -⟩ := zf_stat (hOK _ hin) hb
    rw [zM_9999] at hm
    cases hm
set_option maxHeartbeats 4000000 in
theorem zXE_law (hTB : zTBok) (hlk : zLKokE l Lx xs lk) {z : zCF} {Q : ZP} (hf : zFX lk Lx xs (zXE l Lx xs) 276 z Q) : zShowE l Lx xs z Q := by
  intro me hMe p e s0 m args below meth c0 Q0 D B tA H0 hC hK hY hret
  have hk : 276 < 277 := by omega
  obtain ⟨⟨pc', i, a, b, v⟩, hin, hpc, hf⟩ := hf
  obtain ⟨pc, L, st, hp, c, s⟩ := z
  simp only at hpc hf
  subst hpc
  have hOKs : zkind i a b v ≠ 7 → zOK me (pc', i, a, b, v) := fun hk => by
    rcases hMe.1 _ hin with h | ⟨-, h1, h2, h3, h4, h5⟩
    · exact h
    · simp only at h1 h2 h3
      subst h1; subst h2; subst h3
      exact absurd rfl hk
  split at hf
  · rename_i hkk
    obtain ⟨z', h1, h2⟩ := hf
    rw [← hMe.2] at h1
    exact zone_ok h1 (hOKs (by rw [hkk]; decide)) hC hK (h2.2 rfl me hMe p e s0 m args below meth c0 Q0 D B tA H0 hC hK hY hret)
  · rename_i hkk
    obtain ⟨x, rfl⟩ := zkind_1 hkk
    have hOK := hOKs (by rw [hkk]; decide)
    obtain ⟨m', q, hm, hcal, hq, hq1, w1, w2, w3, w4⟩ := zf_virt hOK
    have hd := zf_dec hOK rfl
    obtain ⟨hR, hk'⟩ := zroom hk hin (Or.inl hkk)
    obtain ⟨vs, r, st', fs, rfl, hn, hrec, g1, g2, g3, g4, P, g5, g6⟩ := hf
    intro H locs ls k1 k2 k3
    have hM := zmet_show hTB hk' hm (g5.1 hk') g1
    have est : (vs.reverse ++ .ref r :: st').map (zvm B) = (vs.map (zvm B)).reverse ++ .ref (B.1 + r) :: st'.map (zvm B) := by
      rw [List.map_append, List.map_reverse]; rfl
    show W p l e (zrm 276) s0 m args below meth c0 H locs c s Q0 (F0 m pc' ls ((vs.reverse ++ .ref r :: st').map (zvm B)))
    rw [est]
    refine zr_virt hC hK k1 k2 k3.1 hm hcal w1 w2 w3 w4 hrec hq hq1 hM (by rw [(zmeK hTB hk' hm).1.2]; exact hR) ⟨g3, g4⟩ hn (by rw [zsum_vm]; exact g2) hd (fun rv hp' hP H1 locs1 n1 n2 => ?_)
    have f5 := (g6 rv hp' hP).2 rfl me hMe p e s0 m args below meth c0 Q0 D B tA H0 hC hK hY hret H1 locs1 ls n1 n2 k3
    rw [← zrv_map]
    exact f5
  · rename_i hkk
    obtain ⟨x, rfl, hb, ha⟩ := zkind_2 hkk
    have hOK := hOKs (by rw [hkk]; decide)
    obtain ⟨m', hm, hcal, w1, w2, w4⟩ := zf_stat hOK hb
    have hd := zf_dec hOK rfl
    obtain ⟨hR, hk'⟩ := zroom hk hin (Or.inr (Or.inl hkk))
    obtain ⟨vs, st', rfl, hn, g1, g2, g3, g4, P, g5, g6⟩ := hf
    intro H locs ls k1 k2 k3
    have hM := zmet_show hTB hk' hm (g5.1 hk') g1
    have est : (vs.reverse ++ st').map (zvm B) = (vs.map (zvm B)).reverse ++ st'.map (zvm B) := by
      rw [List.map_append, List.map_reverse]
    show W p l e (zrm 276) s0 m args below meth c0 H locs c s Q0 (F0 m pc' ls ((vs.reverse ++ st').map (zvm B)))
    rw [est]
    refine zr_stat hC hK k1 k2 k3.1 hm hcal w1 w2 w4 hM (by rw [(zmeK hTB hk' hm).1.2]; exact hR) ⟨g3, g4⟩ hn (by rw [zsum_vm]; exact g2) hd (fun rv hp' hP H1 locs1 n1 n2 => ?_)
    have f5 := (g6 rv hp' hP).2 rfl me hMe p e s0 m args below meth c0 Q0 D B tA H0 hC hK hY hret H1 locs1 ls n1 n2 k3
    rw [← zrv_map]
    exact f5
  · rename_i hkk
    obtain ⟨x, rfl, hv⟩ := zkind_3 hkk
    have hOK := hOKs (by rw [hkk]; decide)
    obtain ⟨m', hm, hcal, hn1, hn2, w1, w2, w4⟩ := zf_spec hOK hv
    have hd := zf_dec hOK rfl
    obtain ⟨hR, hk'⟩ := zroom hk hin (Or.inr (Or.inr hkk))
    obtain ⟨vs, r, st', rfl, hn, g1, g2, g3, g4, P, g5, g6⟩ := hf
    intro H locs ls k1 k2 k3
    have hM := zmet_show hTB hk' hm (g5.1 hk') g1
    have est : (vs.reverse ++ .ref r :: st').map (zvm B) = (vs.map (zvm B)).reverse ++ .ref (B.1 + r) :: st'.map (zvm B) := by
      rw [List.map_append, List.map_reverse]; rfl
    show W p l e (zrm 276) s0 m args below meth c0 H locs c s Q0 (F0 m pc' ls ((vs.reverse ++ .ref r :: st').map (zvm B)))
    rw [est]
    refine zr_spec hC hK k1 k2 k3.1 hm hcal hn1 hn2 w1 w2 w4 hM (by rw [(zmeK hTB hk' hm).1.2]; exact hR) ⟨g3, g4⟩ hn (by rw [zsum_vm]; exact g2) hd (fun rv hp' hP H1 locs1 n1 n2 => ?_)
    have f5 := (g6 rv hp' hP).2 rfl me hMe p e s0 m args below meth c0 Q0 D B tA H0 hC hK hY hret H1 locs1 ls n1 n2 k3
    rw [← zrv_map]
    exact f5
  · rename_i hkk
    obtain rfl := zkind_4 hkk
    have hOK := hOKs (by rw [hkk]; decide)
    have hd := zf_dec hOK rfl
    obtain ⟨g1, g2, x, rfl, g3, g4⟩ := hf
    intro H locs ls k1 k2 k3
    have hside := hOK.2.1
    simp only [zsd] at hside
    refine hret (some (.int x)) hp g4 H locs ls pc' c s k1 k2 g1 g2 (Or.inl ⟨hd, x, ?_⟩)
    split at hside
    · exact ⟨.int, rfl, of_decide_eq_true hside, rfl⟩
    · rename_i ha
      refine ⟨.boolean, rfl, of_decide_eq_true hside, ?_⟩
      rcases g3 with h | rfl | rfl
      · exact absurd h ha
      · decide
      · decide
  · rename_i hkk
    obtain rfl := zkind_5 hkk
    have hOK := hOKs (by rw [hkk]; decide)
    have hd := zf_dec hOK rfl
    obtain ⟨g1, g2, x, rfl, g4⟩ := hf
    intro H locs ls k1 k2 k3
    have hside := hOK.2.1
    simp only [zsd] at hside
    exact hret (some (.long x)) hp g4 H locs ls pc' c s k1 k2 g1 g2 (Or.inr (Or.inl ⟨hd, x, rfl, of_decide_eq_true hside⟩))
  · rename_i hkk
    obtain rfl := zkind_6 hkk
    have hOK := hOKs (by rw [hkk]; decide)
    have hd := zf_dec hOK rfl
    obtain ⟨g1, g2, rfl, g4⟩ := hf
    intro H locs ls k1 k2 k3
    have hside := hOK.2.1
    simp only [zsd] at hside
    exact hret none hp g4 H locs ls pc' c s k1 k2 g1 g2 (Or.inr (Or.inr ⟨hd, rfl, of_decide_eq_true hside⟩))
  · rename_i n0 n1 n2 n3 n4 n5 n6
    obtain ⟨x, rfl, hb, rfl⟩ := zkind_7 (i := i) (a := a) (b := b) (v := v) (fun j hj e => by
      rcases (show j = 0 ∨ j = 1 ∨ j = 2 ∨ j = 3 ∨ j = 4 ∨ j = 5 ∨ j = 6 by omega) with rfl | rfl | rfl | rfl | rfl | rfl | rfl
      · exact n0 e
      · exact n1 e
      · exact n2 e
      · exact n3 e
      · exact n4 e
      · exact n5 e
      · exact n6 e)
    have hsp : 276 = 276 ∧ zSp me (pc', .invokestatic x, 9999, b, v) := by
      rcases hMe.1 _ hin with h | h
      · obtain ⟨m', hm, -⟩ := zf_stat h hb
        rw [zM_9999] at hm
        cases hm
      · exact h
    obtain ⟨-, s1, s2, s3, s4, s5⟩ := hsp
    simp only at s1 s3 s4
    obtain ⟨vs, st', rfl, g1, g2, g3, P, g4, g5⟩ := hf
    intro H locs ls k1 k2 k3
    have est : (vs.reverse ++ st').map (zvm B) = (vs.map (zvm B)).reverse ++ st'.map (zvm B) := by
      rw [List.map_append, List.map_reverse]
    show W p l e (zrm 276) s0 m args below meth c0 H locs c s Q0 (F0 m pc' ls ((vs.reverse ++ st').map (zvm B)))
    rw [est]
    refine hlk vs hp P g4 p e s0 m args below meth c0 Q0 D B tA H0 me pc' c s st' hC hK hY s5 s4 g1 g2 g3 H locs ls k1 k2 k3.1 (fun rv hp' hP H1 locs1 n1 n2 => ?_)
    have f5 := (g5 rv hp' hP).2 rfl me hMe p e s0 m args below meth c0 Q0 D B tA H0 hC hK hY hret H1 locs1 ls n1 n2 k3
    rw [← zrv_map]
    exact f5
theorem zWP_okE (hTB : zTBok) (hlk : zLKokE l Lx xs lk) {z : zCF} {Q : ZP} (h : zWP lk Lx xs 276 z Q) : zShowE l Lx xs z Q :=
  (h (zXE l Lx xs) (fun k z Q hf => ⟨fun hk => zXE_lt hTB hk hf, fun hk => by subst hk; exact zXE_law hTB hlk hf⟩)).2 rfl
end ZSE
