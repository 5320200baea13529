/-! the claim's own room: each call of the law's fits it -/
theorem zrL_c : (zrm 276).cells = room_1.cells := by decide +kernel
theorem zrL_s : (zrm 276).slots = room_1.slots := by decide +kernel
def zrokL : Bool := (zrw 276).1.all (fun e => match zkind e.2.1 e.2.2.1 e.2.2.2.1 e.2.2.2.2 with
  | 1 => Nat.ble ((zrm e.2.2.1).frames + 1) room_1.frames && Nat.ble (8 + ((zrw e.2.2.1).2.1 + 11) + (zrm e.2.2.1).locals) room_1.locals
  | 2 => Nat.ble ((zrm e.2.2.1).frames + 1) room_1.frames && Nat.ble (8 + ((zrw e.2.2.1).2.1 + 11) + (zrm e.2.2.1).locals) room_1.locals
  | 3 => Nat.ble ((zrm e.2.2.1).frames + 1) room_1.frames && Nat.ble (8 + ((zrw e.2.2.1).2.1 + 11) + (zrm e.2.2.1).locals) room_1.locals
  | _ => true)
set_option maxRecDepth 20000 in
theorem zrokL_ok : zrokL = true := by decide +kernel
theorem zroomL {e : zPE} (he : e ∈ (zrw 276).1) (hc : zkind e.2.1 e.2.2.1 e.2.2.2.1 e.2.2.2.2 = 1 ∨ zkind e.2.1 e.2.2.1 e.2.2.2.1 e.2.2.2.2 = 2 ∨ zkind e.2.1 e.2.2.1 e.2.2.2.1 e.2.2.2.2 = 3) : (zrm e.2.2.1).frames + 1 ≤ room_1.frames ∧ 8 + ((zrw e.2.2.1).2.1 + 11) + (zrm e.2.2.1).locals ≤ room_1.locals := by
  have h := List.all_eq_true.mp zrokL_ok e he
  generalize zkind e.2.1 e.2.2.1 e.2.2.2.1 e.2.2.2.2 = kk at h hc
  rcases hc with rfl | rfl | rfl
  all_goals
    have h : (Nat.ble ((zrm e.2.2.1).frames + 1) room_1.frames && Nat.ble (8 + ((zrw e.2.2.1).2.1 + 11) + (zrm e.2.2.1).locals) room_1.locals) = true := h
    rw [Bool.and_eq_true] at h
    exact ⟨Nat.le_of_ble_eq_true h.1, Nat.le_of_ble_eq_true h.2⟩
def zinv : Instr → Bool
  | .invokestatic _ => true
  | .invokespecial _ => true
  | _ => false
theorem zone_R {pc : Nat} {L : zL} {st : List Value} {hp : List zhE} {c s Lx : Nat} {xs : Nat → Int32} {nL : Nat} {R R' : Room} {i : Instr} {a b : Nat} {v : Int} (h1 : R.cells = R'.cells) (h2 : R.slots = R'.slots) (hi : zinv i = false) : zone pc L st hp c s Lx xs nL R i a b v = zone pc L st hp c s Lx xs nL R' i a b v := by
  cases i <;> first | (cases hi; done) | (unfold zone znw; rw [h1, h2]; done) | (unfold zone znwa; rw [h1, h2]; done) | rfl
set_option maxRecDepth 20000 in
theorem zlaw_inv : (zrw 276).1.all (fun e => !(Nat.beq (zkind e.2.1 e.2.2.1 e.2.2.2.1 e.2.2.2.2) 0) || !(zinv e.2.1)) = true := by decide +kernel
def zrmM : Room := { frames := 9, locals := 350, cells := 8, slots := 100 }
/-- the law's own look keeps what it shows, and catches either -/
theorem zlook3_l {l : Launch} (htr : l.stackTraces = false) (hTB : zTBok) {Lx : Nat} {xs : Nat → Int32} {hp : List zhE} {i j : Nat} {n0 n1 : Int32} {g : Nat → Int64} {P : ZP} {fs : List Value}
    (hrec : hp[i]? = some (.inr (11, fs))) (hout : hp[j]? = some (.inl (1, 1, .inr (.inl g)))) (hW : zWP zlk0 Lx xs 124 (0, lv_args 0 [.ref i, .int n0], [], hp, 0, 0) (zlkA Lx xs hp P i j n0 n1 g)) (D : va_G) (B : zB) (tA : Nat → ClassId) (H0 : Heap) :
    Met l zyL zwsL zrmM (zPcE D B tA Lx xs H0 [.ref i, .int n0, .int n1, .ref j] hp) (zQc D B tA H0 P) 8 100 (fun q => B.1 ≤ q) := by
  refine va_MetW (cc := method_3_code) (maxL := 5) (ret := some .int) (hh := zhh) (ws' := ztab) (by decide +kernel) rfl ?_
  intro p e s m args below meth c s₁ Bd hml hv
  obtain ⟨⟨rfl, hH, hK⟩, hY⟩ := hv
  have hts0 : ∀ w ∈ zwsL, w.before (([.ref i, .int n0, .int n1, .ref j] : List Value).map (zvm B)).toArray s = true := atoms_spec (ws := zwsL) Bd.pre
  have hts : ∀ w ∈ ztab, w.before (([.ref i, .int n0, .int n1, .ref j] : List Value).map (zvm B)).toArray s = true := fun w hw => hts0 w (List.mem_cons_of_mem _ hw)
  have hown : s.vm.findClass "TinTowerLaw" = some m.cls := findClass_of_methodNamed Bd.named
  have htab : c.exceptionTable.toList = tableOf zhh := vx_table (x := zyL) Bd (hts0 _ List.mem_cons_self)
  have hl := lv_entry (([.ref i, .int n0, .int n1, .ref j] : List Value).map (zvm B)) (n := 5) (by rw [zlg_sl]; exact Nat.le_succ 4)
  have hx := Bd.exec
  have hb : c.code = method_3_code := Bd.bytes
  have hKX : zKX B H0 s := hK.2.2.2.2.2
  have hC : zC p s m (([.ref i, .int n0, .int n1, .ref j] : List Value).map (zvm B)).toArray meth c zmLk := ⟨Bd.exec, Bd.bytes, Bd.returns, hml, hown, hts, Bd.notSynchronized, fun h => absurd h (by decide)⟩
  rw [lg_entry_eq]
  rw [zmL_args] at hl
  have body : ∀ ls : Array Slot, lv_has ls 5 (zmL B (lv_args 0 [.ref i, .int n0, .int n1, .ref j])) → W p l e zrmM s m (([.ref i, .int n0, .int n1, .ref j] : List Value).map (zvm B)).toArray below meth c s.heap [] 0 0 (MQ below (zQc D B tA H0 P) (([.ref i, .int n0, .int n1, .ref j] : List Value).map (zvm B)).toArray s 8 100 (fun q => B.1 ≤ q)) (F0 m 0 ls []) := by
    intro ls hls
    refine lv_aload_n hx hb (k := 3) (i := 3) (x := B.1 + j) (by decide +kernel) rfl (lv_at hls 3 rfl) ?_
    refine lv_iconst hx hb (n := 0) (v := 0) (by decide +kernel) rfl ?_
    refine lv_aload_n hx hb (k := 0) (i := 0) (x := B.1 + i) (by decide +kernel) rfl (lv_at hls 0 rfl) ?_
    refine lv_iload_n hx hb (k := 1) (i := 1) (x := n0) (by decide +kernel) rfl (lv_at hls 1 rfl) ?_
    refine lv_iload_n hx hb (k := 2) (i := 2) (x := n1) (by decide +kernel) rfl (lv_at hls 2 rfl) ?_
    have hrv := va_recv hK.1 (hH.one hrec (show (11 : Nat) < 13 by decide)) (q0 := 0) (q := (zcl[11]?).getD zcl[0]) rfl rfl
    refine zx_call2 (vx_runV (Ts := ztab) (own := "TinTowerLaw") (C := "TinTower") (b := B.1 + i) (As := [.int n0, .int n1]) (n := 2) (rest := [.int 0, .ref (B.1 + j)]) (bytes := zm127.2.1) (maxL := zm127.2.2.1) (ret := zm127.2.2.2) (index := 7) ⟨hx, hb, hml, hown, hts⟩ (zlook2_x htr hTB hrec hW D B tA H0) ⟨zcall_b hts zM127 (by decide +kernel) (hts _ (zW1_tab (by simp [zW1]))) (hts _ (zW1_tab (by simp [zW1, zm127]))) (by decide +kernel), hts _ (zW1_tab (by simp [zW1])), hts _ (zW1_tab (by simp [zW1]))⟩ ⟨zPcE_blind, hrv, fun U hU hW => ⟨⟨rfl, by rw [hU]; exact hH, hK.moved hW⟩, hY.moved hW⟩⟩ rfl rfl hls.1 rfl (show 2 * 0 + (1 + (1 + 0)) ≤ 8 by omega) (show decode method_3_code 5 = .ok (.invokevirtual 7, 3) by decide +kernel) (by decide +kernel)) ?_ ?_
    · -- it has shown
      intro v st t L hq hL
      obtain ⟨v', hp', ho, ⟨⟨m1, rfl⟩, y, rfl, hPy⟩, hHt⟩ := hq
      have ev : v = some (.int y) := by
        have : v = Option.map (zvm B) (some (.int y)) := by injection ho
        exact this
      subst ev
      have hj2 : (hp ++ m1)[j]? = some (.inl (1, 1, .inr (.inl g))) := by rw [List.getElem?_append_left (List.getElem?_eq_some_iff.mp hout).1]; exact hout
      have go : ∀ Q0 : State → Prop, zGo p l e zrmM s m (([.ref i, .int n0, .int n1, .ref j] : List Value).map (zvm B)).toArray below meth c Q0 D B tA H0 5 (22, lv_args 0 [.ref i, .int n0, .int n1, .ref j], [.int 0], (hp ++ m1).set j (.inl (1, 1, .inr (.inl (va_up g 0 y.toInt64)))), 4, 50) → zGo p l e zrmM s m (([.ref i, .int n0, .int n1, .ref j] : List Value).map (zvm B)).toArray below meth c Q0 D B tA H0 5 (8, lv_args 0 [.ref i, .int n0, .int n1, .ref j], [.int y, .int 0, .ref j], hp ++ m1, 4, 50) := fun Q0 h => by
        refine zone_ok (me := zmLk) (Lx := Lx) (xs := xs) (i := .i2l) (a := 0) (b := 0) (v := 0) (z := (9, lv_args 0 [.ref i, .int n0, .int n1, .ref j], [.long y.toInt64, .int 0, .ref j], hp ++ m1, 4, 50)) rfl ⟨by decide +kernel, rfl, fun w hw => absurd hw List.not_mem_nil⟩ hC hK ?_
        refine zone_ok (me := zmLk) (Lx := Lx) (xs := xs) (i := .lastore) (a := 0) (b := 0) (v := 0) (z := (10, lv_args 0 [.ref i, .int n0, .int n1, .ref j], [], (hp ++ m1).set j (.inl (1, 1, .inr (.inl (va_up g 0 y.toInt64)))), 4, 50)) ?_ ⟨by decide +kernel, rfl, fun w hw => absurd hw List.not_mem_nil⟩ hC hK ?_
        · show zasL 9 (lv_args 0 [.ref i, .int n0, .int n1, .ref j]) [.long y.toInt64, .int 0, .ref j] (hp ++ m1) 4 50 = _
          unfold zasL
          have hz : zin 0 1 = true := by decide
          simp only [hj2, Nat.beq_refl, hz, Bool.and_self]
          rfl
        refine zone_ok (me := zmLk) (Lx := Lx) (xs := xs) (i := .goto 11) (a := 0) (b := 0) (v := 0) (z := (21, lv_args 0 [.ref i, .int n0, .int n1, .ref j], [], (hp ++ m1).set j (.inl (1, 1, .inr (.inl (va_up g 0 y.toInt64)))), 4, 50)) rfl ⟨by decide +kernel, rfl, fun w hw => absurd hw List.not_mem_nil⟩ hC hK ?_
        exact zone_ok (me := zmLk) (Lx := Lx) (xs := xs) (i := .iconst 0) (a := 0) (b := 0) (v := 0) rfl ⟨by decide +kernel, rfl, fun w hw => absurd hw List.not_mem_nil⟩ hC hK h
      refine go _ ?_ t.heap _ ls hHt (fun q hq => by
        rcases List.mem_append.mp hq with h | h
        · exact absurd h List.not_mem_nil
        · exact hL q h) hls
      intro H2 locs2 ls2 hH2 hl2 hls2
      show W p l e zrmM s m _ below meth c H2 locs2 4 50 _ (F0 m 22 ls2 [.int 0])
      refine W.widen (k := 8) (n := 100) (by decide) (by decide) ?_
      exact W.iret hx hb Bd.returns (fun t' ht _ => ⟨some (.int 0), _, rfl, hPy m1, by rw [ht]; exact hH2⟩) hl2 (by decide +kernel) Bd.notSynchronized
    · intro E ce q st t L hXC hce hcv hcl hL
      have hL2 : ∀ q ∈ [] ++ L, B.1 ≤ q.base := fun q hq => by
        rcases List.mem_append.mp hq with h | h
        · exact absurd h List.not_mem_nil
        · exact hL q h
      rcases hXC with ⟨rfl, m1, hHt, hP1⟩ | ⟨rfl, m1, hHt, hP2⟩
      · refine vx_catch (own := "TinTowerLaw") (name := zIE) (E := zIE) (ce := ce) hown [] ⟨0, 10, 13, 13⟩ [⟨0, 10, 17, 15⟩] (htab.trans rfl) (fun z hz => absurd hz List.not_mem_nil) (by decide +kernel) (by decide +kernel) (hts _ (zW1_tab (by simp [zW1]))) (va_Nw.use rfl (hKX.2.1 _ _ (zW3_in _ (by simp [zW3])))) hce hcv hcl ?_
        refine lv_astore hx hb (i := 4) (nL := 5) (by decide +kernel) hls (by decide) rfl (fun ls2 hls2 => ?_)
        refine lv_iconst hx hb (n := 1) (v := 1) (by decide +kernel) rfl ?_
        refine W.widen (k := 8) (n := 100) (by decide) (by decide) ?_
        exact W.iret hx hb Bd.returns (fun t' ht _ => ⟨some (.int 1), _, rfl, hP1, by rw [ht]; exact hHt⟩) hL2 (by decide +kernel) Bd.notSynchronized
      · refine vx_catch (own := "TinTowerLaw") (name := zNE) (E := zNE) (ce := ce) hown [⟨0, 10, 13, 13⟩] ⟨0, 10, 17, 15⟩ [] (htab.trans rfl) (fun z hz => by
          rw [List.mem_singleton] at hz
          subst hz
          exact Or.inr ⟨by decide, zIE, hts _ (zW1_tab (by simp [zW1])), hY.2⟩) (by decide +kernel) (by decide +kernel) (hts _ (zW1_tab (by simp [zW1]))) (va_Nw.use rfl (hKX.2.1 _ _ (zV3_in _ (by simp [zV3])))) hce hcv hcl ?_
        refine lv_astore hx hb (i := 4) (nL := 5) (by decide +kernel) hls (by decide) rfl (fun ls2 hls2 => ?_)
        refine lv_iconst hx hb (n := 2) (v := 2) (by decide +kernel) rfl ?_
        refine W.widen (k := 8) (n := 100) (by decide) (by decide) ?_
        exact W.iret hx hb Bd.returns (fun t' ht _ => ⟨some (.int 2), _, rfl, hP2, by rw [ht]; exact hHt⟩) hL2 (by decide +kernel) Bd.notSynchronized
  exact body _ hl
/-! the law's run in the machine, where the second throw has what it stands on -/
section ZSL
variable {l : Launch} {Lx : Nat} {xs : Nat → Int32} {lk : ZLP}
def zLKokL (l : Launch) (Lx : Nat) (xs : Nat → Int32) (lk : ZLP) : Prop :=
  ∀ (vs : List Value) (hp : List zhE) (P : ZP), lk vs hp P →
  ∀ (p : Program) (e : Env) (s0 : State) (m : MethodId) (args : Array Value) (below : List Frame) (meth : Method) (c0 : Code) (Q0 : State → Prop) (D : va_G) (B : zB) (tA : Nat → ClassId) (H0 : Heap) (me : zMe) (pc c s : Nat) (rest : List Value), zC p s0 m args meth c0 me → zK D B tA Lx xs H0 s0 → zKY s0 → me.1.cls = "TinTowerLaw" → decode me.2.1 pc = .ok (.invokestatic 39, 3) → zsum rest ≤ 8 → c + 8 ≤ room_1.cells → s + 100 ≤ room_1.slots →
  ∀ (H : Heap) (locs : List Loc) (ls : Array Slot), zH D B tA H0 hp H → (∀ q ∈ locs, B.1 ≤ q.base) → ls.size = me.2.2.1 →
  (∀ rv hp', P rv hp' → ∀ (H1 : Heap) (locs1 : List Loc), zH D B tA H0 hp' H1 → (∀ q ∈ locs1, B.1 ≤ q.base) → W p l e room_1 s0 m args below meth c0 H1 locs1 (c + 8) (s + 100) Q0 (F0 m (pc + 3) ls ((rv.map (zvm B)).toList ++ rest.map (zvm B)))) →
  W p l e room_1 s0 m args below meth c0 H locs c s Q0 (F0 m pc ls ((vs.map (zvm B)).reverse ++ rest.map (zvm B)))
theorem zlk2_okL (htr : l.stackTraces = false) (hTB : zTBok) : zLKokL l Lx xs (zlk2 Lx xs) := by
  intro vs hp P hlk p e s0 m args below meth c0 Q0 D B tA H0 me pc c s rest hC hK hY hcls hd hrest hc hs H locs ls hzH hl hls kk
  obtain ⟨i, j, n0, n1, fs, g, rfl, hrec, hout, hW⟩ := hlk
  obtain ⟨hx, hb, hr, hml, hown, hts, hlocks, hnm⟩ := hC
  rw [hcls] at hown
  have hsig : ∀ sig, parseMethodDescriptor zyL.desc = some sig → 4 = sig.parameters.length := fun sig h => by
    have h2 : (parseMethodDescriptor zyL.desc).map (fun d => d.parameters.length) = some 4 := by decide +kernel
    rw [h] at h2
    exact (Option.some.inj h2).symm
  have hrun := vx_runSW (l := l) (e := e) (R := room_1) (below := below) (meth := meth) (H := H) (locs := locs) (cells := c) (slots := s) (Ts := ztab) (hh := zhh) (own := "TinTowerLaw") (g := F0 m pc ls ((([.ref i, .int n0, .int n1, .ref j] : List Value).map (zvm B)).reverse ++ rest.map (zvm B))) (As := ([.ref i, .int n0, .int n1, .ref j] : List Value).map (zvm B)) (rest := rest.map (zvm B)) (n := 4) (index := 39) (bytes := method_3_code) (maxL := 5) (ret := some .int) (rm := zrmM) ⟨hx, hb, hml, hown, hts⟩ (zlook3_l htr hTB hrec hout hW D B tA H0)
    ⟨⟨rfl, rfl, by decide +kernel, by decide +kernel, pay_in hts zwsL_in, List.mem_cons_self⟩, hts _ (zW1_tab (by simp [zW1])), hts _ (zW1_tab (by simp [zW1, zyL])), ⟨by decide, by decide⟩, hsig, hts _ (zW1_tab (by simp [zW1])), hts _ (zW1_tab (by simp [zW1]))⟩
    ⟨zPcE_blind, fun U hU hW => ⟨⟨rfl, by rw [hU]; exact hzH, hK.moved hW⟩, hY.moved hW⟩⟩ rfl rfl hls rfl (by show 2 * 0 + ((rest.map (zvm B)).map fun v => v.category).sum ≤ 8; rw [zsum_vm]; omega) hd ⟨hc, hs⟩
  exact zr_call hrun hl (fun st o t h => h) kk
def zShowL (l : Launch) (Lx : Nat) (xs : Nat → Int32) : zCF → ZP → Prop := fun z Q =>
  ∀ (me : zMe), zMeK 276 me → ∀ (p : Program) (e : Env) (s0 : State) (m : MethodId) (args : Array Value) (below : List Frame) (meth : Method) (c0 : Code) (Q0 : State → Prop) (D : va_G) (B : zB) (tA : Nat → ClassId) (H0 : Heap), zC p s0 m args meth c0 me → zK D B tA Lx xs H0 s0 → zKY s0 → zRet p l e room_1 s0 m args below meth c0 Q0 D B tA H0 me Q → zGo p l e room_1 s0 m args below meth c0 Q0 D B tA H0 me.2.2.1 z
def zXL (l : Launch) (Lx : Nat) (xs : Nat → Int32) : ZX := fun k z Q => (k < 276 → zShow l Lx xs k z Q) ∧ (k = 276 → zShowL l Lx xs z Q)
theorem zXL_lt (hTB : zTBok) {k : Nat} {z : zCF} {Q : ZP} (hk : k < 276) (hf : zFX lk Lx xs (zXL l Lx xs) k z Q) : zShow l Lx xs k z Q := by
  refine zshow_closed hTB zLK0 k z Q ?_
  obtain ⟨⟨pc', i, a, b, v⟩, hin, hpc, hf⟩ := hf
  simp only at hpc hf
  have call : ∀ {k' av st}, k' < 276 → zCall (zXL l Lx xs) k k' av st z Q → zCall (zShow l Lx xs) k k' av st z Q := fun hk' hc => by
    obtain ⟨h1, h2, h3, h4, P, h5, h6⟩ := hc
    exact ⟨h1, h2, h3, h4, P, h5.1 hk', fun rv hp' q => (h6 rv hp' q).1 hk⟩
  refine ⟨_, hin, hpc, ?_⟩
  simp only
  split at hf
  · obtain ⟨z', h4, h5⟩ := hf
    exact ⟨z', h4, h5.1 hk⟩
  · rename_i hkk
    obtain ⟨vs, a, st, fs, h4, h5, h6, h7⟩ := hf
    exact ⟨vs, a, st, fs, h4, h5, h6, call (zroom (by omega) hin (Or.inl hkk)).2 h7⟩
  · rename_i hkk
    obtain ⟨vs, st, h4, h5, h6⟩ := hf
    exact ⟨vs, st, h4, h5, call (zroom (by omega) hin (Or.inr (Or.inl hkk))).2 h6⟩
  · rename_i hkk
    obtain ⟨vs, a, st, h4, h5, h6⟩ := hf
    exact ⟨vs, a, st, h4, h5, call (zroom (by omega) hin (Or.inr (Or.inr hkk))).2 h6⟩
  · exact hf
  · exact hf
  · exact hf
  · rename_i n0 n1 n2 n3 n4 n5 n6
    obtain ⟨x, rfl, hb, rfl⟩ := zkind_7 (i := i) (a := a) (b := b) (v := v) (fun j hj e => by
      rcases (show j = 0 ∨ j = 1 ∨ j = 2 ∨ j = 3 ∨ j = 4 ∨ j = 5 ∨ j = 6 by omega) with rfl | rfl | rfl | rfl | rfl | rfl | rfl
      · exact n0 e
      · exact n1 e
      · exact n2 e
      · exact n3 e
      · exact n4 e
      · exact n5 e
      · exact n6 e)
    obtain ⟨m2, hm2, hOK, -, -⟩ := hTB k hk
    obtain ⟨m', hm, -⟩ := zf_stat (hOK _ hin) hb
    rw [zM_9999] at hm
    cases hm
set_option maxHeartbeats 4000000 in
theorem zXL_law (hTB : zTBok) (hlk : zLKokL l Lx xs lk) {z : zCF} {Q : ZP} (hf : zFX lk Lx xs (zXL l Lx xs) 276 z Q) : zShowL l Lx xs z Q := by
  intro me hMe p e s0 m args below meth c0 Q0 D B tA H0 hC hK hY hret
  have hk : 276 < 277 := by omega
  obtain ⟨⟨pc', i, a, b, v⟩, hin, hpc, hf⟩ := hf
  obtain ⟨pc, L, st, hp, c, s⟩ := z
  simp only at hpc hf
  subst hpc
  have hOKs : zkind i a b v ≠ 7 → zOK me (pc', i, a, b, v) := fun hk => by
    rcases hMe.1 _ hin with h | ⟨-, h1, h2, h3, h4, h5⟩
    · exact h
    · simp only at h1 h2 h3
      subst h1; subst h2; subst h3
      exact absurd rfl hk
  split at hf
  · rename_i hkk
    obtain ⟨z', h1, h2⟩ := hf
    rw [← hMe.2] at h1
    have hv := List.all_eq_true.mp zlaw_inv _ hin
    rw [hkk] at hv
    have h1 := (zone_R zrL_c zrL_s (by simpa using hv)).symm.trans h1
    exact zone_ok h1 (hOKs (by rw [hkk]; decide)) hC hK (h2.2 rfl me hMe p e s0 m args below meth c0 Q0 D B tA H0 hC hK hY hret)
  · rename_i hkk
    obtain ⟨x, rfl⟩ := zkind_1 hkk
    have hOK := hOKs (by rw [hkk]; decide)
    obtain ⟨m', q, hm, hcal, hq, hq1, w1, w2, w3, w4⟩ := zf_virt hOK
    have hd := zf_dec hOK rfl
    obtain ⟨-, hk'⟩ := zroom hk hin (Or.inl hkk)
    have hR := zroomL hin (Or.inl hkk)
    obtain ⟨vs, r, st', fs, rfl, hn, hrec, g1, g2, g3, g4, P, g5, g6⟩ := hf
    rw [zrL_c] at g3
    rw [zrL_s] at g4
    intro H locs ls k1 k2 k3
    have hM := zmet_show hTB hk' hm (g5.1 hk') g1
    have est : (vs.reverse ++ .ref r :: st').map (zvm B) = (vs.map (zvm B)).reverse ++ .ref (B.1 + r) :: st'.map (zvm B) := by
      rw [List.map_append, List.map_reverse]; rfl
    show W p l e room_1 s0 m args below meth c0 H locs c s Q0 (F0 m pc' ls ((vs.reverse ++ .ref r :: st').map (zvm B)))
    rw [est]
    refine zr_virt hC hK k1 k2 k3.1 hm hcal w1 w2 w3 w4 hrec hq hq1 hM (by rw [(zmeK hTB hk' hm).1.2]; exact hR) ⟨g3, g4⟩ hn (by rw [zsum_vm]; exact g2) hd (fun rv hp' hP H1 locs1 n1 n2 => ?_)
    have f5 := (g6 rv hp' hP).2 rfl me hMe p e s0 m args below meth c0 Q0 D B tA H0 hC hK hY hret H1 locs1 ls n1 n2 k3
    rw [← zrv_map]
    exact f5
  · rename_i hkk
    obtain ⟨x, rfl, hb, ha⟩ := zkind_2 hkk
    have hOK := hOKs (by rw [hkk]; decide)
    obtain ⟨m', hm, hcal, w1, w2, w4⟩ := zf_stat hOK hb
    have hd := zf_dec hOK rfl
    obtain ⟨-, hk'⟩ := zroom hk hin (Or.inr (Or.inl hkk))
    have hR := zroomL hin (Or.inr (Or.inl hkk))
    obtain ⟨vs, st', rfl, hn, g1, g2, g3, g4, P, g5, g6⟩ := hf
    rw [zrL_c] at g3
    rw [zrL_s] at g4
    intro H locs ls k1 k2 k3
    have hM := zmet_show hTB hk' hm (g5.1 hk') g1
    have est : (vs.reverse ++ st').map (zvm B) = (vs.map (zvm B)).reverse ++ st'.map (zvm B) := by
      rw [List.map_append, List.map_reverse]
    show W p l e room_1 s0 m args below meth c0 H locs c s Q0 (F0 m pc' ls ((vs.reverse ++ st').map (zvm B)))
    rw [est]
    refine zr_stat hC hK k1 k2 k3.1 hm hcal w1 w2 w4 hM (by rw [(zmeK hTB hk' hm).1.2]; exact hR) ⟨g3, g4⟩ hn (by rw [zsum_vm]; exact g2) hd (fun rv hp' hP H1 locs1 n1 n2 => ?_)
    have f5 := (g6 rv hp' hP).2 rfl me hMe p e s0 m args below meth c0 Q0 D B tA H0 hC hK hY hret H1 locs1 ls n1 n2 k3
    rw [← zrv_map]
    exact f5
  · rename_i hkk
    obtain ⟨x, rfl, hv⟩ := zkind_3 hkk
    have hOK := hOKs (by rw [hkk]; decide)
    obtain ⟨m', hm, hcal, hn1, hn2, w1, w2, w4⟩ := zf_spec hOK hv
    have hd := zf_dec hOK rfl
    obtain ⟨-, hk'⟩ := zroom hk hin (Or.inr (Or.inr hkk))
    have hR := zroomL hin (Or.inr (Or.inr hkk))
    obtain ⟨vs, r, st', rfl, hn, g1, g2, g3, g4, P, g5, g6⟩ := hf
    rw [zrL_c] at g3
    rw [zrL_s] at g4
    intro H locs ls k1 k2 k3
    have hM := zmet_show hTB hk' hm (g5.1 hk') g1
    have est : (vs.reverse ++ .ref r :: st').map (zvm B) = (vs.map (zvm B)).reverse ++ .ref (B.1 + r) :: st'.map (zvm B) := by
      rw [List.map_append, List.map_reverse]; rfl
    show W p l e room_1 s0 m args below meth c0 H locs c s Q0 (F0 m pc' ls ((vs.reverse ++ .ref r :: st').map (zvm B)))
    rw [est]
    refine zr_spec hC hK k1 k2 k3.1 hm hcal hn1 hn2 w1 w2 w4 hM (by rw [(zmeK hTB hk' hm).1.2]; exact hR) ⟨g3, g4⟩ hn (by rw [zsum_vm]; exact g2) hd (fun rv hp' hP H1 locs1 n1 n2 => ?_)
    have f5 := (g6 rv hp' hP).2 rfl me hMe p e s0 m args below meth c0 Q0 D B tA H0 hC hK hY hret H1 locs1 ls n1 n2 k3
    rw [← zrv_map]
    exact f5
  · rename_i hkk
    obtain rfl := zkind_4 hkk
    have hOK := hOKs (by rw [hkk]; decide)
    have hd := zf_dec hOK rfl
    obtain ⟨g1, g2, x, rfl, g3, g4⟩ := hf
    rw [zrL_c] at g1
    rw [zrL_s] at g2
    intro H locs ls k1 k2 k3
    have hside := hOK.2.1
    simp only [zsd] at hside
    refine hret (some (.int x)) hp g4 H locs ls pc' c s k1 k2 g1 g2 (Or.inl ⟨hd, x, ?_⟩)
    split at hside
    · exact ⟨.int, rfl, of_decide_eq_true hside, rfl⟩
    · rename_i ha
      refine ⟨.boolean, rfl, of_decide_eq_true hside, ?_⟩
      rcases g3 with h | rfl | rfl
      · exact absurd h ha
      · decide
      · decide
  · rename_i hkk
    obtain rfl := zkind_5 hkk
    have hOK := hOKs (by rw [hkk]; decide)
    have hd := zf_dec hOK rfl
    obtain ⟨g1, g2, x, rfl, g4⟩ := hf
    rw [zrL_c] at g1
    rw [zrL_s] at g2
    intro H locs ls k1 k2 k3
    have hside := hOK.2.1
    simp only [zsd] at hside
    exact hret (some (.long x)) hp g4 H locs ls pc' c s k1 k2 g1 g2 (Or.inr (Or.inl ⟨hd, x, rfl, of_decide_eq_true hside⟩))
  · rename_i hkk
    obtain rfl := zkind_6 hkk
    have hOK := hOKs (by rw [hkk]; decide)
    have hd := zf_dec hOK rfl
    obtain ⟨g1, g2, rfl, g4⟩ := hf
    rw [zrL_c] at g1
    rw [zrL_s] at g2
    intro H locs ls k1 k2 k3
    have hside := hOK.2.1
    simp only [zsd] at hside
    exact hret none hp g4 H locs ls pc' c s k1 k2 g1 g2 (Or.inr (Or.inr ⟨hd, rfl, of_decide_eq_true hside⟩))
  · rename_i n0 n1 n2 n3 n4 n5 n6
    obtain ⟨x, rfl, hb, rfl⟩ := zkind_7 (i := i) (a := a) (b := b) (v := v) (fun j hj e => by
      rcases (show j = 0 ∨ j = 1 ∨ j = 2 ∨ j = 3 ∨ j = 4 ∨ j = 5 ∨ j = 6 by omega) with rfl | rfl | rfl | rfl | rfl | rfl | rfl
      · exact n0 e
      · exact n1 e
      · exact n2 e
      · exact n3 e
      · exact n4 e
      · exact n5 e
      · exact n6 e)
    have hsp : 276 = 276 ∧ zSp me (pc', .invokestatic x, 9999, b, v) := by
      rcases hMe.1 _ hin with h | h
      · obtain ⟨m', hm, -⟩ := zf_stat h hb
        rw [zM_9999] at hm
        cases hm
      · exact h
    obtain ⟨-, s1, s2, s3, s4, s5⟩ := hsp
    simp only at s1 s3 s4
    obtain ⟨vs, st', rfl, g1, g2, g3, P, g4, g5⟩ := hf
    rw [zrL_c] at g2
    rw [zrL_s] at g3
    intro H locs ls k1 k2 k3
    have est : (vs.reverse ++ st').map (zvm B) = (vs.map (zvm B)).reverse ++ st'.map (zvm B) := by
      rw [List.map_append, List.map_reverse]
    show W p l e room_1 s0 m args below meth c0 H locs c s Q0 (F0 m pc' ls ((vs.reverse ++ st').map (zvm B)))
    rw [est]
    refine hlk vs hp P g4 p e s0 m args below meth c0 Q0 D B tA H0 me pc' c s st' hC hK hY s5 s4 g1 g2 g3 H locs ls k1 k2 k3.1 (fun rv hp' hP H1 locs1 n1 n2 => ?_)
    have f5 := (g5 rv hp' hP).2 rfl me hMe p e s0 m args below meth c0 Q0 D B tA H0 hC hK hY hret H1 locs1 ls n1 n2 k3
    rw [← zrv_map]
    exact f5
theorem zWP_okL (hTB : zTBok) (hlk : zLKokL l Lx xs lk) {z : zCF} {Q : ZP} (h : zWP lk Lx xs 276 z Q) : zShowL l Lx xs z Q :=
  (h (zXL l Lx xs) (fun k z Q hf => ⟨fun hk => zXL_lt hTB hk hf, fun hk => by subst hk; exact zXL_law hTB hlk hf⟩)).2 rfl
end ZSL
/-- the law's body, out of its run -/
theorem zlaw_goL {p : Program} {e : Env} {s : State} {m : MethodId} {below : List Frame} {meth : Method} {c : Code} {l : Launch} {b L : Nat} {xs : Nat → Int32} {Q : State → Prop} (htr : l.stackTraces = false) (hTB : zTBok) (hMe : zMeK 276 zmLaw) (hL : L ≤ 3072)
    (hC : zC p s m #[Value.ref b] meth c zmLaw) (hts : ∀ w ∈ lw_tbl, w.before #[Value.ref b] s = true) (hX : va_X b L xs s s.heap) (hbl : b < s.heap.size) (hgv : (Jvm.Cond.and given_1 narrow_1).before #[Value.ref b] s = true)
    (hret : ∀ (H : Heap) (ls : Array Slot) (pc : Nat), decode zmLaw.2.1 pc = .ok (.ireturn, 1) → W p l e room_1 s m #[Value.ref b] below meth c H [] 601024 7293034 Q (F0 m pc ls [.int 1])) :
    W p l e room_1 s m #[Value.ref b] below meth c s.heap [] 0 0 Q (entryFrame m ([Value.ref b] : List Value).toArray 7) := by
  obtain ⟨D, tA, hK⟩ := zstart_K hts hX hbl hgv
  have hY := zstart_Y hK hts hgv
  have hl := lv_entry ([Value.ref b] : List Value) (n := 7) (Nat.le_of_ble_eq_true rfl)
  rw [lg_entry_eq]
  have hsh := zWP_okL (l := l) hTB (zlk2_okL htr hTB) (zentry (Lx := L) (xs := xs) (Q := fun rv _ => rv = some (.int 1)) (fun _ => rfl) hL)
  refine hsh zmLaw hMe p e s m #[Value.ref b] below meth c Q D (s.heap.size, b) tA s.heap hC hK hY ?_ s.heap [] _ ⟨rfl, fun i h hi => (by simp at hi), fun q _ => rfl⟩ (fun q hq => absurd hq List.not_mem_nil) hl
  intro rv hp hQ H locs ls pc c' s' hzH hlo hc hs hRI
  have hQ : rv = some (.int 1) := hQ
  subst hQ
  have r1 : room_1.cells = 601024 := rfl
  have r2 : room_1.slots = 7293034 := rfl
  refine va_forget hlo (W.widen (k := 601024) (n := 7293034) (by rw [← r1]; exact hc) (by rw [← r2]; exact hs) ?_)
  rcases hRI with ⟨hd, -⟩ | ⟨-, z, hz2, -⟩ | ⟨-, hz2, -⟩
  · exact hret H ls pc hd
  · cases hz2
  · cases hz2
