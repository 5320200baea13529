/-! the law's look in the machine: the class shows, or throws one of two, and the law catches -/
def zm124 : zMe := (⟨"TinTower", "isTold", "(I)Z"⟩, prog_1_method_7_code, 2, some .boolean)
def zm127 : zMe := (⟨"TinTower", "look", "(II)I"⟩, prog_1_method_10_code, 3, some .int)
def zIE : String := "java/lang/IndexOutOfBoundsException"
def zNE : String := "java/util/NoSuchElementException"
def zIN : List String := ["java/lang/RuntimeException", "java/lang/Exception"]
def zyL : MethodName := ⟨"TinTowerLaw", "look", "(LTinTower;II[J)I"⟩
def zhh : List (Nat × Nat × Nat × Nat) := [(0, 10, 13, 13), (0, 10, 17, 15)]
theorem zM124 : zM 124 = some zm124 := by decide +kernel
theorem zM127 : zM 127 = some zm127 := by decide +kernel
def zW1 : List Cond := [.methodLink "TinTower" 111 zm124.1, .instanceMethod zm124.1, .selects "TinTower" zm124.1 zm124.1, .initialized "TinTower", .classLink "TinTower" 125 zIE, .initialized zIE, .methodLink "TinTowerLaw" 7 zm127.1, .instanceMethod zm127.1, .selects "TinTower" zm127.1 zm127.1, .initialized "TinTowerLaw", .static zyL, .methodLink "TinTowerLaw" 39 zyL, .codeWith zyL method_3_code 5 (some .int) zhh, .classLink "TinTowerLaw" 13 zIE, .classLink "TinTower" 160 zNE, .initialized zNE, .classLink "TinTowerLaw" 15 zNE]
set_option maxRecDepth 100000 in
theorem zW1_in : ∀ w ∈ zW1, w ∈ lw_tbl := by decide +kernel
theorem zW1_good : ∀ w ∈ zW1, goodWord w = true := by decide +kernel
theorem zW1_tab {w : Cond} (h : w ∈ zW1) : w ∈ ztab := ztab_in (zW1_in w h) (zW1_good w h)
set_option maxRecDepth 100000 in
theorem zW2_in : ∀ w ∈ (vx_atS "TinTower" 129 zIE zIN).filter goodWord, w ∈ lw_tbl := by decide +kernel
def zW3 : List Cond := [.castable zIE zIE, .declares (Bundle.initS "java/lang/RuntimeException"), .declares (Bundle.initS "java/lang/Exception"), .declares (Bundle.initS Bundle.tN)]
theorem zW3_all : ∀ w ∈ (vx_atS "TinTower" 129 zIE zIN).filter (fun w => !goodWord w), w ∈ zW3 := by decide +kernel
set_option maxRecDepth 100000 in
theorem zW3_in : ∀ w ∈ zW3, w ∈ lw_tbl := by decide +kernel
theorem zW4_ok : ∀ w ∈ Cond.classLink "TinTower" 125 zIE :: Cond.initialized zIE :: vx_atS "TinTower" 129 zIE zIN, vx_ot w = true := by decide +kernel
theorem zx_at {s : State} {args : Array Value} {B : zB} {H0 : Heap} (hts : ∀ w ∈ ztab, w.before args s = true) (hX : zKX B H0 s) : ∀ w ∈ vx_atS "TinTower" 129 zIE zIN, w.before args s = true := by
  refine vx_hat (B := zW3) (fun w hw => hts w (ztab_in (zW2_in w hw) (List.mem_filter.mp hw).2)) zW3_all (fun w hw => ?_)
  have hin := zW3_in w hw
  simp only [zW3, List.mem_cons, List.not_mem_nil, or_false] at hw
  rcases hw with rfl | rfl | rfl | rfl
  · exact va_Nw.use rfl (hX.2.1 _ _ hin)
  · exact va_Nw.use rfl (hX.2.2.1 _ hin)
  · exact va_Nw.use rfl (hX.2.2.1 _ hin)
  · exact va_Nw.use rfl (hX.2.2.1 _ hin)
set_option maxRecDepth 100000 in
theorem zV2_in : ∀ w ∈ (zNAtS "TinTower" 164 zNE "java/lang/RuntimeException" 13 prog_24_method_4_code ["java/lang/Exception"]).filter goodWord, w ∈ lw_tbl := by decide +kernel
def zV3 : List Cond := [.castable zNE zNE, .declares (Bundle.initS "java/lang/RuntimeException"), .declares (Bundle.initS "java/lang/Exception"), .declares (Bundle.initS Bundle.tN)]
theorem zV3_all : ∀ w ∈ (zNAtS "TinTower" 164 zNE "java/lang/RuntimeException" 13 prog_24_method_4_code ["java/lang/Exception"]).filter (fun w => !goodWord w), w ∈ zV3 := by decide +kernel
set_option maxRecDepth 100000 in
theorem zV3_in : ∀ w ∈ zV3, w ∈ lw_tbl := by decide +kernel
theorem zV4_ok : ∀ w ∈ Cond.classLink "TinTower" 160 zNE :: Cond.initialized zNE :: zNAtS "TinTower" 164 zNE "java/lang/RuntimeException" 13 prog_24_method_4_code ["java/lang/Exception"], vx_ot w = true := by decide +kernel
theorem zx_atN {s : State} {args : Array Value} {B : zB} {H0 : Heap} (hts : ∀ w ∈ ztab, w.before args s = true) (hX : zKX B H0 s) : ∀ w ∈ zNAtS "TinTower" 164 zNE "java/lang/RuntimeException" 13 prog_24_method_4_code ["java/lang/Exception"], w.before args s = true := by
  refine vx_hat (B := zV3) (fun w hw => hts w (ztab_in (zV2_in w hw) (List.mem_filter.mp hw).2)) zV3_all (fun w hw => ?_)
  have hin := zV3_in w hw
  simp only [zV3, List.mem_cons, List.not_mem_nil, or_false] at hw
  rcases hw with rfl | rfl | rfl | rfl
  · exact va_Nw.use rfl (hX.2.1 _ _ hin)
  · exact va_Nw.use rfl (hX.2.2.1 _ hin)
  · exact va_Nw.use rfl (hX.2.2.1 _ hin)
  · exact va_Nw.use rfl (hX.2.2.1 _ hin)
/-- what the second throw stands on besides -/
def zKY (U : State) : Prop := (∃ sa, vk_R "TinTower" 162 "no such what" sa U) ∧ va_Nc zNE zIE U
theorem zKY.moved {u U : State} (hW : u.WarmedH U.vm) (h : zKY u) : zKY U := by
  obtain ⟨⟨sa, h1⟩, h2⟩ := h
  exact ⟨⟨sa, vk_R.warm hW h1⟩, va_Nc.moved hW.alike h2⟩
theorem zKY.same {u U : State} (hv : u.vm = U.vm) (h : zKY u) : zKY U := by
  obtain ⟨⟨sa, h1⟩, h2⟩ := h
  exact ⟨⟨sa, vk_R.same hv.symm h1⟩, va_Nc.moved (by rw [hv]; exact Vm.Alike.refl _) h2⟩
def zPcE (D : va_G) (B : zB) (tA : Nat → ClassId) (Lx : Nat) (xs : Nat → Int32) (H0 : Heap) (av : List Value) (hp : List zhE) : Array Value → State → Prop := fun a U => zPc D B tA Lx xs H0 av hp a U ∧ zKY U
theorem zPcE_blind {D : va_G} {B : zB} {tA : Nat → ClassId} {Lx : Nat} {xs : Nat → Int32} {H0 : Heap} {av : List Value} {hp : List zhE} : FrameBlind (zPcE D B tA Lx xs H0 av hp) :=
  fun a U g mk q => ⟨zPc_blind a U g mk q.1, zKY.same (u := U) (U := U.calling g mk a) rfl q.2⟩
/-- a cell of which nothing is said -/
def zjk : zhE := .inr (99, [])
theorem zH.junk {D : va_G} {B : zB} {tA : Nat → ClassId} {H0 H H1 : Heap} {hp : List zhE} (hH : zH D B tA H0 hp H) (hs : H.size ≤ H1.size) (ho : ∀ q : Nat, q < H.size → H1[q]? = H[q]?) : ∃ k, zH D B tA H0 (hp ++ List.replicate k zjk) H1 := by
  have h1 := hH.1
  refine ⟨H1.size - H.size, ?_, fun i x hx hz => ?_, fun q hq => ?_⟩
  · rw [List.length_append, List.length_replicate]; omega
  · by_cases e : i < hp.length
    · rw [List.getElem?_append_left e] at hx
      exact (hH.2.1 i x hx hz).kept (ho _ (by show B.1 + i < H.size; omega))
    · rw [List.getElem?_append_right (by omega)] at hx
      have h2 := (List.mem_replicate.mp (List.mem_of_getElem? hx)).2
      subst h2
      exact absurd (show (99 : Nat) < 13 from hz) (by decide)
  · rw [ho q (by omega)]
    exact hH.2.2 q hq
def zrmX : Room := { frames := 8, locals := 300, cells := 4, slots := 50 }
def zrmL : Room := { frames := 9, locals := 398, cells := 8, slots := 100 }
theorem zroomle {s : State} {pl : Platform} {R R' : Room} (h1 : R.frames ≤ R'.frames) (h2 : R.locals ≤ R'.locals) (h3 : R.cells ≤ R'.cells) (h4 : R.slots ≤ R'.slots) (h : s.hasRoom pl R' = true) : s.hasRoom pl R = true := by
  simp only [State.hasRoom, Bool.and_eq_true, decide_eq_true_eq] at h ⊢
  obtain ⟨⟨⟨⟨a, b1, b2, b3, b4, b5⟩, c⟩, d⟩, e⟩ := h
  exact ⟨⟨⟨⟨by omega, by omega, by omega, by omega, by omega, b5⟩, by omega⟩, by omega⟩, e⟩
theorem zW_room {p : Program} {l : Launch} {e : Env} {R R' : Room} {s : State} {m : MethodId} {args : Array Value} {below : List Frame} {meth : Method} {c : Code} {H : Heap} {locs : List Loc} {cells slots : Nat} {Q : State → Prop} {g : JFrame} (h1 : R.frames ≤ R'.frames) (h2 : R.locals ≤ R'.locals) (h3 : R.cells ≤ R'.cells) (h4 : R.slots ≤ R'.slots) (k : W p l e R s m args below meth c H locs cells slots Q g) : W p l e R' s m args below meth c H locs cells slots Q g := fun T hT X => k T hT { X with room := zroomle h1 h2 h3 h4 X.room }
theorem zLK0 {l : Launch} {Lx : Nat} {xs : Nat → Int32} : zLKok l Lx xs zlk0 := fun _ _ _ h => h.elim
def zXC2 (D : va_G) (B : zB) (tA : Nat → ClassId) (H0 : Heap) (hp : List zhE) (P : ZP) : String → State → State → Prop := fun E _ t => (E = zIE ∧ ∃ m, zH D B tA H0 (hp ++ m) t.heap ∧ P (some (.int 1)) (hp ++ m)) ∨ (E = zNE ∧ ∃ m, zH D B tA H0 (hp ++ m) t.heap ∧ P (some (.int 2)) (hp ++ m))
/-- the class's own look: it shows, or throws one of two -/
theorem zlook2_x {l : Launch} (htr : l.stackTraces = false) (hTB : zTBok) {Lx : Nat} {xs : Nat → Int32} {hp : List zhE} {i j : Nat} {n0 n1 : Int32} {g : Nat → Int64} {P : ZP} {fs : List Value}
    (hrec : hp[i]? = some (.inr (11, fs))) (hW : zWP zlk0 Lx xs 124 (0, lv_args 0 [.ref i, .int n0], [], hp, 0, 0) (zlkA Lx xs hp P i j n0 n1 g)) (D : va_G) (B : zB) (tA : Nat → ClassId) (H0 : Heap) :
    vx_Met l zm127.1 (zws zm127) zrmX (zPcE D B tA Lx xs H0 [.ref i, .int n0, .int n1] hp) (zQc D B tA H0 (zlkB hp P j g)) (zXC2 D B tA H0 hp P) 4 50 (fun q => B.1 ≤ q) := by
  have hM : zMet l Lx xs zm124 (zrm 124) [.ref i, .int n0] hp (zlkA Lx xs hp P i j n0 n1 g) := zWP_met hTB zLK0 (by decide) zM124 hW (show 2 ≤ (zrw 124).2.1 by decide +kernel)
  refine vx_ofW (cc := zm127.2.1) (maxL := zm127.2.2.1) (ret := zm127.2.2.2) (ws' := ztab) (by decide +kernel) rfl ?_
  intro p e s m args below meth c s₁ Bd hml htab hv
  obtain ⟨⟨rfl, hH, hK⟩, hY⟩ := hv
  have hts0 : ∀ w ∈ zws zm127, w.before (([.ref i, .int n0, .int n1] : List Value).map (zvm B)).toArray s = true := atoms_spec (ws := zws zm127) Bd.pre
  have hts : ∀ w ∈ ztab, w.before (([.ref i, .int n0, .int n1] : List Value).map (zvm B)).toArray s = true := fun w hw => hts0 w (List.mem_cons_of_mem _ hw)
  have hown : s.vm.findClass "TinTower" = some m.cls := findClass_of_methodNamed Bd.named
  have hl := lv_entry (([.ref i, .int n0, .int n1] : List Value).map (zvm B)) (n := 3) (by rw [zlg_sl]; exact Nat.le_refl 3)
  have hx := Bd.exec
  have hb : c.code = zm127.2.1 := Bd.bytes
  have hC : zC p s m (([.ref i, .int n0, .int n1] : List Value).map (zvm B)).toArray meth c zm127 := ⟨Bd.exec, Bd.bytes, Bd.returns, hml, hown, hts, Bd.notSynchronized, fun h => absurd h (by decide)⟩
  have hKX : zKX B H0 s := hK.2.2.2.2.2
  have hOK : ∀ {q : zPE} {pc : Nat}, zatp 127 pc = some q → zOK zm127 q := fun hq => by
    rcases (zmeK hTB (by decide) zM127).1.1 _ (zatp_ok hq).1 with h | ⟨h, -⟩
    · exact h
    · exact absurd h (by decide)
  rw [lg_entry_eq]
  rw [zmL_args] at hl
  have body : ∀ ls : Array Slot, lv_has ls 3 (zmL B (lv_args 0 [.ref i, .int n0, .int n1])) → W p l e zrmX s m (([.ref i, .int n0, .int n1] : List Value).map (zvm B)).toArray below meth c s.heap [] 0 0 (vx_MQ below (zQc D B tA H0 (zlkB hp P j g)) (zXC2 D B tA H0 hp P) (([.ref i, .int n0, .int n1] : List Value).map (zvm B)).toArray s 4 50 (fun q => B.1 ≤ q)) (F0 m 0 ls []) := by
    intro ls hls
    refine lv_aload_n hx hb (k := 0) (i := 0) (x := B.1 + i) (by decide +kernel) rfl (lv_at hls 0 rfl) ?_
    refine lv_iload_n hx hb (k := 1) (i := 1) (x := n0) (by decide +kernel) rfl (lv_at hls 1 rfl) ?_
    refine zr_virt (As := [.int n0]) (rest := []) (me := zm127) (x := 111) (n := 1) hC hK hH (fun q hq => absurd hq List.not_mem_nil) hls.1 zM124 (by decide +kernel) (zW1_tab (by simp [zW1, zm127])) (zW1_tab (by simp [zW1])) (zW1_tab (by simp [zW1, zm124])) (zW1_tab (by simp [zW1, zm124])) hrec (q := (zcl[11]?).getD zcl[0]) rfl rfl hM (by decide +kernel) (by decide +kernel) rfl (Nat.zero_le _) (by decide +kernel) ?_
    intro v hp' hPv H1 locs1 hH1 hl1
    obtain ⟨⟨sa, hstr⟩, -, -, hU, hN⟩ := id hKX
    have hkeep : ∀ a : Nat, a < H0.size → ¬ B.1 ≤ a → s.heap[a]? = H0[a]? := fun a _ ha => hH.2.2 a (by omega)
    obtain ⟨⟨m1, rfl⟩, hc⟩ := hPv
    have hS : ∀ {H2 : Heap} {locs2 : List Loc} {m2 : List zhE}, zH D B tA H0 (hp ++ m2) H2 → (∀ q ∈ locs2, B.1 ≤ q.base) → va_S (fun q => B.1 ≤ q) s.heap H2 locs2 := fun {H2 locs2 m2} h1 h2 => by
      have g1 := hH.1
      have g2 := h1.1
      rw [List.length_append] at g2
      exact ⟨by omega, fun q hq hA => by rw [h1.2.2 q (by omega), hH.2.2 q (by omega)], h2⟩
    rcases hc with ⟨rfl, hP1⟩ | ⟨rfl, hP2, hgo⟩
    · refine lv_if_ne (x := 0) (rest := []) (off := 13) (tgt := 18) hx hb (by decide +kernel) rfl (fun h => absurd rfl h) (fun _ => ?_)
      refine vx_throwS (own := "TinTower") (cls := zIE) (text := "no such thing") (names := zIN) (ik := 125) (is := 127) (ic := 129) (sa := sa) (A := fun q => B.1 ≤ q) hx hb htr hown (by decide +kernel) (by decide +kernel) (hts _ (zW1_tab (by simp [zW1]))) (hts _ (zW1_tab (by simp [zW1]))) hstr (zx_at hts hKX) zW4_ok (vx_Zq.kept hU hkeep) (vx_Zq.kept hN hkeep) (hS hH1 hl1) (hls.1.trans hml.symm) (by decide +kernel) (by decide +kernel) (by decide +kernel) (by decide +kernel) (by decide +kernel) (fun x hx => (htab x hx).elim) (by decide +kernel) (by decide +kernel) (by decide +kernel) (by decide +kernel) Bd.notSynchronized ?_ hl1 (by decide +kernel) (by decide +kernel)
      intro t _ hs ho
      obtain ⟨k, hk⟩ := hH1.junk hs ho
      rw [List.append_assoc] at hk
      exact Or.inl ⟨rfl, _, hk, hP1 _⟩
    · refine lv_if_ne (x := 1) (rest := []) (off := 13) (tgt := 18) hx hb (by decide +kernel) rfl (fun _ => ?_) (fun h => absurd h (by decide))
      refine W.widen (k := 0) (n := 0) (by decide +kernel) (by decide +kernel) ?_
      by_cases hn : 0 ≤ n1.toInt ∧ n1.toInt ≤ 9
      · have hsh := zWP_ok (l := l) hTB zLK0 (hgo hn.1 hn.2)
        have hgoo := hsh zm127 (zmeK hTB (by decide) zM127).1 (by decide) p e s m _ below meth c (vx_MQ below (zQc D B tA H0 (zlkB hp P j g)) (zXC2 D B tA H0 hp P) (([.ref i, .int n0, .int n1] : List Value).map (zvm B)).toArray s 4 50 (fun q => B.1 ≤ q)) D B tA H0 hC hK ?_
        · exact zW_room (R := zrm 127) (by decide +kernel) (by decide +kernel) (by decide +kernel) (by decide +kernel) (hgoo H1 locs1 ls hH1 hl1 hls)
        · intro rv hp2 hQ H2 locs2 ls2 pc2 c2 s2 hzH hlo hc2 hs2 hRI
          obtain ⟨hm2, y, rfl, hPy⟩ := id hQ
          refine vx_ret (W.widen (k := 4) (n := 50) (Nat.le_trans hc2 (by decide +kernel)) (Nat.le_trans hs2 (by decide +kernel)) ?_)
          rcases hRI with ⟨hd, z, ty, hz1, hz2, hz3⟩ | ⟨-, z, hz1, -⟩ | ⟨-, hz1, -⟩
          · exact W.iret hx hb Bd.returns (fun t' ht _ => ⟨some (.int y), hp2, rfl, hQ, by rw [ht]; exact hzH⟩) hlo hd Bd.notSynchronized
          · cases hz1
          · cases hz1
      · -- the second throw
        have e2 : ∀ Q0 : State → Prop, zGo p l e zrmX s m (([.ref i, .int n0, .int n1] : List Value).map (zvm B)).toArray below meth c Q0 D B tA H0 3 (212, lv_args 0 [.ref i, .int n0, .int n1], [], hp ++ m1, 0, 0) → zGo p l e zrmX s m (([.ref i, .int n0, .int n1] : List Value).map (zvm B)).toArray below meth c Q0 D B tA H0 3 (18, lv_args 0 [.ref i, .int n0, .int n1], [], hp ++ m1, 0, 0) := fun Q0 h => by
          refine zone_ok (me := zm127) (Lx := Lx) (xs := xs) (i := .iload_n 2) (a := 0) (b := 0) (v := 0) (z := (19, lv_args 0 [.ref i, .int n0, .int n1], [.int n1], hp ++ m1, 0, 0)) rfl (hOK (pc := 18) (by rfl)) hC hK ?_
          refine zone_ok (me := zm127) (Lx := Lx) (xs := xs) (i := .tableswitch 193 0 9 #[53, 66, 79, 92, 105, 118, 138, 151, 164, 173]) (a := 0) (b := 0) (v := 0) (z := (212, lv_args 0 [.ref i, .int n0, .int n1], [], hp ++ m1, 0, 0)) ?_ (hOK (pc := 19) (by rfl)) hC hK h
          show ztsw 19 (lv_args 0 [.ref i, .int n0, .int n1]) [.int n1] (hp ++ m1) 0 0 193 0 9 #[53, 66, 79, 92, 105, 118, 138, 151, 164, 173] = _
          have hd : (decide (n1.toInt < 0) || decide ((9 : Int) < n1.toInt)) = true := by
            rw [Bool.or_eq_true, decide_eq_true_eq, decide_eq_true_eq]
            omega
          unfold ztsw
          simp only [hd]
          rfl
        refine e2 _ ?_ H1 locs1 ls hH1 hl1 hls
        intro H2 locs2 ls2 hH2 hl2 hls2
        obtain ⟨sb, hsb⟩ := hY.1
        show W p l e zrmX s m _ below meth c H2 locs2 0 0 _ (F0 m 212 ls2 [])
        refine zthrowN (own := "TinTower") (cls := zNE) (text := "no such what") (Y := "java/lang/RuntimeException") (r := ["java/lang/Exception"]) (ik := 160) (is := 162) (ic := 164) (ix := 13) (rx := prog_24_method_4_code) (sa := sb) (A := fun q => B.1 ≤ q) hx hb htr (by decide +kernel) (by decide +kernel) (by decide +kernel) (by decide +kernel) hown (by decide +kernel) (by decide +kernel) (by decide +kernel) (hts _ (zW1_tab (by simp [zW1]))) (hts _ (zW1_tab (by simp [zW1]))) hsb (zx_atN hts hKX) zV4_ok (vx_Zq.kept hU hkeep) (vx_Zq.kept hN hkeep) (hS hH2 hl2) (hls2.1.trans hml.symm) (by decide +kernel) (by decide +kernel) (by decide +kernel) (by decide +kernel) (by decide +kernel) (fun x hx => (htab x hx).elim) (by decide +kernel) (by decide +kernel) (by decide +kernel) (by decide +kernel) Bd.notSynchronized ?_ hl2 (by decide +kernel) (by decide +kernel)
        intro t _ hs ho
        obtain ⟨k, hk⟩ := hH2.junk hs ho
        rw [List.append_assoc] at hk
        exact Or.inr ⟨rfl, _, hk, hP2 hn _⟩
  exact body _ hl
theorem zx_call2 {p : Program} {l : Launch} {e : Env} {R : Room} {s : State} {m : MethodId} {args : Array Value} {below : List Frame} {meth : Method} {c : Code} {H : Heap} {locs : List Loc} {cells slots mc ms pc : Nat} {Q : State → Prop} {ls : Array Slot} {st0 rest : List Value} {XC : String → State → State → Prop} {free : Addr → Prop} {Qa : State → Outcome → State → Prop}
    (hr : vx_Run p l e R s m args below meth c H locs cells slots mc ms (F0 m pc ls st0) rest Qa XC free)
    (kn : ∀ (v : Option Value) (st t : State) (L : List Loc), Qa st (.returned v) t → (∀ z ∈ L, free z.base) → W p l e R s m args below meth c t.heap (locs ++ L) (cells + mc) (slots + ms) Q (F0 m (pc + 3) ls (v.toList ++ rest)))
    (kx : ∀ (E : String) (ce : Cell) (q : Addr) (st t : State) (L : List Loc), XC E st t → t.heap[q]? = some ce → ce.vm = .none → s.vm.findClass E = some ce.cls → (∀ z ∈ L, free z.base) → vx_W p l e R s m args below meth c t.heap (locs ++ L) (cells + mc) (slots + ms) Q (F0 m pc ls rest) q) :
    W p l e R s m args below meth c H locs cells slots Q (F0 m pc ls st0) := by
  intro T hT X
  rcases hr T hT X with ⟨v, st₀, t, T', L, h0, X', hL, e1, e2, hq, st⟩ | ⟨q, st₀, t, T', L, E, ce, h0, X', hL, e1, e2, hq, hce, hcv, hcl, st⟩
  · obtain ⟨t2, a1, b1⟩ := kn v st₀ t L hq hL T' e1 X'
    exact ⟨t2, st t2 a1, b1⟩
  · obtain ⟨t2, a1, b1⟩ := kx E ce q st₀ t L hq hce hcv hcl hL T' e1 X'
    exact ⟨t2, st.trans a1, b1⟩
def zwsL : List Cond := Cond.codeWith zyL method_3_code 5 (some .int) zhh :: ztab
theorem zwsL_in : GoodIn ztab zwsL := by
  intro w hw
  have hin : w ∈ ztab := by
    rcases List.mem_cons.mp hw with rfl | hw
    · exact zW1_tab (by simp [zW1])
    · exact hw
  exact ⟨hin, good_of_word (ztab_good hin)⟩
def zmLk : zMe := (zyL, method_3_code, 5, some .int)
/-- the law's own look keeps what it shows, and catches either -/
theorem zlook2_l {l : Launch} (htr : l.stackTraces = false) (hTB : zTBok) {Lx : Nat} {xs : Nat → Int32} {hp : List zhE} {i j : Nat} {n0 n1 : Int32} {g : Nat → Int64} {P : ZP} {fs : List Value}
    (hrec : hp[i]? = some (.inr (11, fs))) (hout : hp[j]? = some (.inl (1, 1, .inr (.inl g)))) (hW : zWP zlk0 Lx xs 124 (0, lv_args 0 [.ref i, .int n0], [], hp, 0, 0) (zlkA Lx xs hp P i j n0 n1 g)) (D : va_G) (B : zB) (tA : Nat → ClassId) (H0 : Heap) :
    Met l zyL zwsL zrmL (zPcE D B tA Lx xs H0 [.ref i, .int n0, .int n1, .ref j] hp) (zQc D B tA H0 P) 8 100 (fun q => B.1 ≤ q) := by
  refine va_MetW (cc := method_3_code) (maxL := 5) (ret := some .int) (hh := zhh) (ws' := ztab) (by decide +kernel) rfl ?_
  intro p e s m args below meth c s₁ Bd hml hv
  obtain ⟨⟨rfl, hH, hK⟩, hY⟩ := hv
  have hts0 : ∀ w ∈ zwsL, w.before (([.ref i, .int n0, .int n1, .ref j] : List Value).map (zvm B)).toArray s = true := atoms_spec (ws := zwsL) Bd.pre
  have hts : ∀ w ∈ ztab, w.before (([.ref i, .int n0, .int n1, .ref j] : List Value).map (zvm B)).toArray s = true := fun w hw => hts0 w (List.mem_cons_of_mem _ hw)
  have hown : s.vm.findClass "TinTowerLaw" = some m.cls := findClass_of_methodNamed Bd.named
  have htab : c.exceptionTable.toList = tableOf zhh := vx_table (x := zyL) Bd (hts0 _ List.mem_cons_self)
  have hl := lv_entry (([.ref i, .int n0, .int n1, .ref j] : List Value).map (zvm B)) (n := 5) (by rw [zlg_sl]; exact Nat.le_succ 4)
  have hx := Bd.exec
  have hb : c.code = method_3_code := Bd.bytes
  have hKX : zKX B H0 s := hK.2.2.2.2.2
  have hC : zC p s m (([.ref i, .int n0, .int n1, .ref j] : List Value).map (zvm B)).toArray meth c zmLk := ⟨Bd.exec, Bd.bytes, Bd.returns, hml, hown, hts, Bd.notSynchronized, fun h => absurd h (by decide)⟩
  rw [lg_entry_eq]
  rw [zmL_args] at hl
  have body : ∀ ls : Array Slot, lv_has ls 5 (zmL B (lv_args 0 [.ref i, .int n0, .int n1, .ref j])) → W p l e zrmL s m (([.ref i, .int n0, .int n1, .ref j] : List Value).map (zvm B)).toArray below meth c s.heap [] 0 0 (MQ below (zQc D B tA H0 P) (([.ref i, .int n0, .int n1, .ref j] : List Value).map (zvm B)).toArray s 8 100 (fun q => B.1 ≤ q)) (F0 m 0 ls []) := by
    intro ls hls
    refine lv_aload_n hx hb (k := 3) (i := 3) (x := B.1 + j) (by decide +kernel) rfl (lv_at hls 3 rfl) ?_
    refine lv_iconst hx hb (n := 0) (v := 0) (by decide +kernel) rfl ?_
    refine lv_aload_n hx hb (k := 0) (i := 0) (x := B.1 + i) (by decide +kernel) rfl (lv_at hls 0 rfl) ?_
    refine lv_iload_n hx hb (k := 1) (i := 1) (x := n0) (by decide +kernel) rfl (lv_at hls 1 rfl) ?_
    refine lv_iload_n hx hb (k := 2) (i := 2) (x := n1) (by decide +kernel) rfl (lv_at hls 2 rfl) ?_
    have hrv := va_recv hK.1 (hH.one hrec (show (11 : Nat) < 13 by decide)) (q0 := 0) (q := (zcl[11]?).getD zcl[0]) rfl rfl
    refine zx_call2 (vx_runV (Ts := ztab) (own := "TinTowerLaw") (C := "TinTower") (b := B.1 + i) (As := [.int n0, .int n1]) (n := 2) (rest := [.int 0, .ref (B.1 + j)]) (bytes := zm127.2.1) (maxL := zm127.2.2.1) (ret := zm127.2.2.2) (index := 7) ⟨hx, hb, hml, hown, hts⟩ (zlook2_x htr hTB hrec hW D B tA H0) ⟨zcall_b hts zM127 (by decide +kernel) (hts _ (zW1_tab (by simp [zW1]))) (hts _ (zW1_tab (by simp [zW1, zm127]))) (by decide +kernel), hts _ (zW1_tab (by simp [zW1])), hts _ (zW1_tab (by simp [zW1]))⟩ ⟨zPcE_blind, hrv, fun U hU hW => ⟨⟨rfl, by rw [hU]; exact hH, hK.moved hW⟩, hY.moved hW⟩⟩ rfl rfl hls.1 rfl (show 2 * 0 + (1 + (1 + 0)) ≤ 8 by omega) (show decode method_3_code 5 = .ok (.invokevirtual 7, 3) by decide +kernel) (by decide +kernel)) ?_ ?_
    · -- it has shown
      intro v st t L hq hL
      obtain ⟨v', hp', ho, ⟨⟨m1, rfl⟩, y, rfl, hPy⟩, hHt⟩ := hq
      have ev : v = some (.int y) := by
        have : v = Option.map (zvm B) (some (.int y)) := by injection ho
        exact this
      subst ev
      have hj2 : (hp ++ m1)[j]? = some (.inl (1, 1, .inr (.inl g))) := by rw [List.getElem?_append_left (List.getElem?_eq_some_iff.mp hout).1]; exact hout
      have go : ∀ Q0 : State → Prop, zGo p l e zrmL s m (([.ref i, .int n0, .int n1, .ref j] : List Value).map (zvm B)).toArray below meth c Q0 D B tA H0 5 (22, lv_args 0 [.ref i, .int n0, .int n1, .ref j], [.int 0], (hp ++ m1).set j (.inl (1, 1, .inr (.inl (va_up g 0 y.toInt64)))), 4, 50) → zGo p l e zrmL s m (([.ref i, .int n0, .int n1, .ref j] : List Value).map (zvm B)).toArray below meth c Q0 D B tA H0 5 (8, lv_args 0 [.ref i, .int n0, .int n1, .ref j], [.int y, .int 0, .ref j], hp ++ m1, 4, 50) := fun Q0 h => by
        refine zone_ok (me := zmLk) (Lx := Lx) (xs := xs) (i := .i2l) (a := 0) (b := 0) (v := 0) (z := (9, lv_args 0 [.ref i, .int n0, .int n1, .ref j], [.long y.toInt64, .int 0, .ref j], hp ++ m1, 4, 50)) rfl ⟨by decide +kernel, rfl, fun w hw => absurd hw List.not_mem_nil⟩ hC hK ?_
        refine zone_ok (me := zmLk) (Lx := Lx) (xs := xs) (i := .lastore) (a := 0) (b := 0) (v := 0) (z := (10, lv_args 0 [.ref i, .int n0, .int n1, .ref j], [], (hp ++ m1).set j (.inl (1, 1, .inr (.inl (va_up g 0 y.toInt64)))), 4, 50)) ?_ ⟨by decide +kernel, rfl, fun w hw => absurd hw List.not_mem_nil⟩ hC hK ?_
        · show zasL 9 (lv_args 0 [.ref i, .int n0, .int n1, .ref j]) [.long y.toInt64, .int 0, .ref j] (hp ++ m1) 4 50 = _
          unfold zasL
          have hz : zin 0 1 = true := by decide
          simp only [hj2, Nat.beq_refl, hz, Bool.and_self]
          rfl
        refine zone_ok (me := zmLk) (Lx := Lx) (xs := xs) (i := .goto 11) (a := 0) (b := 0) (v := 0) (z := (21, lv_args 0 [.ref i, .int n0, .int n1, .ref j], [], (hp ++ m1).set j (.inl (1, 1, .inr (.inl (va_up g 0 y.toInt64)))), 4, 50)) rfl ⟨by decide +kernel, rfl, fun w hw => absurd hw List.not_mem_nil⟩ hC hK ?_
        exact zone_ok (me := zmLk) (Lx := Lx) (xs := xs) (i := .iconst 0) (a := 0) (b := 0) (v := 0) rfl ⟨by decide +kernel, rfl, fun w hw => absurd hw List.not_mem_nil⟩ hC hK h
      refine go _ ?_ t.heap _ ls hHt (fun q hq => by
        rcases List.mem_append.mp hq with h | h
        · exact absurd h List.not_mem_nil
        · exact hL q h) hls
      intro H2 locs2 ls2 hH2 hl2 hls2
      show W p l e zrmL s m _ below meth c H2 locs2 4 50 _ (F0 m 22 ls2 [.int 0])
      refine W.widen (k := 8) (n := 100) (by decide) (by decide) ?_
      exact W.iret hx hb Bd.returns (fun t' ht _ => ⟨some (.int 0), _, rfl, hPy m1, by rw [ht]; exact hH2⟩) hl2 (by decide +kernel) Bd.notSynchronized
    · intro E ce q st t L hXC hce hcv hcl hL
      have hL2 : ∀ q ∈ [] ++ L, B.1 ≤ q.base := fun q hq => by
        rcases List.mem_append.mp hq with h | h
        · exact absurd h List.not_mem_nil
        · exact hL q h
      rcases hXC with ⟨rfl, m1, hHt, hP1⟩ | ⟨rfl, m1, hHt, hP2⟩
      · refine vx_catch (own := "TinTowerLaw") (name := zIE) (E := zIE) (ce := ce) hown [] ⟨0, 10, 13, 13⟩ [⟨0, 10, 17, 15⟩] (htab.trans rfl) (fun z hz => absurd hz List.not_mem_nil) (by decide +kernel) (by decide +kernel) (hts _ (zW1_tab (by simp [zW1]))) (va_Nw.use rfl (hKX.2.1 _ _ (zW3_in _ (by simp [zW3])))) hce hcv hcl ?_
        refine lv_astore hx hb (i := 4) (nL := 5) (by decide +kernel) hls (by decide) rfl (fun ls2 hls2 => ?_)
        refine lv_iconst hx hb (n := 1) (v := 1) (by decide +kernel) rfl ?_
        refine W.widen (k := 8) (n := 100) (by decide) (by decide) ?_
        exact W.iret hx hb Bd.returns (fun t' ht _ => ⟨some (.int 1), _, rfl, hP1, by rw [ht]; exact hHt⟩) hL2 (by decide +kernel) Bd.notSynchronized
      · refine vx_catch (own := "TinTowerLaw") (name := zNE) (E := zNE) (ce := ce) hown [⟨0, 10, 13, 13⟩] ⟨0, 10, 17, 15⟩ [] (htab.trans rfl) (fun z hz => by
          rw [List.mem_singleton] at hz
          subst hz
          exact Or.inr ⟨by decide, zIE, hts _ (zW1_tab (by simp [zW1])), hY.2⟩) (by decide +kernel) (by decide +kernel) (hts _ (zW1_tab (by simp [zW1]))) (va_Nw.use rfl (hKX.2.1 _ _ (zV3_in _ (by simp [zV3])))) hce hcv hcl ?_
        refine lv_astore hx hb (i := 4) (nL := 5) (by decide +kernel) hls (by decide) rfl (fun ls2 hls2 => ?_)
        refine lv_iconst hx hb (n := 2) (v := 2) (by decide +kernel) rfl ?_
        refine W.widen (k := 8) (n := 100) (by decide) (by decide) ?_
        exact W.iret hx hb Bd.returns (fun t' ht _ => ⟨some (.int 2), _, rfl, hP2, by rw [ht]; exact hHt⟩) hL2 (by decide +kernel) Bd.notSynchronized
  exact body _ hl
