/-! the law's look at a thing that isn't told: the class throws, the law catches it -/
def zlk0 : ZLK := fun _ _ _ _ _ _ => false
theorem zlk0_ok {l : Launch} {Lx : Nat} {xs : Nat → Int32} {ρ : Nat → Int} : zLKok l Lx xs ρ zlk0 := fun as h E c s k hz => absurd hz (by unfold zlk0; exact Bool.false_ne_true)
def zm124 : zMe := (⟨"TinTower", "isTold", "(I)Z"⟩, prog_1_method_7_code, 2, some .boolean)
def zm127 : zMe := (⟨"TinTower", "look", "(II)I"⟩, prog_1_method_10_code, 3, some .int)
def zIE : String := "java/lang/IndexOutOfBoundsException"
def zIN : List String := ["java/lang/RuntimeException", "java/lang/Exception"]
def zyL : MethodName := ⟨"TinTowerLaw", "look", "(LTinTower;II[J)I"⟩
def zhh : List (Nat × Nat × Nat × Nat) := [(0, 10, 13, 13), (0, 10, 17, 15)]
theorem zM124 : zM 124 = some zm124 := by decide +kernel
theorem zM127 : zM 127 = some zm127 := by decide +kernel
def zW1 : List Cond := [.methodLink "TinTower" 111 zm124.1, .instanceMethod zm124.1, .selects "TinTower" zm124.1 zm124.1, .initialized "TinTower", .classLink "TinTower" 125 zIE, .initialized zIE, .methodLink "TinTowerLaw" 7 zm127.1, .instanceMethod zm127.1, .selects "TinTower" zm127.1 zm127.1, .initialized "TinTowerLaw", .static zyL, .methodLink "TinTowerLaw" 39 zyL, .codeWith zyL method_3_code 5 (some .int) zhh, .classLink "TinTowerLaw" 13 zIE]
set_option maxRecDepth 100000 in
theorem zW1_in : ∀ w ∈ zW1, w ∈ lw_tbl := by decide +kernel
theorem zW1_good : ∀ w ∈ zW1, goodWord w = true := by decide +kernel
theorem zW1_tab {w : Cond} (h : w ∈ zW1) : w ∈ ztab := ztab_in (zW1_in w h) (zW1_good w h)
set_option maxRecDepth 100000 in
theorem zW2_in : ∀ w ∈ (vx_atS "TinTower" 129 zIE zIN).filter goodWord, w ∈ lw_tbl := by decide +kernel
def zW3 : List Cond := [.castable zIE zIE, .declares (Bundle.initS "java/lang/RuntimeException"), .declares (Bundle.initS "java/lang/Exception"), .declares (Bundle.initS Bundle.tN)]
theorem zW3_all : ∀ w ∈ (vx_atS "TinTower" 129 zIE zIN).filter (fun w => !goodWord w), w ∈ zW3 := by decide +kernel
set_option maxRecDepth 100000 in
theorem zW3_in : ∀ w ∈ zW3, w ∈ lw_tbl := by decide +kernel
theorem zW4_ok : ∀ w ∈ Cond.classLink "TinTower" 125 zIE :: Cond.initialized zIE :: vx_atS "TinTower" 129 zIE zIN, vx_ot w = true := by decide +kernel
theorem zx_at {s : State} {args : Array Value} {B : zB} {H0 : Heap} (hts : ∀ w ∈ ztab, w.before args s = true) (hX : zKX B H0 s) : ∀ w ∈ vx_atS "TinTower" 129 zIE zIN, w.before args s = true := by
  refine vx_hat (B := zW3) (fun w hw => hts w (ztab_in (zW2_in w hw) (List.mem_filter.mp hw).2)) zW3_all (fun w hw => ?_)
  have hin := zW3_in w hw
  simp only [zW3, List.mem_cons, List.not_mem_nil, or_false] at hw
  rcases hw with rfl | rfl | rfl | rfl
  · exact va_Nw.use rfl (hX.2.1 _ _ hin)
  · exact va_Nw.use rfl (hX.2.2.1 _ hin)
  · exact va_Nw.use rfl (hX.2.2.1 _ hin)
  · exact va_Nw.use rfl (hX.2.2.1 _ hin)
/-- a cell of which nothing is said -/
def zjk : zhE := .inr (99, [])
theorem zH.junk {D : va_G} {B : zB} {tA : Nat → ClassId} {H0 H H1 : Heap} {hp : List zhE} (hH : zH D B tA H0 hp H) (hs : H.size ≤ H1.size) (ho : ∀ q : Nat, q < H.size → H1[q]? = H[q]?) : ∃ k, zH D B tA H0 (hp ++ List.replicate k zjk) H1 := by
  have h1 := hH.1
  refine ⟨H1.size - H.size, ?_, fun i x hx hz => ?_, fun q hq => ?_⟩
  · rw [List.length_append, List.length_replicate]; omega
  · by_cases e : i < hp.length
    · rw [List.getElem?_append_left e] at hx
      exact (hH.2.1 i x hx hz).kept (ho _ (by show B.1 + i < H.size; omega))
    · rw [List.getElem?_append_right (by omega)] at hx
      have h2 := (List.mem_replicate.mp (List.mem_of_getElem? hx)).2
      subst h2
      exact absurd (show (99 : Nat) < 13 from hz) (by decide)
  · rw [ho q (by omega)]
    exact hH.2.2 q hq
def zrmX : Room := { frames := 8, locals := 300, cells := 4, slots := 50 }
def zrmL : Room := { frames := 9, locals := 398, cells := 8, slots := 100 }
def zXC (D : va_G) (B : zB) (tA : Nat → ClassId) (H0 : Heap) (P : Option Value → List zhE → Prop) : String → State → State → Prop := fun E _ t => E = zIE ∧ ∃ v hp' k, P v hp' ∧ zH D B tA H0 (hp' ++ List.replicate k zjk) t.heap
/-- the class's own look throws -/
theorem zlook_x {l : Launch} (htr : l.stackTraces = false) {Lx : Nat} {xs : Nat → Int32} {hp : List zhE} {i : Nat} {n0 n1 : Int32} {P : Option Value → List zhE → Prop} {fs : List Value}
    (hM : zMet l Lx xs zm124 (zrm 124) [.ref i, .int n0] hp P) (hP : ∀ v hp', P v hp' → v = some (.int 0) ∧ hp.length ≤ hp'.length) (hrec : hp[i]? = some (.inr (11, fs))) (D : va_G) (B : zB) (tA : Nat → ClassId) (H0 : Heap) :
    vx_Met l zm127.1 (zws zm127) zrmX (zPc D B tA Lx xs H0 [.ref i, .int n0, .int n1] hp) (fun _ _ _ _ => False) (zXC D B tA H0 P) 4 50 (fun q => B.1 ≤ q) := by
  refine vx_ofW (cc := zm127.2.1) (maxL := zm127.2.2.1) (ret := zm127.2.2.2) (ws' := ztab) (by decide +kernel) rfl ?_
  intro p e s m args below meth c s₁ Bd hml htab hv
  obtain ⟨rfl, hH, hK⟩ := hv
  have hts0 : ∀ w ∈ zws zm127, w.before (([.ref i, .int n0, .int n1] : List Value).map (zvm B)).toArray s = true := atoms_spec (ws := zws zm127) Bd.pre
  have hts : ∀ w ∈ ztab, w.before (([.ref i, .int n0, .int n1] : List Value).map (zvm B)).toArray s = true := fun w hw => hts0 w (List.mem_cons_of_mem _ hw)
  have hown : s.vm.findClass "TinTower" = some m.cls := findClass_of_methodNamed Bd.named
  have hl := lv_entry (([.ref i, .int n0, .int n1] : List Value).map (zvm B)) (n := 3) (by rw [zlg_sl]; exact Nat.le_refl 3)
  have hx := Bd.exec
  have hb : c.code = zm127.2.1 := Bd.bytes
  have hC : zC p s m (([.ref i, .int n0, .int n1] : List Value).map (zvm B)).toArray meth c zm127 := ⟨Bd.exec, Bd.bytes, Bd.returns, hml, hown, hts, Bd.notSynchronized, fun h => absurd h (by decide)⟩
  have hKX : zKX B H0 s := hK.2.2.2.2.2
  rw [lg_entry_eq]
  rw [zmL_args] at hl
  have body : ∀ ls : Array Slot, lv_has ls 3 (zmL B (lv_args 0 [.ref i, .int n0, .int n1])) → W p l e zrmX s m (([.ref i, .int n0, .int n1] : List Value).map (zvm B)).toArray below meth c s.heap [] 0 0 (vx_MQ below (fun _ _ _ _ => False) (zXC D B tA H0 P) (([.ref i, .int n0, .int n1] : List Value).map (zvm B)).toArray s 4 50 (fun q => B.1 ≤ q)) (F0 m 0 ls []) := by
    intro ls hls
    refine lv_aload_n hx hb (k := 0) (i := 0) (x := B.1 + i) (by decide +kernel) rfl (lv_at hls 0 rfl) ?_
    refine lv_iload_n hx hb (k := 1) (i := 1) (x := n0) (by decide +kernel) rfl (lv_at hls 1 rfl) ?_
    refine zr_virt (As := [.int n0]) (rest := []) (me := zm127) (x := 111) (n := 1) hC hK hH (fun q hq => absurd hq List.not_mem_nil) hls.1 zM124 (by decide +kernel) (zW1_tab (by simp [zW1, zm127])) (zW1_tab (by simp [zW1])) (zW1_tab (by simp [zW1, zm124])) (zW1_tab (by simp [zW1, zm124])) hrec (q := (zcl[11]?).getD zcl[0]) rfl rfl hM (by decide +kernel) (by decide +kernel) rfl (Nat.zero_le _) (by decide +kernel) ?_
    intro v hp' hPv H1 locs1 hH1 hl1
    obtain ⟨rfl, hlen⟩ := hP v hp' hPv
    refine lv_if_ne (x := 0) (rest := []) (off := 13) (tgt := 18) hx hb (by decide +kernel) rfl (fun h => absurd rfl h) (fun _ => ?_)
    obtain ⟨⟨sa, hstr⟩, -, -, hU, hN⟩ := id hKX
    have hkeep : ∀ a : Nat, a < H0.size → ¬ B.1 ≤ a → s.heap[a]? = H0[a]? := fun a _ ha => hH.2.2 a (by omega)
    refine vx_throwS (own := "TinTower") (cls := zIE) (text := "no such thing") (names := zIN) (ik := 125) (is := 127) (ic := 129) (sa := sa) (A := fun q => B.1 ≤ q) hx hb htr hown (by decide +kernel) (by decide +kernel) (hts _ (zW1_tab (by simp [zW1]))) (hts _ (zW1_tab (by simp [zW1]))) hstr (zx_at hts hKX) zW4_ok (vx_Zq.kept hU hkeep) (vx_Zq.kept hN hkeep) ?_ (hls.1.trans hml.symm) (by decide +kernel) (by decide +kernel) (by decide +kernel) (by decide +kernel) (by decide +kernel) (fun x hx => (htab x hx).elim) (by decide +kernel) (by decide +kernel) (by decide +kernel) (by decide +kernel) Bd.notSynchronized ?_ hl1 (by decide +kernel) (by decide +kernel)
    · have h1 := hH.1
      have h2 := hH1.1
      exact ⟨by omega, fun q hq hA => by rw [hH1.2.2 q (by omega), hH.2.2 q (by omega)], hl1⟩
    · intro t _ hs ho
      obtain ⟨k, hk⟩ := hH1.junk hs ho
      exact ⟨rfl, _, hp', k, hPv, hk⟩
  exact body _ hl
theorem zx_call {p : Program} {l : Launch} {e : Env} {R : Room} {s : State} {m : MethodId} {args : Array Value} {below : List Frame} {meth : Method} {c : Code} {H : Heap} {locs : List Loc} {cells slots mc ms pc : Nat} {Q : State → Prop} {ls : Array Slot} {st0 rest : List Value} {XC : String → State → State → Prop} {free : Addr → Prop} {Qa : State → Outcome → State → Prop}
    (hr : vx_Run p l e R s m args below meth c H locs cells slots mc ms (F0 m pc ls st0) rest Qa XC free) (hQ : ∀ st o t, ¬ Qa st o t)
    (kx : ∀ (E : String) (ce : Cell) (q : Addr) (st t : State) (L : List Loc), XC E st t → t.heap[q]? = some ce → ce.vm = .none → s.vm.findClass E = some ce.cls → (∀ z ∈ L, free z.base) → vx_W p l e R s m args below meth c t.heap (locs ++ L) (cells + mc) (slots + ms) Q (F0 m pc ls rest) q) :
    W p l e R s m args below meth c H locs cells slots Q (F0 m pc ls st0) := by
  intro T hT X
  rcases hr T hT X with ⟨v, st₀, t, T', L, h0, X', hL, e1, e2, hq, st⟩ | ⟨q, st₀, t, T', L, E, ce, h0, X', hL, e1, e2, hq, hce, hcv, hcl, st⟩
  · exact (hQ _ _ _ hq).elim
  · obtain ⟨t2, a1, b1⟩ := kx E ce q st₀ t L hq hce hcv hcl hL T' e1 X'
    exact ⟨t2, st.trans a1, b1⟩
def zwsL : List Cond := Cond.codeWith zyL method_3_code 5 (some .int) zhh :: ztab
theorem zwsL_in : GoodIn ztab zwsL := by
  intro w hw
  have hin : w ∈ ztab := by
    rcases List.mem_cons.mp hw with rfl | hw
    · exact zW1_tab (by simp [zW1])
    · exact hw
  exact ⟨hin, good_of_word (ztab_good hin)⟩
/-- the law's own look catches it -/
theorem zlook_l {l : Launch} (htr : l.stackTraces = false) {Lx : Nat} {xs : Nat → Int32} {hp : List zhE} {i j : Nat} {n0 n1 : Int32} {P : Option Value → List zhE → Prop} {fs : List Value}
    (hM : zMet l Lx xs zm124 (zrm 124) [.ref i, .int n0] hp P) (hP : ∀ v hp', P v hp' → v = some (.int 0) ∧ hp.length ≤ hp'.length) (hrec : hp[i]? = some (.inr (11, fs))) (D : va_G) (B : zB) (tA : Nat → ClassId) (H0 : Heap) :
    Met l zyL zwsL zrmL (zPc D B tA Lx xs H0 [.ref i, .int n0, .int n1, .ref j] hp) (zQc D B tA H0 (fun v hq => v = some (.int 1) ∧ ∃ u hp' k, P u hp' ∧ hq = hp' ++ List.replicate k zjk)) 8 100 (fun q => B.1 ≤ q) := by
  refine va_MetW (cc := method_3_code) (maxL := 5) (ret := some .int) (hh := zhh) (ws' := ztab) (by decide +kernel) rfl ?_
  intro p e s m args below meth c s₁ Bd hml hv
  obtain ⟨rfl, hH, hK⟩ := hv
  have hts0 : ∀ w ∈ zwsL, w.before (([.ref i, .int n0, .int n1, .ref j] : List Value).map (zvm B)).toArray s = true := atoms_spec (ws := zwsL) Bd.pre
  have hts : ∀ w ∈ ztab, w.before (([.ref i, .int n0, .int n1, .ref j] : List Value).map (zvm B)).toArray s = true := fun w hw => hts0 w (List.mem_cons_of_mem _ hw)
  have hown : s.vm.findClass "TinTowerLaw" = some m.cls := findClass_of_methodNamed Bd.named
  have htab : c.exceptionTable.toList = tableOf zhh := vx_table (x := zyL) Bd (hts0 _ List.mem_cons_self)
  have hl := lv_entry (([.ref i, .int n0, .int n1, .ref j] : List Value).map (zvm B)) (n := 5) (by rw [zlg_sl]; exact Nat.le_succ 4)
  have hx := Bd.exec
  have hb : c.code = method_3_code := Bd.bytes
  have hKX : zKX B H0 s := hK.2.2.2.2.2
  rw [lg_entry_eq]
  rw [zmL_args] at hl
  have body : ∀ ls : Array Slot, lv_has ls 5 (zmL B (lv_args 0 [.ref i, .int n0, .int n1, .ref j])) → W p l e zrmL s m (([.ref i, .int n0, .int n1, .ref j] : List Value).map (zvm B)).toArray below meth c s.heap [] 0 0 (MQ below (zQc D B tA H0 (fun v hq => v = some (.int 1) ∧ ∃ u hp' k, P u hp' ∧ hq = hp' ++ List.replicate k zjk)) (([.ref i, .int n0, .int n1, .ref j] : List Value).map (zvm B)).toArray s 8 100 (fun q => B.1 ≤ q)) (F0 m 0 ls []) := by
    intro ls hls
    refine lv_aload_n hx hb (k := 3) (i := 3) (x := B.1 + j) (by decide +kernel) rfl (lv_at hls 3 rfl) ?_
    refine lv_iconst hx hb (n := 0) (v := 0) (by decide +kernel) rfl ?_
    refine lv_aload_n hx hb (k := 0) (i := 0) (x := B.1 + i) (by decide +kernel) rfl (lv_at hls 0 rfl) ?_
    refine lv_iload_n hx hb (k := 1) (i := 1) (x := n0) (by decide +kernel) rfl (lv_at hls 1 rfl) ?_
    refine lv_iload_n hx hb (k := 2) (i := 2) (x := n1) (by decide +kernel) rfl (lv_at hls 2 rfl) ?_
    have hrv := va_recv hK.1 (hH.one hrec (show (11 : Nat) < 13 by decide)) (q0 := 0) (q := (zcl[11]?).getD zcl[0]) rfl rfl
    refine zx_call (Qa := fun _ _ _ => False) (vx_runV (Ts := ztab) (own := "TinTowerLaw") (C := "TinTower") (b := B.1 + i) (As := [.int n0, .int n1]) (n := 2) (rest := [.int 0, .ref (B.1 + j)]) (bytes := zm127.2.1) (maxL := zm127.2.2.1) (ret := zm127.2.2.2) (index := 7) ⟨hx, hb, hml, hown, hts⟩ (zlook_x htr hM hP hrec D B tA H0) ⟨zcall_b hts zM127 (by decide +kernel) (hts _ (zW1_tab (by simp [zW1]))) (hts _ (zW1_tab (by simp [zW1, zm127]))) (by decide +kernel), hts _ (zW1_tab (by simp [zW1])), hts _ (zW1_tab (by simp [zW1]))⟩ ⟨zPc_blind, hrv, fun U hU hW => ⟨rfl, by rw [hU]; exact hH, hK.moved hW⟩⟩ rfl rfl hls.1 rfl (show 2 * 0 + (1 + (1 + 0)) ≤ 8 by omega) (show decode method_3_code 5 = .ok (.invokevirtual 7, 3) by decide +kernel) (by decide +kernel)) (fun _ _ _ h => h) ?_
    intro E ce q st t L hXC hce hcv hcl hL
    obtain ⟨rfl, u, hp', k, hPu, hHt⟩ := hXC
    refine vx_catch (own := "TinTowerLaw") (name := zIE) (E := zIE) (ce := ce) hown [] ⟨0, 10, 13, 13⟩ [⟨0, 10, 17, 15⟩] (htab.trans rfl) (fun z hz => absurd hz List.not_mem_nil) (by decide +kernel) (by decide +kernel) (hts _ (zW1_tab (by simp [zW1]))) (va_Nw.use rfl (hKX.2.1 _ _ (zW3_in _ (by simp [zW3])))) hce hcv hcl ?_
    refine lv_astore hx hb (i := 4) (nL := 5) (by decide +kernel) hls (by decide) rfl (fun ls2 hls2 => ?_)
    refine lv_iconst hx hb (n := 1) (v := 1) (by decide +kernel) rfl ?_
    refine W.widen (k := 8) (n := 100) (by decide) (by decide) ?_
    exact W.iret hx hb Bd.returns (fun t' ht _ => ⟨some (.int 1), _, rfl, ⟨rfl, u, hp', k, hPu, rfl⟩, by rw [ht]; exact hHt⟩) (fun q hq => by
      rcases List.mem_append.mp hq with h | h
      · exact absurd h List.not_mem_nil
      · exact hL q h) (by decide +kernel) Bd.notSynchronized
  exact body _ hl
/-- a whole number or a symbol is an int -/
theorem zint_val {ρ : Nat → Int} {a : AV} {v : Value} (h : zint a = true) (ha : za ρ a v) : ∃ x : Int32, v = .int x := by
  obtain ⟨t, lo, hi⟩ := a
  rcases zint_ok h with e | e
  · have e : t = 0 := e
    subst e
    obtain ⟨x, rfl, -⟩ := ha
    exact ⟨x, rfl⟩
  · have e : t = 1 := e
    subst e
    obtain ⟨x, rfl, -⟩ := ha
    exact ⟨x, rfl⟩
def zlook1 : ZLK := fun as h E c s k => match as with
  | [x, p0, p1, o] => zint p0 && (zint p1 && (zref o (fun _ => true) && (Nat.ble h.1 999998 && (Nat.ble (c + 8) 600002 && (Nat.ble (s + 100) 7302232 && zref x (fun i => zobj h i 11 (fun _ => zargs 0 [x, p0] (fun A' => zrun zlk0 60 (zrw 124).1 (zrw 124).2.1 (zrw 124).2.2.1 (zrw 124).2.2.2.1 (zrw 124).2.2.2.2.1 (zrw 124).2.2.2.2.2 (fun r h' _ => match r with | some a => zaveq a (0, 0, 0) && (Nat.beq h'.1 h.1 && k (0, 1, 1) (999999, h'.2) (c + 8) (s + 100)) | none => false) (zrw 124).1 0 A' [] h E 0 0))))))))
  | _ => false
theorem zlook1_ok {l : Launch} {Lx : Nat} {xs : Nat → Int32} {ρ : Nat → Int} (htr : l.stackTraces = false) (hTB : zTBok) (hX : zX ρ Lx xs) : zLKok l Lx xs ρ zlook1 := by
  intro as h E c s k hz hE vs hp hS hH p e R s0 m args below meth c0 Q D B tA H0 me pc rest hC hK hcls hd hrest hR H locs ls hzH hl hls kk
  unfold zlook1 at hz
  split at hz
  · rename_i x p0 p1 o
    simp only [Bool.and_eq_true] at hz
    obtain ⟨h1, h2, h3, h10, h11, h12, h4⟩ := hz
    have h10 := Nat.le_of_ble_eq_true h10
    have h11 := Nat.le_of_ble_eq_true h11
    have h12 := Nat.le_of_ble_eq_true h12
    match vs, hS with
    | [vx, v0, v1, vo], hS =>
      obtain ⟨a1, a2, a3, a4, -⟩ := hS
      obtain ⟨n0, rfl⟩ := zint_val h1 a2
      obtain ⟨n1, rfl⟩ := zint_val h2 a3
      obtain ⟨j, rfl, -⟩ := zref_ok h3 a4
      obtain ⟨i, rfl, h5⟩ := zref_ok h4 a1
      obtain ⟨fs, fv, -, h6, h7, -⟩ := zobj_ok h5 hH
      obtain ⟨A', h8, h9⟩ := zargs_ok (vs := [.ref i, .int n0]) h6 ⟨a1, a2, trivial⟩
      have c1 : 1 = zcat x := zcat_ok a1
      have c2 : 1 = zcat p0 := zcat_ok a2
      have hle : ([x, p0].map zcat).sum ≤ (zrw 124).2.1 := by
        show zcat x + (zcat p0 + 0) ≤ (zrw 124).2.1
        rw [← c1, ← c2]
        decide +kernel
      have hM := zmet_of_run (zrun_ok (l := l) hTB hX zlk0_ok 60) hTB (by decide) zM124 h8 hE h9 (as := [x, p0]) (av := [.ref i, .int n0]) ⟨a1, a2, trivial⟩ hle hH
      have hlen : h.1 = hp.length := by rcases hH.1 with q | q <;> omega
      have hP : ∀ v hp', (∃ r h' E', (fun (r : Option AV) (h' : AH) (_ : AE) => match r with | some a => zaveq a (0, 0, 0) && (Nat.beq h'.1 h.1 && k (0, 1, 1) (999999, h'.2) (c + 8) (s + 100)) | none => false) r h' E' = true ∧ zaE ρ E' ∧ zaR ρ r v ∧ zaH ρ h' hp') → (v = some (.int 0) ∧ hp.length ≤ hp'.length) ∧ ∃ h' : AH, k (0, 1, 1) (999999, h'.2) (c + 8) (s + 100) = true ∧ zaH ρ h' hp' := by
        rintro v hp' ⟨r, h', E', g1, -, g2, g3⟩
        match r, g1, g2 with
        | some a, g1, g2 =>
          simp only [Bool.and_eq_true] at g1
          obtain ⟨g4, g5, g6⟩ := g1
          have g4 := zaveq_ok g4
          subst g4
          match v, g2 with
          | some v, g2 =>
            obtain ⟨y, rfl, y1, y2⟩ := g2
            have hy : y = 0 := Int32.toInt_inj.1 (by show y.toInt = (0 : Int32).toInt; have : (0 : Int32).toInt = 0 := rfl; omega)
            subst hy
            have g5 := Nat.eq_of_beq_eq_true g5
            refine ⟨⟨rfl, ?_⟩, h', g6, g3⟩
            rcases g3.1 with q | q <;> omega
        | none, g1, _ => cases g1
      obtain ⟨hx, hb, hr, hml, hown, hts, hlocks, hnm⟩ := hC
      rw [hcls] at hown
      obtain ⟨hR1, hR2, hR3, hR4⟩ := hR
      have hsig : ∀ sig, parseMethodDescriptor zyL.desc = some sig → 4 = sig.parameters.length := fun sig h => by
        have h2 : (parseMethodDescriptor zyL.desc).map (fun d => d.parameters.length) = some 4 := by decide +kernel
        rw [h] at h2
        exact (Option.some.inj h2).symm
      have hrun := vx_runSW (l := l) (e := e) (R := R) (below := below) (meth := meth) (H := H) (locs := locs) (cells := c) (slots := s) (Ts := ztab) (hh := zhh) (own := "TinTowerLaw") (g := F0 m pc ls ((([.ref i, .int n0, .int n1, .ref j] : List Value).map (zvm B)).reverse ++ rest)) (As := ([.ref i, .int n0, .int n1, .ref j] : List Value).map (zvm B)) (rest := rest) (n := 4) (index := 39) (bytes := method_3_code) (maxL := 5) (ret := some .int) (rm := zrmL) ⟨hx, hb, hml, hown, hts⟩ (zlook_l htr (n1 := n1) (j := j) hM (fun v hp' q => (hP v hp' q).1) h7 D B tA H0)
        ⟨⟨rfl, rfl, by rw [hR3]; decide, by rw [hR4]; decide, pay_in hts zwsL_in, List.mem_cons_self⟩, hts _ (zW1_tab (by simp [zW1])), hts _ (zW1_tab (by simp [zW1, zyL])), ⟨by decide, by decide⟩, hsig, hts _ (zW1_tab (by simp [zW1])), hts _ (zW1_tab (by simp [zW1]))⟩
        ⟨zPc_blind, fun U hU hW => ⟨rfl, by rw [hU]; exact hzH, hK.moved hW⟩⟩ rfl rfl hls rfl (by show 2 * 0 + _ ≤ 8; omega) hd ⟨by omega, by omega⟩
      refine zr_call hrun hl (fun st o t h => h) (fun v hq hv H1 locs1 hH1 hl1 => ?_)
      obtain ⟨rfl, u, hp', n, hu, rfl⟩ := hv
      obtain ⟨-, h', hk, hH'⟩ := hP u hp' hu
      exact kk _ _ _ _ hk (.int 1) _ ⟨1, rfl, by decide, by decide⟩ ⟨Or.inr rfl, fun i c hc => by
        obtain ⟨y, hy, hy2⟩ := hH'.2 i c hc
        exact ⟨y, by rw [List.getElem?_append_left (List.getElem?_eq_some_iff.mp hy).1]; exact hy, hy2⟩⟩ H1 locs1 hH1 hl1
  · cases hz
