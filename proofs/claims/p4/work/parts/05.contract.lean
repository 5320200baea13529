/-! contracts over the whole list of cells -/
def zws (m : zMe) : List Cond := Cond.code m.1 m.2.1 m.2.2.1 m.2.2.2 :: ztab
theorem zws_in {k : Nat} {m : zMe} (h : zM k = some m) : GoodIn ztab (zws m) := by
  intro w hw
  have hin : w ∈ ztab := by
    rcases List.mem_cons.mp hw with rfl | hw
    · exact zM_tab h
    · exact hw
  exact ⟨hin, good_of_word (ztab_good hin)⟩
def zPc (D : va_G) (B : zB) (tA : Nat → ClassId) (Lx : Nat) (xs : Nat → Int32) (H0 : Heap) (av : List Value) (hp : List zhE) : Array Value → State → Prop := fun a U =>
  a = (av.map (zvm B)).toArray ∧ zH D B tA H0 hp U.heap ∧ zK D B tA Lx xs H0 U
def zQc (D : va_G) (B : zB) (tA : Nat → ClassId) (H0 : Heap) (P : Option Value → List zhE → Prop) : Array Value → State → Outcome → State → Prop := fun _ _ o t =>
  ∃ v hp', o = .returned (v.map (zvm B)) ∧ P v hp' ∧ zH D B tA H0 hp' t.heap
def zMet (l : Launch) (Lx : Nat) (xs : Nat → Int32) (m : zMe) (rm : Room) (av : List Value) (hp : List zhE) (P : Option Value → List zhE → Prop) : Prop :=
  ∀ (D : va_G) (B : zB) (tA : Nat → ClassId) (H0 : Heap), Met l m.1 (zws m) rm (zPc D B tA Lx xs H0 av hp) (zQc D B tA H0 P) rm.cells rm.slots (fun q => B.1 ≤ q)
theorem zPc_blind {D : va_G} {B : zB} {tA : Nat → ClassId} {Lx : Nat} {xs : Nat → Int32} {H0 : Heap} {av : List Value} {hp : List zhE} : FrameBlind (zPc D B tA Lx xs H0 av hp) :=
  fun a U g mk q => ⟨q.1, q.2.1, zK.same (u := U) (U := U.calling g mk a) rfl q.2.2⟩
/-- what a frame stands on -/
def zC (p : Program) (s : State) (m : MethodId) (args : Array Value) (meth : Method) (c : Code) (me : zMe) : Prop :=
  p.tables.exec = Jvm.exec ∧ c.code = me.2.1 ∧ meth.sig.returnType = me.2.2.2 ∧ c.maxLocals = me.2.2.1 ∧ s.vm.findClass me.1.cls = some m.cls ∧ (∀ w ∈ ztab, w.before args s = true) ∧ meth.locks = false ∧ (me.1.name = "<init>" → meth.name = "<init>")
section ZM
variable {p : Program} {l : Launch} {e : Env} {R : Room} {s : State} {m : MethodId} {args : Array Value} {below : List Frame} {meth : Method} {c : Code} {H : Heap} {locs : List Loc} {cells slots : Nat} {Q : State → Prop}
variable {pc : Nat} {ls : Array Slot} {rest : List Value} {D : va_G} {B : zB} {tA : Nat → ClassId} {H0 : Heap} {hp : List zhE} {me me' : zMe} {k x : Nat} {Lx : Nat} {xs : Nat → Int32} {rm : Room} {P : Option Value → List zhE → Prop} {As : List Value}
theorem zcal_ok {a b : Nat} {m' : zMe} (hm : zM a = some m') (h : zcal a b = true) : (m'.1.cls ≠ "java/lang/invoke/MethodHandle" ∧ m'.1.cls ≠ "java/lang/invoke/VarHandle") ∧ (parseMethodDescriptor m'.1.desc).map (fun d => d.parameters.length) = some b ∧ plainFor m'.1 = true := by
  unfold zcal at h
  rw [hm] at h
  simp only [Bool.and_eq_true, decide_eq_true_eq] at h
  exact ⟨⟨h.1.1.1, h.1.1.2⟩, h.1.2, h.2⟩
theorem zcall_b (hts : ∀ w ∈ ztab, w.before args s = true) (hm : zM k = some me') {n : Nat} (hc : zcal k n = true) {own : String} (hl : (Cond.methodLink own x me'.1).before args s = true) (hi : (Cond.initialized me'.1.cls).before args s = true) (hR : rm.frames + 1 ≤ R.frames ∧ 8 + (me'.2.2.1 + 11) + rm.locals ≤ R.locals) :
    CallB R s args own x me'.1 me'.2.1 me'.2.2.1 me'.2.2.2 (zws me') rm rm.cells rm.slots n := by
  obtain ⟨h1, h2, -⟩ := zcal_ok hm hc
  refine ⟨rfl, rfl, hR.1, hR.2, pay_in hts (zws_in hm), List.mem_cons_self, hts _ (zM_tab hm), hi, h1, fun sig h => ?_, hl⟩
  rw [h] at h2
  exact (Option.some.inj h2).symm
theorem zr_virt (hC : zC p s m args meth c me) (hK : zK D B tA Lx xs H0 s) (hH : zH D B tA H0 hp H) (hl : ∀ q ∈ locs, B.1 ≤ q.base) (hs : ls.size = me.2.2.1) (hm : zM k = some me') {n : Nat} (hc : zcal k n = true) (hw1 : Cond.methodLink me.1.cls x me'.1 ∈ ztab) (hw2 : Cond.instanceMethod me'.1 ∈ ztab) (hw3 : Cond.selects me'.1.cls me'.1 me'.1 ∈ ztab) (hw4 : Cond.initialized me'.1.cls ∈ ztab)
    {a ci : Nat} {fs : List Value} {q : vw_C} (hrec : hp[a]? = some (.inr (ci, fs))) (hci : zcl[ci]? = some q) (hq : q.1 = me'.1.cls) (hM : zMet l Lx xs me' rm (.ref a :: As) hp P) (hR : rm.frames + 1 ≤ R.frames ∧ 8 + (me'.2.2.1 + 11) + rm.locals ≤ R.locals) (hf : cells + rm.cells ≤ R.cells ∧ slots + rm.slots ≤ R.slots) (hn : As.length = n) (hrs : (rest.map fun v => v.category).sum ≤ 8) (hdg : decode me.2.1 pc = .ok (.invokevirtual x, 3))
    (kk : ∀ v hp', P v hp' → ∀ (H1 : Heap) (locs1 : List Loc), zH D B tA H0 hp' H1 → (∀ q ∈ locs1, B.1 ≤ q.base) → W p l e R s m args below meth c H1 locs1 (cells + rm.cells) (slots + rm.slots) Q (F0 m (pc + 3) ls ((v.map (zvm B)).toList ++ rest))) :
    W p l e R s m args below meth c H locs cells slots Q (F0 m pc ls ((As.map (zvm B)).reverse ++ .ref (B.1 + a) :: rest)) := by
  obtain ⟨hx, hb, hr, hml, hown, hts, hlocks, hnm⟩ := hC
  have hrv := va_recv hK.1 (hH.one hrec (zok_of hci)) (q0 := 0) hci rfl
  rw [hq] at hrv
  exact zr_call (va_runV (As := As.map (zvm B)) (n := n) ⟨hx, hb, hml, hown, hts⟩ (hM D B tA H0) ⟨zcall_b hts hm hc (hts _ hw1) (hts _ hw4) hR, hts _ hw2, hts _ hw3⟩ ⟨zPc_blind, hrv, fun U hU hW => ⟨rfl, by rw [hU]; exact hH, hK.moved hW⟩⟩ rfl (by simp [hn]) hs rfl (by show 2 * 0 + _ ≤ 8; omega) hdg hf) hl (fun st o t h => h) kk
theorem zr_stat (hC : zC p s m args meth c me) (hK : zK D B tA Lx xs H0 s) (hH : zH D B tA H0 hp H) (hl : ∀ q ∈ locs, B.1 ≤ q.base) (hs : ls.size = me.2.2.1) (hm : zM k = some me') {n : Nat} (hc : zcal k n = true) (hw1 : Cond.methodLink me.1.cls x me'.1 ∈ ztab) (hw2 : Cond.static me'.1 ∈ ztab) (hw4 : Cond.initialized me'.1.cls ∈ ztab)
    (hM : zMet l Lx xs me' rm As hp P) (hR : rm.frames + 1 ≤ R.frames ∧ 8 + (me'.2.2.1 + 11) + rm.locals ≤ R.locals) (hf : cells + rm.cells ≤ R.cells ∧ slots + rm.slots ≤ R.slots) (hn : As.length = n) (hrs : (rest.map fun v => v.category).sum ≤ 8) (hdg : decode me.2.1 pc = .ok (.invokestatic x, 3))
    (kk : ∀ v hp', P v hp' → ∀ (H1 : Heap) (locs1 : List Loc), zH D B tA H0 hp' H1 → (∀ q ∈ locs1, B.1 ≤ q.base) → W p l e R s m args below meth c H1 locs1 (cells + rm.cells) (slots + rm.slots) Q (F0 m (pc + 3) ls ((v.map (zvm B)).toList ++ rest))) :
    W p l e R s m args below meth c H locs cells slots Q (F0 m pc ls ((As.map (zvm B)).reverse ++ rest)) := by
  obtain ⟨hx, hb, hr, hml, hown, hts, hlocks, hnm⟩ := hC
  exact zr_call (va_runS (As := As.map (zvm B)) (n := n) ⟨hx, hb, hml, hown, hts⟩ (hM D B tA H0) ⟨zcall_b hts hm hc (hts _ hw1) (hts _ hw4) hR, hts _ hw2⟩ ⟨zPc_blind, fun U hU hW => ⟨rfl, by rw [hU]; exact hH, hK.moved hW⟩⟩ rfl (by simp [hn]) hs rfl (by show 2 * 0 + _ ≤ 8; omega) hdg hf) hl (fun st o t h => h) kk
theorem zr_spec (hC : zC p s m args meth c me) (hK : zK D B tA Lx xs H0 s) (hH : zH D B tA H0 hp H) (hl : ∀ q ∈ locs, B.1 ≤ q.base) (hs : ls.size = me.2.2.1) (hm : zM k = some me') {n : Nat} (hc : zcal k n = true) (hnm1 : me'.1.name = "<init>") (hret : me'.2.2.2 = none)
    (hw1 : Cond.methodLink me.1.cls x me'.1 ∈ ztab ∨ Cond.methodLinkNest me.1.cls x me'.1 "TinTower" ∈ lw_tbl) (hw2 : Cond.instanceMethod me'.1 ∈ ztab) (hw4 : Cond.initialized me'.1.cls ∈ ztab)
    {a : Nat} (hM : zMet l Lx xs me' rm (.ref a :: As) hp P) (hR : rm.frames + 1 ≤ R.frames ∧ 8 + (me'.2.2.1 + 11) + rm.locals ≤ R.locals) (hf : cells + rm.cells ≤ R.cells ∧ slots + rm.slots ≤ R.slots) (hn : As.length = n) (hrs : (rest.map fun v => v.category).sum ≤ 8) (hdg : decode me.2.1 pc = .ok (.invokespecial x, 3))
    (kk : ∀ v hp', P v hp' → ∀ (H1 : Heap) (locs1 : List Loc), zH D B tA H0 hp' H1 → (∀ q ∈ locs1, B.1 ≤ q.base) → W p l e R s m args below meth c H1 locs1 (cells + rm.cells) (slots + rm.slots) Q (F0 m (pc + 3) ls ((v.map (zvm B)).toList ++ rest))) :
    W p l e R s m args below meth c H locs cells slots Q (F0 m pc ls ((As.map (zvm B)).reverse ++ .ref (B.1 + a) :: rest)) := by
  obtain ⟨hx, hb, hr, hml, hown, hts, hlocks, hnm⟩ := hC
  obtain ⟨h1, h2, -⟩ := zcal_ok hm hc
  have hMB := hM D B tA H0
  have hcode : Cond.code me'.1 me'.2.1 me'.2.2.1 none ∈ ztab := by rw [← hret]; exact zM_tab hm
  have hsig : ∀ sig, parseMethodDescriptor me'.1.desc = some sig → n = sig.parameters.length := fun sig h => by
    rw [h] at h2
    exact (Option.some.inj h2).symm
  have hcin : Cond.code me'.1 me'.2.1 me'.2.2.1 none ∈ zws me' := by
    have h9 : Cond.code me'.1 me'.2.1 me'.2.2.1 me'.2.2.2 ∈ zws me' := List.mem_cons_self
    rw [hret] at h9
    exact h9
  rcases hw1 with hw1 | hw1
  · exact zr_call (va_runI (As := As.map (zvm B)) (n := n) ⟨hx, hb, hml, hown, hts⟩ hMB ⟨⟨rfl, rfl, hR.1, hR.2, pay_in hts (zws_in hm), hcin, hts _ hcode, hts _ hw4, h1, hsig, hts _ hw1⟩, hnm1, hts _ hw2⟩ ⟨zPc_blind, fun U hU hW => ⟨rfl, by rw [hU]; exact hH, hK.moved hW⟩⟩ rfl (by simp [hn]) hs rfl (by show 2 * 0 + _ ≤ 8; omega) hdg hf) hl (fun st o t h => h) kk
  · exact zr_call (va_runIN (As := As.map (zvm B)) (n := n) ⟨hx, hb, hml, hown, hts⟩ hMB ⟨⟨⟨rfl, rfl, hR.1, hR.2, pay_in hts (zws_in hm), hcin⟩, hts _ hcode, hts _ hw4, h1, hsig, va_Nw.use rfl (hK.2.2.2.2.1 _ _ _ _ hw1)⟩, hnm1, hts _ hw2⟩ ⟨zPc_blind, fun U hU hW => ⟨rfl, by rw [hU]; exact hH, hK.moved hW⟩⟩ rfl (by simp [hn]) hs rfl (by show 2 * 0 + _ ≤ 8; omega) hdg hf) hl (fun st o t h => h) kk
end ZM
abbrev zL : Type := List (Nat × Value)
def zmL (B : zB) (L : zL) : zL := L.map (fun q => (q.1, zvm B q.2))
def zput1 (L : zL) (i : Nat) (v : Value) : zL := (i, v) :: L.filter (fun q => !(q.1 == i) && !(q.1 + 1 == i && q.2.category == 2))
def zput2 (L : zL) (i : Nat) (v : Value) : zL := (i, v) :: L.filter (fun q => !(q.1 == i) && (!(q.1 == i + 1) && !(q.1 + 1 == i && q.2.category == 2)))
theorem zmL_put1 (B : zB) (L : zL) (i : Nat) (v : Value) : zmL B (zput1 L i v) = (i, zvm B v) :: (zmL B L).filter (fun q => !(q.1 == i) && !(q.1 + 1 == i && q.2.category == 2)) := by
  simp only [zmL, zput1, List.map_cons, List.filter_map]
  congr 3
  funext q
  simp [zvm_cat]
theorem zmL_put2 (B : zB) (L : zL) (i : Nat) (v : Value) : zmL B (zput2 L i v) = (i, zvm B v) :: (zmL B L).filter (fun q => !(q.1 == i) && (!(q.1 == i + 1) && !(q.1 + 1 == i && q.2.category == 2))) := by
  simp only [zmL, zput2, List.map_cons, List.filter_map]
  congr 3
  funext q
  simp [zvm_cat]
theorem zmL_args (B : zB) : ∀ (n : Nat) (vs : List Value), lv_args n (vs.map (zvm B)) = zmL B (lv_args n vs)
  | n, [] => rfl
  | n, v :: vs => by
    simp only [List.map_cons, lv_args, zmL, zvm_cat]
    rw [zmL_args B _ vs]
    rfl
theorem zlg_sl (B : zB) (vs : List Value) : (lg_sl (vs.map (zvm B))).length = (lg_sl vs).length := by
  induction vs with
  | nil => rfl
  | cons v vs ih =>
    have hc := zvm_cat B v
    simp only [lg_sl, List.map_cons, List.flatMap_cons, List.length_append] at ih ⊢
    rw [hc, ih]
    by_cases h2 : v.category = 2
    · simp [h2]
    · simp [h2]
/-- a method's contract by its body -/
theorem zMet_of {l : Launch} {Lx : Nat} {xs : Nat → Int32} {k : Nat} {me : zMe} (hm : zM k = some me) (hpl : plainFor me.1 = true) {rm : Room} {av : List Value} {hp : List zhE} {P : Option Value → List zhE → Prop} (hav : (lg_sl av).length ≤ me.2.2.1)
    (body : ∀ (p : Program) (e : Env) (s : State) (m : MethodId) (args : Array Value) (below : List Frame) (meth : Method) (c : Code) (D : va_G) (B : zB) (tA : Nat → ClassId) (H0 : Heap), zC p s m args meth c me → zK D B tA Lx xs H0 s → ∀ (ls : Array Slot), lv_has ls me.2.2.1 (zmL B (lv_args 0 av)) → zH D B tA H0 hp s.heap →
      W p l e rm s m args below meth c s.heap [] 0 0 (MQ below (zQc D B tA H0 P) args s rm.cells rm.slots (fun q => B.1 ≤ q)) (F0 m 0 ls [])) : zMet l Lx xs me rm av hp P := by
  intro D B tA H0
  refine va_MetF (cc := me.2.1) (maxL := me.2.2.1) (ret := me.2.2.2) hpl rfl ?_
  intro p e s m args below meth c s₁ Bd hml hv
  obtain ⟨rfl, hH, hK⟩ := hv
  have hts : ∀ w ∈ zws me, w.before (av.map (zvm B)).toArray s = true := atoms_spec (ws := zws me) Bd.pre
  have hown : s.vm.findClass me.1.cls = some m.cls := findClass_of_methodNamed Bd.named
  have hnm : meth.name = me.1.name := (name_of_methodNamed Bd.named Bd.method).1
  have hl := lv_entry (av.map (zvm B)) (n := me.2.2.1) (by rw [zlg_sl]; exact hav)
  rw [lg_entry_eq]
  rw [zmL_args] at hl
  exact body p e s m _ below meth c D B tA H0 ⟨Bd.exec, Bd.bytes, Bd.returns, hml, hown, fun w hw => hts w (List.mem_cons_of_mem _ hw), Bd.notSynchronized, fun h => hnm.trans h⟩ hK _ hl hH
section ZSC
variable {p : Program} {l : Launch} {e : Env} {R : Room} {s : State} {m : MethodId} {args : Array Value} {below : List Frame} {meth : Method} {c : Code} {H : Heap} {locs : List Loc} {cells slots : Nat} {Q : State → Prop}
variable {cc : ByteArray} {pc : Nat} {ls : Array Slot} {rest : List Value} {D : va_G} {B : zB} {tA : Nat → ClassId} {H0 : Heap} {hp : List zhE} {Lx : Nat} {xs : Nat → Int32}
theorem zr_sld (hx : p.tables.exec = Jvm.exec) (hb : c.code = cc) (hK : zK D B tA Lx xs H0 s) (hH : zH D B tA H0 hp H) {j : Int32} (hj : vp_in j Lx) (hdg : decode cc pc = .ok (.iaload, 1))
    (kk : W p l e R s m args below meth c H locs cells slots Q (F0 m (pc + 1) ls (.int (xs j.toNatClampNeg) :: rest))) : W p l e R s m args below meth c H locs cells slots Q (F0 m pc ls (.int j :: .ref B.2 :: rest)) := by
  obtain ⟨scr, h1, h2, h3, h4, h5⟩ := hK.2.1
  have hlt : j.toNatClampNeg < Lx := Nat.not_le.mp fun q => hj (Or.inr q)
  have h6 : H[B.2]? = some scr := by rw [hH.2.2 B.2 hK.2.2.1]; exact h1
  exact W.iald hx hb h6 h2 h3 (by rw [h4]; exact hj) (h5 _ hlt) rfl rfl hdg kk
theorem zr_slen (hx : p.tables.exec = Jvm.exec) (hb : c.code = cc) (hK : zK D B tA Lx xs H0 s) (hH : zH D B tA H0 hp H) (hdg : decode cc pc = .ok (.arraylength, 1))
    (kk : W p l e R s m args below meth c H locs cells slots Q (F0 m (pc + 1) ls (.int (Int32.ofNat Lx) :: rest))) : W p l e R s m args below meth c H locs cells slots Q (F0 m pc ls (.ref B.2 :: rest)) := by
  obtain ⟨scr, h1, h2, h3, h4, h5⟩ := hK.2.1
  have h6 : H[B.2]? = some scr := by rw [hH.2.2 B.2 hK.2.2.1]; exact h1
  exact W.alen (n := Int32.ofNat Lx) hx hb h6 h2 (by rw [h4] <;> rfl) rfl rfl hdg kk
end ZSC
