/-! making cells, calls, returns over the list of cells -/
def zdf (c N : Nat) : List Value := (List.range N).map (fun k => defaultValue (zFt c k))
section ZR2
variable {p : Program} {l : Launch} {e : Env} {R : Room} {s : State} {m : MethodId} {args : Array Value} {below : List Frame} {meth : Method} {c : Code} {H : Heap} {locs : List Loc} {cells slots : Nat} {Q : State → Prop}
variable {cc : ByteArray} {pc : Nat} {ls : Array Slot} {rest : List Value} {D : va_G} {B : zB} {tA : Nat → ClassId} {H0 : Heap} {hp : List zhE} {own : String} {i : Nat}
theorem zr_aast (hx : p.tables.exec = Jvm.exec) (hb : c.code = cc) (hK : va_K D zcl (zty tA) s) (hH : zH D B tA H0 hp H) (hl : ∀ q ∈ locs, B.1 ≤ q.base) {n x ci : Nat} {fs : List Value} {f : Nat → Option Nat} {r : vw_C} (he : hp[i]? = some (.inl (4, n, .inr (.inr f)))) (hv : hp[x]? = some (.inr (ci, fs))) (hc : zcl[ci]? = some r) (hr : r.1 = "TinTower$Scene") {j : Int32} (hj : vp_in j n) (hdg : decode cc pc = .ok (.aastore, 1))
    (kk : ∀ (H1 : Heap) (locs1 : List Loc), zH D B tA H0 (hp.set i (.inl (4, n, .inr (.inr (va_up f j.toNatClampNeg (some x)))))) H1 → (∀ q ∈ locs1, B.1 ≤ q.base) → W p l e R s m args below meth c H1 locs1 cells slots Q (F0 m (pc + 1) ls rest)) : W p l e R s m args below meth c H locs cells slots Q (F0 m pc ls (.ref (B.1 + x) :: .int j :: .ref (B.1 + i) :: rest)) := by
  have hlt : j.toNatClampNeg < n := Nat.not_le.mp fun q => hj (Or.inr q)
  have h0 : ¬ j < 0 := fun q => hj (Or.inl q)
  obtain ⟨r', hr', cellV, g1, g2, g3, -⟩ : ∃ r' : vw_C, zcl[ci]? = some r' ∧ t_OB (B.1 + x) (D.1 ci) r'.2.2 (D.2 ci) H (vp_V (fs.map (zvm B))) := hH.2.1 x _ hv (zok_of hc)
  have hcls := (hK.1 ci r hc).2
  obtain ⟨kA, comp, k1, k2, k3, -⟩ : ∃ (kA : Class) (comp : ClassId), s.vm.classes[tA 4]? = some kA ∧ kA.kind = .array comp (.object "TinTower$Scene") ∧ s.vm.findClass "TinTower$Scene" = some comp ∧ s.vm.findClass ("[" ++ (FieldType.object "TinTower$Scene").toString) = some (tA 4) := (hK.2 4 _ rfl).2
  have hcls1 : s.vm.findClass "TinTower$Scene" = some (D.1 ci) := by rw [← hr]; exact hcls.1
  have hcomp : comp = D.1 ci := Option.some.inj (k3.symm.trans hcls1)
  subst hcomp
  obtain ⟨kC, hkC, -⟩ := hcls.2
  refine W.aast hx hb (show H[B.1 + i]? = some (arrV (tA 4) n (fun j => va_rf ((f j).map (fun i => B.1 + i)))) from hH.2.1 i _ he trivial) (fun q h => by cases h) (fun h => by cases h) k1 k2 rfl hkC ⟨h0, by rw [arrV_size]; exact hlt⟩ g1 (fun q h => by rw [g3] at h; cases h) (by rw [g2]; exact hkC) (by rw [g2]; exact va_assign hcls) rfl rfl hdg fun H1 e z oq => ?_
  refine kk H1 _ (hH.set he z oq ?_) ?_
  · show H1[B.1 + i]? = some (arrV (tA 4) n (fun q => va_rf ((va_up f j.toNatClampNeg (some x) q).map (fun i => B.1 + i))))
    rw [e, arrV_store, zup_r]
  · intro q hq
    rcases List.mem_append.mp hq with h | h
    · exact hl q h
    · rw [List.mem_singleton.mp h]; exact Nat.le_add_right _ _
theorem zr_new (hx : p.tables.exec = Jvm.exec) (hb : c.code = cc) (hts : ∀ w ∈ ztab, w.before args s = true) (hown : s.vm.findClass own = some m.cls) (hK : va_K D zcl (zty tA) s) (hH : zH D B tA H0 hp H)
    {ci x : Nat} {C : String} {T : u_T} {N : Nat} (hc : zcl[ci]? = some (C, T, N)) (hin : ∀ w ∈ u_ws C T N, w ∈ ztab) (hty : ∀ k, k < N → parseFieldDescriptor (T k).2.2.1 = some (zFt ci k)) (hns : ∀ k, k < N → zvm B (defaultValue (zFt ci k)) = defaultValue (zFt ci k))
    (hcl : (Cond.classLink own x C).before args s = true) (hinst : (Cond.instantiable C N).before args s = true) (hini : (Cond.initialized C).before args s = true) (hcells : cells + 1 ≤ R.cells) (hslots : slots + N ≤ R.slots) (hdg : decode cc pc = .ok (.new x, 3))
    (kk : ∀ H1 : Heap, zH D B tA H0 (hp ++ [.inr (ci, zdf ci N)]) H1 → W p l e R s m args below meth c H1 locs (cells + 1) (slots + N) Q (F0 m (pc + 3) ls (.ref (B.1 + hp.length) :: rest))) : W p l e R s m args below meth c H locs cells slots Q (F0 m pc ls rest) := by
  obtain ⟨hS, hfc, kC, hkC, hkind⟩ := hK.1 ci _ hc
  have hz : H.size = B.1 + hp.length := hH.1
  rw [← hz] at kk
  refine W.newcK hx hb hown hcl hinst hini rfl hdg hcells hslots hfc rfl fun H1 kC' hkC' e1 e2 e3 => ?_
  have hb1 := u_born (zFt ci) hts hin ⟨hS, hfc, kC, hkC, hkind⟩ hkC' e1 hty
  refine kk H1 (hH.push e2 e3 ⟨_, hc, t_OB.to hb1 (fun k hk => ?_)⟩)
  have hk' : k < N := hk
  show _ = ((zdf ci N).map (zvm B)).getD k .null
  simp only [zdf, List.map_map]
  rw [List.getD_eq_getElem?_getD, List.getElem?_map, List.getElem?_range hk']
  exact (hns k hk').symm
def zda (t : Nat) : zhA := match t with
  | 1 => .inr (.inl (fun _ => 0))
  | 4 => .inr (.inr (fun _ => none))
  | _ => .inl (fun _ => 0)
theorem zr_newa (hx : p.tables.exec = Jvm.exec) (hb : c.code = cc) (hK : va_K D zcl (zty tA) s) (hH : zH D B tA H0 hp H) {at' : ArrayType} {t : Nat} (ht : t < 4) (hat : zat[t]? = some (newarray.typeOf at')) (harr : (Cond.arrayClass (newarray.typeOf at')).before args s = true)
    {n : Int32} (hn : ¬ n < 0) (hsz : n.toNatClampNeg ≤ 10000) (hcells : cells + 1 ≤ R.cells) (hslots : slots + n.toNatClampNeg ≤ R.slots) (hdg : decode cc pc = .ok (.newarray at', 2))
    (kk : ∀ H1 : Heap, zH D B tA H0 (hp ++ [.inl (t, n.toNatClampNeg, zda t)]) H1 → W p l e R s m args below meth c H1 locs (cells + 1) (slots + n.toNatClampNeg) Q (F0 m (pc + 2) ls (.ref (B.1 + hp.length) :: rest))) : W p l e R s m args below meth c H locs cells slots Q (F0 m pc ls (.int n :: rest)) := by
  have hbytes : n.toNatClampNeg * componentBytes (newarray.typeOf at') ≤ 536870912 := by
    have hcb : componentBytes (newarray.typeOf at') ≤ 8 := by cases at' <;> decide
    exact Nat.le_trans (Nat.mul_le_mul hsz hcb) (by decide)
  have hz : H.size = B.1 + hp.length := hH.1
  refine va_newaK hx hb harr rfl hdg rfl hn rfl hbytes hcells hslots rfl fun H1 cA e1 e2 e3 _ e5 => ?_
  rw [hz] at e1 e2 e3 ⊢
  refine kk H1 (hH.push (by rw [e2, hz]) (by rw [hz]; exact e3) ?_)
  rw [hz]
  match t, ht, hat with
  | 0, _, hat =>
    have h1 : newarray.typeOf at' = .int := (Option.some.inj hat).symm
    rw [h1] at e1 e5
    have h2 : s.vm.findClass ("[" ++ FieldType.int.toString) = some (tA 0) := (hK.2 0 _ rfl).2
    cases h2.symm.trans e5
    exact e1
  | 1, _, hat =>
    have h1 : newarray.typeOf at' = .long := (Option.some.inj hat).symm
    rw [h1] at e1 e5
    have h2 : s.vm.findClass ("[" ++ FieldType.long.toString) = some (tA 1) := (hK.2 1 _ rfl).2
    cases h2.symm.trans e5
    exact e1
  | 2, _, hat =>
    have h1 : newarray.typeOf at' = .byte := (Option.some.inj hat).symm
    rw [h1] at e1 e5
    have h2 : s.vm.findClass ("[" ++ FieldType.byte.toString) = some (tA 2) := (hK.2 2 _ rfl).2
    cases h2.symm.trans e5
    exact e1
  | 3, _, hat =>
    have h1 : newarray.typeOf at' = .boolean := (Option.some.inj hat).symm
    rw [h1] at e1 e5
    have h2 : s.vm.findClass ("[" ++ FieldType.boolean.toString) = some (tA 3) := (hK.2 3 _ rfl).2
    cases h2.symm.trans e5
    exact e1
theorem zr_anew (hx : p.tables.exec = Jvm.exec) (hb : c.code = cc) (hown : s.vm.findClass own = some m.cls) (hK : va_K D zcl (zty tA) s) (hH : zH D B tA H0 hp H) {x : Nat} (hcl : (Cond.classLink own x "TinTower$Scene").before args s = true) (hov : (Cond.arrayOver (.object "TinTower$Scene")).before args s = true)
    {n : Int32} (hn : ¬ n < 0) (hsz : n.toNatClampNeg ≤ 10000) (hcells : cells + 1 ≤ R.cells) (hslots : slots + n.toNatClampNeg ≤ R.slots) (hdg : decode cc pc = .ok (.anewarray x, 3))
    (kk : ∀ H1 : Heap, zH D B tA H0 (hp ++ [.inl (4, n.toNatClampNeg, zda 4)]) H1 → W p l e R s m args below meth c H1 locs (cells + 1) (slots + n.toNatClampNeg) Q (F0 m (pc + 3) ls (.ref (B.1 + hp.length) :: rest))) : W p l e R s m args below meth c H locs cells slots Q (F0 m pc ls (.int n :: rest)) := by
  have hz : H.size = B.1 + hp.length := hH.1
  refine W.anew hx hb hown hcl hov rfl hdg rfl hn (by omega) hcells hslots fun cA kA comp f1 f2 f3 f4 => ?_
  obtain ⟨kA', comp', k1, k2, k3, k4⟩ : ∃ (kA : Class) (comp : ClassId), s.vm.classes[tA 4]? = some kA ∧ kA.kind = .array comp (.object "TinTower$Scene") ∧ s.vm.findClass "TinTower$Scene" = some comp ∧ s.vm.findClass ("[" ++ (FieldType.object "TinTower$Scene").toString) = some (tA 4) := (hK.2 4 _ rfl).2
  cases k4.symm.trans f1
  rw [hz]
  refine kk _ (hH.push (by rw [Array.size_push]) (fun q hq => by rw [Array.getElem?_push, if_neg (Nat.ne_of_lt hq)]) ?_)
  show (H.push _)[H.size]? = some (arrV (tA 4) n.toNatClampNeg (fun _ => .null))
  rw [Array.getElem?_push_size, ← arrV_new]
theorem zr_obj (hx : p.tables.exec = Jvm.exec) (hb : c.code = cc) {nL : Nat} (hml : c.maxLocals = nL) (hs : ls.size = nL) (hown : s.vm.findClass own = some m.cls) {x : Nat} (hlink : (Cond.methodLink own x Lib.objectInit).before args s = true) (hinst : (Cond.instanceMethod Lib.objectInit).before args s = true) (hcode : (Cond.code Lib.objectInit ⟨#[0xb1]⟩ 1 none).before args s = true)
    {a : Nat} (hframes : 1 ≤ R.frames) (hlocals : (rest.map fun v => v.category).sum + 12 ≤ R.locals) (hdg : decode cc pc = .ok (.invokespecial x, 3))
    (kk : W p l e R s m args below meth c H locs cells slots Q (F0 m (pc + 3) ls rest)) : W p l e R s m args below meth c H locs cells slots Q (F0 m pc ls (.ref a :: rest)) :=
  W.objInit hx hb hown hlink hinst hcode rfl (hs.trans hml.symm) rfl hdg hframes (by show 2 * 0 + _ + 12 ≤ _; omega) kk
theorem zr_copy (hx : p.tables.exec = Jvm.exec) (hb : c.code = cc) {nL : Nat} (hml : c.maxLocals = nL) (hs : ls.size = nL) (hown : s.vm.findClass own = some m.cls) {x : Nat} (hlink : (Cond.methodLink own x arraycopyName).before args s = true) (hnat : (Cond.native arraycopyName).before args s = true) (hstat : (Cond.static arraycopyName).before args s = true) (hini : (Cond.initialized "java/lang/System").before args s = true)
    (hK : va_K D zcl (zty tA) s) (hH : zH D B tA H0 hp H) (hl : ∀ q ∈ locs, B.1 ≤ q.base) {j n0 n1 : Nat} {f g : Nat → Int32} (hf : hp[i]? = some (.inl (0, n0, .inl f))) (hg : hp[j]? = some (.inl (0, n1, .inl g)))
    {sp dp n : Int32} (h1 : ¬ sp < 0) (h2 : ¬ dp < 0) (h3 : ¬ n < 0) (h4 : sp.toNatClampNeg + n.toNatClampNeg ≤ n0) (h5 : dp.toNatClampNeg + n.toNatClampNeg ≤ n1)
    (hframes : 1 ≤ R.frames) (hlocals : (rest.map fun v => v.category).sum + (nativeFrameWords "java/lang/System" "arraycopy" 5 + 11) ≤ R.locals) (hdg : decode cc pc = .ok (.invokestatic x, 3))
    (kk : ∀ (H1 : Heap) (locs1 : List Loc), zH D B tA H0 (hp.set j (.inl (0, n1, .inl (va_cpy f g sp.toNatClampNeg dp.toNatClampNeg n.toNatClampNeg)))) H1 → (∀ q ∈ locs1, B.1 ≤ q.base) → W p l e R s m args below meth c H1 locs1 cells slots Q (F0 m (pc + 3) ls rest)) : W p l e R s m args below meth c H locs cells slots Q (F0 m pc ls (.int n :: .int dp :: .ref (B.1 + j) :: .int sp :: .ref (B.1 + i) :: rest)) := by
  have nn : ∀ z : Int32, ¬ z < 0 → z.toInt = (z.toNatClampNeg : Int) := by
    intro z hz
    have hz0 : (0 : Int) ≤ z.toInt := by
      have h9 := Int32.not_lt.mp hz
      simpa using Int32.le_iff_toInt_le.mp h9
    show z.toInt = ((z.toInt.toNat : Nat) : Int)
    omega
  intro T hT X
  have hc0 : H[B.1 + i]? = some (arrV (tA 0) n0 (fun j => .int (f j))) := hH.2.1 i _ hf trivial
  have hc1 : H[B.1 + j]? = some (arrV (tA 0) n1 (fun j => .int (g j))) := hH.2.1 j _ hg trivial
  obtain ⟨-, k0, hk0, cm0, hkk0⟩ := (hK.2 0 _ rfl).1 n0 (fun j => .int (f j))
  obtain ⟨vm', X', step⟩ := X.arraycopy hx hown hlink hnat hstat hini (src := B.1 + i) (dst := B.1 + j) (cs := arrV (tA 0) n0 (fun j => .int (f j))) (cd := arrV (tA 0) n1 (fun j => .int (g j))) (srcPos := sp) (destPos := dp) (n := n) (by rw [hT]; exact hc0) (by rw [hT]; exact hc1)
    (fun _ h => by cases h) (fun _ h => by cases h) (fun h => by cases h) (fun h => by cases h) hk0 hk0 hkk0 hkk0 (by simp [refKind]) h1 h2 h3
    (by rw [nn sp h1, nn n h3, arrV_size]; omega)
    (by rw [nn dp h2, nn n h3, arrV_size]; omega)
    (fun vm₁ _ i hi => by
      have e : (arrV (tA 0) n0 (fun j => .int (f j))).slots.getD (sp.toNatClampNeg + i) .null = .int (f (sp.toNatClampNeg + i)) := by
        rw [Array.getD_eq_getD_getElem?, arrV_read _ _ (by omega)]
        rfl
      refine ⟨?_, ?_⟩
      · rw [e]; rfl
      · rw [e]; exact trivial)
    (g := F0 m pc ls (.int n :: .int dp :: .ref (B.1 + j) :: .int sp :: .ref (B.1 + i) :: rest)) rfl (by rw [hml]; exact hs) (rest := rest) rfl (by rw [hb]; exact hdg) hframes (by show 2 * 0 + _ + _ ≤ _; omega)
  have e1 : copied (arrV (tA 0) n0 (fun j => .int (f j))) (arrV (tA 0) n1 (fun j => .int (g j))) sp dp n = arrV (tA 0) n1 (fun k => .int (va_cpy f g sp.toNatClampNeg dp.toNatClampNeg n.toNatClampNeg k)) := va_copied (fun z => .int z) (tA 0) (tA 0) f g h4
  rw [e1] at X' step
  have hlt : B.1 + j < H.size := (Array.getElem?_eq_some_iff.mp hc1).1
  have hheap : ((T.setVm vm').setCell (B.1 + j) (arrV (tA 0) n1 (fun k => .int (va_cpy f g sp.toNatClampNeg dp.toNatClampNeg n.toNatClampNeg k)))).heap = H.setIfInBounds (B.1 + j) (arrV (tA 0) n1 (fun k => .int (va_cpy f g sp.toNatClampNeg dp.toNatClampNeg n.toNatClampNeg k))) := by rw [← hT]; rfl
  obtain ⟨t, a1, b1⟩ := kk _ _ (hH.set (h' := .inl (0, n1, .inl (va_cpy f g sp.toNatClampNeg dp.toNatClampNeg n.toNatClampNeg))) (H1 := H.setIfInBounds (B.1 + j) (arrV (tA 0) n1 (fun k => .int (va_cpy f g sp.toNatClampNeg dp.toNatClampNeg n.toNatClampNeg k)))) hg (by simp) (fun q hq => by simp [Array.getElem?_setIfInBounds, Ne.symm hq]) (show (H.setIfInBounds (B.1 + j) (arrV (tA 0) n1 (fun k => .int (va_cpy f g sp.toNatClampNeg dp.toNatClampNeg n.toNatClampNeg k))))[B.1 + j]? = some (arrV (tA 0) n1 (fun k => .int (va_cpy f g sp.toNatClampNeg dp.toNatClampNeg n.toNatClampNeg k))) by simp [Array.getElem?_setIfInBounds, hlt])) (fun q hq => by
      rcases List.mem_append.mp hq with h | h
      · exact hl q h
      · obtain ⟨z, -, hz⟩ := List.mem_map.mp h
        rw [← hz]; exact Nat.le_add_right _ _) _ hheap X'
  exact ⟨t, step t a1, b1⟩
/-- what comes behind a call -/
theorem zr_call {mc ms : Nat} {st0 : List Value} {Qa : State → Outcome → State → Prop} {P : Option Value → List zhE → Prop} (hr : va_Run p l e R s m args below meth c H locs cells slots mc ms (F0 m pc ls st0) rest Qa (fun q => B.1 ≤ q)) (hl : ∀ q ∈ locs, B.1 ≤ q.base)
    (hQ : ∀ st o t, Qa st o t → ∃ v hp', o = .returned (v.map (zvm B)) ∧ P v hp' ∧ zH D B tA H0 hp' t.heap)
    (kk : ∀ v hp', P v hp' → ∀ (H1 : Heap) (locs1 : List Loc), zH D B tA H0 hp' H1 → (∀ q ∈ locs1, B.1 ≤ q.base) → W p l e R s m args below meth c H1 locs1 (cells + mc) (slots + ms) Q (F0 m (pc + 3) ls ((v.map (zvm B)).toList ++ rest))) : W p l e R s m args below meth c H locs cells slots Q (F0 m pc ls st0) := by
  intro T hT X
  obtain ⟨v, st₀, t, T', L, h0, X', hL, e1, e2, hq, st⟩ := hr T hT X
  obtain ⟨v', hp', ho, hP, hH⟩ := hQ _ _ _ hq
  cases ho
  obtain ⟨t2, a1, b1⟩ := kk v' hp' hP T'.heap (locs ++ L) (by rw [e1]; exact hH) (fun q hq => by
    rcases List.mem_append.mp hq with h | h
    · exact hl q h
    · exact hL q h) T' rfl X'
  exact ⟨t2, st t2 a1, b1⟩
end ZR2
