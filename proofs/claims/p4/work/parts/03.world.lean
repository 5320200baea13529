/-- the tables' words that hold at a callee's start as well -/
def ztab : List Cond := lw_tbl.filter goodWord
theorem ztab_in {w : Cond} (h : w ∈ lw_tbl) (hg : goodWord w = true) : w ∈ ztab := List.mem_filter.mpr ⟨h, hg⟩
theorem ztab_good {w : Cond} (h : w ∈ ztab) : goodWord w = true := (List.mem_filter.mp h).2
theorem zM_tab {k : Nat} {m : zMe} (h : zM k = some m) : Cond.code m.1 m.2.1 m.2.2.1 m.2.2.2 ∈ ztab := ztab_in (zM_word h) rfl
theorem zwds_good (own : String) (i : Instr) (a b : Nat) (v : Int) : ∀ w ∈ zwds own i a b v, goodWord w = true ∨ (∃ a i x h, w = Cond.methodLinkNest a i x h) ∨ w = Cond.arrayOver (.object "TinTower$Scene") := by
  intro w hw
  unfold zwds at hw
  repeat' split at hw
  all_goals first
    | (exact absurd hw List.not_mem_nil)
    | (simp only [List.mem_cons, List.not_mem_nil, or_false] at hw
       first
         | (rcases hw with rfl | rfl | rfl | rfl <;> exact Or.inl rfl)
         | (rcases hw with rfl | rfl | rfl
            · first | exact Or.inl rfl | exact Or.inr (Or.inl ⟨_, _, _, _, rfl⟩)
            · exact Or.inl rfl
            · exact Or.inl rfl)
         | (rcases hw with rfl | rfl
            · exact Or.inl rfl
            · first | exact Or.inl rfl | exact Or.inr (Or.inr rfl))
         | (subst hw; exact Or.inl rfl))
theorem zOK_tab {m : zMe} {e : zPE} (h : zOK m e) {w : Cond} (hw : w ∈ zwds m.1.cls e.2.1 e.2.2.1 e.2.2.2.1 e.2.2.2.2) (hg : goodWord w = true) : w ∈ ztab := ztab_in (h.2.2 w hw) hg
theorem zlay_good {C : String} {T : u_T} {N : Nat} : ∀ w ∈ u_ws C T N, goodWord w = true := by
  intro w hw
  obtain ⟨k, -, rfl⟩ := List.mem_map.mp hw
  unfold u_lay
  split <;> rfl
/-! the world as a list of cells: a reference is a place in the list, its address the base and the place; .float stands for the script -/
abbrev zB : Type := Nat × Nat
def zvm (B : zB) : Value → Value
  | .ref i => .ref (B.1 + i)
  | .float _ => .ref B.2
  | v => v
theorem zvm_cat (B : zB) (v : Value) : (zvm B v).category = v.category := by cases v <;> rfl
abbrev zhA : Type := (Nat → Int32) ⊕ (Nat → Int64) ⊕ (Nat → Option Nat)
abbrev zhE : Type := (Nat × Nat × zhA) ⊕ (Nat × List Value)
def zha (B : zB) (n : Nat) : zhA → vp_A
  | .inl f => (n, .inl f)
  | .inr (.inl f) => (n, .inr (.inl f))
  | .inr (.inr f) => (n, .inr (.inr (.inr (.inr (fun j => (f j).map (fun i => B.1 + i))))))
def zhm (B : zB) (tA : Nat → ClassId) : zhE → va_E
  | .inl x => .inl (tA x.1, zha B x.2.1 x.2.2)
  | .inr o => .inr (o.1, o.2.map (zvm B))
def zty (tA : Nat → ClassId) : List (ClassId × FieldType) := [(tA 0, .int), (tA 1, .long), (tA 2, .byte), (tA 3, .boolean), (tA 4, .object "TinTower$Scene")]
/-- a cell of which something is said: an object of a number beyond the classes is a cell of which nothing is -/
def zok (h : zhE) : Prop := match h with
  | .inl _ => True
  | .inr o => o.1 < 13
theorem zok_of {ci : Nat} {fs : List Value} {q : vw_C} (h : zcl[ci]? = some q) : zok (.inr (ci, fs)) := (List.getElem?_eq_some_iff.mp h).1
def zH (D : va_G) (B : zB) (tA : Nat → ClassId) (H0 : Heap) (hp : List zhE) (H : Heap) : Prop :=
  H.size = B.1 + hp.length ∧ (∀ (i : Nat) (h : zhE), hp[i]? = some h → zok h → va_at D zcl (B.1 + i, zhm B tA h) H) ∧ ∀ q, q < B.1 → H[q]? = H0[q]?
/-- what a throw stands on -/
def zKX (B : zB) (H0 : Heap) (U : State) : Prop :=
  (∃ sa, vk_R "TinTower" 127 "no such thing" sa U) ∧ (∀ (C T : String), Cond.castable C T ∈ lw_tbl → va_Nw (.castable C T) U) ∧ (∀ (x : MethodName), Cond.declares x ∈ lw_tbl → va_Nw (.declares x) U) ∧ vx_Zq Bundle.tN "UNASSIGNED_STACK" Bundle.steD (fun q => B.1 ≤ q) U H0 ∧ vx_Zq Bundle.tN "SUPPRESSED_SENTINEL" Bundle.listD (fun q => B.1 ≤ q) U H0
theorem zKX.moved {B : zB} {H0 : Heap} {u U : State} (hW : u.WarmedH U.vm) (h : zKX B H0 u) : zKX B H0 U := by
  obtain ⟨⟨sa, h1⟩, h2, h3, h4, h5⟩ := h
  exact ⟨⟨sa, vk_R.warm hW h1⟩, fun C T q => (h2 C T q).warmC hW, fun x q => (h3 x q).warmD hW, vx_Zq.moved hW.alike h4, vx_Zq.moved hW.alike h5⟩
theorem zKX.same {B : zB} {H0 : Heap} {u U : State} (hv : u.vm = U.vm) (h : zKX B H0 u) : zKX B H0 U := by
  have ha : u.vm.Alike U.vm := by rw [hv]; exact Vm.Alike.refl _
  obtain ⟨⟨sa, h1⟩, h2, h3, h4, h5⟩ := h
  exact ⟨⟨sa, vk_R.same hv.symm h1⟩, fun C T q => va_Nw.same rfl hv (h2 C T q), fun x q => va_Nw.same rfl hv (h3 x q), vx_Zq.moved ha h4, vx_Zq.moved ha h5⟩
def zK (D : va_G) (B : zB) (tA : Nat → ClassId) (Lx : Nat) (xs : Nat → Int32) (H0 : Heap) (U : State) : Prop :=
  va_K D zcl (zty tA) U ∧ va_X B.2 Lx xs U H0 ∧ B.2 < B.1 ∧ va_AO "TinTower$Scene" U ∧ (∀ (a : String) (i : Nat) (x : MethodName) (h : String), Cond.methodLinkNest a i x h ∈ lw_tbl → va_Nw (.methodLinkNest a i x h) U) ∧ zKX B H0 U
theorem zK.moved {D : va_G} {B : zB} {tA : Nat → ClassId} {Lx : Nat} {xs : Nat → Int32} {H0 : Heap} {u U : State} (hW : u.WarmedH U.vm) (h : zK D B tA Lx xs H0 u) : zK D B tA Lx xs H0 U :=
  ⟨va_K.moved hW.alike h.1, h.2.1.moved hW.alike, h.2.2.1, h.2.2.2.1.moved hW.alike, fun a i x z hz => (h.2.2.2.2.1 a i x z hz).warmM hW, h.2.2.2.2.2.moved hW⟩
theorem zK.same {D : va_G} {B : zB} {tA : Nat → ClassId} {Lx : Nat} {xs : Nat → Int32} {H0 : Heap} {u U : State} (hv : u.vm = U.vm) (h : zK D B tA Lx xs H0 u) : zK D B tA Lx xs H0 U := by
  have ha : u.vm.Alike U.vm := by rw [hv]; exact Vm.Alike.refl _
  exact ⟨va_K.moved ha h.1, h.2.1.moved ha, h.2.2.1, h.2.2.2.1.moved ha, fun a i x z hz => (h.2.2.2.2.1 a i x z hz).same rfl hv, h.2.2.2.2.2.same hv⟩
section ZW
variable {D : va_G} {B : zB} {tA : Nat → ClassId} {H0 H H1 : Heap} {hp : List zhE}
theorem zH.one {i : Nat} {h : zhE} (hH : zH D B tA H0 hp H) (hi : hp[i]? = some h) (hz : zok h) : va_P D zcl [(B.1 + i, zhm B tA h)] H := by
  intro k q hq
  match k, hq with
  | 0, hq => cases hq; exact hH.2.1 i h hi hz
  | k + 1, hq => simp at hq
theorem zH.set {i : Nat} {h h' : zhE} (hH : zH D B tA H0 hp H) (hi : hp[i]? = some h) (hz : H1.size = H.size) (ho : ∀ q, q ≠ B.1 + i → H1[q]? = H[q]?) (hn : va_at D zcl (B.1 + i, zhm B tA h') H1) : zH D B tA H0 (hp.set i h') H1 := by
  have hlt : i < hp.length := (List.getElem?_eq_some_iff.mp hi).1
  refine ⟨by rw [hz, List.length_set]; exact hH.1, fun j x hx hzx => ?_, fun q hq => ?_⟩
  · by_cases e : i = j
    · subst e
      rw [List.getElem?_set_self hlt] at hx
      cases hx
      exact hn
    · rw [List.getElem?_set_ne e] at hx
      exact (hH.2.1 j x hx hzx).kept (ho _ (by show B.1 + j ≠ B.1 + i; omega))
  · rw [ho q (by omega)]
    exact hH.2.2 q hq
theorem zH.push {h : zhE} (hH : zH D B tA H0 hp H) (hz : H1.size = H.size + 1) (ho : ∀ q, q < H.size → H1[q]? = H[q]?) (hn : va_at D zcl (H.size, zhm B tA h) H1) : zH D B tA H0 (hp ++ [h]) H1 := by
  have hs := hH.1
  refine ⟨by rw [hz, hs, List.length_append]; rfl, fun j x hx hzx => ?_, fun q hq => ?_⟩
  · by_cases e : j < hp.length
    · rw [List.getElem?_append_left e] at hx
      exact (hH.2.1 j x hx hzx).kept (ho _ (by show B.1 + j < H.size; omega))
    · rw [List.getElem?_append_right (by omega)] at hx
      have hz2 : j - hp.length < 1 := (List.getElem?_eq_some_iff.mp hx).1
      rw [show j - hp.length = 0 by omega] at hx
      cases hx
      have e2 : B.1 + j = H.size := by omega
      rw [e2]
      exact hn
  · rw [ho q (by omega)]
    exact hH.2.2 q hq
end ZW
theorem zup_i (f : Nat → Int32) (k : Nat) (x : Int32) : updV (fun j => Value.int (f j)) k (.int x) = fun j => Value.int (va_up f k x j) := by
  funext q
  by_cases h : q = k
  · subst h; simp [updV, va_up]
  · simp [updV, va_up, h]
theorem zup_l (f : Nat → Int64) (k : Nat) (x : Int64) : updV (fun j => Value.long (f j)) k (.long x) = fun j => Value.long (va_up f k x j) := by
  funext q
  by_cases h : q = k
  · subst h; simp [updV, va_up]
  · simp [updV, va_up, h]
theorem zup_r (B : zB) (f : Nat → Option Nat) (k : Nat) (x : Nat) : updV (fun j => va_rf ((f j).map (fun i => B.1 + i))) k (.ref (B.1 + x)) = fun j => va_rf ((va_up f k (some x) j).map (fun i => B.1 + i)) := by
  funext q
  by_cases h : q = k
  · subst h; simp [updV, va_up, va_rf]
  · simp [updV, va_up, h]
theorem zvm_rf (B : zB) (r : Option Nat) : zvm B (va_rf r) = va_rf (r.map (fun i => B.1 + i)) := by cases r <;> rfl
section ZR
variable {p : Program} {l : Launch} {e : Env} {R : Room} {s : State} {m : MethodId} {args : Array Value} {below : List Frame} {meth : Method} {c : Code} {H : Heap} {locs : List Loc} {cells slots : Nat} {Q : State → Prop}
variable {cc : ByteArray} {pc : Nat} {ls : Array Slot} {rest : List Value} {D : va_G} {B : zB} {tA : Nat → ClassId} {H0 : Heap} {hp : List zhE} {own : String} {i : Nat}
theorem zr_get (hx : p.tables.exec = Jvm.exec) (hb : c.code = cc) (hts : ∀ w ∈ ztab, w.before args s = true) (hown : s.vm.findClass own = some m.cls) (hK : va_K D zcl (zty tA) s) (hH : zH D B tA H0 hp H)
    {ci k x : Nat} {fs : List Value} {C : String} {T : u_T} {N : Nat} (he : hp[i]? = some (.inr (ci, fs))) (hc : zcl[ci]? = some (C, T, N)) (hin : ∀ w ∈ u_ws C T N, w ∈ ztab) (hk : k < N) (hlink : (Cond.fieldLink own x (T k).1 (T k).2.1 (T k).2.2.1).before args s = true) {v : Value} (hv : fs[k]? = some v) (hdg : decode cc pc = .ok (.getfield x, 3))
    (kk : W p l e R s m args below meth c H locs cells slots Q (F0 m (pc + 3) ls (zvm B v :: rest))) : W p l e R s m args below meth c H locs cells slots Q (F0 m pc ls (.ref (B.1 + i) :: rest)) :=
  va_get hx hb hts hin hown hK (hH.one he (zok_of hc)) 0 (fs := fs.map (zvm B)) rfl hc k hk hlink (fun _ h => h) (by simp [hv]) hdg kk
theorem zr_put (hx : p.tables.exec = Jvm.exec) (hb : c.code = cc) (hts : ∀ w ∈ ztab, w.before args s = true) (hown : s.vm.findClass own = some m.cls) (hK : va_K D zcl (zty tA) s) (hH : zH D B tA H0 hp H) (hl : ∀ q ∈ locs, B.1 ≤ q.base)
    {ci k x : Nat} {fs : List Value} {C : String} {T : u_T} {N : Nat} (he : hp[i]? = some (.inr (ci, fs))) (hc : zcl[ci]? = some (C, T, N)) (hin : ∀ w ∈ u_ws C T N, w ∈ ztab) {ty0 : Nat → FieldType} (hty : ∀ k, k < N → parseFieldDescriptor (T k).2.2.1 = some (ty0 k)) (hnm : ∀ a, a < N → ∀ b, b < N → a ≠ b → (T a).2.1 ≠ (T b).2.1)
    (hk : k < N) (hlink : (Cond.fieldLink own x (T k).1 (T k).2.1 (T k).2.2.1).before args s = true) (hfin : (T k).2.2.2 = true → meth.name = "<init>" ∧ (T k).1 = own) {v : Value} (hn : narrow (ty0 k) (zvm B v) = zvm B v) (hfit : fits (ty0 k) (zvm B v) = true) (hlen : k < fs.length) (hdg : decode cc pc = .ok (.putfield x, 3))
    (kk : ∀ (H1 : Heap) (locs1 : List Loc), zH D B tA H0 (hp.set i (.inr (ci, fs.set k v))) H1 → (∀ q ∈ locs1, B.1 ≤ q.base) → W p l e R s m args below meth c H1 locs1 cells slots Q (F0 m (pc + 3) ls rest)) : W p l e R s m args below meth c H locs cells slots Q (F0 m pc ls (zvm B v :: .ref (B.1 + i) :: rest)) := by
  have hap := va_apart (own := own) hts hin ty0 hty hnm hK hc
  obtain ⟨r, h1, cell, q1, q2, q3, q4⟩ : ∃ r : vw_C, zcl[ci]? = some r ∧ t_OB (B.1 + i) (D.1 ci) r.2.2 (D.2 ci) H (vp_V (fs.map (zvm B))) := hH.2.1 i _ he (zok_of hc)
  have hr : r = (C, T, N) := Option.some.inj (h1.symm.trans hc)
  subst hr
  obtain ⟨hS, hfc, kC, hkC, hkind⟩ := hK.1 ci _ hc
  obtain ⟨cf, kf, fi, f, hi, hsl⟩ := hS k hk
  have hst := (u_facts hfc hkC (u_lays hts hin hk) hi).1
  have hlay := hts _ (hin _ (u_in_lay hk))
  unfold u_lay at hlay
  have fin : ∀ (H' : Heap), H'[B.1 + i]? = some (cell.setSlot f.slot (zvm B v)) → H'.size = H.size → (∀ q, q ≠ B.1 + i → H'[q]? = H[q]?) → W p l e R s m args below meth c H' (locs ++ [⟨B.1 + i, f.slot⟩]) cells slots Q (F0 m (pc + 3) ls rest) := by
    intro H' e1 e2 e3
    refine kk H' _ (hH.set he e2 e3 ⟨_, hc, ?_⟩) ?_
    · rw [hsl] at e1
      refine t_OB.to (V := updV (vp_V (fs.map (zvm B))) k (zvm B v)) ⟨_, e1, q2, q3, t_set q4 hap hk _⟩ (fun j _ => ?_)
      rw [vp_updV_set (by simpa using hlen), List.map_set]
    · intro q hq
      rcases List.mem_append.mp hq with h | h
      · exact hl q h
      · rw [List.mem_singleton.mp h]; exact Nat.le_add_right _ _
  by_cases hf : (T k).2.2.2 = true
  · obtain ⟨hin2, hdecl⟩ := hfin hf
    rw [if_pos hf] at hlay
    have hcf : m.cls = cf := by
      obtain ⟨_, _, c', _, _, _, -, -, hf', -, -, -, hown2, -⟩ := Cond.laysFinal_spec hlay
      have e1 : c' = cf := by have := hi.symm.trans hf'; simp at this; exact this.1.symm
      rw [hdecl] at hown2
      rw [← e1]; exact Option.some.inj (hown.symm.trans hown2)
    have h6 := u_fits hfc hkC hkind (Or.inr hlay) hi (hty k hk) hn hfit
    exact W.putFinK hx hb hown hlink hi hst hcf hin2 (by rw [q2]; exact h6) q1 q3 (by rw [hsl]; exact k2_hasslot (q4 k hk)) rfl rfl hdg fin
  · rw [if_neg hf] at hlay
    have h6 := u_store hfc hkC hkind hlay hi (hty k hk) hn hfit
    exact W.putK hx hb (f := f) ⟨hown, hlink, ⟨_, _, _, hi⟩, hst⟩ (by rw [q2]; exact h6) q1 q3 (by rw [hsl]; exact k2_hasslot (q4 k hk)) rfl rfl hdg fin
theorem zr_iald (hx : p.tables.exec = Jvm.exec) (hb : c.code = cc) (hK : va_K D zcl (zty tA) s) (hH : zH D B tA H0 hp H) {n : Nat} {f : Nat → Int32} (he : hp[i]? = some (.inl (0, n, .inl f))) {j : Int32} (hj : vp_in j n) (hdg : decode cc pc = .ok (.iaload, 1))
    (kk : W p l e R s m args below meth c H locs cells slots Q (F0 m (pc + 1) ls (.int (f j.toNatClampNeg) :: rest))) : W p l e R s m args below meth c H locs cells slots Q (F0 m pc ls (.int j :: .ref (B.1 + i) :: rest)) :=
  va_iald hx hb hK (hH.one he trivial) 0 0 rfl rfl hj hdg kk
theorem zr_lald (hx : p.tables.exec = Jvm.exec) (hb : c.code = cc) (hK : va_K D zcl (zty tA) s) (hH : zH D B tA H0 hp H) {n : Nat} {f : Nat → Int64} (he : hp[i]? = some (.inl (1, n, .inr (.inl f)))) {j : Int32} (hj : vp_in j n) (hdg : decode cc pc = .ok (.laload, 1))
    (kk : W p l e R s m args below meth c H locs cells slots Q (F0 m (pc + 1) ls (.long (f j.toNatClampNeg) :: rest))) : W p l e R s m args below meth c H locs cells slots Q (F0 m pc ls (.int j :: .ref (B.1 + i) :: rest)) :=
  va_lald hx hb hK (hH.one he trivial) 0 1 rfl rfl hj hdg kk
theorem zr_bald (hx : p.tables.exec = Jvm.exec) (hb : c.code = cc) (hK : va_K D zcl (zty tA) s) (hH : zH D B tA H0 hp H) {n : Nat} {f : Nat → Int32} (he : hp[i]? = some (.inl (2, n, .inl f))) {j : Int32} (hj : vp_in j n) (hdg : decode cc pc = .ok (.baload, 1))
    (kk : W p l e R s m args below meth c H locs cells slots Q (F0 m (pc + 1) ls (.int (f j.toNatClampNeg) :: rest))) : W p l e R s m args below meth c H locs cells slots Q (F0 m pc ls (.int j :: .ref (B.1 + i) :: rest)) :=
  va_bald hx hb hK (hH.one he trivial) 0 2 rfl rfl hj hdg kk
theorem zr_zald (hx : p.tables.exec = Jvm.exec) (hb : c.code = cc) (hK : va_K D zcl (zty tA) s) (hH : zH D B tA H0 hp H) {n : Nat} {f : Nat → Int32} (he : hp[i]? = some (.inl (3, n, .inl f))) {j : Int32} (hj : vp_in j n) (hdg : decode cc pc = .ok (.baload, 1))
    (kk : W p l e R s m args below meth c H locs cells slots Q (F0 m (pc + 1) ls (.int (f j.toNatClampNeg) :: rest))) : W p l e R s m args below meth c H locs cells slots Q (F0 m pc ls (.int j :: .ref (B.1 + i) :: rest)) :=
  va_zald hx hb hK (hH.one he trivial) 0 3 rfl rfl hj hdg kk
theorem zr_aald (hx : p.tables.exec = Jvm.exec) (hb : c.code = cc) (hK : va_K D zcl (zty tA) s) (hH : zH D B tA H0 hp H) {n : Nat} {f : Nat → Option Nat} (he : hp[i]? = some (.inl (4, n, .inr (.inr f)))) {j : Int32} (hj : vp_in j n) (hdg : decode cc pc = .ok (.aaload, 1))
    (kk : W p l e R s m args below meth c H locs cells slots Q (F0 m (pc + 1) ls (zvm B (va_rf (f j.toNatClampNeg)) :: rest))) : W p l e R s m args below meth c H locs cells slots Q (F0 m pc ls (.int j :: .ref (B.1 + i) :: rest)) :=
  va_aldq hx hb hK (hH.one he trivial) 0 4 rfl rfl hj hdg (by rw [zvm_rf] at kk; exact kk)
theorem zr_alen (hx : p.tables.exec = Jvm.exec) (hb : c.code = cc) (hK : va_K D zcl (zty tA) s) (hH : zH D B tA H0 hp H) {t n : Nat} {f : zhA} (he : hp[i]? = some (.inl (t, n, f))) (ht : t < 5) (hdg : decode cc pc = .ok (.arraylength, 1))
    (kk : W p l e R s m args below meth c H locs cells slots Q (F0 m (pc + 1) ls (.int (Int32.ofNat n) :: rest))) : W p l e R s m args below meth c H locs cells slots Q (F0 m pc ls (.ref (B.1 + i) :: rest)) := by
  have hn : (zha B n f).1 = n := by rcases f with f | f | f <;> rfl
  have hl : (zty tA).length = 5 := rfl
  obtain ⟨q, hq⟩ : ∃ q, (zty tA)[t]? = some q := ⟨_, List.getElem?_eq_getElem (by omega)⟩
  have hq1 : q.1 = tA t := by
    match t, hq, ht with
    | 0, hq, _ => cases hq; rfl
    | 1, hq, _ => cases hq; rfl
    | 2, hq, _ => cases hq; rfl
    | 3, hq, _ => cases hq; rfl
    | 4, hq, _ => cases hq; rfl
    | t + 5, _, ht => omega
  obtain ⟨q1, q2⟩ := q
  simp only at hq1
  subst hq1
  exact va_alen hx hb hK (hH.one he trivial) 0 t rfl hq (by rw [hn]) hdg kk
theorem zr_iast (hx : p.tables.exec = Jvm.exec) (hb : c.code = cc) (hK : va_K D zcl (zty tA) s) (hH : zH D B tA H0 hp H) (hl : ∀ q ∈ locs, B.1 ≤ q.base) {n : Nat} {f : Nat → Int32} (he : hp[i]? = some (.inl (0, n, .inl f))) {j x : Int32} (hj : vp_in j n) (hdg : decode cc pc = .ok (.iastore, 1))
    (kk : ∀ (H1 : Heap) (locs1 : List Loc), zH D B tA H0 (hp.set i (.inl (0, n, .inl (va_up f j.toNatClampNeg x)))) H1 → (∀ q ∈ locs1, B.1 ≤ q.base) → W p l e R s m args below meth c H1 locs1 cells slots Q (F0 m (pc + 1) ls rest)) : W p l e R s m args below meth c H locs cells slots Q (F0 m pc ls (.int x :: .int j :: .ref (B.1 + i) :: rest)) := by
  refine W.iast hx hb (show H[B.1 + i]? = some (arrV (tA 0) n (fun j => .int (f j))) from hH.2.1 i _ he trivial) ((hK.2 0 _ rfl).1 n (fun j => .int (f j))) (fun q => by cases q) (by rw [arrV_size]; exact hj) rfl rfl hdg fun H1 e z oq => ?_
  refine kk H1 _ (hH.set he z oq ?_) ?_
  · show H1[B.1 + i]? = some (arrV (tA 0) n (fun q => .int (va_up f j.toNatClampNeg x q)))
    rw [e, arrV_store, zup_i]
  · intro q hq
    rcases List.mem_append.mp hq with h | h
    · exact hl q h
    · rw [List.mem_singleton.mp h]; exact Nat.le_add_right _ _
theorem zr_last (hx : p.tables.exec = Jvm.exec) (hb : c.code = cc) (hK : va_K D zcl (zty tA) s) (hH : zH D B tA H0 hp H) (hl : ∀ q ∈ locs, B.1 ≤ q.base) {n : Nat} {f : Nat → Int64} (he : hp[i]? = some (.inl (1, n, .inr (.inl f)))) {j : Int32} {x : Int64} (hj : vp_in j n) (hdg : decode cc pc = .ok (.lastore, 1))
    (kk : ∀ (H1 : Heap) (locs1 : List Loc), zH D B tA H0 (hp.set i (.inl (1, n, .inr (.inl (va_up f j.toNatClampNeg x))))) H1 → (∀ q ∈ locs1, B.1 ≤ q.base) → W p l e R s m args below meth c H1 locs1 cells slots Q (F0 m (pc + 1) ls rest)) : W p l e R s m args below meth c H locs cells slots Q (F0 m pc ls (.long x :: .int j :: .ref (B.1 + i) :: rest)) := by
  refine W.last hx hb (show H[B.1 + i]? = some (arrV (tA 1) n (fun j => .long (f j))) from hH.2.1 i _ he trivial) ((hK.2 1 _ rfl).1 n (fun j => .long (f j))) (fun q => by cases q) (by rw [arrV_size]; exact hj) rfl rfl hdg fun H1 e z oq => ?_
  refine kk H1 _ (hH.set he z oq ?_) ?_
  · show H1[B.1 + i]? = some (arrV (tA 1) n (fun q => .long (va_up f j.toNatClampNeg x q)))
    rw [e, arrV_store, zup_l]
  · intro q hq
    rcases List.mem_append.mp hq with h | h
    · exact hl q h
    · rw [List.mem_singleton.mp h]; exact Nat.le_add_right _ _
theorem zr_bast (hx : p.tables.exec = Jvm.exec) (hb : c.code = cc) (hK : va_K D zcl (zty tA) s) (hH : zH D B tA H0 hp H) (hl : ∀ q ∈ locs, B.1 ≤ q.base) {n : Nat} {f : Nat → Int32} (he : hp[i]? = some (.inl (2, n, .inl f))) {j x : Int32} (hj : vp_in j n) (hdg : decode cc pc = .ok (.bastore, 1))
    (kk : ∀ (H1 : Heap) (locs1 : List Loc), zH D B tA H0 (hp.set i (.inl (2, n, .inl (va_up f j.toNatClampNeg x.toInt8.toInt32)))) H1 → (∀ q ∈ locs1, B.1 ≤ q.base) → W p l e R s m args below meth c H1 locs1 cells slots Q (F0 m (pc + 1) ls rest)) : W p l e R s m args below meth c H locs cells slots Q (F0 m pc ls (.int x :: .int j :: .ref (B.1 + i) :: rest)) := by
  refine W.bast hx hb (show H[B.1 + i]? = some (arrV (tA 2) n (fun j => .int (f j))) from hH.2.1 i _ he trivial) ((hK.2 2 _ rfl).1 n (fun j => .int (f j))) (fun q => by cases q) (by rw [arrV_size]; exact hj) rfl rfl hdg fun H1 e z oq => ?_
  refine kk H1 _ (hH.set he z oq ?_) ?_
  · show H1[B.1 + i]? = some (arrV (tA 2) n (fun q => .int (va_up f j.toNatClampNeg x.toInt8.toInt32 q)))
    rw [e, arrV_store, ← zup_i]
    rfl
  · intro q hq
    rcases List.mem_append.mp hq with h | h
    · exact hl q h
    · rw [List.mem_singleton.mp h]; exact Nat.le_add_right _ _
theorem zr_zast (hx : p.tables.exec = Jvm.exec) (hb : c.code = cc) (hK : va_K D zcl (zty tA) s) (hH : zH D B tA H0 hp H) (hl : ∀ q ∈ locs, B.1 ≤ q.base) {n : Nat} {f : Nat → Int32} (he : hp[i]? = some (.inl (3, n, .inl f))) {j x : Int32} (hz : narrow .boolean (.int x) = .int x) (hj : vp_in j n) (hdg : decode cc pc = .ok (.bastore, 1))
    (kk : ∀ (H1 : Heap) (locs1 : List Loc), zH D B tA H0 (hp.set i (.inl (3, n, .inl (va_up f j.toNatClampNeg x)))) H1 → (∀ q ∈ locs1, B.1 ≤ q.base) → W p l e R s m args below meth c H1 locs1 cells slots Q (F0 m (pc + 1) ls rest)) : W p l e R s m args below meth c H locs cells slots Q (F0 m pc ls (.int x :: .int j :: .ref (B.1 + i) :: rest)) := by
  refine W.zast hx hb (show H[B.1 + i]? = some (arrV (tA 3) n (fun j => .int (f j))) from hH.2.1 i _ he trivial) ((hK.2 3 _ rfl).1 n (fun j => .int (f j))) (fun q => by cases q) (by rw [arrV_size]; exact hj) rfl rfl hdg fun H1 e z oq => ?_
  refine kk H1 _ (hH.set he z oq ?_) ?_
  · show H1[B.1 + i]? = some (arrV (tA 3) n (fun q => .int (va_up f j.toNatClampNeg x q)))
    rw [e, hz, arrV_store, ← zup_i]
  · intro q hq
    rcases List.mem_append.mp hq with h | h
    · exact hl q h
    · rw [List.mem_singleton.mp h]; exact Nat.le_add_right _ _
end ZR
