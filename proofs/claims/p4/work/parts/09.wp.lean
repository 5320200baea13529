/-! runs of the pure machine: what holds where a method comes back; and that it holds of the machine -/
abbrev ZP : Type := Option Value → List zhE → Prop
abbrev ZX : Type := Nat → zCF → ZP → Prop
/-- the law's look, by its arguments -/
abbrev ZLP : Type := List Value → List zhE → ZP → Prop
def zCall (X : ZX) (k k' : Nat) (av st : List Value) (z : zCF) (Q : ZP) : Prop :=
  (lg_sl av).length ≤ (zrw k').2.1 ∧ zsum st ≤ 8 ∧ z.2.2.2.2.1 + (zrm k').cells ≤ (zrm k).cells ∧ z.2.2.2.2.2 + (zrm k').slots ≤ (zrm k).slots ∧
  ∃ P : ZP, X k' (0, lv_args 0 av, [], z.2.2.2.1, 0, 0) P ∧ ∀ rv hp', P rv hp' → X k (z.1 + 3, z.2.1, rv.toList ++ st, hp', z.2.2.2.2.1 + (zrm k').cells, z.2.2.2.2.2 + (zrm k').slots) Q
def zFX (lk : ZLP) (Lx : Nat) (xs : Nat → Int32) (X : ZX) (k : Nat) (z : zCF) (Q : ZP) : Prop :=
  ∃ e, e ∈ (zrw k).1 ∧ e.1 = z.1 ∧ (match zkind e.2.1 e.2.2.1 e.2.2.2.1 e.2.2.2.2 with
    | 0 => ∃ z', zone z.1 z.2.1 z.2.2.1 z.2.2.2.1 z.2.2.2.2.1 z.2.2.2.2.2 Lx xs (zrw k).2.1 (zrm k) e.2.1 e.2.2.1 e.2.2.2.1 e.2.2.2.2 = some z' ∧ X k z' Q
    | 1 => ∃ vs a st fs, z.2.2.1 = vs.reverse ++ .ref a :: st ∧ vs.length = e.2.2.2.1 ∧ z.2.2.2.1[a]? = some (.inr (e.2.2.2.2.toNat, fs)) ∧ zCall X k e.2.2.1 (.ref a :: vs) st z Q
    | 2 => ∃ vs st, z.2.2.1 = vs.reverse ++ st ∧ vs.length = e.2.2.2.1 ∧ zCall X k e.2.2.1 vs st z Q
    | 3 => ∃ vs a st, z.2.2.1 = vs.reverse ++ .ref a :: st ∧ vs.length = e.2.2.2.1 ∧ zCall X k e.2.2.1 (.ref a :: vs) st z Q
    | 4 => z.2.2.2.2.1 ≤ (zrm k).cells ∧ z.2.2.2.2.2 ≤ (zrm k).slots ∧ ∃ x, z.2.2.1 = [.int x] ∧ (e.2.2.1 = 0 ∨ x = 0 ∨ x = 1) ∧ Q (some (.int x)) z.2.2.2.1
    | 5 => z.2.2.2.2.1 ≤ (zrm k).cells ∧ z.2.2.2.2.2 ≤ (zrm k).slots ∧ ∃ x, z.2.2.1 = [.long x] ∧ Q (some (.long x)) z.2.2.2.1
    | 6 => z.2.2.2.2.1 ≤ (zrm k).cells ∧ z.2.2.2.2.2 ≤ (zrm k).slots ∧ z.2.2.1 = [] ∧ Q none z.2.2.2.1
    | _ => ∃ vs st, z.2.2.1 = vs.reverse ++ st ∧ zsum st ≤ 8 ∧ z.2.2.2.2.1 + 8 ≤ (zrm k).cells ∧ z.2.2.2.2.2 + 100 ≤ (zrm k).slots ∧ ∃ P : ZP, lk vs z.2.2.2.1 P ∧ ∀ rv hp', P rv hp' → X k (z.1 + 3, z.2.1, rv.toList ++ st, hp', z.2.2.2.2.1 + 8, z.2.2.2.2.2 + 100) Q)
theorem zCall.mono {X Y : ZX} (h : ∀ k z Q, X k z Q → Y k z Q) {k k' : Nat} {av st : List Value} {z : zCF} {Q : ZP} (hc : zCall X k k' av st z Q) : zCall Y k k' av st z Q := by
  obtain ⟨h1, h2, h3, h4, P, h5, h6⟩ := hc
  exact ⟨h1, h2, h3, h4, P, h _ _ _ h5, fun rv hp' q => h _ _ _ (h6 rv hp' q)⟩
theorem zFX.mono {lk : ZLP} {Lx : Nat} {xs : Nat → Int32} {X Y : ZX} (h : ∀ k z Q, X k z Q → Y k z Q) {k : Nat} {z : zCF} {Q : ZP} (hf : zFX lk Lx xs X k z Q) : zFX lk Lx xs Y k z Q := by
  obtain ⟨e, h1, h2, h3⟩ := hf
  refine ⟨e, h1, h2, ?_⟩
  split at h3
  · obtain ⟨z', h4, h5⟩ := h3; exact ⟨z', h4, h _ _ _ h5⟩
  · obtain ⟨vs, a, st, fs, h4, h5, h6, h7⟩ := h3; exact ⟨vs, a, st, fs, h4, h5, h6, h7.mono h⟩
  · obtain ⟨vs, st, h4, h5, h6⟩ := h3; exact ⟨vs, st, h4, h5, h6.mono h⟩
  · obtain ⟨vs, a, st, h4, h5, h6⟩ := h3; exact ⟨vs, a, st, h4, h5, h6.mono h⟩
  · exact h3
  · exact h3
  · exact h3
  · obtain ⟨vs, st, h4, h5, h6, h7, P, h8, h9⟩ := h3
    exact ⟨vs, st, h4, h5, h6, h7, P, h8, fun rv hp' q => h _ _ _ (h9 rv hp' q)⟩
def zWP (lk : ZLP) (Lx : Nat) (xs : Nat → Int32) (k : Nat) (z : zCF) (Q : ZP) : Prop := ∀ X : ZX, (∀ k z Q, zFX lk Lx xs X k z Q → X k z Q) → X k z Q
section ZWPS
variable {lk : ZLP} {Lx : Nat} {xs : Nat → Int32} {k : Nat} {z : zCF} {Q : ZP}
theorem zWP.step (h : zFX lk Lx xs (zWP lk Lx xs) k z Q) : zWP lk Lx xs k z Q := fun X hX => hX _ _ _ (h.mono fun _ _ _ q => q X hX)
theorem zWP.post (h : zWP lk Lx xs k z Q) {Q' : ZP} (hq : ∀ rv hp, Q rv hp → Q' rv hp) : zWP lk Lx xs k z Q' := by
  refine h (fun k z Q => ∀ Q' : ZP, (∀ rv hp, Q rv hp → Q' rv hp) → zWP lk Lx xs k z Q') ?_ Q' hq
  intro k z Q hf Q' hq
  apply zWP.step
  obtain ⟨e, h1, h2, h3⟩ := hf
  refine ⟨e, h1, h2, ?_⟩
  have call : ∀ {k' av st}, zCall (fun k z Q => ∀ Q' : ZP, (∀ rv hp, Q rv hp → Q' rv hp) → zWP lk Lx xs k z Q') k k' av st z Q → zCall (zWP lk Lx xs) k k' av st z Q' := by
    intro k' av st hc
    obtain ⟨h1, h2, h3, h4, P, h5, h6⟩ := hc
    exact ⟨h1, h2, h3, h4, P, h5 P (fun _ _ q => q), fun rv hp' q => h6 rv hp' q Q' hq⟩
  split at h3
  · obtain ⟨z', h4, h5⟩ := h3; exact ⟨z', h4, h5 _ hq⟩
  · obtain ⟨vs, a, st, fs, h4, h5, h6, h7⟩ := h3; exact ⟨vs, a, st, fs, h4, h5, h6, call h7⟩
  · obtain ⟨vs, st, h4, h5, h6⟩ := h3; exact ⟨vs, st, h4, h5, call h6⟩
  · obtain ⟨vs, a, st, h4, h5, h6⟩ := h3; exact ⟨vs, a, st, h4, h5, call h6⟩
  · obtain ⟨h4, h5, x, h6, h7, h8⟩ := h3; exact ⟨h4, h5, x, h6, h7, hq _ _ h8⟩
  · obtain ⟨h4, h5, x, h6, h8⟩ := h3; exact ⟨h4, h5, x, h6, hq _ _ h8⟩
  · obtain ⟨h4, h5, h6, h8⟩ := h3; exact ⟨h4, h5, h6, hq _ _ h8⟩
  · obtain ⟨vs, st, h4, h5, h6, h7, P, h8, h9⟩ := h3
    exact ⟨vs, st, h4, h5, h6, h7, P, h8, fun rv hp' q => h9 rv hp' q Q' hq⟩
end ZWPS
/-- a method's end -/
def zRI (me : zMe) (pc : Nat) (rv : Option Value) : Prop :=
  (decode me.2.1 pc = .ok (.ireturn, 1) ∧ ∃ x ty, rv = some (.int x) ∧ me.2.2.2 = some ty ∧ narrow ty (.int x) = .int x) ∨ (decode me.2.1 pc = .ok (.lreturn, 1) ∧ ∃ x, rv = some (.long x) ∧ me.2.2.2 = some .long) ∨ (decode me.2.1 pc = .ok (.return_, 1) ∧ rv = none ∧ me.2.2.2 = none)
def zMeK (k : Nat) (me : zMe) : Prop := (∀ e ∈ (zrw k).1, zOK me e ∨ (k = 276 ∧ zSp me e)) ∧ me.2.2.1 = (zrw k).2.1
def zRet (p : Program) (l : Launch) (e : Env) (R : Room) (s0 : State) (m : MethodId) (args : Array Value) (below : List Frame) (meth : Method) (c0 : Code) (Q0 : State → Prop) (D : va_G) (B : zB) (tA : Nat → ClassId) (H0 : Heap) (me : zMe) (Q : ZP) : Prop :=
  ∀ (rv : Option Value) (hp : List zhE), Q rv hp → ∀ (H : Heap) (locs : List Loc) (ls : Array Slot) (pc c s : Nat), zH D B tA H0 hp H → (∀ q ∈ locs, B.1 ≤ q.base) → c ≤ R.cells → s ≤ R.slots → zRI me pc rv → W p l e R s0 m args below meth c0 H locs c s Q0 (F0 m pc ls (rv.map (zvm B)).toList)
def zShow (l : Launch) (Lx : Nat) (xs : Nat → Int32) : ZX := fun k z Q =>
  ∀ (me : zMe), zMeK k me → k < 277 → ∀ (p : Program) (e : Env) (s0 : State) (m : MethodId) (args : Array Value) (below : List Frame) (meth : Method) (c0 : Code) (Q0 : State → Prop) (D : va_G) (B : zB) (tA : Nat → ClassId) (H0 : Heap), zC p s0 m args meth c0 me → zK D B tA Lx xs H0 s0 → zRet p l e (zrm k) s0 m args below meth c0 Q0 D B tA H0 me Q → zGo p l e (zrm k) s0 m args below meth c0 Q0 D B tA H0 me.2.2.1 z
/-- what the rule for the law's look must show -/
def zLKok (l : Launch) (Lx : Nat) (xs : Nat → Int32) (lk : ZLP) : Prop :=
  ∀ (vs : List Value) (hp : List zhE) (P : ZP), lk vs hp P →
  ∀ (p : Program) (e : Env) (s0 : State) (m : MethodId) (args : Array Value) (below : List Frame) (meth : Method) (c0 : Code) (Q0 : State → Prop) (D : va_G) (B : zB) (tA : Nat → ClassId) (H0 : Heap) (me : zMe) (pc c s : Nat) (rest : List Value), zC p s0 m args meth c0 me → zK D B tA Lx xs H0 s0 → me.1.cls = "TinTowerLaw" → decode me.2.1 pc = .ok (.invokestatic 39, 3) → zsum rest ≤ 8 → c + 8 ≤ (zrm 276).cells → s + 100 ≤ (zrm 276).slots →
  ∀ (H : Heap) (locs : List Loc) (ls : Array Slot), zH D B tA H0 hp H → (∀ q ∈ locs, B.1 ≤ q.base) → ls.size = me.2.2.1 →
  (∀ rv hp', P rv hp' → ∀ (H1 : Heap) (locs1 : List Loc), zH D B tA H0 hp' H1 → (∀ q ∈ locs1, B.1 ≤ q.base) → W p l e (zrm 276) s0 m args below meth c0 H1 locs1 (c + 8) (s + 100) Q0 (F0 m (pc + 3) ls ((rv.map (zvm B)).toList ++ rest.map (zvm B)))) →
  W p l e (zrm 276) s0 m args below meth c0 H locs c s Q0 (F0 m pc ls ((vs.map (zvm B)).reverse ++ rest.map (zvm B)))
section ZWS
variable {l : Launch} {Lx : Nat} {xs : Nat → Int32} {lk : ZLP}
theorem zmeK (hTB : zTBok) {k : Nat} {me : zMe} (hk : k < 276) (hm : zM k = some me) : zMeK k me ∧ plainFor me.1 = true := by
  obtain ⟨m2, hm2, hOK, hnL, hpl⟩ := hTB k hk
  cases hm.symm.trans hm2
  exact ⟨⟨fun e he => Or.inl (hOK e he), hnL⟩, hpl⟩
/-- a method's contract out of what is shown of its run -/
theorem zmet_show (hTB : zTBok) {k : Nat} (hk : k < 276) {me : zMe} (hm : zM k = some me) {av : List Value} {hp : List zhE} {P : ZP} (hS : zShow l Lx xs k (0, lv_args 0 av, [], hp, 0, 0) P) (hav : (lg_sl av).length ≤ (zrw k).2.1) : zMet l Lx xs me (zrm k) av hp P := by
  obtain ⟨hMe, hpl⟩ := zmeK hTB hk hm
  refine zMet_of hm hpl (by rw [hMe.2]; exact hav) ?_
  intro p e s m args below meth c D B tA H0 hC hK ls hls hzH
  refine hS me hMe (by omega) p e s m args below meth c _ D B tA H0 hC hK ?_ s.heap [] ls hzH (fun q hq => absurd hq List.not_mem_nil) hls
  intro rv hp' hP H locs ls' pc c' s' hzH' hl hc hs hRI
  obtain ⟨hx, hb, hrt, hml, hown, hts, hlocks, hnm⟩ := hC
  refine W.widen hc hs ?_
  have hq : ∀ t : State, t.heap = H → s.WarmedH t.vm → zQc D B tA H0 P args s (.returned (rv.map (zvm B))) t := fun t ht _ => ⟨rv, hp', rfl, hP, by rw [ht]; exact hzH'⟩
  rcases hRI with ⟨hd, x, ty, rfl, h2, h3⟩ | ⟨hd, x, rfl, h2⟩ | ⟨hd, rfl, h2⟩
  · exact W.zret hx hb (hrt.trans h2) h3 hq hl hd hlocks
  · exact W.lret hx hb (hrt.trans h2) hq hl hd hlocks
  · exact W.vret hx hb (hrt.trans h2) hq hl hd hlocks
theorem zroom {k : Nat} (hk : k < 277) {e : zPE} (he : e ∈ (zrw k).1) (hc : zkind e.2.1 e.2.2.1 e.2.2.2.1 e.2.2.2.2 = 1 ∨ zkind e.2.1 e.2.2.1 e.2.2.2.1 e.2.2.2.2 = 2 ∨ zkind e.2.1 e.2.2.1 e.2.2.2.1 e.2.2.2.2 = 3) : ((zrm e.2.2.1).frames + 1 ≤ (zrm k).frames ∧ 8 + ((zrw e.2.2.1).2.1 + 11) + (zrm e.2.2.1).locals ≤ (zrm k).locals) ∧ e.2.2.1 < 276 := by
  have h := List.all_eq_true.mp (zrok_k hk) e he
  rcases hc with hc | hc | hc
  all_goals
    rw [hc] at h
    simp only [Bool.and_eq_true] at h
    exact ⟨⟨Nat.le_of_ble_eq_true h.1.1, Nat.le_of_ble_eq_true h.1.2⟩, Nat.le_of_ble_eq_true h.2⟩
theorem zrv_map (B : zB) (rv : Option Value) (st : List Value) : (rv.toList ++ st).map (zvm B) = (rv.map (zvm B)).toList ++ st.map (zvm B) := by cases rv <;> rfl
set_option maxHeartbeats 4000000 in
theorem zshow_closed (hTB : zTBok) (hlk : zLKok l Lx xs lk) : ∀ k z Q, zFX lk Lx xs (zShow l Lx xs) k z Q → zShow l Lx xs k z Q := by
  intro k z Q hf me hMe hk p e s0 m args below meth c0 Q0 D B tA H0 hC hK hret
  obtain ⟨⟨pc', i, a, b, v⟩, hin, hpc, hf⟩ := hf
  obtain ⟨pc, L, st, hp, c, s⟩ := z
  simp only at hpc hf
  subst hpc
  have hOKs : zkind i a b v ≠ 7 → zOK me (pc', i, a, b, v) := fun hk => by
    rcases hMe.1 _ hin with h | ⟨-, h1, h2, h3, h4, h5⟩
    · exact h
    · simp only at h1 h2 h3
      subst h1; subst h2; subst h3
      exact absurd rfl hk
  split at hf
  · rename_i hkk
    obtain ⟨z', h1, h2⟩ := hf
    rw [← hMe.2] at h1
    exact zone_ok h1 (hOKs (by rw [hkk]; decide)) hC hK (h2 me hMe hk p e s0 m args below meth c0 Q0 D B tA H0 hC hK hret)
  · rename_i hkk
    obtain ⟨x, rfl⟩ := zkind_1 hkk
    have hOK := hOKs (by rw [hkk]; decide)
    obtain ⟨m', q, hm, hcal, hq, hq1, w1, w2, w3, w4⟩ := zf_virt hOK
    have hd := zf_dec hOK rfl
    obtain ⟨hR, hk'⟩ := zroom hk hin (Or.inl hkk)
    obtain ⟨vs, r, st', fs, rfl, hn, hrec, g1, g2, g3, g4, P, g5, g6⟩ := hf
    intro H locs ls k1 k2 k3
    have hM := zmet_show hTB hk' hm g5 g1
    have est : (vs.reverse ++ .ref r :: st').map (zvm B) = (vs.map (zvm B)).reverse ++ .ref (B.1 + r) :: st'.map (zvm B) := by
      rw [List.map_append, List.map_reverse]; rfl
    show W p l e (zrm k) s0 m args below meth c0 H locs c s Q0 (F0 m pc' ls ((vs.reverse ++ .ref r :: st').map (zvm B)))
    rw [est]
    refine zr_virt hC hK k1 k2 k3.1 hm hcal w1 w2 w3 w4 hrec hq hq1 hM (by rw [(zmeK hTB hk' hm).1.2]; exact hR) ⟨g3, g4⟩ hn (by rw [zsum_vm]; exact g2) hd (fun rv hp' hP H1 locs1 n1 n2 => ?_)
    have f5 := g6 rv hp' hP me hMe hk p e s0 m args below meth c0 Q0 D B tA H0 hC hK hret H1 locs1 ls n1 n2 k3
    rw [← zrv_map]
    exact f5
  · rename_i hkk
    obtain ⟨x, rfl, hb, ha⟩ := zkind_2 hkk
    have hOK := hOKs (by rw [hkk]; decide)
    obtain ⟨m', hm, hcal, w1, w2, w4⟩ := zf_stat hOK hb
    have hd := zf_dec hOK rfl
    obtain ⟨hR, hk'⟩ := zroom hk hin (Or.inr (Or.inl hkk))
    obtain ⟨vs, st', rfl, hn, g1, g2, g3, g4, P, g5, g6⟩ := hf
    intro H locs ls k1 k2 k3
    have hM := zmet_show hTB hk' hm g5 g1
    have est : (vs.reverse ++ st').map (zvm B) = (vs.map (zvm B)).reverse ++ st'.map (zvm B) := by
      rw [List.map_append, List.map_reverse]
    show W p l e (zrm k) s0 m args below meth c0 H locs c s Q0 (F0 m pc' ls ((vs.reverse ++ st').map (zvm B)))
    rw [est]
    refine zr_stat hC hK k1 k2 k3.1 hm hcal w1 w2 w4 hM (by rw [(zmeK hTB hk' hm).1.2]; exact hR) ⟨g3, g4⟩ hn (by rw [zsum_vm]; exact g2) hd (fun rv hp' hP H1 locs1 n1 n2 => ?_)
    have f5 := g6 rv hp' hP me hMe hk p e s0 m args below meth c0 Q0 D B tA H0 hC hK hret H1 locs1 ls n1 n2 k3
    rw [← zrv_map]
    exact f5
  · rename_i hkk
    obtain ⟨x, rfl, hv⟩ := zkind_3 hkk
    have hOK := hOKs (by rw [hkk]; decide)
    obtain ⟨m', hm, hcal, hn1, hn2, w1, w2, w4⟩ := zf_spec hOK hv
    have hd := zf_dec hOK rfl
    obtain ⟨hR, hk'⟩ := zroom hk hin (Or.inr (Or.inr hkk))
    obtain ⟨vs, r, st', rfl, hn, g1, g2, g3, g4, P, g5, g6⟩ := hf
    intro H locs ls k1 k2 k3
    have hM := zmet_show hTB hk' hm g5 g1
    have est : (vs.reverse ++ .ref r :: st').map (zvm B) = (vs.map (zvm B)).reverse ++ .ref (B.1 + r) :: st'.map (zvm B) := by
      rw [List.map_append, List.map_reverse]; rfl
    show W p l e (zrm k) s0 m args below meth c0 H locs c s Q0 (F0 m pc' ls ((vs.reverse ++ .ref r :: st').map (zvm B)))
    rw [est]
    refine zr_spec hC hK k1 k2 k3.1 hm hcal hn1 hn2 w1 w2 w4 hM (by rw [(zmeK hTB hk' hm).1.2]; exact hR) ⟨g3, g4⟩ hn (by rw [zsum_vm]; exact g2) hd (fun rv hp' hP H1 locs1 n1 n2 => ?_)
    have f5 := g6 rv hp' hP me hMe hk p e s0 m args below meth c0 Q0 D B tA H0 hC hK hret H1 locs1 ls n1 n2 k3
    rw [← zrv_map]
    exact f5
  · rename_i hkk
    obtain rfl := zkind_4 hkk
    have hOK := hOKs (by rw [hkk]; decide)
    have hd := zf_dec hOK rfl
    obtain ⟨g1, g2, x, rfl, g3, g4⟩ := hf
    intro H locs ls k1 k2 k3
    have hside := hOK.2.1
    simp only [zsd] at hside
    refine hret (some (.int x)) hp g4 H locs ls pc' c s k1 k2 g1 g2 (Or.inl ⟨hd, x, ?_⟩)
    split at hside
    · exact ⟨.int, rfl, of_decide_eq_true hside, rfl⟩
    · rename_i ha
      refine ⟨.boolean, rfl, of_decide_eq_true hside, ?_⟩
      rcases g3 with h | rfl | rfl
      · exact absurd h ha
      · decide
      · decide
  · rename_i hkk
    obtain rfl := zkind_5 hkk
    have hOK := hOKs (by rw [hkk]; decide)
    have hd := zf_dec hOK rfl
    obtain ⟨g1, g2, x, rfl, g4⟩ := hf
    intro H locs ls k1 k2 k3
    have hside := hOK.2.1
    simp only [zsd] at hside
    exact hret (some (.long x)) hp g4 H locs ls pc' c s k1 k2 g1 g2 (Or.inr (Or.inl ⟨hd, x, rfl, of_decide_eq_true hside⟩))
  · rename_i hkk
    obtain rfl := zkind_6 hkk
    have hOK := hOKs (by rw [hkk]; decide)
    have hd := zf_dec hOK rfl
    obtain ⟨g1, g2, rfl, g4⟩ := hf
    intro H locs ls k1 k2 k3
    have hside := hOK.2.1
    simp only [zsd] at hside
    exact hret none hp g4 H locs ls pc' c s k1 k2 g1 g2 (Or.inr (Or.inr ⟨hd, rfl, of_decide_eq_true hside⟩))
  · rename_i n0 n1 n2 n3 n4 n5 n6
    obtain ⟨x, rfl, hb, rfl⟩ := zkind_7 (i := i) (a := a) (b := b) (v := v) (fun j hj e => by
      rcases (show j = 0 ∨ j = 1 ∨ j = 2 ∨ j = 3 ∨ j = 4 ∨ j = 5 ∨ j = 6 by omega) with rfl | rfl | rfl | rfl | rfl | rfl | rfl
      · exact n0 e
      · exact n1 e
      · exact n2 e
      · exact n3 e
      · exact n4 e
      · exact n5 e
      · exact n6 e)
    have hsp : k = 276 ∧ zSp me (pc', .invokestatic x, 9999, b, v) := by
      rcases hMe.1 _ hin with h | h
      · obtain ⟨m', hm, -⟩ := zf_stat h hb
        rw [zM_9999] at hm
        cases hm
      · exact h
    obtain ⟨rfl, s1, s2, s3, s4, s5⟩ := hsp
    simp only at s1 s3 s4
    obtain ⟨vs, st', rfl, g1, g2, g3, P, g4, g5⟩ := hf
    intro H locs ls k1 k2 k3
    have est : (vs.reverse ++ st').map (zvm B) = (vs.map (zvm B)).reverse ++ st'.map (zvm B) := by
      rw [List.map_append, List.map_reverse]
    show W p l e (zrm 276) s0 m args below meth c0 H locs c s Q0 (F0 m pc' ls ((vs.reverse ++ st').map (zvm B)))
    rw [est]
    refine hlk vs hp P g4 p e s0 m args below meth c0 Q0 D B tA H0 me pc' c s st' hC hK s5 s4 g1 g2 g3 H locs ls k1 k2 k3.1 (fun rv hp' hP H1 locs1 n1 n2 => ?_)
    have f5 := g5 rv hp' hP me hMe hk p e s0 m args below meth c0 Q0 D B tA H0 hC hK hret H1 locs1 ls n1 n2 k3
    rw [← zrv_map]
    exact f5
/-- a run of the pure machine is one of the machine -/
theorem zWP_ok (hTB : zTBok) (hlk : zLKok l Lx xs lk) {k : Nat} {z : zCF} {Q : ZP} (h : zWP lk Lx xs k z Q) : zShow l Lx xs k z Q := h _ (zshow_closed hTB hlk)
theorem zWP_met (hTB : zTBok) (hlk : zLKok l Lx xs lk) {k : Nat} (hk : k < 276) {me : zMe} (hm : zM k = some me) {av : List Value} {hp : List zhE} {P : ZP} (h : zWP lk Lx xs k (0, lv_args 0 av, [], hp, 0, 0) P) (hav : (lg_sl av).length ≤ (zrw k).2.1) : zMet l Lx xs me (zrm k) av hp P := zmet_show hTB hk hm (zWP_ok hTB hlk h) hav
end ZWS
