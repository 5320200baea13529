/-! the abstract run of a method, calls and all -/
abbrev ZKR : Type := Option AV → AH → AE → Bool
def zfind (P : List zPE) (pc : Nat) (k : zPE → List zPE → Bool) : Bool := match P with
  | [] => false
  | e :: l => (match Nat.beq e.1 pc with
    | true => k e l
    | false => zfind l pc k)
def zfetch (P sfx : List zPE) (pc : Nat) (k : zPE → List zPE → Bool) : Bool := match sfx with
  | e :: l => (match Nat.beq e.1 pc with
    | true => k e l
    | false => zfind P pc k)
  | [] => zfind P pc k
theorem zfind_ok : ∀ {P : List zPE} {pc : Nat} {k : zPE → List zPE → Bool}, zfind P pc k = true → ∃ e l, e ∈ P ∧ e.1 = pc ∧ (∀ x ∈ l, x ∈ P) ∧ k e l = true
  | [], _, _, h => by simp [zfind] at h
  | e :: l, pc, k, h => by
    unfold zfind at h
    split at h
    · rename_i he
      exact ⟨e, l, List.mem_cons_self, Nat.eq_of_beq_eq_true he, fun x hx => List.mem_cons_of_mem _ hx, h⟩
    · obtain ⟨e', l', h1, h2, h3, h4⟩ := zfind_ok h
      exact ⟨e', l', List.mem_cons_of_mem _ h1, h2, fun x hx => List.mem_cons_of_mem _ (h3 x hx), h4⟩
theorem zfetch_ok {P sfx : List zPE} {pc : Nat} {k : zPE → List zPE → Bool} (hs : ∀ x ∈ sfx, x ∈ P) (h : zfetch P sfx pc k = true) : ∃ e l, e ∈ P ∧ e.1 = pc ∧ (∀ x ∈ l, x ∈ P) ∧ k e l = true := by
  unfold zfetch at h
  split at h
  · rename_i e l
    split at h
    · rename_i he
      exact ⟨e, l, hs _ List.mem_cons_self, Nat.eq_of_beq_eq_true he, fun x hx => hs x (List.mem_cons_of_mem _ hx), h⟩
    · exact zfind_ok h
  · exact zfind_ok h
/-- the arguments off the stack, the first one first -/
def zspl : Nat → List AV → List AV → (List AV → List AV → Bool) → Bool
  | 0, S, acc, k => k acc S
  | _ + 1, [], _, _ => false
  | n + 1, x :: S, acc, k => zspl n S (x :: acc) k
theorem zspl_ok {ρ : Nat → Int} : ∀ {n : Nat} {S acc : List AV} {k : List AV → List AV → Bool} {st va : List Value}, zspl n S acc k = true → zaS ρ S st → zaS ρ acc va → ∃ as S' vs st', k as S' = true ∧ zaS ρ as vs ∧ zaS ρ S' st' ∧ vs.length = n + va.length ∧ va.reverse ++ st = vs.reverse ++ st'
  | 0, S, acc, _, st, va, h, hS, ha => ⟨acc, S, va, st, h, ha, hS, by omega, rfl⟩
  | _ + 1, [], _, _, _, _, h, _, _ => by simp [zspl] at h
  | _ + 1, _ :: _, _, _, [], _, _, hS, _ => hS.elim
  | n + 1, x :: S, acc, k, v :: st, va, h, hS, ha => by
    obtain ⟨as, S', vs, st', h1, h2, h3, h4, h5⟩ := zspl_ok (n := n) (S := S) (acc := x :: acc) (st := st) (va := v :: va) h hS.2 ⟨hS.1, ha⟩
    refine ⟨as, S', vs, st', h1, h2, h3, by simp at h4; omega, ?_⟩
    rw [← h5, List.reverse_cons, List.append_assoc]
    rfl
/-- the arguments as local variables -/
def zargs : Nat → List AV → (AL → Bool) → Bool
  | _, [], k => k []
  | i, a :: as, k => zfn (i + zcat a) (fun j => zargs j as (fun l => k ((i, a) :: l)))
theorem zargs_ok {ρ : Nat → Int} : ∀ {i : Nat} {as : List AV} {k : AL → Bool} {vs : List Value}, zargs i as k = true → zaS ρ as vs → ∃ A, k A = true ∧ zaL ρ A (lv_args i vs)
  | _, [], _, [], h, _ => ⟨[], h, trivial⟩
  | _, [], _, _ :: _, _, hS => hS.elim
  | _, _ :: _, _, [], _, hS => hS.elim
  | i, a :: as, k, v :: vs, h, hS => by
    unfold zargs at h
    rw [zfn_eq] at h
    obtain ⟨A, h1, h2⟩ := zargs_ok h hS.2
    refine ⟨_, h1, ?_⟩
    have hc := zcat_ok hS.1
    have e : (if v.category = 2 then i + 2 else i + 1) = i + zcat a := by
      rw [hc]
      unfold zcat
      split <;> simp
    show zaL ρ _ ((i, v) :: lv_args (if v.category = 2 then i + 2 else i + 1) vs)
    rw [e]
    exact ⟨⟨rfl, hS.1⟩, h2⟩
theorem zlg_len {ρ : Nat → Int} : ∀ {as : List AV} {vs : List Value}, zaS ρ as vs → (lg_sl vs).length = (as.map zcat).sum
  | [], [], _ => rfl
  | [], _ :: _, h => h.elim
  | _ :: _, [], h => h.elim
  | a :: as, v :: vs, h => by
    have h1 := zlg_len h.2
    have hc := zcat_ok h.1
    have h2 : (lg_sl (v :: vs)).length = zcat a + (lg_sl vs).length := by
      simp only [lg_sl, List.flatMap_cons, List.length_append]
      rw [hc]
      unfold zcat
      split <;> simp
    rw [h2, h1]
    simp
/-- 0: none of these; 1 a virtual call, 2 a static one, 3 a constructor's; 4, 5, 6: the method's end; 7: the law's look -/
def zkind (i : Instr) (a b : Nat) (v : Int) : Nat := match i with
  | .invokevirtual _ => 1
  | .invokestatic _ => (match Nat.beq b 99 with | true => 0 | false => (match Nat.beq a 9999 with | true => 7 | false => 2))
  | .invokespecial _ => (match v with | 0 => 0 | _ => 3)
  | .ireturn => 4
  | .lreturn => 5
  | .return_ => 6
  | _ => 0
def zpush (r : Option AV) (S : List AV) : List AV := match r with
  | some a => a :: S
  | none => S
abbrev ZRC : Type := List zPE → Nat → Nat → Nat → Nat → Nat → ZKR → List zPE → ZK
abbrev ZLK : Type := List AV → AH → AE → Nat → Nat → (AV → AH → Nat → Nat → Bool) → Bool
/-- into a method and out of it -/
def zent (rec : ZRC) (k : Nat) (as S : List AV) (P : List zPE) (nL rf rl rc rs : Nat) (Kr : ZKR) (sfx : List zPE) (pc : Nat) (A : AL) (h : AH) (E : AE) (c s : Nat) : Bool := match zrw k with
  | (P', nL', rf', rl', rc', rs') => (match Nat.ble (rf' + 1) rf && (Nat.ble (8 + (nL' + 11) + rl') rl && (Nat.ble (c + rc') rc && (Nat.ble (s + rs') rs && (Nat.ble S.length 4 && (Nat.ble (as.map zcat).sum nL' && Nat.ble (k + 1) 277))))) with
    | true => zargs 0 as (fun A' => rec P' nL' rf' rl' rc' rs' (fun r h E => zfn (pc + 3) (fun pc => zfn (c + rc') (fun c => zfn (s + rs') (fun s => rec P nL rf rl rc rs Kr sfx pc A (zpush r S) h E c s)))) P' 0 A' [] h E 0 0)
    | false => false)
/-- n: the steps that are left; lk: the law's look, by its arguments -/
def zrun (lk : ZLK) : Nat → ZRC
  | 0 => fun _ _ _ _ _ _ _ _ _ _ _ _ _ _ _ => false
  | n + 1 => fun P nL rf rl rc rs Kr sfx pc A S h E c s =>
    zfetch P sfx pc (fun e sfx => match zkind e.2.1 e.2.2.1 e.2.2.2.1 e.2.2.2.2 with
      | 0 => zdo e.2.1 e.2.2.1 e.2.2.2.1 e.2.2.2.2 nL rf rl rc rs pc A S h E c s (zrun lk n P nL rf rl rc rs Kr sfx)
      | 1 => zspl e.2.2.2.1 S [] (fun as S => match S with
        | r :: S => zref r (fun i => zobj h i e.2.2.2.2.toNat (fun _ => zent (zrun lk n) e.2.2.1 (r :: as) S P nL rf rl rc rs Kr sfx pc A h E c s))
        | [] => false)
      | 2 => zspl e.2.2.2.1 S [] (fun as S => zent (zrun lk n) e.2.2.1 as S P nL rf rl rc rs Kr sfx pc A h E c s)
      | 3 => zspl e.2.2.2.1 S [] (fun as S => match S with
        | r :: S => zref r (fun _ => zent (zrun lk n) e.2.2.1 (r :: as) S P nL rf rl rc rs Kr sfx pc A h E c s)
        | [] => false)
      | 4 => Nat.ble c rc && (Nat.ble s rs && (match S with
        | [x] => (match e.2.2.1 with | 0 => zint x | _ => ziv E x (fun l u => zle 0 l && zle u 1)) && Kr (some x) h E
        | _ => false))
      | 5 => Nat.ble c rc && (Nat.ble s rs && (match S with
        | [x] => zlng x && Kr (some x) h E
        | _ => false))
      | 6 => Nat.ble c rc && (Nat.ble s rs && (match S with
        | [] => Kr none h E
        | _ => false))
      | _ => zspl e.2.2.2.1 S [] (fun as S => match Nat.ble S.length 4 with
        | true => lk as h E c s (fun r h c s => zfn (pc + 3) (fun pc => zrun lk n P nL rf rl rc rs Kr sfx pc A (r :: S) h E c s))
        | false => false))
def zaR (ρ : Nat → Int) (r : Option AV) (v : Option Value) : Prop := match r, v with
  | some a, some v => za ρ a v
  | none, none => True
  | _, _ => False
/-- a method's end -/
def zRI (me : zMe) (pc : Nat) (rv : Option Value) : Prop :=
  (decode me.2.1 pc = .ok (.ireturn, 1) ∧ ∃ x ty, rv = some (.int x) ∧ me.2.2.2 = some ty ∧ narrow ty (.int x) = .int x) ∨ (decode me.2.1 pc = .ok (.lreturn, 1) ∧ ∃ x, rv = some (.long x) ∧ me.2.2.2 = some .long) ∨ (decode me.2.1 pc = .ok (.return_, 1) ∧ rv = none ∧ me.2.2.2 = none)
/-- the law's call of its own look -/
def zSp (me : zMe) (e : zPE) : Prop := e.2.1 = .invokestatic 39 ∧ e.2.2.1 = 9999 ∧ e.2.2.2.1 = 4 ∧ decode me.2.1 e.1 = .ok (.invokestatic 39, 3) ∧ me.1.cls = "TinTowerLaw"
/-- what the rule for look must show -/
def zLKok (l : Launch) (Lx : Nat) (xs : Nat → Int32) (ρ : Nat → Int) (lk : ZLK) : Prop :=
  ∀ (as : List AV) (h : AH) (E : AE) (c s : Nat) (k : AV → AH → Nat → Nat → Bool), lk as h E c s k = true → zaE ρ E → ∀ (vs : List Value) (hp : List zhE), zaS ρ as vs → zaH ρ h hp →
  ∀ (p : Program) (e : Env) (R : Room) (s0 : State) (m : MethodId) (args : Array Value) (below : List Frame) (meth : Method) (c0 : Code) (Q : State → Prop) (D : va_G) (B : zB) (tA : Nat → ClassId) (H0 : Heap) (me : zMe) (pc : Nat) (rest : List Value), zC p s0 m args meth c0 me → zK D B tA Lx xs H0 s0 → me.1.cls = "TinTowerLaw" → decode me.2.1 pc = .ok (.invokestatic 39, 3) → (rest.map fun v => v.category).sum ≤ 8 →
  R.cells = 600002 ∧ R.slots = 7302232 ∧ R.frames = 10 ∧ R.locals = 422 →
  ∀ (H : Heap) (locs : List Loc) (ls : Array Slot), zH D B tA H0 hp H → (∀ q ∈ locs, B.1 ≤ q.base) → ls.size = me.2.2.1 →
  (∀ r h' c' s', k r h' c' s' = true → ∀ rv hp', za ρ r rv → zaH ρ h' hp' → ∀ (H1 : Heap) (locs1 : List Loc), zH D B tA H0 hp' H1 → (∀ q ∈ locs1, B.1 ≤ q.base) → W p l e R s0 m args below meth c0 H1 locs1 c' s' Q (F0 m (pc + 3) ls (zvm B rv :: rest))) →
  W p l e R s0 m args below meth c0 H locs c s Q (F0 m pc ls ((vs.map (zvm B)).reverse ++ rest))
/-- the printed table's programs are those that were checked -/
def zTBok : Prop := ∀ k, k < 277 → ∃ m, zM k = some m ∧ (∀ e ∈ (zrw k).1, zOK m e) ∧ m.2.2.1 = (zrw k).2.1 ∧ plainFor m.1 = true
set_option maxRecDepth 20000 in
/-- none of the numbered methods is the law's -/
theorem zNL : (List.range 277).all (fun k => match zM k with | some m => decide (m.1.cls ≠ "TinTowerLaw") | none => true) = true := by decide +kernel
theorem zNotLaw : ∀ k', k' < 277 → ∀ m, zM k' = some m → m.1.cls ≠ "TinTowerLaw" := by
  intro k hk m hm
  have h := List.all_eq_true.mp zNL k (List.mem_range.mpr hk)
  rw [hm] at h
  exact of_decide_eq_true h
section ZRUN
variable {l : Launch} {Lx : Nat} {xs : Nat → Int32} {ρ : Nat → Int} {lk : ZLK}
/-- what a run shows of a frame -/
def zRunOK (l : Launch) (Lx : Nat) (xs : Nat → Int32) (ρ : Nat → Int) (rec : ZRC) : Prop :=
  ∀ (P : List zPE) (nL rf rl rc rs : Nat) (Kr : ZKR) (sfx : List zPE) (pc : Nat) (A : AL) (S : List AV) (h : AH) (E : AE) (c s : Nat), rec P nL rf rl rc rs Kr sfx pc A S h E c s = true →
  ∀ (me : zMe), (∀ e ∈ P, zOK me e ∨ zSp me e) → (∀ e ∈ sfx, e ∈ P) → nL = me.2.2.1 →
  ∀ (p : Program) (e : Env) (R : Room) (s0 : State) (m : MethodId) (args : Array Value) (below : List Frame) (meth : Method) (c0 : Code) (Q : State → Prop) (D : va_G) (B : zB) (tA : Nat → ClassId) (H0 : Heap), zC p s0 m args meth c0 me → zK D B tA Lx xs H0 s0 → R.frames = rf → R.locals = rl → R.cells = rc → R.slots = rs →
  (me.1.cls = "TinTowerLaw" → R.cells = 600002 ∧ R.slots = 7302232 ∧ R.frames = 10 ∧ R.locals = 422) →
  (∀ (r : Option AV) (h : AH) (E : AE), Kr r h E = true → zaE ρ E → ∀ (rv : Option Value) (hp : List zhE), zaR ρ r rv → zaH ρ h hp → ∀ (H : Heap) (locs : List Loc) (ls : Array Slot) (pc c s : Nat), zH D B tA H0 hp H → (∀ q ∈ locs, B.1 ≤ q.base) → c ≤ R.cells → s ≤ R.slots → zRI me pc rv → W p l e R s0 m args below meth c0 H locs c s Q (F0 m pc ls (rv.map (zvm B)).toList)) →
  zS (zW p l e R s0 m args below meth c0 Q) D B tA H0 nL ρ pc A S h E c s
def zrm (k : Nat) : Room := { frames := (zrw k).2.2.1, locals := (zrw k).2.2.2.1, cells := (zrw k).2.2.2.2.1, slots := (zrw k).2.2.2.2.2 }
/-- a method's contract out of its run -/
theorem zmet_of_run {rec : ZRC} (hrec : zRunOK l Lx xs ρ rec) (hTB : zTBok) {k : Nat} (hk : k < 277) {m' : zMe} (hm : zM k = some m') {as : List AV} {av : List Value} {h : AH} {E : AE} {hp : List zhE} {A' : AL} {Kr : ZKR}
    (hz : rec (zrw k).1 (zrw k).2.1 (zrw k).2.2.1 (zrw k).2.2.2.1 (zrw k).2.2.2.2.1 (zrw k).2.2.2.2.2 Kr (zrw k).1 0 A' [] h E 0 0 = true) (hE : zaE ρ E) (hA : zaL ρ A' (lv_args 0 av)) (hS : zaS ρ as av) (hle : (as.map zcat).sum ≤ (zrw k).2.1) (hH : zaH ρ h hp) :
    zMet l Lx xs m' (zrm k) av hp (fun rv hp' => ∃ r h' E', Kr r h' E' = true ∧ zaE ρ E' ∧ zaR ρ r rv ∧ zaH ρ h' hp') := by
  obtain ⟨m2, hm2, hOK, hnL, hpl⟩ := hTB k hk
  cases hm.symm.trans hm2
  refine zMet_of hm hpl (by rw [zlg_len hS, hnL]; exact hle) ?_
  intro p e s m args below meth c D B tA H0 hC hK ls hls hzH
  by_cases hlaw : m'.1.cls = "TinTowerLaw"
  · exact absurd hlaw (by
      have hlk : ∀ k', k' < 277 → ∀ m, zM k' = some m → m.1.cls ≠ "TinTowerLaw" := zNotLaw
      exact hlk k hk m' hm)
  have h1 := hrec _ _ _ _ _ _ _ _ _ _ _ _ _ _ _ hz m' (fun e he => Or.inl (hOK e he)) (fun e he => he) hnL.symm p e (zrm k) s m args below meth c (MQ below (zQc D B tA H0 (fun rv hp' => ∃ r h' E', Kr r h' E' = true ∧ zaE ρ E' ∧ zaR ρ r rv ∧ zaH ρ h' hp')) args s (zrm k).cells (zrm k).slots (fun q => B.1 ≤ q)) D B tA H0 hC hK rfl rfl rfl rfl (fun hl => absurd hl hlaw) ?_
  · exact h1 hE (lv_args 0 av) [] hp hA trivial hH s.heap [] ls hzH (fun q hq => absurd hq List.not_mem_nil) (by rw [← hnL]; exact hls)
  · intro r h' E' hKr hE' rv hp' hr hH' H locs ls' pc c' s' hzH' hl hc hs hRI
    obtain ⟨hx, hb, hrt, hml, hown, hts, hlocks, hnm⟩ := hC
    refine W.widen hc hs ?_
    have hq : ∀ t : State, t.heap = H → s.WarmedH t.vm → zQc D B tA H0 (fun rv hp' => ∃ r h' E', Kr r h' E' = true ∧ zaE ρ E' ∧ zaR ρ r rv ∧ zaH ρ h' hp') args s (.returned (rv.map (zvm B))) t := fun t ht _ => ⟨rv, hp', rfl, ⟨r, h', E', hKr, hE', hr, hH'⟩, by rw [ht]; exact hzH'⟩
    rcases hRI with ⟨hd, x, ty, rfl, h2, h3⟩ | ⟨hd, x, rfl, h2⟩ | ⟨hd, rfl, h2⟩
    · exact W.zret hx hb (hrt.trans h2) h3 hq hl hd hlocks
    · exact W.lret hx hb (hrt.trans h2) hq hl hd hlocks
    · exact W.vret hx hb (hrt.trans h2) hq hl hd hlocks
end ZRUN
