/-! a run of a method from a state of the law's cells, nothing written -/
def zmc (k pc : Nat) (P : PT) (Kr : ZKR) (n : Nat) : Bool :=
  Nat.ble (k + 1) 276 && zidS P.2.2.2.1.length (fun θ => zidC 208 (fun μ => zmkP P.2.2.1 (0, []) (fun A => Nat.beq A.1 208 && zfn P.2.2.2.1.length (fun m => zrun ([], 208, false, false, [], [], θ, μ, none) n true true k (zrw k).1 (zrw k).2.1 Kr (zrw k).1 pc P.1 P.2.1 A (m, P.2.2.2.1, [], [], []) 0 0))))
theorem zmc_ok {lk : ZLP} {Lx : Nat} {xs : Nat → Int32} {k pc : Nat} {P : PT} {Kr : ZKR} {n : Nat} (hz : zmc k pc P Kr n = true) {η : List Nat} {ρ : List Int} {L : zL} {st : List Value} {hp : List zhE} (hη : η.length = 208) (hinj : zinj η hp) (p1 : zaL η ρ P.1 L) (p2 : zaS η ρ P.2.1 st) (p3 : zcl2 η ρ P.2.2.1 hp) (p4 : zaE ρ P.2.2.2.1) :
    zWP lk Lx xs k (pc, L, st, hp, 0, 0) (fun rv hp' => (∃ m, hp' = hp ++ m) ∧ ∃ (r : List AV) (h : AH) (G : AG) (η2 : List Nat) (ρ2 : List Int), Kr r h G = true ∧ (∃ l, ρ2 = ρ ++ l) ∧ zaG ρ2 G ∧ zaS η2 ρ2 r rv.toList) := by
  unfold zmc at hz
  rw [Bool.and_eq_true] at hz
  have hk := Nat.le_of_ble_eq_true hz.1
  obtain ⟨θ, t1, t2, t3⟩ := zidS_ok hz.2
  obtain ⟨μ, u1, u2, u3⟩ := zidC_ok t1
  obtain ⟨A, a1, a2, a3⟩ := zmkP_ok u1 (fun j d hj => by simp [zhg] at hj)
  rw [Bool.and_eq_true, zfn_eq] at a1
  have a4 := Nat.eq_of_beq_eq_true a1.1
  have hU : zself ([], 208, false, false, [], [], θ, μ, none) η ρ := ⟨t3, by show θ.length = _; rw [t2, p4.1], u3, by show μ.length = _; omega⟩
  have hH : zaH η ρ A hp := by
    refine ⟨by rw [a4, hη], fun j d hj => ?_, hinj.1, hinj.2⟩
    rcases a3 j d hj with e | e
    · obtain ⟨x, y, g1, g2, g3⟩ := p3 _ e
      exact ⟨x, y, g1, g2, g3⟩
    · simp [zhg] at e
  have hrun := zrun_ok (lk := lk) (Lx := Lx) (xs := xs) (η0 := η) (ρe := ρ) (ρs := ρ) (hp0 := hp) (Rk := fun _ => True) (U := ([], 208, false, false, [], [], θ, μ, none)) znewOK_ok (fun C hC => absurd hC List.not_mem_nil) hη.symm hU ⟨[], by simp⟩ (fun h => by cases h) (fun x _ => trivial) n
  refine hrun _ _ _ _ _ _ _ _ _ _ _ _ _ _ a1.2 (by omega) rfl rfl (znewOK_ok k (by omega)) (fun x hx => hx) 0 0 _ ⟨rfl, rfl, Nat.zero_le _, Nat.zero_le _⟩ (fun _ q hq => absurd hq List.not_mem_nil) η ρ L st hp ⟨[], by simp⟩ ⟨⟨[], by simp⟩, ⟨[], by simp⟩, ⟨p4.1, p4, fun f hf => absurd hf List.not_mem_nil, fun f hf => absurd hf List.not_mem_nil⟩, hH, fun o ho => absurd ho List.not_mem_nil, Nat.le_refl _, fun i x hi hx => absurd (List.getElem?_eq_some_iff.mp hx).1 (by show ¬ i < η.length; have : η.length ≤ i := hi; omega), fun i _ _ => rfl, [], by simp⟩ p1 p2 ?_
  intro r h G hk2 η2 ρ2 rv hp2 hS hr
  obtain ⟨-, ⟨l, s2⟩, s3, s4, s5, s6⟩ := hS
  refine ⟨⟨hp2.drop hp.length, ?_⟩, r, h, G, η2, ρ2, hk2, ⟨l, s2⟩, s3, hr⟩
  have e : hp2.take hp.length = hp := by
    apply List.ext_getElem?
    intro i
    rw [List.getElem?_take]
    by_cases q : i < hp.length
    · rw [if_pos q]
      exact s6.2.2.1 i q (fun w hw => absurd hw List.not_mem_nil)
    · rw [if_neg q, List.getElem?_eq_none (by omega)]
  calc hp2 = hp2.take hp.length ++ hp2.drop hp.length := (List.take_append_drop _ _).symm
    _ = hp ++ hp2.drop hp.length := by rw [e]
def zlk0 : ZLP := fun _ _ _ => False
/-- what the class's look then shows, and what the law keeps of it -/
def zlkB (hp : List zhE) (P : ZP) (j : Nat) (g : Nat → Int64) : ZP := fun rv2 hp2 => (∃ m, hp2 = hp ++ m) ∧ ∃ y : Int32, rv2 = some (.int y) ∧ ∀ m, P (some (.int 0)) ((hp ++ m).set j (.inl (1, 1, .inr (.inl (va_up g 0 y.toInt64)))))
/-- what the class's isTold says -/
def zlkA (Lx : Nat) (xs : Nat → Int32) (hp : List zhE) (P : ZP) (i j : Nat) (n0 n1 : Int32) (g : Nat → Int64) : ZP := fun rv hp1 => (∃ m, hp1 = hp ++ m) ∧ ((rv = some (.int 0) ∧ ∀ m, P (some (.int 1)) (hp ++ m)) ∨ (rv = some (.int 1) ∧ (¬ (0 ≤ n1.toInt ∧ n1.toInt ≤ 9) → ∀ m, P (some (.int 2)) (hp ++ m)) ∧ (0 ≤ n1.toInt → n1.toInt ≤ 9 →
    zWP zlk0 Lx xs 127 (18, lv_args 0 [.ref i, .int n0, .int n1], [], hp1, 0, 0) (zlkB hp P j g))))
/-- the law's own look -/
def zlk2 (Lx : Nat) (xs : Nat → Int32) : ZLP := fun vs hp P => ∃ (i j : Nat) (n0 n1 : Int32) (fs : List Value) (g : Nat → Int64), vs = [.ref i, .int n0, .int n1, .ref j] ∧ hp[i]? = some (.inr (11, fs)) ∧ hp[j]? = some (.inl (1, 1, .inr (.inl g))) ∧ zWP zlk0 Lx xs 124 (0, lv_args 0 [.ref i, .int n0], [], hp, 0, 0) (zlkA Lx xs hp P i j n0 n1 g)
def zlKt (r : List AV) (_ : AH) (G : AG) : Bool := match r with
  | [a] => Nat.beq a.1 0 && (a.2.2.isEmpty && (zeq a.2.1 0 || (zeq a.2.1 1 && (zprv G.2.1 G.2.2.1 (0, [(109, 1)]) && zprv G.2.1 G.2.2.1 (8, [(109, -1)])))))
  | _ => false
def zlKi (r : List AV) (_ : AH) (_ : AG) : Bool := match r with
  | [a] => Nat.beq a.1 0
  | _ => false
set_option maxRecDepth 100000 in
theorem zlm_124 : zmc 124 0 zlPK1 zlKt 100000 = true := by decide +kernel
set_option maxRecDepth 100000 in
theorem zlm_127 : zmc 127 18 zlPK2 zlKi 100000 = true := by decide +kernel
