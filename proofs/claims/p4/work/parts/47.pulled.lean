/-! layPulled (237): the outer loop, and the contract -/
def zrab (r : Nat → Nat → Bool) (a b : AV) : Bool := match Nat.beq a.1 2 with
  | true => decide (b = a)
  | false => match a.2.2, b.2.2 with
    | [p], [q] => decide (a = (0, (0, [(p.1, 1)]))) && (decide (b = (0, (0, [(q.1, 1)]))) && r p.1 q.1)
    | _, _ => false
theorem zrab_ok {r : Nat → Nat → Bool} {a b : AV} (h : zrab r a b = true) {η : List Nat} {ρ ρ' : List Int} (hr : ∀ m m', r m m' = true → ∀ x, ρ[m]? = some x → ρ'[m']? = some x) {v : Value} (hv : zav η ρ a v) : zav η ρ' b v := by
  unfold zrab at h
  split at h
  · rename_i e
    have e := Nat.eq_of_beq_eq_true e
    have h := of_decide_eq_true h
    subst h
    obtain ⟨t, e2⟩ := b
    cases e
    exact hv
  · split at h
    · simp only [Bool.and_eq_true, decide_eq_true_eq] at h
      obtain ⟨h1, h2, h3⟩ := h
      rw [h1] at hv
      rw [h2]
      obtain ⟨y, rfl, z, ⟨x, w, q1, q2, q3⟩, q4⟩ := hv
      have q2 : w = 0 := q2
      have q3 : z = 1 * x + w := q3
      have q4 : y.toInt = 0 + z := q4
      refine ⟨y, rfl, zxr_s ?_⟩
      rw [hr _ _ h3 x q1]
      have : x = y.toInt := by omega
      rw [this]
    · cases h
def zren (r : Nat → Nat → Bool) : List AV → List AV → Bool
  | [], [] => true
  | a :: as, b :: bs => zrab r a b && zren r as bs
  | _, _ => false
theorem zren_ok {r : Nat → Nat → Bool} {η : List Nat} {ρ ρ' : List Int} (hr : ∀ m m', r m m' = true → ∀ x, ρ[m]? = some x → ρ'[m']? = some x) : ∀ {as bs : List AV} {vs : List Value}, zren r as bs = true → zaS η ρ as vs → zaS η ρ' bs vs
  | [], [], [], _, _ => trivial
  | [], [], _ :: _, _, h => h.elim
  | [], _ :: _, _, h, _ => by cases h
  | _ :: _, [], _, h, _ => by cases h
  | _ :: _, _ :: _, [], _, h => h.elim
  | a :: as, b :: bs, v :: vs, h, hv => by
    simp only [zren, Bool.and_eq_true] at h
    exact ⟨zrab_ok h.1 hr hv.1, zren_ok hr h.2 hv.2⟩
def zobF : PC → List AV
  | (_, .inl (_, fs)) :: _ => fs
  | _ => []
/-- rows without named elements: the symbols don't matter -/
def zrow0 : PC → Bool
  | [] => true
  | (_, .inr (.inl (_, _, _, _, []))) :: C => zrow0 C
  | _ => false
theorem zrow0_ok {η : List Nat} {ρ ρ' : List Int} {hp : List zhE} : ∀ {C : PC}, zrow0 C = true → zcl2 η ρ C hp → zcl2 η ρ' C hp
  | [], _, _ => fun q hq => absurd hq List.not_mem_nil
  | (c, .inr (.inl (t, n, p, rs, []))) :: C, h, hc => fun q hq => by
    rcases List.mem_cons.mp hq with rfl | hq
    · obtain ⟨x, y, h1, h2, f, h3, h4, h5⟩ := hc _ List.mem_cons_self
      exact ⟨x, y, h1, h2, f, h3, h4, h5.1, h5.2.1, h5.2.2.1, fun e he => absurd he List.not_mem_nil⟩
    · exact zrow0_ok (C := C) h (fun q hq => hc q (List.mem_cons_of_mem _ hq)) q hq
  | (_, .inr (.inl (_, _, _, _, _ :: _))) :: _, h, _ => by cases h
  | (_, .inl _) :: _, h, _ => by cases h
  | (_, .inr (.inr _)) :: _, h, _ => by cases h
theorem zaE_app {ρ l : List Int} {E F : LE} (h1 : zaE ρ E) (h2 : zaE l F) : zaE (ρ ++ l) (E ++ F) := by
  refine ⟨by rw [List.length_append, List.length_append, h1.1, h2.1], fun i q x hq hx => ?_⟩
  have hl := h1.1
  by_cases hi : i < ρ.length
  · rw [List.getElem?_append_left (by omega)] at hq
    rw [List.getElem?_append_left hi] at hx
    exact h1.2 i q x hq hx
  · rw [List.getElem?_append_right (by omega)] at hq
    rw [List.getElem?_append_right (by omega)] at hx
    rw [hl] at hq
    exact h2.2 _ q x hq hx
theorem zaE_cons {ρ : List Int} {E : LE} {lo hi x : Int} (hE : zaE ρ E) (h1 : lo ≤ x) (h2 : x ≤ hi) : zaE (x :: ρ) ((lo, hi) :: E) := by
  refine ⟨by rw [List.length_cons, List.length_cons, hE.1], fun i q y hq hy => ?_⟩
  cases i with
  | zero =>
    cases hq
    cases hy
    exact ⟨h1, h2⟩
  | succ i => exact hE.2 i q y (by simpa using hq) (by simpa using hy)
theorem zaE_drop {ρ : List Int} {E : LE} (hE : zaE ρ E) (n : Nat) : zaE (ρ.drop n) (E.drop n) := by
  refine ⟨by rw [List.length_drop, List.length_drop, hE.1], fun i q x hq hx => ?_⟩
  rw [List.getElem?_drop] at hq hx
  exact hE.2 _ q x hq hx
/-- a contract's pre is the model's shape, its own symbols first -/
def zrD (n m m' : Nat) : Bool := Nat.beq m (m' + n)
def zhd12 : PC → Bool
  | (0, .inl (12, _)) :: _ => true
  | _ => false
def zpreM (P : PT) (n : Nat) : Bool := zren (zrD n) (zobF P.2.2.1) (zobF zPM.2.2.1) && (decide (P.2.2.2.1.drop n = zPM.2.2.2.1) && (decide (P.2.2.2.2.2 = zPM.2.2.2.2.2) && zhd12 P.2.2.1))
theorem zrowM : zrow0 (zPM.2.2.1.drop 1) = true := by decide +kernel
theorem zcl2_cons {η : List Nat} {ρ : List Int} {q : Nat × AC} {C : PC} {hp : List zhE} (h1 : ∃ (x : Nat) (h : zhE), η[q.1]? = some x ∧ hp[x]? = some h ∧ zac η ρ q.2 h) (h2 : zcl2 η ρ C hp) : zcl2 η ρ (q :: C) hp := fun p hp2 => by
  rcases List.mem_cons.mp hp2 with rfl | hp2
  · exact h1
  · exact h2 p hp2
theorem zhd12_ok {C : PC} (h : zhd12 C = true) : ∃ D, C = (0, .inl (12, zobF C)) :: D := by
  unfold zhd12 at h
  split at h
  · exact ⟨_, rfl⟩
  · cases h
theorem zpreM_ok {P : PT} {n : Nat} (h : zpreM P n = true) (g2 : P.2.2.1.drop 1 = zPM.2.2.1.drop 1) {η : List Nat} {ρ : List Int} {av : List Value} {hp : List zhE} (h1 : η.length = 35) (h2 : zinj η hp) (h3 : zptS η ρ P [] av hp) : ∃ j, η[0]? = some j ∧ zMO η j (ρ.drop n) hp := by
  obtain ⟨p1, p2, p3, p4, p5, p6⟩ := h3
  unfold zpreM at h
  simp only [Bool.and_eq_true, decide_eq_true_eq] at h
  obtain ⟨g1, g3, g4, g5⟩ := h
  obtain ⟨C, hC⟩ := zhd12_ok g5
  obtain ⟨j, x, b1, b2, vs, rfl, b3⟩ := p3 (0, .inl (12, zobF P.2.2.1)) (by rw [hC]; exact List.mem_cons_self)
  refine ⟨j, b1, h1, h2, fun q hq => absurd hq List.not_mem_nil, ⟨⟨j, b1, rfl⟩, trivial⟩, ?_, ?_, fun f hf => absurd hf List.not_mem_nil, ?_⟩
  · have e : zPM.2.2.1 = (0, .inl (12, zobF zPM.2.2.1)) :: zPM.2.2.1.drop 1 := rfl
    rw [e]
    refine zcl2_cons ⟨j, _, b1, b2, vs, rfl, zren_ok (ρ := ρ) (fun m m' hm x hx => ?_) g1 b3⟩ ?_
    · have hm := Nat.eq_of_beq_eq_true hm
      rw [List.getElem?_drop, Nat.add_comm, ← hm]
      exact hx
    · refine zrow0_ok (ρ := ρ) zrowM (fun q hq => p3 q ?_)
      rw [← g2] at hq
      exact List.mem_of_mem_drop hq
  · have := zaE_drop p4 n
    rw [g3] at this
    exact this
  · rw [← g4]
    exact p6
/-- an end that is the model's shape: the answer, then its symbols anew but the first -/
def zrP (n m m' : Nat) : Bool := (Nat.beq m 0 && Nat.beq m' n) || (Nat.ble 1 m && Nat.beq m' (m + n + 37))
def zpostM (E : LE) (P : PT) (n : Nat) (q : Int × Int) : Bool := Nat.beq E.length (n + 37) && (zren (zrP n) (zobF zPM.2.2.1) (zobF P.2.2.1) && (decide (P.2.2.2.1 = E ++ (q :: zPM.2.2.2.1.drop 1)) && (decide (P.2.2.2.2.2 = zPM.2.2.2.2.2) && (decide (P.1 = []) && (decide (P.2.1 = [(0, (0, [(n + 37, 1)]))]) && (decide (P.2.2.2.2.1 = []) && (zhd12 P.2.2.1 && zrow0 (P.2.2.1.drop 1))))))))
theorem zpostM_ok {E : LE} {P : PT} {n : Nat} {lo hi : Int} (h : zpostM E P n (lo, hi) = true) (hR : ∀ q ∈ P.2.2.1.drop 1, q ∈ zPM.2.2.1) {η : List Nat} {j : Nat} {ρ ρ2 : List Int} {hp : List zhE} (hE : zaE ρ E) (hM : zMO η j ρ2 hp) (h0 : ρ2[0]? = ρ[n]?) {s : Int32} (s0 : lo ≤ s.toInt) (s1 : s.toInt ≤ hi) : zptS η (ρ ++ (s.toInt :: ρ2.drop 1)) P [] [.int s] hp := by
  unfold zpostM at h
  simp only [Bool.and_eq_true, decide_eq_true_eq] at h
  obtain ⟨g1, g2, g3, g4, g5, g6, g7, g8, g9⟩ := h
  have g1 := Nat.eq_of_beq_eq_true g1
  have hl : ρ.length = n + 37 := by rw [← hE.1]; exact g1
  obtain ⟨-, -, -, -, p3, p4, -, p6⟩ := hM
  obtain ⟨C, hC⟩ := zhd12_ok g8
  refine ⟨fun q hq => ?_, ?_, ?_, ?_, fun f hf => ?_, ?_⟩
  · rw [g5] at hq
    exact absurd hq List.not_mem_nil
  · rw [g6]
    refine ⟨⟨s, rfl, zxr_s ?_⟩, trivial⟩
    rw [List.getElem?_append_right (by omega), hl, Nat.sub_self]
    rfl
  · rw [hC]
    have e : zPM.2.2.1 = (0, .inl (12, zobF zPM.2.2.1)) :: zPM.2.2.1.drop 1 := rfl
    obtain ⟨j', x, b1, b2, vs, rfl, b3⟩ := p3 (0, .inl (12, zobF zPM.2.2.1)) (by rw [e]; exact List.mem_cons_self)
    refine zcl2_cons ⟨j', _, b1, b2, vs, rfl, zren_ok (ρ := ρ2) (fun m m' hm x hx => ?_) g2 b3⟩ ?_
    · simp only [zrP, Bool.or_eq_true, Bool.and_eq_true] at hm
      rcases hm with ⟨m1, m2⟩ | ⟨m1, m2⟩
      · have m1 := Nat.eq_of_beq_eq_true m1
        have m2 := Nat.eq_of_beq_eq_true m2
        subst m1
        subst m2
        rw [List.getElem?_append_left (by omega), ← h0]
        exact hx
      · have m1 := Nat.le_of_ble_eq_true m1
        have m2 := Nat.eq_of_beq_eq_true m2
        subst m2
        obtain ⟨k, rfl⟩ : ∃ k, m = k + 1 := ⟨m - 1, by omega⟩
        rw [List.getElem?_append_right (by omega), hl, show k + 1 + n + 37 - (n + 37) = k + 1 by omega, List.getElem?_cons_succ, List.getElem?_drop, Nat.add_comm 1 k]
        exact hx
    · have hD : C = P.2.2.1.drop 1 := by rw [hC]; rfl
      rw [hD]
      exact zrow0_ok (ρ := ρ2) g9 (fun q hq => p3 q (hR q hq))
  · rw [g3]
    exact zaE_app hE (zaE_cons (zaE_drop p4 1) s0 s1)
  · rw [g7] at hf
    exact absurd hf List.not_mem_nil
  · rw [g4]
    exact p6
/-- row 5 is one of any ints -/
def zis5 : Nat × AC → Bool
  | (c, .inr (.inl (t, n, p, rs, es))) => !(Nat.beq c 5) || (Nat.beq t 0 && (Nat.beq n 20 && (Nat.beq p 1 && (decide (rs = [(-2147483648, 2147483647)]) && decide (es = [])))))
  | (c, _) => !(Nat.beq c 5)
theorem zis5_all : zPM.2.2.1.all zis5 = true := by decide +kernel
theorem zis5_ok {q : Nat × AC} (h : zis5 q = true) (h5 : q.1 = 5) : q.2 = .inr (.inl (0, 20, 1, [(-2147483648, 2147483647)], [])) := by
  unfold zis5 at h
  split at h
  · cases h5
    simp only [Nat.beq_refl, Bool.not_true, Bool.false_or, Bool.and_eq_true, decide_eq_true_eq] at h
    obtain ⟨a1, a2, a3, a4, a5⟩ := h
    cases Nat.eq_of_beq_eq_true a1
    cases Nat.eq_of_beq_eq_true a2
    cases Nat.eq_of_beq_eq_true a3
    cases a4
    cases a5
    rfl
  · cases h5
    simp at h
/-- an end from the model's shape -/
theorem zMO_row5 {η : List Nat} {j iF : Nat} {ρ : List Int} {hp : List zhE} (h : zMO η j ρ hp) (h5 : η[5]? = some iF) (g : Nat → Int32) : zMO η j ρ (hp.set iF (.inl (0, 20, .inl g))) := by
  obtain ⟨h1, h2, p1, p2, p3, p4, p5, p6⟩ := id h
  have hlt := h2.2 5 iF h5
  refine ⟨h1, ⟨h2.1, fun i x hx => by rw [List.length_set]; exact h2.2 i x hx⟩, fun q hq => absurd hq List.not_mem_nil, p2, fun q hq => ?_, p4, p5, fun o ho => ?_⟩
  · obtain ⟨x, y, b1, b2, b3⟩ := p3 q hq
    by_cases e : iF = x
    · subst e
      have e5 : q.1 = 5 := h2.1 _ _ _ b1 h5
      rw [zis5_ok (List.all_eq_true.mp zis5_all q hq) e5]
      exact ⟨iF, _, b1, List.getElem?_set_self hlt, _, rfl, ⟨_, rfl⟩, rfl, by decide, fun k hk p hp2 => by
        rw [Nat.mod_one] at hp2
        cases hp2
        exact zb_rng _, fun e he => absurd he List.not_mem_nil⟩
    · exact ⟨x, y, b1, by rw [List.getElem?_set_ne e]; exact b2, b3⟩
  · obtain ⟨jo, o1, o2⟩ := p6 o ho
    refine ⟨jo, o1, ?_⟩
    have ho : o ∈ [0, 2000] := ho
    obtain ⟨a1, fs, vs, a0, a2, a3⟩ := zMO_obj h
    have hjo : jo = j := by
      rcases List.mem_cons.mp ho with rfl | ho
      · exact Option.some.inj (o1.symm.trans a1)
      · rw [List.mem_singleton.mp ho] at o1
        exact Option.some.inj (o1.symm.trans a1)
    subst hjo
    have keep : ∀ c a, c ≠ 5 → η[c]? = some a → (hp.set iF (.inl (0, 20, .inl g)))[a]? = hp[a]? := fun c a n1 hc => List.getElem?_set_ne (fun e => n1 (h2.1 c 5 a hc (by rw [← e]; exact h5)))
    have hj2 := keep 0 jo (by decide) a1
    refine zOP_dep (fun b _ => zofi_same hj2) (fun b hb => ?_) o2
    have arr : ∀ c b, c ≠ 5 → (zPM.2.2.1[c]?).isSome → ∀ a, η[c]? = some a → vs[b]? = some (.ref a) → zofa (hp.set iF (.inl (0, 20, .inl g))) jo b = zofa hp jo b := fun c b n1 _ a hc hv => zofa_same hj2 a2 hv (keep c a n1 hc)
    rcases List.mem_cons.mp ho with rfl | ho
    · have hb : b ∈ [24] := hb
      rw [List.mem_singleton.mp hb]
      obtain ⟨ih, fh, r1, r2, r3, r4⟩ := zMO_row h 7 24 (by rfl) (zfs0 (c := 0) (by rfl) (by rfl))
      exact arr 7 24 (by decide) rfl ih r1 (r4 _ a2)
    · rw [List.mem_singleton.mp ho] at hb
      have hb : b ∈ [30, 31, 32] := hb
      rcases List.mem_cons.mp hb with rfl | hb
      · obtain ⟨ih, fh, r1, r2, r3, r4⟩ := zMO_row h 13 30 (by rfl) (zfs0 (c := 0) (by rfl) (by rfl))
        exact arr 13 30 (by decide) rfl ih r1 (r4 _ a2)
      · rcases List.mem_cons.mp hb with rfl | hb
        · obtain ⟨ih, fh, r1, r2, r3, r4⟩ := zMO_row h 14 31 (by rfl) (zfs0 (c := 0) (by rfl) (by rfl))
          exact arr 14 31 (by decide) rfl ih r1 (r4 _ a2)
        · rw [List.mem_singleton.mp hb]
          obtain ⟨ih, fh, r1, r2, r3, r4⟩ := zMO_row h 15 32 (by rfl) (zfs0 (c := 0) (by rfl) (by rfl))
          exact arr 15 32 (by decide) rfl ih r1 (r4 _ a2)
theorem zRM_foot {η : List Nat} {j iL iF iW iH : Nat} {ρ : List Int} {ev : Int32} {lf ff wf hf : Nat → Int32} {hp : List zhE} (h : zRM η j iL iF iW iH ρ ev lf ff wf hf hp) (g : Nat → Int32) : zRM η j iL iF iW iH ρ ev lf g wf hf (hp.set iF (.inl (0, 20, .inl g))) := by
  obtain ⟨hM, a1, b1, c1, d1, e1, vs, r1, r2, r3, r4, r5, r6, r7, r8, r9, r10⟩ := id h
  have ne : ∀ c x, η[c]? = some x → c ≠ 5 → iF ≠ x := fun c x hc n e => n (hM.2.1.1 c 5 x hc (by rw [← e]; exact b1))
  exact ⟨zMO_row5 hM b1 g, a1, b1, c1, d1, e1, vs, by rw [List.getElem?_set_ne (ne 0 j (zMO_obj hM).1 (by decide))]; exact r1, r2, r3, r4, r5, r6, by rw [List.getElem?_set_ne (ne 4 iL a1 (by decide))]; exact r7, List.getElem?_set_self (hM.2.1.2 5 iF b1), by rw [List.getElem?_set_ne (ne 6 iW c1 (by decide))]; exact r9, by rw [List.getElem?_set_ne (ne 7 iH d1 (by decide))]; exact r10⟩
/-- what falls -/
def zsu (f : Nat → Int32) : Nat → Nat
  | 0 => 0
  | k + 1 => zsu f k + ((f k).toInt + 2147483648).toNat
theorem zsu_eq {f g : Nat → Int32} : ∀ {n : Nat}, (∀ k, k < n → f k = g k) → zsu f n = zsu g n
  | 0, _ => rfl
  | n + 1, h => by
    show zsu f n + _ = zsu g n + _
    rw [zsu_eq (fun k hk => h k (by omega)), h n (by omega)]
theorem zsu_lt {f : Nat → Int32} {o : Nat} {d : Int32} (hd : d.toInt < (f o).toInt) : ∀ {n : Nat}, o < n → zsu (va_up f o d) n < zsu f n
  | 0, h => absurd h (by omega)
  | n + 1, h => by
    show zsu _ n + _ < zsu f n + _
    by_cases e : o = n
    · subst e
      have e1 : va_up f o d o = d := by simp [va_up]
      rw [e1, zsu_eq (f := va_up f o d) (g := f) (fun k hk => by unfold va_up; rw [if_neg (by omega)])]
      have := zb_rng d
      omega
    · have e1 : va_up f o d n = f n := by unfold va_up; rw [if_neg (by omega)]
      have := zsu_lt (f := f) hd (n := n) (by omega)
      rw [e1]
      omega
def zclB : Bool := (List.range 512).all (fun n => (List.range 9).all (fun o => !(decide (zIs (Int32.ofInt (n : Int)) (Int32.ofInt (o : Int)) = 1)) || decide ((Int32.ofInt (n : Int) &&& ((Int32.ofInt 1 <<< (Int32.ofInt (o : Int) &&& 31)) ^^^ Int32.ofInt (-1))).toInt < (n : Int))))
theorem zclB_ok : zclB = true := by decide +kernel
theorem zclr {s : Int32} {o : Nat} (h0 : 0 ≤ s.toInt) (h1 : s.toInt ≤ 511) (ho : o < 9) (hb : zIs s (Int32.ofInt (o : Int)) = 1) : 0 ≤ (s &&& ((Int32.ofInt 1 <<< (Int32.ofInt (o : Int) &&& 31)) ^^^ Int32.ofInt (-1))).toInt ∧ (s &&& ((Int32.ofInt 1 <<< (Int32.ofInt (o : Int) &&& 31)) ^^^ Int32.ofInt (-1))).toInt ≤ 511 ∧ (s &&& ((Int32.ofInt 1 <<< (Int32.ofInt (o : Int) &&& 31)) ^^^ Int32.ofInt (-1))).toInt < s.toInt := by
  have h2 := zb_and0 (x := ((Int32.ofInt 1 <<< (Int32.ofInt (o : Int) &&& 31)) ^^^ Int32.ofInt (-1))) h0
  rw [zb_andC] at h2
  refine ⟨h2.1, by omega, ?_⟩
  obtain ⟨n, hn⟩ := Int.eq_ofNat_of_zero_le h0
  have e := zb_of hn
  have hc := List.all_eq_true.mp (List.all_eq_true.mp zclB_ok n (List.mem_range.mpr (by omega))) o (List.mem_range.mpr ho)
  rw [← e, hb] at hc
  rw [hn]
  simpa using hc
section ZPL
variable {lk : ZLP} {Lx : Nat} {xs : Nat → Int32} {Q : ZP} {η : List Nat} {j iL iF iW iH : Nat} {ev : Int32} {lf wf hf : Nat → Int32}
/-- the local variables at the outer loop's head -/
def zoL (j t : Nat) (s m : Int32) (L : zL) : Prop := L = [(3, .int m), (2, .int s), (0, .ref j), (1, .int (Int32.ofInt (t : Int)))] ∨ (m = Int32.ofInt 0 ∧ ∃ x y, L = [(3, .int m), (5, x), (4, y), (2, .int s), (0, .ref j), (1, .int (Int32.ofInt (t : Int)))]) ∨ (m = Int32.ofInt 1 ∧ ∃ x y, L = [(5, x), (3, .int m), (4, y), (2, .int s), (0, .ref j), (1, .int (Int32.ofInt (t : Int)))]) ∨ (m = Int32.ofInt 1 ∧ ∃ x y, L = [(2, .int s), (5, x), (3, .int m), (4, y), (0, .ref j), (1, .int (Int32.ofInt (t : Int)))])
set_option maxHeartbeats 4000000 in
theorem zpull_o (hE : zLE lk Lx xs) {t : Nat} {ρ0 : List Int} {hp0 : List zhE} (hend : ∀ (ρ : List Int) (hp : List zhE) (ff : Nat → Int32) (s : Int32), 0 ≤ s.toInt → s.toInt ≤ 511 → zRM η j iL iF iW iH ρ ev lf ff wf hf hp → (∀ i ∈ zKP, ρ[i]? = ρ0[i]?) → zFm η [0, 5, 18, 19, 20] hp0 hp → Q (some (.int s)) hp) : ∀ (n : Nat) (ρ : List Int) (hp : List zhE) (ff : Nat → Int32) (s m : Int32) (L : zL), zsu ff 9 + s.toInt.toNat < n → 0 ≤ s.toInt → s.toInt ≤ 511 → (m = Int32.ofInt 0 ∨ m = Int32.ofInt 1) → zoL j t s m L → zRM η j iL iF iW iH ρ ev lf ff wf hf hp → (∀ i ∈ zKP, ρ[i]? = ρ0[i]?) → zFm η [0, 5, 18, 19, 20] hp0 hp → zWP lk Lx xs 237 (13, L, [], hp, 0, 0) Q := by
  intro n
  induction n with
  | zero => exact fun ρ hp ff s m L h => absurd h (by omega)
  | succ n ih =>
    intro ρ hp ff s m L hn s0 s1 hm hL H hkp hF
    have hin : ∀ R, zRs j t s (Int32.ofInt 1) R → zWP lk Lx xs 237 (23, (5, .int (Int32.ofInt ((0 : Nat) : Int))) :: (4, .int (Int32.ofInt (-1))) :: R, [], hp, 0, 0) Q := by
      intro R hR
      refine zpull_in hE (ρ0 := ρ0) (hp0 := hp) ?_ 9 0 ρ hp (Int32.ofInt (-1)) R (by omega) hR H hkp zFm.refl (Or.inl rfl)
      intro ρ1 hp1 low H1 hkp1 hF1 hlow
      have hF2 : zFm η [0, 5, 18, 19, 20] hp0 hp1 := hF.trans (hF1.mono (by decide))
      rcases hlow with rfl | ⟨o, o1, rfl, o3, o4⟩
      · show zWP lk Lx xs 237 (92, [(3, .int (Int32.ofInt 0)), (5, .int (Int32.ofInt ((9 : Nat) : Int))), (4, .int (Int32.ofInt (-1))), (2, .int s), (0, .ref j), (1, .int (Int32.ofInt (t : Int)))], [], hp1, 0, 0) Q
        refine zs0 (by rfl) rfl rfl ?_
        refine zs_if (by rfl) (t := 99) (by rfl) (fun hb => absurd hb (by decide)) (fun _ => ?_)
        iterate 2 refine zs0 (by rfl) rfl rfl ?_
        refine zs_if (by rfl) (t := 137) (by rfl) (fun _ => ?_) (fun hb => absurd hb (by decide))
        refine zs0 (by rfl) rfl rfl ?_
        exact zs_retI (by rfl) (hend ρ1 hp1 ff s s0 s1 H1 hkp1 hF2)
      · have hb : zcb .lt (Int32.ofInt (o : Int)) 0 = false := by
          show decide (Int32.ofInt (o : Int) < 0) = false
          rw [decide_eq_false_iff_not, Int32.lt_iff_toInt_lt, zof_ix (by omega)]
          have : (0 : Int32).toInt = 0 := rfl
          omega
        rw [hb]
        show zWP lk Lx xs 237 (92, [(3, .int (Int32.ofInt 1)), (5, .int (Int32.ofInt ((9 : Nat) : Int))), (4, .int (Int32.ofInt (o : Int))), (2, .int s), (0, .ref j), (1, .int (Int32.ofInt (t : Int)))], [], hp1, 0, 0) Q
        refine zs0 (by rfl) rfl rfl ?_
        refine zs_if (by rfl) (t := 99) (by rfl) (fun _ => ?_) (fun hb => absurd hb (by decide))
        iterate 3 refine zs0 (by rfl) rfl rfl ?_
        obtain ⟨us, r1, r2, r3, r4, r5, r6, r7, r8, r9, r10⟩ := id H1.2.2.2.2.2.2
        refine zs_virt (vs := [.int (Int32.ofInt (o : Int)), .int s]) (by rfl) rfl r1 (by rfl) (Nat.le_of_ble_eq_true (by rfl)) (Nat.le_of_ble_eq_true (by rfl)) (by decide +kernel) (by decide +kernel) (zdown H1.2.2.2.2.2.2 o1) ?_
        rintro rv hq ⟨rfl, e⟩
        rw [e]
        iterate 2 refine zs0 (by rfl) rfl rfl ?_
        refine zs_if (by rfl) (t := 125) (by rfl) (fun _ => ?_) (fun _ => ?_)
        · refine zs0 (by rfl) rfl rfl ?_
          refine zs_get (by rfl) r1 r4 ?_
          iterate 2 refine zs0 (by rfl) rfl rfl ?_
          refine zs_astI (by rfl) r8 (zof_in (by omega) (by decide)) ?_
          rw [zof_cl (by omega)]
          refine zs0 (by rfl) rfl rfl ?_
          refine ih ρ1 _ (va_up ff o (zdownV lf ff wf hf ev o s)) s (Int32.ofInt 1) _ ?_ s0 s1 (Or.inr rfl) (Or.inr (Or.inr (Or.inl ⟨rfl, _, _, rfl⟩))) (zRM_foot H1 _) hkp1 (hF2.trans ⟨Nat.le_of_eq List.length_set.symm, fun i hi hw => List.getElem?_set_ne (fun e => hw 5 (by decide) (by rw [← e]; exact H1.2.2.1))⟩)
          have := zsu_lt (f := ff) (o := o) o4 (n := 9) o1
          omega
        · iterate 10 refine zs0 (by rfl) rfl rfl ?_
          have z := zclr s0 s1 o1 o3
          refine ih ρ1 _ ff _ (Int32.ofInt 1) _ ?_ z.1 z.2.1 (Or.inr rfl) (Or.inr (Or.inr (Or.inr ⟨rfl, _, _, rfl⟩))) H1 hkp1 hF2
          omega
    rcases hL with rfl | ⟨rfl, x, y, rfl⟩ | ⟨rfl, x, y, rfl⟩ | ⟨rfl, x, y, rfl⟩
    · rcases hm with rfl | rfl
      · refine zs0 (by rfl) rfl rfl ?_
        refine zs_if (by rfl) (t := 137) (by rfl) (fun _ => ?_) (fun hb => absurd hb (by decide))
        refine zs0 (by rfl) rfl rfl ?_
        exact zs_retI (by rfl) (hend ρ hp ff s s0 s1 H hkp hF)
      · refine zs0 (by rfl) rfl rfl ?_
        refine zs_if (by rfl) (t := 137) (by rfl) (fun hb => absurd hb (by decide)) (fun _ => ?_)
        iterate 4 refine zs0 (by rfl) rfl rfl ?_
        exact hin _ (Or.inl rfl)
    · refine zs0 (by rfl) rfl rfl ?_
      refine zs_if (by rfl) (t := 137) (by rfl) (fun _ => ?_) (fun hb => absurd hb (by decide))
      refine zs0 (by rfl) rfl rfl ?_
      exact zs_retI (by rfl) (hend ρ hp ff s s0 s1 H hkp hF)
    · refine zs0 (by rfl) rfl rfl ?_
      refine zs_if (by rfl) (t := 137) (by rfl) (fun hb => absurd hb (by decide)) (fun _ => ?_)
      iterate 4 refine zs0 (by rfl) rfl rfl ?_
      exact hin _ (Or.inl rfl)
    · refine zs0 (by rfl) rfl rfl ?_
      refine zs_if (by rfl) (t := 137) (by rfl) (fun hb => absurd hb (by decide)) (fun _ => ?_)
      iterate 4 refine zs0 (by rfl) rfl rfl ?_
      exact hin _ (Or.inr rfl)
end ZPL
/-- the ends that it has -/
def zu_237e : PT := (zu_237.2.2.2.2).headD zu_237.2.1
theorem zpulled {lk : ZLP} {Lx : Nat} {xs : Nat → Int32} (hE : zLE lk Lx xs) : zHolds lk Lx xs zu_237 := by
  intro η ρ hp av g1 g2 g3
  obtain ⟨j, b1, hM⟩ := zpreM_ok (P := zu_237.2.1) (n := 1) (by decide +kernel) rfl g1 g2 g3
  obtain ⟨-, p2, -, p4, -, -⟩ := g3
  match av, p2 with
  | [_, _], p2 =>
    obtain ⟨⟨i, i1, rfl⟩, ⟨t, rfl, t2⟩, -⟩ := p2
    have i1 : η[0]? = some i := i1
    cases b1.symm.trans i1
    obtain ⟨x, x1, x2, x3⟩ := zaE_get p4 (i := 0) (q := (0, 8)) rfl
    have ht := zxr_fun t2 (zxr_s x1)
    have x2 : 0 ≤ x := x2
    have x3 : x ≤ 8 := x3
    obtain ⟨tn, htn⟩ := Int.eq_ofNat_of_zero_le (show 0 ≤ t.toInt by omega)
    have et := zb_of htn
    subst et
    obtain ⟨iL, iF, iW, iH, ev, lf, ff, wf, hf, H⟩ := zRM_mk hM
    obtain ⟨th, q1, q2, q3, q4⟩ := zMO_int hM 41 24 (by rfl) (zfs0 (c := 0) (by rfl) (by rfl))
    obtain ⟨us, r1, -⟩ := id H.2.2.2.2.2.2
    refine zs0 (by rfl) rfl rfl ?_
    refine zs_get (by rfl) r1 (q4 us r1) ?_
    iterate 9 refine zs0 (by rfl) rfl rfl ?_
    have hz := zb_and0 (x := ((Int32.ofInt 1 <<< (Int32.ofInt (tn : Int) &&& 31)) ^^^ Int32.ofInt (-1))) q2
    rw [zb_andC] at hz
    refine zpull_o hE (t := tn) (ρ0 := ρ.drop 1) (hp0 := hp) ?_ _ (ρ.drop 1) hp ff _ (Int32.ofInt 1) _ (Nat.lt_succ_self _) hz.1 (by omega) (Or.inr rfl) (Or.inl rfl) H (fun _ _ => rfl) zFm.refl
    intro ρ2 hp2 ff2 s s0 s1 H2 k2 F2
    refine ⟨zu_237e, List.mem_cons_self, s.toInt :: ρ2.drop 1, zpostM_ok (E := zu_237.2.1.2.2.2.1) (n := 1) (lo := 0) (hi := 511) (by decide +kernel) ?_ p4 H2.1 ?_ s0 s1, F2.1, F2.2⟩
    · intro q hq
      have hq : q ∈ zu_237e.2.2.1.drop 1 := hq
      rcases List.mem_cons.mp hq with rfl | hq
      · exact List.mem_of_getElem? (i := 5) rfl
      rcases List.mem_cons.mp hq with rfl | hq
      · exact List.mem_of_getElem? (i := 18) rfl
      rcases List.mem_cons.mp hq with rfl | hq
      · exact List.mem_of_getElem? (i := 19) rfl
      rcases List.mem_cons.mp hq with rfl | hq
      · exact List.mem_of_getElem? (i := 20) rfl
      exact absurd hq List.not_mem_nil
    · rw [k2 0 (by decide), List.getElem?_drop]
  | [], p2 => exact p2.elim
  | [_], p2 => exact p2.2.elim
  | _ :: _ :: _ :: _, p2 => exact p2.2.2.elim
