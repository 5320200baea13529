/-! a method's contract, held against its runs: from the entry, from each place -/
def zmkP (C : PC) : AH → (AH → Bool) → Bool := match C with
  | [] => fun A k => k A
  | q :: C => fun A k => Nat.beq q.1 A.1 && zhpush A q.2 (fun A => zmkP C A k)
/-- the cells of a list -/
def zhgL (C : PC) (i : Nat) (c : AC) : Prop := (i, c) ∈ C
theorem zhpush_g {A : AH} {c : AC} {k : AH → Bool} (h : zhpush A c k = true) (hl : ∀ (j : Nat) (d : AC), zhg A.2 j = some d → j < A.1) : ∃ A', k A' = true ∧ A'.1 = A.1 + 1 ∧ ∀ (j : Nat) (d : AC), zhg A'.2 j = some d → (j = A.1 ∧ d = c) ∨ zhg A.2 j = some d := by
  -- by a heap of as many cells
  unfold zhpush at h
  split at h
  · rename_i h0
    have h0 := Nat.eq_of_beq_eq_true h0
    split at h
    · rename_i h1
      have h1 := Nat.eq_of_beq_eq_true h1
      have h2 := zla_ok h
      rw [zfn_eq] at h2
      refine ⟨_, h2, rfl, fun j d hj => ?_⟩
      simp only [zhg] at hj
      by_cases e : j / 16 < A.2.length
      · rw [List.getElem?_append_left e] at hj
        exact Or.inr hj
      · rw [List.getElem?_append_right (by omega)] at hj
        by_cases e2 : j / 16 = A.2.length
        · rw [e2, Nat.sub_self] at hj
          simp only [List.getElem?_cons_zero, Option.bind_some] at hj
          by_cases e3 : j % 16 = 0
          · rw [e3] at hj
            simp only [List.getElem?_cons_zero, Option.some.injEq] at hj
            exact Or.inl ⟨by omega, hj.symm⟩
          · have : ([c] : List AC)[j % 16]? = none := List.getElem?_eq_none (by simp; omega)
            rw [this] at hj; cases hj
        · have : ([[c]] : List (List AC))[j / 16 - A.2.length]? = none := List.getElem?_eq_none (by simp; omega)
          rw [this] at hj; cases hj
    · cases h
  · obtain ⟨ch, h1, h2⟩ := zlg_ok h
    split at h2
    · rename_i h3
      have h3 := Nat.eq_of_beq_eq_true h3
      have h4 := zla_ok h2
      obtain ⟨h5, h6⟩ := zls_ok h4
      rw [zfn_eq] at h6
      refine ⟨_, h6, rfl, fun j d hj => ?_⟩
      simp only [zhg] at hj
      by_cases e : A.1 / 16 = j / 16
      · rw [← e, List.getElem?_set_self h5] at hj
        simp only [Option.bind_some] at hj
        by_cases e2 : j % 16 < ch.length
        · rw [List.getElem?_append_left e2] at hj
          exact Or.inr (by simp only [zhg]; rw [← e, h1]; exact hj)
        · rw [List.getElem?_append_right (by omega)] at hj
          by_cases e3 : j % 16 = ch.length
          · rw [e3, Nat.sub_self] at hj
            simp only [List.getElem?_cons_zero, Option.some.injEq] at hj
            exact Or.inl ⟨by omega, hj.symm⟩
          · have : ([c] : List AC)[j % 16 - ch.length]? = none := List.getElem?_eq_none (by simp; omega)
            rw [this] at hj; cases hj
      · rw [List.getElem?_set_ne e] at hj
        exact Or.inr hj
    · cases h2
theorem zmkP_ok : ∀ {C : PC} {A : AH} {k : AH → Bool}, zmkP C A k = true → (∀ (j : Nat) (d : AC), zhg A.2 j = some d → j < A.1) → ∃ A', k A' = true ∧ A'.1 = A.1 + C.length ∧ ∀ (j : Nat) (d : AC), zhg A'.2 j = some d → (j, d) ∈ C ∨ zhg A.2 j = some d
  | [], A, k, h, _ => ⟨A, h, rfl, fun j d hj => Or.inr hj⟩
  | q :: C, A, k, h, hl => by
    have h : (Nat.beq q.1 A.1 && zhpush A q.2 (fun A => zmkP C A k)) = true := h
    rw [Bool.and_eq_true] at h
    have hq := Nat.eq_of_beq_eq_true h.1
    obtain ⟨A1, h1, h2, h3⟩ := zhpush_g h.2 hl
    obtain ⟨A2, h4, h5, h6⟩ := zmkP_ok h1 (fun j d hj => by
      rcases h3 j d hj with ⟨e, -⟩ | e
      · omega
      · have := hl j d e; omega)
    refine ⟨A2, h4, by rw [h5, h2, List.length_cons]; omega, fun j d hj => ?_⟩
    rcases h6 j d hj with e | e
    · exact Or.inl (List.mem_cons_of_mem _ e)
    · rcases h3 j d e with ⟨e1, e2⟩ | e
      · refine Or.inl ?_
        rw [e1, e2, ← hq]
        exact List.mem_cons_self
      · exact Or.inr e
/-- cells put in place of others -/
def zinC : PC → AH → (AH → Bool) → Bool
  | [], A, k => k A
  | q :: C, A, k => zhset A q.1 q.2 (fun A => zinC C A k)
theorem zinC_ok : ∀ {C : PC} {A : AH} {k : AH → Bool}, zinC C A k = true → ∃ A', k A' = true ∧ A'.1 = A.1 ∧ ∀ (j : Nat) (d : AC), zhg A'.2 j = some d → (j, d) ∈ C ∨ (zhg A.2 j = some d ∧ ∀ q ∈ C, q.1 ≠ j)
  | [], A, k, h => ⟨A, h, rfl, fun j d hj => Or.inr ⟨hj, fun q hq => absurd hq List.not_mem_nil⟩⟩
  | q :: C, A, k, h => by
    unfold zinC at h
    obtain ⟨ch, e1, e2⟩ := zlg_ok h
    obtain ⟨e3, e4⟩ := zls_ok e2
    obtain ⟨e5, e6⟩ := zls_ok e4
    obtain ⟨A', h1, h2, h3⟩ := zinC_ok e6
    refine ⟨A', h1, h2, fun j d hj => ?_⟩
    rcases h3 j d hj with e | ⟨e, e7⟩
    · exact Or.inl (List.mem_cons_of_mem _ e)
    · rcases zhg_set e1 e3 e with ⟨e8, e9⟩ | ⟨e8, e9⟩
      · refine Or.inl ?_
        rw [← e8, e9]
        exact List.mem_cons_self
      · refine Or.inr ⟨e9, fun r hr => ?_⟩
        rcases List.mem_cons.mp hr with rfl | hr
        · exact e8
        · exact e7 r hr
/-- 0, 1, .. as symbols, as cells -/
def zidS : Nat → (List LX → Bool) → Bool
  | 0, k => k []
  | n + 1, k => zidS n (fun θ => zla θ (0, [(n, 1)]) k)
def zidC : Nat → (List Nat → Bool) → Bool
  | 0, k => k []
  | n + 1, k => zidC n (fun μ => zla μ n k)
theorem zidS_ok : ∀ {n : Nat} {k : List LX → Bool}, zidS n k = true → ∃ θ, k θ = true ∧ θ.length = n ∧ ∀ (i : Nat) (e : LX), θ[i]? = some e → e = (0, [(i, 1)])
  | 0, k, h => ⟨[], h, rfl, fun i e he => by simp at he⟩
  | n + 1, k, h => by
    unfold zidS at h
    obtain ⟨θ, h1, h2, h3⟩ := zidS_ok h
    refine ⟨_, zla_ok h1, by simp [h2], fun i e he => ?_⟩
    by_cases q : i < θ.length
    · rw [List.getElem?_append_left q] at he
      exact h3 i e he
    · rw [List.getElem?_append_right (by omega)] at he
      have h4 := (List.getElem?_eq_some_iff.mp he).1
      simp at h4
      rw [show i - θ.length = 0 by omega] at he
      cases he
      rw [show i = n by omega]
theorem zidC_ok : ∀ {n : Nat} {k : List Nat → Bool}, zidC n k = true → ∃ μ, k μ = true ∧ μ.length = n ∧ ∀ (i m : Nat), μ[i]? = some m → m = i
  | 0, k, h => ⟨[], h, rfl, fun i e he => by simp at he⟩
  | n + 1, k, h => by
    unfold zidC at h
    obtain ⟨θ, h1, h2, h3⟩ := zidC_ok h
    refine ⟨_, zla_ok h1, by simp [h2], fun i e he => ?_⟩
    by_cases q : i < θ.length
    · rw [List.getElem?_append_left q] at he
      exact h3 i e he
    · rw [List.getElem?_append_right (by omega)] at he
      have h4 := (List.getElem?_eq_some_iff.mp he).1
      simp at h4
      rw [show i - θ.length = 0 by omega] at he
      cases he
      omega
/-- one of the ends -/
def zends (θ : List LX) (μ : List Nat) (r : List AV) (h : AH) (G : AG) : List PT → Bool
  | [] => false
  | P :: Ps => zmt P [] r h G θ μ (fun _ μ2 => Nat.beq μ2.length μ.length) || zends θ μ r h G Ps
def zchN (C : CT) (nds : List ND) (cts : List CT) (θ : List LX) (μ : List Nat) (A0 : AH) (n : Nat) : List ND → Bool
  | [] => true
  | q :: N => zcov q.2.1.2.2.1 C.2.2.2.1 && (zinC q.2.1.2.2.1 A0 (fun A => zfn q.2.1.2.2.2.1.length (fun m => zrun (C.2.2.2.1, C.2.2.1, false, false, nds, cts, θ, μ, some q.2.2) n true true C.1 (zrw C.1).1 (zrw C.1).2.1 (fun r h G => zends θ μ r h G C.2.2.2.2) (zrw C.1).1 q.1 q.2.1.1 q.2.1.2.1 A (m, q.2.1.2.2.2.1, q.2.1.2.2.2.2.1, [], q.2.1.2.2.2.2.2) 0 0)) && zchN C nds cts θ μ A0 n N)
def zchE (C : CT) (nds : List ND) (cts : List CT) (n : Nat) (k : List LX → List Nat → AH → Bool) : Bool :=
  Nat.ble (C.1 + 1) 276 && zidS C.2.1.2.2.2.1.length (fun θ => zidC C.2.2.1 (fun μ => zmkP C.2.1.2.2.1 (0, []) (fun A0 => Nat.beq A0.1 C.2.2.1 && k θ μ A0)))
/-- from the entry -/
def zchB (C : CT) (nds : List ND) (cts : List CT) (n : Nat) : Bool := zchE C nds cts n (fun θ μ A0 => zargs 0 C.2.1.2.1 (fun A => zfn C.2.1.2.2.2.1.length (fun m => zrun (C.2.2.2.1, C.2.2.1, false, false, nds, cts, θ, μ, none) n false true C.1 (zrw C.1).1 (zrw C.1).2.1 (fun r h G => zends θ μ r h G C.2.2.2.2) (zrw C.1).1 0 A [] A0 (m, C.2.1.2.2.2.1, C.2.1.2.2.2.2.1, [], C.2.1.2.2.2.2.2) 0 0)))
/-- from the places, n of them from the i-th on -/
def zchP (C : CT) (nds : List ND) (cts : List CT) (n : Nat) (N : List ND) : Bool := zchE C nds cts n (fun θ μ A0 => zchN C nds cts θ μ A0 n N)
section ZUN
variable {lk : ZLP} {Lx : Nat} {xs : Nat → Int32}
theorem zends_ok {η2 η : List Nat} {ρe ρ : List Int} {hp' : List zhE} {θ : List LX} {μ : List Nat} {r : List AV} {h : AH} {G : AG} {rv : Option Value} (hθ : zth ρ θ ρe) (hμ : zmu η2 μ η) (hap : zap μ) (hr : zaS η2 ρ r rv.toList) (hH : zaH η2 ρ h hp') (hG : zaG ρ G) (hO : zaO η2 G.2.2.2.2 hp') : ∀ {Ps : List PT}, zends θ μ r h G Ps = true → ∃ P ∈ Ps, ∃ l, zptS η (ρe ++ l) P [] rv.toList hp'
  | [], hz => by simp [zends] at hz
  | P :: Ps, hz => by
    simp only [zends, Bool.or_eq_true] at hz
    rcases hz with hz | hz
    · obtain ⟨θ2, μ2, l, m, z1, z2, z3, z4, z5⟩ := zmt_ok (L := []) hθ hμ hap hz (fun q hq => absurd hq List.not_mem_nil) hr hH hG hO
      have z1 := Nat.eq_of_beq_eq_true z1
      have hm : m = [] := by
        have := z3.1
        rw [z1, hμ.1, List.length_append] at this
        exact List.length_eq_zero_iff.mp (by omega)
      subst hm
      rw [List.append_nil] at z5
      exact ⟨P, List.mem_cons_self, l, z5⟩
    · obtain ⟨P', h1, h2⟩ := zends_ok hθ hμ hap hr hH hG hO hz
      exact ⟨P', List.mem_cons_of_mem _ h1, h2⟩
theorem zchN_in {C : CT} {nds : List ND} {cts : List CT} {θ : List LX} {μ : List Nat} {A0 : AH} {n : Nat} : ∀ {N : List ND}, zchN C nds cts θ μ A0 n N = true → ∀ q ∈ N, zcov q.2.1.2.2.1 C.2.2.2.1 = true ∧ zinC q.2.1.2.2.1 A0 (fun A => zfn q.2.1.2.2.2.1.length (fun m => zrun (C.2.2.2.1, C.2.2.1, false, false, nds, cts, θ, μ, some q.2.2) n true true C.1 (zrw C.1).1 (zrw C.1).2.1 (fun r h G => zends θ μ r h G C.2.2.2.2) (zrw C.1).1 q.1 q.2.1.1 q.2.1.2.1 A (m, q.2.1.2.2.2.1, q.2.1.2.2.2.2.1, [], q.2.1.2.2.2.2.2) 0 0)) = true
  | [], _, q, hq => absurd hq List.not_mem_nil
  | r :: N, hz, q, hq => by
    simp only [zchN, Bool.and_eq_true] at hz
    rcases List.mem_cons.mp hq with rfl | hq
    · exact ⟨hz.1, hz.2.1⟩
    · exact zchN_in hz.2.2 q hq
theorem zunit_ok (hnw : znewOK) {C : CT} {nds : List ND} {cts : List CT} {n : Nat} (hCs : ∀ D ∈ cts, zHolds lk Lx xs D) (hB : zchB C nds cts n = true) (hP : ∀ q ∈ nds, ∃ N : List ND, q ∈ N ∧ zchP C nds cts n N = true) : zHolds lk Lx xs C := by
  intro η ρ hp av hlen hinj hpt
  obtain ⟨p1, p2, p3, p4, p5, p6⟩ := id hpt
  -- the common head
  have head : ∀ {k : List LX → List Nat → AH → Bool}, zchE C nds cts n k = true → C.1 < 276 ∧ ∃ θ μ A0, k θ μ A0 = true ∧ (∀ (i : Nat) (e : LX), θ[i]? = some e → e = (0, [(i, 1)])) ∧ θ.length = ρ.length ∧ (∀ (i m : Nat), μ[i]? = some m → m = i) ∧ μ.length = η.length ∧ zaH η ρ A0 hp ∧ ∀ (j : Nat) (d : AC), zhg A0.2 j = some d → (j, d) ∈ C.2.1.2.2.1 := by
    intro k h
    unfold zchE at h
    rw [Bool.and_eq_true] at h
    obtain ⟨θ, h1, h2, h3⟩ := zidS_ok h.2
    obtain ⟨μ, h4, h5, h6⟩ := zidC_ok h1
    obtain ⟨A0, h7, h8, h9⟩ := zmkP_ok h4 (fun j d hj => by simp [zhg] at hj)
    rw [Bool.and_eq_true] at h7
    have h10 := Nat.eq_of_beq_eq_true h7.1
    have h11 : ∀ (j : Nat) (d : AC), zhg A0.2 j = some d → (j, d) ∈ C.2.1.2.2.1 := fun j d hj => by
      rcases h9 j d hj with e | e
      · exact e
      · simp [zhg] at e
    refine ⟨Nat.le_of_ble_eq_true h.1, θ, μ, A0, h7.2, h3, by rw [h2, p4.1], h6, by rw [h5, hlen], ⟨by rw [h10, hlen], fun j d hj => ?_, hinj.1, hinj.2⟩, h11⟩
    obtain ⟨x, y, g1, g2, g3⟩ := p3 _ (h11 j d hj)
    exact ⟨x, y, g1, g2, g3⟩
  have hfm0 : zfm (η, η) hp C.2.2.2.1 η hp := ⟨Nat.le_refl _, fun i x hi hx => absurd (List.getElem?_eq_some_iff.mp hx).1 (by show ¬ i < η.length; have : η.length ≤ i := hi; omega), fun i _ _ => rfl, [], by simp⟩
  -- what is shown at an end
  have hend : ∀ {θ : List LX} {μ : List Nat}, (∀ (i : Nat) (e : LX), θ[i]? = some e → e = (0, [(i, 1)])) → θ.length = ρ.length → (∀ (i m : Nat), μ[i]? = some m → m = i) → μ.length = η.length → ∀ (ρ1 : List Int), (∃ l, ρ1 = ρ ++ l) → zQk η ρ hp C.2.2.2.1 (fun r h G => zends θ μ r h G C.2.2.2.2) (zPo C η ρ hp) η ρ1 := by
    intro θ μ t1 t2 t3 t4 ρ1 hl1 r h G hk η2 ρ2 rv hp2 hS hr
    obtain ⟨-, ⟨l, s2⟩, s3, s4, s5, s6⟩ := hS
    obtain ⟨l1, hl1⟩ := hl1
    obtain ⟨m, s1⟩ := s6.2.2.2
    have s1 : η2 = η ++ m := s1
    subst s1
    have hU : zself (C.2.2.2.1, C.2.2.1, false, false, nds, cts, θ, μ, none) η ρ := ⟨t1, t2, t3, t4⟩
    have ht : zth ρ2 θ ρ := by rw [s2, hl1, List.append_assoc]; exact zself_th hU
    obtain ⟨P, g1, l2, g2⟩ := zends_ok ht (zself_mu hU) (zself_ap hU) hr s4 s3 s5 hk
    exact ⟨P, g1, l2, g2, s6.1, s6.2.2.1⟩
  have hPnew : C.1 < 276 → ∀ e ∈ (zrw C.1).1, ∀ x, e.2.1 = .new x → ∃ q, zcl[e.2.2.1]? = some q ∧ q.2.2 = e.2.2.2.1 := fun hk => hnw C.1 (by omega)
  have hcs0 : zcs false C.1 0 0 0 0 := ⟨rfl, rfl, Nat.zero_le _, Nat.zero_le _⟩
  -- at the places, by the rank
  have hnode : ∀ (M : Nat), ∀ q ∈ nds, ∀ (η' : List Nat) (ρ' : List Int) (L : zL) (st : List Value) (hp' : List zhE) (r : Int), zNdS false η ρ hp C.2.2.2.1 q.2.1 η' ρ' L st hp' → zxr ρ' q.2.2 r → 0 ≤ r → r < (M : Int) → zWP lk Lx xs C.1 (q.1, L, st, hp', 0, 0) (zPo C η ρ hp) := by
    intro M
    induction M with
    | zero => intro q _ η' ρ' L st hp' r _ _ h0 h1; omega
    | succ M ihM =>
      intro q hq η' ρ' L st hp' r hN hr h0 h1
      obtain ⟨N, hqN, hz⟩ := hP q hq
      obtain ⟨hk, θ, μ, A0, g1, g2, g3, g4, g5, g6, g7⟩ := head hz
      obtain ⟨g8, g9⟩ := zchN_in g1 q hqN
      obtain ⟨A1, k1, k2, k3⟩ := zinC_ok g9
      rw [zfn_eq] at k1
      obtain ⟨⟨m, rfl, hm⟩, ⟨l, rfl⟩, hpq, hinj2, hfm2⟩ := hN
      have hm := hm rfl
      subst hm
      rw [List.append_nil] at *
      obtain ⟨w1, w2, w3, w4, w5, w6⟩ := hpq
      have hU : zself (C.2.2.2.1, C.2.2.1, false, false, nds, cts, θ, μ, some q.2.2) η ρ := ⟨g2, g3, g4, g5⟩
      have hH : zaH η (ρ ++ l) A1 hp' := by
        refine ⟨by rw [k2]; exact g6.1, fun j d hj => ?_, hinj2.1, hinj2.2⟩
        rcases k3 j d hj with e | ⟨e, e2⟩
        · exact w3 _ e
        · obtain ⟨x, y, a1, a2, a3⟩ := g6.2.1 j d e
          refine ⟨x, y, a1, ?_, zac_mono1 a3⟩
          rw [← a2]
          refine hfm2.2.2.1 x (hinj.2 j x a1) (fun w hw ew => ?_)
          have ej := hinj.1 w j x ew a1
          obtain ⟨q0, q1, q2⟩ := zcov_ok g8 w hw
          exact e2 q0 q1 (by rw [q2, ej])
      have hrun := zrun_ok (lk := lk) (Lx := Lx) (xs := xs) (η0 := η) (ρe := ρ) (ρs := ρ ++ l) (hp0 := hp) (Rk := fun x => x < r) (U := (C.2.2.2.1, C.2.2.1, false, false, nds, cts, θ, μ, some q.2.2)) hnw hCs hlen.symm hU ⟨l, rfl⟩ (fun h => by cases h) ⟨r, hr, fun x _ hx => hx⟩ n
      refine hrun _ _ _ _ _ _ _ _ _ _ _ _ _ _ k1 (by omega) rfl rfl (hPnew hk) (fun x hx => hx) 0 0 _ hcs0 (fun _ => ?_) η (ρ ++ l) L st hp' ⟨[], by simp⟩ ⟨⟨[], by simp⟩, ⟨[], by simp⟩, ⟨w4.1, w4, w5, fun f hf => absurd hf List.not_mem_nil⟩, hH, w6, hfm2⟩ w1 w2 (hend g2 g3 g4 g5 (ρ ++ l) ⟨l, rfl⟩)
      intro q2 hq2 η2 ρ2 L2 st2 hp2 r2 a1 a2 a3 a4
      exact ihM q2 hq2 η2 ρ2 L2 st2 hp2 r2 a1 a2 a3 (by omega)
  obtain ⟨hk, θ, μ, A0, g1, g2, g3, g4, g5, g6, g7⟩ := head hB
  obtain ⟨A, k1, k2, -⟩ := zargs_ok g1 p2
  rw [zfn_eq] at k1
  have hU : zself (C.2.2.2.1, C.2.2.1, false, false, nds, cts, θ, μ, none) η ρ := ⟨g2, g3, g4, g5⟩
  have hrun := zrun_ok (lk := lk) (Lx := Lx) (xs := xs) (η0 := η) (ρe := ρ) (ρs := ρ) (hp0 := hp) (Rk := fun _ => True) (U := (C.2.2.2.1, C.2.2.1, false, false, nds, cts, θ, μ, none)) hnw hCs hlen.symm hU ⟨[], by simp⟩ (fun h => by cases h) (fun x _ => trivial) n
  refine hrun _ _ _ _ _ _ _ _ _ _ _ _ _ _ k1 (by omega) rfl rfl (hPnew hk) (fun x hx => hx) 0 0 _ hcs0 (fun _ => ?_) η ρ _ [] hp ⟨[], by simp⟩ ⟨⟨[], by simp⟩, ⟨[], by simp⟩, ⟨p4.1, p4, p5, fun f hf => absurd hf List.not_mem_nil⟩, g6, p6, hfm0⟩ k2 trivial (hend g2 g3 g4 g5 ρ ⟨[], by simp⟩)
  intro q2 hq2 η2 ρ2 L2 st2 hp2 r2 a1 a2 a3 a4
  exact hnode (r2.toNat + 1) q2 hq2 η2 ρ2 L2 st2 hp2 r2 a1 a2 a3 (by omega)
end ZUN
