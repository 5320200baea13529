/-! the law's runs with what they leave alone; a call whose answer is known besides -/
section ZLP
variable {lk : ZLP} {Lx : Nat} {xs : Nat → Int32} {η0 ηs : List Nat} {ρe ρs : List Int} {hp0 : List zhE} {U : ZU}
theorem zgoN_ex {Rk : Int → Prop} {pc : Nat} {A : AL} {S : List AV} {h : AH} {G : AG} {η : List Nat} {ρ : List Int} {L : zL} {st : List Value} {hp : List zhE} (hU : zself U η0 ρe) (hρ : ∃ l, ρs = ρe ++ l)
    (hRk : match U.2.2.2.2.2.2.2.2 with | none => ∀ r : Int, 0 ≤ r → Rk r | some e => ∃ M, zxr ρs e M ∧ ∀ r : Int, 0 ≤ r → r < M → Rk r)
    (hS : zSt (η0, ηs) ρs hp0 U.1 h G η ρ hp) (hL : zaL η ρ A L) (hs : zaS η ρ S st) : ∀ {N : List ND}, zgoN U pc A S h G N = true → ∃ q ∈ N, q.1 = pc ∧ ∃ η' ρ' z, zNdS U.2.2.2.1 η0 ρe hp0 U.1 q.2.1 η' ρ' L st hp ∧ zxr ρ' q.2.2 z ∧ 0 ≤ z ∧ Rk z
  | [], hz => by simp [zgoN] at hz
  | q :: N, hz => by
    simp only [zgoN, Bool.or_eq_true] at hz
    rcases hz with hz | hz
    · split at hz
      · rename_i hc
        have hc := Nat.eq_of_beq_eq_true hc
        obtain ⟨-, ⟨l0, rfl⟩, q3, q4, q5, q6⟩ := id hS
        obtain ⟨m0, rfl⟩ := q6.2.2.2
        obtain ⟨l1, rfl⟩ := hρ
        have ht : zth (ρe ++ l1 ++ l0) U.2.2.2.2.2.2.1 ρe := by rw [List.append_assoc]; exact zself_th hU
        obtain ⟨θ, μ, l, m, z1, z2, z3, z4, z5⟩ := zmt_ok ht (zself_mu hU) (zself_ap hU) hz hL hs q4 q3 q5
        rw [Bool.and_eq_true, Bool.or_eq_true] at z1
        obtain ⟨r', z, r1, r2, r3⟩ := zsb_ok z2 z1.2
        rw [Bool.and_eq_true] at r1
        have hz0 := zprv_ok q3.2.1 r1.1 q3.2.2.1 r2
        have hinj : zinj (η0 ++ m) hp := by
          refine ⟨fun i j x hi hj => ?_, fun i x hi => ?_⟩
          · have hi2 : i < μ.length := by rw [z3.1]; exact (List.getElem?_eq_some_iff.mp hi).1
            have hj2 : j < μ.length := by rw [z3.1]; exact (List.getElem?_eq_some_iff.mp hj).1
            obtain ⟨x1, a1, a2⟩ := z3.2 i _ (List.getElem?_eq_getElem hi2)
            obtain ⟨x2, b1, b2⟩ := z3.2 j _ (List.getElem?_eq_getElem hj2)
            cases hi.symm.trans a1
            cases hj.symm.trans b1
            have e := q4.2.2.1 _ _ _ a2 b2
            exact z4 i j _ (List.getElem?_eq_getElem hi2) (by rw [List.getElem?_eq_getElem hj2, e])
          · have hi2 : i < μ.length := by rw [z3.1]; exact (List.getElem?_eq_some_iff.mp hi).1
            obtain ⟨x1, a1, a2⟩ := z3.2 i _ (List.getElem?_eq_getElem hi2)
            cases hi.symm.trans a1
            exact q4.2.2.2 _ _ a2
        have hfm : zfm (η0, η0) hp0 U.1 (η0 ++ m) hp := by
          refine ⟨q6.1, fun i x hi hx => ?_, q6.2.2.1, m, rfl⟩
          have hi : η0.length ≤ i := hi
          have hi2 : i < μ.length := by rw [z3.1]; exact (List.getElem?_eq_some_iff.mp hx).1
          obtain ⟨x1, a1, a2⟩ := z3.2 i _ (List.getElem?_eq_getElem hi2)
          cases hx.symm.trans a1
          by_cases hlt : μ[i] < η0.length
          · have h9 : (η0 ++ m)[μ[i]]? = some x := by
              rw [List.getElem?_append_left hlt] at a2 ⊢
              exact a2
            have := hinj.1 i _ x hx h9
            omega
          · exact q6.2.1 _ x (show η0.length ≤ _ by omega) a2
        refine ⟨q, List.mem_cons_self, hc, η0 ++ m, ρe ++ l, z, ⟨⟨m, rfl, fun hal => ?_⟩, ⟨l, rfl⟩, z5, hinj, hfm⟩, r3, hz0, ?_⟩
        · rcases z1.1 with q | q
          · rw [hal] at q; cases q
          · have h9 := Nat.eq_of_beq_eq_true q
            rw [z3.1, hU.2.2.2, List.length_append] at h9
            exact List.length_eq_zero_iff.mp (by omega)
        split at hRk
        · exact hRk z hz0
        · rename_i e he
          rw [he] at r1
          obtain ⟨M, m1, m2⟩ := hRk
          refine m2 z hz0 ?_
          obtain ⟨d, d1, d2⟩ := zxsub_ok r1.2 (zxr_mono m1) r2
          obtain ⟨d', d3, d4⟩ := zxshi_ok d1 d2
          have := zprv_ok q3.2.1 d3 q3.2.2.1 d4
          omega
      · cases hz
    · obtain ⟨q', h1, h2⟩ := zgoN_ex hU hρ hRk hS hL hs hz
      exact ⟨q', List.mem_cons_of_mem _ h1, h2⟩
end ZLP
/-- a run of the law that writes these cells alone -/
def zlcW (W : List Nat) (nds : List ND) (cts : List CT) (j0 : Nat) (q : ND) (n : Nat) : Bool :=
  zidS j0 (fun θ => zidC 208 (fun μ => zmkP q.2.1.2.2.1 (0, []) (fun A => Nat.beq A.1 208 && zfn q.2.1.2.2.2.1.length (fun m => zrun (W, 208, true, false, nds, cts, θ, μ, some q.2.2) n true true 276 (zrw 276).1 (zrw 276).2.1 (fun _ _ _ => false) (zrw 276).1 q.1 q.2.1.1 q.2.1.2.1 A (m, q.2.1.2.2.2.1, q.2.1.2.2.2.2.1, [], q.2.1.2.2.2.2.2) 0 0))))
/-- a call of the law by its contract, and the places behind it -/
def zlcC (W : List Nat) (nds : List ND) (C : CT) (j0 pcn : Nat) (q : ND) : Bool :=
  zidS j0 (fun θ => zidC 208 (fun μ => zmkP q.2.1.2.2.1 (0, []) (fun A => Nat.beq A.1 208 && zfn q.2.1.2.2.2.1.length (fun m => zct W 208 C q.2.1.2.1.reverse A (m, q.2.1.2.2.2.1, q.2.1.2.2.2.2.1, [], q.2.1.2.2.2.2.2) (fun r h G => zgoN (W, 208, true, false, nds, [], θ, μ, some q.2.2) pcn q.2.1.1 r h G nds)))))
section ZLC2
variable {lk : ZLP} {Lx : Nat} {xs : Nat → Int32}
theorem zaS_rev {η : List Nat} {ρ : List Int} : ∀ {as : List AV} {vs : List Value}, zaS η ρ as vs → zaS η ρ as.reverse vs.reverse
  | [], [], _ => trivial
  | [], _ :: _, h => h.elim
  | _ :: _, [], h => h.elim
  | a :: as, v :: vs, h => by
    rw [List.reverse_cons, List.reverse_cons]
    exact zAll_app (zaS_rev h.2) ⟨h.1, trivial⟩
theorem zlcW_ok {W : List Nat} {nds : List ND} {cts : List CT} {j0 : Nat} {q : ND} {n : Nat} (hz : zlcW W nds cts j0 q n = true) (hCs : ∀ C ∈ cts, zHolds lk Lx xs C) {η : List Nat} {ρ : List Int} {L : zL} {st : List Value} {hp : List zhE} {ca sa : Nat} {Q : ZP} {M : Int} (hη : η.length = 208) (hinj : zinj η hp) (hpt : zptS η ρ q.2.1 L st hp) (h0 : ρ[0]? = some (Lx : Int)) (hLx : Lx < 2 ^ 31) (hj : j0 ≤ ρ.length) (hM : zxr ρ q.2.2 M) (hca : ca ≤ (zrm 276).cells) (hsa : sa ≤ (zrm 276).slots)
    (hN : ∀ q' ∈ nds, ∀ (ρ' : List Int) (L' : zL) (st' : List Value) (hp' : List zhE) (r : Int), (∃ l, ρ' = ρ.take j0 ++ l) → zptS η ρ' q'.2.1 L' st' hp' → zinj η hp' → zxr ρ' q'.2.2 r → 0 ≤ r → r < M → (∀ i, i < hp.length → (∀ w ∈ W, η[w]? ≠ some i) → hp'[i]? = hp[i]?) → zWP lk Lx xs 276 (q'.1, L', st', hp', ca, sa) Q) : zWP lk Lx xs 276 (q.1, L, st, hp, ca, sa) Q := by
  obtain ⟨p1, p2, p3, p4, p5, p6⟩ := id hpt
  unfold zlcW at hz
  obtain ⟨θ, t1, t2, t3⟩ := zidS_ok hz
  obtain ⟨μ, u1, u2, u3⟩ := zidC_ok t1
  obtain ⟨A, a1, a2, a3⟩ := zmkP_ok u1 (fun j d hj => by simp [zhg] at hj)
  rw [Bool.and_eq_true, zfn_eq] at a1
  have a4 := Nat.eq_of_beq_eq_true a1.1
  have hU : zself (W, 208, true, false, nds, cts, θ, μ, some q.2.2) η (ρ.take j0) := ⟨t3, by rw [List.length_take]; show θ.length = _; omega, u3, by show μ.length = _; omega⟩
  have hH : zaH η ρ A hp := by
    refine ⟨by rw [a4, hη], fun j d hj => ?_, hinj.1, hinj.2⟩
    rcases a3 j d hj with e | e
    · obtain ⟨x, y, g1, g2, g3⟩ := p3 _ e
      exact ⟨x, y, g1, g2, g3⟩
    · simp [zhg] at e
  have hrun := zrun_ok (lk := lk) (Lx := Lx) (xs := xs) (η0 := η) (ρe := ρ.take j0) (ρs := ρ) (hp0 := hp) (Rk := fun x => x < M) (U := (W, 208, true, false, nds, cts, θ, μ, some q.2.2)) znewOK_ok hCs hη.symm hU ⟨ρ.drop j0, (List.take_append_drop ..).symm⟩ (fun _ => ⟨h0, hLx⟩) ⟨M, hM, fun x _ hx => hx⟩ n
  refine hrun _ _ _ _ _ _ _ _ _ _ _ _ _ _ a1.2 (by omega) rfl rfl (znewOK_ok 276 (by omega)) (fun x hx => hx) ca sa Q ⟨rfl, rfl, hca, hsa⟩ (fun _ => ?_) η ρ L st hp ⟨[], by simp⟩ ⟨⟨[], by simp⟩, ⟨[], by simp⟩, ⟨p4.1, p4, p5, fun f hf => absurd hf List.not_mem_nil⟩, hH, p6, Nat.le_refl _, fun i x hi hx => absurd (List.getElem?_eq_some_iff.mp hx).1 (by show ¬ i < η.length; have : η.length ≤ i := hi; omega), fun i _ _ => rfl, [], by simp⟩ p1 p2 (fun r h G hk => by cases hk)
  intro q2 hq2 η2 ρ2 L2 st2 hp2 r2 b1 b2 b3 b4
  obtain ⟨⟨m, rfl, hm⟩, hl, hq, hi, hf⟩ := b1
  have hm := hm rfl
  subst hm
  rw [List.append_nil] at hq hi
  exact hN q2 hq2 ρ2 L2 st2 hp2 r2 hl hq hi b2 b3 b4 hf.2.2.1
theorem zlcC_ok {W : List Nat} {nds : List ND} {C : CT} {j0 pcn : Nat} {q : ND} (hz : zlcC W nds C j0 pcn q = true) (hC : zHolds lk Lx xs C) {η : List Nat} {ρ : List Int} {L : zL} {st : List Value} {hp : List zhE} {M : Int} (hη : η.length = 208) (hinj : zinj η hp) (hpt : zptS η ρ q.2.1 L st hp) (hj : j0 ≤ ρ.length) (hM : zxr ρ q.2.2 M) : zWP lk Lx xs C.1 (0, lv_args 0 st.reverse, [], hp, 0, 0) (fun rv hp' => ∃ q' ∈ nds, q'.1 = pcn ∧ ∃ (ρ' : List Int) (r : Int), (∃ l, ρ' = ρ.take j0 ++ l) ∧ zptS η ρ' q'.2.1 L rv.toList hp' ∧ zinj η hp' ∧ zxr ρ' q'.2.2 r ∧ 0 ≤ r ∧ r < M ∧ hp.length ≤ hp'.length ∧ ∀ i, i < hp.length → (∀ w ∈ W, η[w]? ≠ some i) → hp'[i]? = hp[i]?) := by
  obtain ⟨p1, p2, p3, p4, p5, p6⟩ := id hpt
  unfold zlcC at hz
  obtain ⟨θ, t1, t2, t3⟩ := zidS_ok hz
  obtain ⟨μ, u1, u2, u3⟩ := zidC_ok t1
  obtain ⟨A, a1, a2, a3⟩ := zmkP_ok u1 (fun j d hj => by simp [zhg] at hj)
  rw [Bool.and_eq_true, zfn_eq] at a1
  have a4 := Nat.eq_of_beq_eq_true a1.1
  have hU : zself (W, 208, true, false, nds, [], θ, μ, some q.2.2) η (ρ.take j0) := ⟨t3, by rw [List.length_take]; show θ.length = _; omega, u3, by show μ.length = _; omega⟩
  have hH : zaH η ρ A hp := by
    refine ⟨by rw [a4, hη], fun j d hj => ?_, hinj.1, hinj.2⟩
    rcases a3 j d hj with e | e
    · obtain ⟨x, y, g1, g2, g3⟩ := p3 _ e
      exact ⟨x, y, g1, g2, g3⟩
    · simp [zhg] at e
  have hS0 : zSt (η, η) ρ hp W A (q.2.1.2.2.2.1.length, q.2.1.2.2.2.1, q.2.1.2.2.2.2.1, [], q.2.1.2.2.2.2.2) η ρ hp := ⟨⟨[], by simp⟩, ⟨[], by simp⟩, ⟨p4.1, p4, p5, fun f hf => absurd hf List.not_mem_nil⟩, hH, p6, Nat.le_refl _, fun i x hi hx => absurd (List.getElem?_eq_some_iff.mp hx).1 (by show ¬ i < η.length; have : η.length ≤ i := hi; omega), fun i _ _ => rfl, [], by simp⟩
  refine (zct_ok hC hη.symm a1.2 hS0 (zaS_rev p2)).post ?_
  rintro rv hp' ⟨r, h', G', l, k1, k2, k3⟩
  obtain ⟨q', n1, n2, η', ρ', z, n3, n4, n5, n6⟩ := zgoN_ex (Rk := fun x => x < M) hU ⟨ρ.drop j0, (List.take_append_drop ..).symm⟩ ⟨M, hM, fun x _ hx => hx⟩ k2 (zaL_mono (m := []) p1 |> fun h => by simpa using h) k3 k1
  obtain ⟨⟨m, rfl, hm⟩, hl, hq, hi, hf⟩ := n3
  have hm := hm rfl
  subst hm
  rw [List.append_nil] at hq hi
  exact ⟨q', n1, n2, ρ', z, hl, hq, hi, n4, n5, n6, hf.1, hf.2.2.1⟩
end ZLC2
