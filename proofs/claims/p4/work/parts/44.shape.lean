/-! the model's shape as a whole; a call by a contract from it; an end out of it -/
def zPM : PT := (zu_175.2.1.1, zu_175.2.1.2.1, zu_175.2.1.2.2.1, zu_175.2.1.2.2.2.1, [], [0, 2000])
def zMO (η : List Nat) (j : Nat) (ρ : List Int) (hp : List zhE) : Prop := η.length = 35 ∧ zinj η hp ∧ zptS η ρ zPM [] [.ref j] hp
def zAs : Nat → List (Int × Int) → List AV
  | _, [] => []
  | n, _ :: l => (0, (0, [(n, 1)])) :: zAs (n + 1) l
/-- whether symbols of a list stand for themselves -/
def zkpS (θ : List LX) : List Nat → Bool
  | [] => true
  | i :: l => zlg θ i (fun e => zxeq e (0, [(i, 1)])) && zkpS θ l
def zkpM : Nat → List Nat → Bool
  | _, [] => true
  | i, m :: μ => Nat.beq m i && zkpM (i + 1) μ
theorem zkpS_ok {θ : List LX} : ∀ {l : List Nat}, zkpS θ l = true → ∀ i ∈ l, θ[i]? = some (0, [(i, 1)])
  | [], _, i, hi => absurd hi List.not_mem_nil
  | k :: l, h, i, hi => by
    simp only [zkpS, Bool.and_eq_true] at h
    rcases List.mem_cons.mp hi with rfl | hi
    · obtain ⟨e, h1, h2⟩ := zlg_ok h.1
      rw [h1, zxeq_ok h2]
    · exact zkpS_ok h.2 i hi
theorem zkpM_ok : ∀ {μ : List Nat} {i : Nat}, zkpM i μ = true → ∀ k m, μ[k]? = some m → m = i + k
  | [], _, _, k, m, h => by simp at h
  | x :: μ, i, h, k, m, hm => by
    simp only [zkpM, Bool.and_eq_true] at h
    match k, hm with
    | 0, hm =>
      cases hm
      exact Nat.eq_of_beq_eq_true h.1
    | k + 1, hm =>
      have := zkpM_ok h.2 k m (by simpa using hm)
      omega
def zcM (C : CT) (aE : List (Int × Int)) (W kp : List Nat) (rc : List AV → AG → Bool) : Bool :=
  zmkP zPM.2.2.1 (0, []) (fun A0 => Nat.beq A0.1 35 && zct W 35 C ((2, (0, [])) :: zAs 37 aE) A0 (37 + aE.length, zPM.2.2.2.1 ++ aE, [], [], [0, 2000]) (fun r h G => rc r G && zmt zPM [] [(2, (0, []))] h G [] [] (fun θ μ => Nat.beq μ.length 35 && (zkpS θ kp && zkpM 0 μ))))
/-- the arguments lie within bounds -/
def zwi : List (Int × Int) → List Int32 → Prop
  | [], [] => True
  | q :: l, x :: xs => q.1 ≤ x.toInt ∧ x.toInt ≤ q.2 ∧ zwi l xs
  | _, _ => False
theorem zwi_len : ∀ {aE : List (Int × Int)} {xs : List Int32}, zwi aE xs → xs.length = aE.length
  | [], [], _ => rfl
  | [], _ :: _, h => h.elim
  | _ :: _, [], h => h.elim
  | _ :: _, _ :: _, h => by simp [zwi_len h.2.2]
theorem zwi_E {ρ : List Int} {E : LE} : ∀ {aE : List (Int × Int)} {xs : List Int32}, zaE ρ E → zwi aE xs → zaE (ρ ++ xs.map (fun x => x.toInt)) (E ++ aE)
  | [], [], hE, _ => by simpa using hE
  | [], _ :: _, _, h => h.elim
  | _ :: _, [], _, h => h.elim
  | q :: aE, x :: xs, hE, h => by
    have := zwi_E (zaE_snoc (x := x.toInt) (lo := q.1) (hi := q.2) hE h.1 h.2.1) h.2.2
    simpa using this
theorem zwi_S {η : List Nat} {ρ : List Int} : ∀ {aE : List (Int × Int)} {xs : List Int32} {n : Nat} {ρ0 : List Int}, ρ0.length = n → ρ = ρ0 ++ xs.map (fun x => x.toInt) → zwi aE xs → zaS η ρ (zAs n aE) (xs.map Value.int)
  | [], [], _, _, _, _, _ => trivial
  | [], _ :: _, _, _, _, _, h => h.elim
  | _ :: _, [], _, _, _, _, h => h.elim
  | q :: aE, x :: xs, n, ρ0, hn, hρ, h => by
    refine ⟨⟨x, rfl, zxr_s ?_⟩, zwi_S (ρ0 := ρ0 ++ [x.toInt]) (by simp [hn]) (by rw [hρ]; simp) h.2.2⟩
    rw [hρ, List.getElem?_append_right (by omega), hn, Nat.sub_self]
    rfl
section ZSM
variable {lk : ZLP} {Lx : Nat} {xs : Nat → Int32}
theorem zcM_ok {C : CT} {aE : List (Int × Int)} {W kp : List Nat} {rc : List AV → AG → Bool} (hC : zHolds lk Lx xs C) (h : zcM C aE W kp rc = true) {η : List Nat} {j : Nat} {ρ : List Int} {hp : List zhE} (hM : zMO η j ρ hp) (hk : ∀ i ∈ kp, i < 37) {vals : List Int32} (hv : zwi aE vals) :
    zWP lk Lx xs C.1 (0, lv_args 0 (.ref j :: vals.map Value.int), [], hp, 0, 0) (fun rv hp' => ∃ ρ2, zMO η j ρ2 hp' ∧ (∀ i ∈ kp, ρ2[i]? = ρ[i]?) ∧ hp.length ≤ hp'.length ∧ (∀ i, i < hp.length → (∀ w ∈ W, η[w]? ≠ some i) → hp'[i]? = hp[i]?) ∧ ∃ (r : List AV) (G : AG) (ρ3 : List Int), rc r G = true ∧ zaG ρ3 G ∧ zaS η ρ3 r rv.toList) := by
  obtain ⟨hl, hi, p1, p2, p3, p4, p5, p6⟩ := hM
  unfold zcM at h
  obtain ⟨A0, h1, h2, h3⟩ := zmkP_ok h (fun j d hj => by simp [zhg] at hj)
  rw [Bool.and_eq_true] at h1
  have h4 := Nat.eq_of_beq_eq_true h1.1
  have hρl : ρ.length = 37 := p4.1.symm
  have hE2 := zwi_E p4 hv
  have hlen : (ρ ++ vals.map (fun x => x.toInt)).length = 37 + aE.length := by
    rw [List.length_append, List.length_map, zwi_len hv, hρl]
  have hH : zaH η (ρ ++ vals.map (fun x => x.toInt)) A0 hp := by
    refine ⟨by rw [h4, hl], fun i d hd => ?_, hi.1, hi.2⟩
    rcases h3 i d hd with e | e
    · obtain ⟨x, y, g1, g2, g3⟩ := p3 _ e
      exact ⟨x, y, g1, g2, zac_mono1 g3⟩
    · simp [zhg] at e
  obtain ⟨j', hj', e⟩ := p2.1
  cases e
  have hS : zSt (η, η) (ρ ++ vals.map (fun x => x.toInt)) hp W A0 (37 + aE.length, zPM.2.2.2.1 ++ aE, [], [], [0, 2000]) η (ρ ++ vals.map (fun x => x.toInt)) hp := by
    refine ⟨⟨[], by simp⟩, ⟨[], by simp⟩, ⟨hlen.symm, hE2, fun f hf => absurd hf List.not_mem_nil, fun f hf => absurd hf List.not_mem_nil⟩, hH, p6, Nat.le_refl _, fun i x hi2 hx => ?_, fun i _ _ => rfl, [], by simp⟩
    have := (List.getElem?_eq_some_iff.mp hx).1
    have hi2 : η.length ≤ i := hi2
    omega
  have ha : zaS η (ρ ++ vals.map (fun x => x.toInt)) ((2, (0, [])) :: zAs 37 aE) (.ref j :: vals.map Value.int) := ⟨⟨j, hj', rfl⟩, zwi_S hρl rfl hv⟩
  refine (zct_ok hC hl.symm h1.2 hS ha).post ?_
  rintro rv hp' ⟨r, h', G', l, q1, q2, q3⟩
  rw [Bool.and_eq_true] at q1
  obtain ⟨-, -, s3, s4, s5, s6⟩ := q2
  have ht0 : zth ((ρ ++ vals.map (fun x => x.toInt)) ++ l) [] [] := ⟨rfl, fun i e he => by simp at he⟩
  have hm0 : zmu η [] [] := ⟨rfl, fun i m hm => by simp at hm⟩
  have ha0 : zap [] := fun i j m hi => by simp at hi
  obtain ⟨θ, μ, l2, m2, z1, z2, z3, z4, z5⟩ := zmt_ok (L := []) (st := [.ref j]) ht0 hm0 ha0 q1.2 (fun q hq => absurd hq List.not_mem_nil) ⟨⟨j, hj', rfl⟩, trivial⟩ s4 s3 s5
  rw [List.nil_append] at z2 z3 z5
  rw [List.nil_append] at z5
  simp only [Bool.and_eq_true] at z1
  have z6 := Nat.eq_of_beq_eq_true z1.1
  have hm2 : m2 = η := by
    apply List.ext_getElem?
    intro i
    by_cases hlt : i < 35
    · have hlt2 : i < μ.length := by omega
      obtain ⟨x, x1, x2⟩ := z3.2 i _ (List.getElem?_eq_getElem hlt2)
      have e := zkpM_ok z1.2.2 i _ (List.getElem?_eq_getElem hlt2)
      rw [e, Nat.zero_add] at x2
      rw [x1, x2]
    · rw [List.getElem?_eq_none (by rw [← z3.1]; omega), List.getElem?_eq_none (by omega)]
  subst hm2
  refine ⟨l2, ⟨hl, ⟨s4.2.2.1, s4.2.2.2⟩, z5⟩, fun i hi2 => ?_, s6.1, s6.2.2.1, r, G', _, q1.1, s3, q3⟩
  have e1 := zkpS_ok z1.2.1 i hi2
  obtain ⟨x, x1, x2⟩ := z2.2 i _ e1
  obtain ⟨y, y1, y2, y3⟩ := x2
  obtain ⟨a, b, b1, b2, b3⟩ := y1
  have b2 : b = 0 := b2
  have hlt : i < ρ.length := by rw [hρl]; exact hk i hi2
  have b1 : ((ρ ++ vals.map (fun x => x.toInt)) ++ l)[i]? = some a := b1
  rw [List.getElem?_append_left (by rw [List.length_append]; omega), List.getElem?_append_left hlt] at b1
  rw [x1, b1]
  have e : (0 : Int) + y = a := by omega
  show some ((0 : Int) + y) = some a
  rw [e]
end ZSM
