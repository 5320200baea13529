/-! the abstract run -/
abbrev ZKR : Type := List AV → AH → AG → Bool
/-- a place to stop at: its pc, what holds there, its rank -/
abbrev ND : Type := Nat × PT × LX
/-- a run's own: what may be written, how many of the cells are the start's, whether the script is at hand, whether cells are made; places; contracts; the start's symbols and cells as they are; the rank that must fall -/
abbrev ZU : Type := List Nat × Nat × Bool × Bool × List ND × List CT × List LX × List Nat × Option LX
def zfind (P : List zPE) (pc : Nat) (k : zPE → List zPE → Bool) : Bool := match P with
  | [] => false
  | e :: l => (match Nat.beq e.1 pc with
    | true => k e l
    | false => zfind l pc k)
def zfetch (P sfx : List zPE) (pc : Nat) (k : zPE → List zPE → Bool) : Bool := match sfx with
  | e :: l => (match Nat.beq e.1 pc with
    | true => k e l
    | false => zfind P pc k)
  | [] => zfind P pc k
theorem zfind_ok : ∀ {P : List zPE} {pc : Nat} {k : zPE → List zPE → Bool}, zfind P pc k = true → ∃ e l, e ∈ P ∧ e.1 = pc ∧ (∀ x ∈ l, x ∈ P) ∧ k e l = true
  | [], _, _, h => by simp [zfind] at h
  | e :: l, pc, k, h => by
    unfold zfind at h
    split at h
    · rename_i he
      exact ⟨e, l, List.mem_cons_self, Nat.eq_of_beq_eq_true he, fun x hx => List.mem_cons_of_mem _ hx, h⟩
    · obtain ⟨e', l', h1, h2, h3, h4⟩ := zfind_ok h
      exact ⟨e', l', List.mem_cons_of_mem _ h1, h2, fun x hx => List.mem_cons_of_mem _ (h3 x hx), h4⟩
theorem zfetch_ok {P sfx : List zPE} {pc : Nat} {k : zPE → List zPE → Bool} (hs : ∀ x ∈ sfx, x ∈ P) (h : zfetch P sfx pc k = true) : ∃ e l, e ∈ P ∧ e.1 = pc ∧ (∀ x ∈ l, x ∈ P) ∧ k e l = true := by
  unfold zfetch at h
  split at h
  · rename_i e l
    split at h
    · rename_i he
      exact ⟨e, l, hs _ List.mem_cons_self, Nat.eq_of_beq_eq_true he, fun x hx => hs x (List.mem_cons_of_mem _ hx), h⟩
    · exact zfind_ok h
  · exact zfind_ok h
/-- the arguments off the stack, the first one first -/
def zspl : Nat → List AV → List AV → (List AV → List AV → Bool) → Bool
  | 0, S, acc, k => k acc S
  | _ + 1, [], _, _ => false
  | n + 1, x :: S, acc, k => zspl n S (x :: acc) k
theorem zspl_ok {η : List Nat} {ρ : List Int} : ∀ {n : Nat} {S acc : List AV} {k : List AV → List AV → Bool} {st va : List Value}, zspl n S acc k = true → zaS η ρ S st → zaS η ρ acc va → ∃ as S' vs st', k as S' = true ∧ zaS η ρ as vs ∧ zaS η ρ S' st' ∧ vs.length = n + va.length ∧ va.reverse ++ st = vs.reverse ++ st'
  | 0, S, acc, _, st, va, h, hS, ha => ⟨acc, S, va, st, h, ha, hS, by omega, rfl⟩
  | _ + 1, [], _, _, _, _, h, _, _ => by simp [zspl] at h
  | _ + 1, _ :: _, _, _, [], _, _, hS, _ => hS.elim
  | n + 1, x :: S, acc, k, v :: st, va, h, hS, ha => by
    obtain ⟨as, S', vs, st', h1, h2, h3, h4, h5⟩ := zspl_ok (n := n) (S := S) (acc := x :: acc) (st := st) (va := v :: va) h hS.2 ⟨hS.1, ha⟩
    refine ⟨as, S', vs, st', h1, h2, h3, by simp at h4; omega, ?_⟩
    rw [← h5, List.reverse_cons, List.append_assoc]
    rfl
/-- the arguments as local variables -/
def zargs : Nat → List AV → (AL → Bool) → Bool
  | _, [], k => k []
  | i, a :: as, k => zfn (i + zcat a) (fun j => zargs j as (fun l => k ((i, a) :: l)))
theorem zlk_args {i j : Nat} : ∀ {vs : List Value} {v : Value}, j < i → zlk (lv_args i vs) j = some v → False
  | [], v, _, h => by cases h
  | w :: vs, v, hj, h => by
    have h : zlk ((i, w) :: lv_args (if w.category = 2 then i + 2 else i + 1) vs) j = some v := h
    unfold zlk at h
    split at h
    · rename_i e
      have := Nat.eq_of_beq_eq_true e
      simp only at this
      omega
    · exact zlk_args (vs := vs) (by split <;> omega) h
theorem zargs_ok {η : List Nat} {ρ : List Int} : ∀ {i : Nat} {as : List AV} {k : AL → Bool} {vs : List Value}, zargs i as k = true → zaS η ρ as vs → ∃ A, k A = true ∧ zaL η ρ A (lv_args i vs) ∧ ∀ q ∈ A, i ≤ q.1
  | _, [], _, [], h, _ => ⟨[], h, fun q hq => absurd hq List.not_mem_nil, fun q hq => absurd hq List.not_mem_nil⟩
  | _, [], _, _ :: _, _, hS => hS.elim
  | _, _ :: _, _, [], _, hS => hS.elim
  | i, a :: as, k, v :: vs, h, hS => by
    unfold zargs at h
    rw [zfn_eq] at h
    obtain ⟨A, h1, h2, h3⟩ := zargs_ok h hS.2
    have hc := zcat_ok hS.1
    have e : (if v.category = 2 then i + 2 else i + 1) = i + zcat a := by
      rw [hc]
      unfold zcat
      split <;> simp
    have hpos : 1 ≤ zcat a := by unfold zcat; split <;> simp
    refine ⟨_, h1, fun q hq => ?_, fun q hq => ?_⟩
    · show ∃ w, zlk ((i, v) :: lv_args (if v.category = 2 then i + 2 else i + 1) vs) q.1 = some w ∧ zav η ρ q.2 w
      rw [e]
      rcases List.mem_cons.mp hq with rfl | hq
      · exact ⟨v, zlk_self _ _ _, hS.1⟩
      · obtain ⟨w, h4, h5⟩ := h2 q hq
        have := h3 q hq
        exact ⟨w, zlk_cons h4 (by omega), h5⟩
    · rcases List.mem_cons.mp hq with rfl | hq
      · exact Nat.le_refl _
      · have := h3 q hq; omega
theorem zlg_len {η : List Nat} {ρ : List Int} : ∀ {as : List AV} {vs : List Value}, zaS η ρ as vs → (lg_sl vs).length = zcsum as
  | [], [], _ => rfl
  | [], _ :: _, h => h.elim
  | _ :: _, [], h => h.elim
  | a :: as, v :: vs, h => by
    have h1 := zlg_len h.2
    have hc := zcat_ok h.1
    have h2 : (lg_sl (v :: vs)).length = zcat a + (lg_sl vs).length := by
      simp only [lg_sl, List.flatMap_cons, List.length_append]
      rw [hc]
      unfold zcat
      split <;> simp
    rw [h2, h1]
    rfl
/-- whether an instruction makes no cell -/
def zna (i : Instr) : Bool := match i with
  | .new _ => false
  | .newarray _ => false
  | .anewarray _ => false
  | _ => true
theorem zdo_cs {sc : Bool} {W : List Nat} {n0 nL : Nat} {R : Room} {i : Instr} {a b : Nat} {v : Int} {pc : Nat} {A : AL} {S : List AV} {h : AH} {G : AG} {c s : Nat} {K : ZK} (hi : zna i = true) (hz : zdo sc W n0 nL R i a b v pc A S h G 0 0 K = true) :
    zdo sc W n0 nL R i a b v pc A S h G c s (fun pc A S h G _ _ => K pc A S h G 0 0) = true := by
  cases i
  case invokespecial =>
    match v, hz with
    | .ofNat 0, hz => exact hz
    | .ofNat (n + 1), hz => exact hz
    | .negSucc n, hz => exact hz
  case invokestatic =>
    unfold zdo at hz ⊢
    cases hb : Nat.beq b 99 with
    | true => rw [hb] at hz; exact hz
    | false => rw [hb] at hz; exact hz
  all_goals first | exact hz | (exact absurd hi Bool.false_ne_true)
set_option maxHeartbeats 4000000 in
theorem zone_cs {pc : Nat} {L : zL} {st : List Value} {hp : List zhE} {c s : Nat} {Lx : Nat} {xs : Nat → Int32} {nL : Nat} {R : Room} {i : Instr} {a b : Nat} {v : Int} {z : zCF} (hi : zna i = true) (h : zone pc L st hp c s Lx xs nL R i a b v = some z) : z.2.2.2.2.1 = c ∧ z.2.2.2.2.2 = s := by
  unfold zone at h
  split at h
  all_goals try (exact absurd hi Bool.false_ne_true)
  all_goals try unfold zI2 at h
  all_goals try unfold zL2 at h
  all_goals try unfold zLS at h
  all_goals try unfold zDI at h
  all_goals try unfold zldI at h
  all_goals try unfold zldL at h
  all_goals try unfold zldA at h
  all_goals try unfold zstI at h
  all_goals try unfold zstL at h
  all_goals try unfold zstA at h
  all_goals try unfold ztsw at h
  all_goals try unfold zlsw at h
  all_goals try unfold zgf at h
  all_goals try unfold zpf at h
  all_goals repeat' split at h
  all_goals try unfold zjmp at h
  all_goals try unfold zbr at h
  all_goals try unfold zalI at h
  all_goals try unfold zalL at h
  all_goals try unfold zalA at h
  all_goals try unfold zsl at h
  all_goals try unfold zasI at h
  all_goals try unfold zasZ at h
  all_goals try unfold zasL at h
  all_goals try unfold zasA at h
  all_goals try unfold zlen1 at h
  all_goals try unfold zobi at h
  all_goals try unfold zcpo at h
  all_goals repeat' split at h
  all_goals first | (cases h; exact ⟨rfl, rfl⟩) | cases h
def zhas (pc : Nat) : List ND → Bool
  | [] => false
  | q :: N => match Nat.beq q.1 pc with | true => true | false => zhas pc N
/-- one of the places of this pc -/
def zgoN (U : ZU) (pc : Nat) (A : AL) (S : List AV) (h : AH) (G : AG) : List ND → Bool
  | [] => false
  | q :: N => (match Nat.beq q.1 pc with
    | true => zmt q.2.1 A S h G U.2.2.2.2.2.2.1 U.2.2.2.2.2.2.2.1 (fun θ μ => (U.2.2.2.1 || Nat.beq μ.length U.2.2.2.2.2.2.2.1.length) && zsb θ q.2.2 (fun r => zprv G.2.1 G.2.2.1 r && (match U.2.2.2.2.2.2.2.2 with
      | none => true
      | some e => zxsub e r (fun d => zxshi d (-1) (fun d => zprv G.2.1 G.2.2.1 d)))))
    | false => false) || zgoN U pc A S h G N
def zfct (k : Nat) (kn : Bool) (kc : CT → Bool) : List CT → Bool
  | [] => kn
  | C :: Cs => match Nat.beq C.1 k with
    | true => kc C
    | false => zfct k kn kc Cs
/-- the cells and slots that are made before the law's loop -/
def zcN : Nat := 208
def zsN : Nat := 19048
def zcn (al : Bool) (n c : Nat) : Nat := match al with
  | true => n
  | false => c
abbrev ZRC : Type := Bool → Bool → Nat → List zPE → Nat → ZKR → List zPE → ZK
/-- a call: by a contract, or into the method -/
def zgoC (U : ZU) (rec : ZRC) (k' : Nat) (as S : List AV) (top : Bool) (k : Nat) (P : List zPE) (nL : Nat) (Kr : ZKR) (sfx : List zPE) (pc : Nat) (A : AL) (h : AH) (G : AG) (c s : Nat) : Bool := match zrw k' with
  | (P', nL', _, _, rc', rs') => Nat.ble (zcsum as) nL' && (Nat.ble (zcsum S) 8 && ((match U.2.2.2.1 with
      | true => Nat.ble (c + rc') (zrm k).cells && Nat.ble (s + rs') (zrm k).slots
      | false => Nat.beq rc' 0 && Nat.beq rs' 0) && zfn (pc + 3) (fun pc => zfn (c + rc') (fun c => zfn (s + rs') (fun s => zfct k'
        (zargs 0 as (fun A' => rec true false k' P' nL' (fun r h G => rec false top k P nL Kr sfx pc A (r ++ S) h G c s) P' 0 A' [] h G 0 0))
        (fun C => zct U.1 U.2.1 C as h G (fun r h G => rec false top k P nL Kr sfx pc A (r ++ S) h G c s)) U.2.2.2.2.2.1)))))
def zrun (U : ZU) : Nat → ZRC
  | 0 => fun _ _ _ _ _ _ _ _ _ _ _ _ _ _ => false
  | n + 1 => fun fresh top k P nL Kr sfx pc A S h G c s => match top && (!fresh && zhas pc U.2.2.2.2.1) with
    | true => (match U.2.2.2.1 with
      | true => Nat.beq c zcN && (Nat.beq s zsN && zgoN U pc A S h G U.2.2.2.2.1)
      | false => zgoN U pc A S h G U.2.2.2.2.1)
    | false => zfetch P sfx pc (fun e sfx => match zkind e.2.1 e.2.2.1 e.2.2.2.1 e.2.2.2.2 with
      | 0 => (U.2.2.2.1 || zna e.2.1) && zdo U.2.2.1 U.1 U.2.1 nL (zrm k) e.2.1 e.2.2.1 e.2.2.2.1 e.2.2.2.2 pc A S h G c s (zrun U n false top k P nL Kr sfx)
      | 1 => zspl e.2.2.2.1 S [] (fun as S => match S with
        | r :: S => zref r (fun i => zobj h i e.2.2.2.2.toNat (fun _ => zgoC U (zrun U n) e.2.2.1 (r :: as) S top k P nL Kr sfx pc A h G c s))
        | [] => false)
      | 2 => zspl e.2.2.2.1 S [] (fun as S => zgoC U (zrun U n) e.2.2.1 as S top k P nL Kr sfx pc A h G c s)
      | 3 => zspl e.2.2.2.1 S [] (fun as S => match S with
        | r :: S => zref r (fun _ => zgoC U (zrun U n) e.2.2.1 (r :: as) S top k P nL Kr sfx pc A h G c s)
        | [] => false)
      | 4 => (match S with
        | [x] => zgI x (fun ex => (Nat.beq e.2.2.1 0 || zbd G.2.1 ex (fun lo hi => zle 0 lo && zle hi 1)) && (Nat.ble c (zrm k).cells && (Nat.ble s (zrm k).slots && Kr [x] h G)))
        | _ => false)
      | 5 => (match S with
        | [x] => zgL x (fun _ => Nat.ble c (zrm k).cells && (Nat.ble s (zrm k).slots && Kr [x] h G))
        | _ => false)
      | 6 => (match S with
        | [] => Nat.ble c (zrm k).cells && (Nat.ble s (zrm k).slots && Kr [] h G)
        | _ => false)
      | _ => false)
section ZRUN
variable {lk : ZLP} {Lx : Nat} {xs : Nat → Int32} {η0 ηs : List Nat} {ρe ρs : List Int} {hp0 : List zhE} {U : ZU}
/-- a state at a place -/
def zNdS (al : Bool) (η0 : List Nat) (ρe : List Int) (hp0 : List zhE) (W : List Nat) (P : PT) (η : List Nat) (ρ : List Int) (L : zL) (st : List Value) (hp : List zhE) : Prop :=
  (∃ m, η = η0 ++ m ∧ (al = false → m = [])) ∧ (∃ l, ρ = ρe ++ l) ∧ zptS η ρ P L st hp ∧ zinj η hp ∧ zfm (η0, η0) hp0 W η hp
def zQk (η0 : List Nat) (ρe : List Int) (hp0 : List zhE) (W : List Nat) (Kr : ZKR) (Q : ZP) (η : List Nat) (ρ : List Int) : Prop := ∀ (r : List AV) (h : AH) (G : AG), Kr r h G = true → ∀ (η2 : List Nat) (ρ2 : List Int) (rv : Option Value) (hp : List zhE), zSt (η0, η) ρ hp0 W h G η2 ρ2 hp → zaS η2 ρ2 r rv.toList → Q rv hp
def zhN (lk : ZLP) (Lx : Nat) (xs : Nat → Int32) (η0 : List Nat) (ρe : List Int) (hp0 : List zhE) (U : ZU) (Rk : Int → Prop) (k ca sa : Nat) (Q : ZP) : Prop :=
  ∀ q ∈ U.2.2.2.2.1, ∀ (η : List Nat) (ρ : List Int) (L : zL) (st : List Value) (hp : List zhE) (r : Int), zNdS U.2.2.2.1 η0 ρe hp0 U.1 q.2.1 η ρ L st hp → zxr ρ q.2.2 r → 0 ≤ r → Rk r → zWP lk Lx xs k (q.1, L, st, hp, ca, sa) Q
/-- the start's symbols and cells stand for themselves -/
def zself (U : ZU) (η0 : List Nat) (ρe : List Int) : Prop := (∀ (i : Nat) (e : LX), U.2.2.2.2.2.2.1[i]? = some e → e = (0, [(i, 1)])) ∧ U.2.2.2.2.2.2.1.length = ρe.length ∧ (∀ (i m : Nat), U.2.2.2.2.2.2.2.1[i]? = some m → m = i) ∧ U.2.2.2.2.2.2.2.1.length = η0.length
theorem zself_th (hU : zself U η0 ρe) {l : List Int} : zth (ρe ++ l) U.2.2.2.2.2.2.1 ρe := by
  refine ⟨hU.2.1, fun i e he => ?_⟩
  have hlt : i < ρe.length := by rw [← hU.2.1]; exact (List.getElem?_eq_some_iff.mp he).1
  rw [hU.1 i e he]
  exact ⟨ρe[i], List.getElem?_eq_getElem hlt, zxr_s (by rw [List.getElem?_append_left hlt]; exact List.getElem?_eq_getElem hlt)⟩
theorem zself_mu (hU : zself U η0 ρe) {m : List Nat} : zmu (η0 ++ m) U.2.2.2.2.2.2.2.1 η0 := by
  refine ⟨hU.2.2.2, fun i e he => ?_⟩
  have hlt : i < η0.length := by rw [← hU.2.2.2]; exact (List.getElem?_eq_some_iff.mp he).1
  rw [hU.2.2.1 i e he]
  exact ⟨η0[i], List.getElem?_eq_getElem hlt, by rw [List.getElem?_append_left hlt]; exact List.getElem?_eq_getElem hlt⟩
theorem zself_ap (hU : zself U η0 ρe) : zap U.2.2.2.2.2.2.2.1 := fun i j m hi hj => by rw [← hU.2.2.1 i m hi, ← hU.2.2.1 j m hj]
theorem zgoN_ok {Rk : Int → Prop} {k ca sa : Nat} {Q : ZP} {pc : Nat} {A : AL} {S : List AV} {h : AH} {G : AG} {η : List Nat} {ρ : List Int} {L : zL} {st : List Value} {hp : List zhE} (hU : zself U η0 ρe) (hρ : ∃ l, ρs = ρe ++ l)
    (hRk : match U.2.2.2.2.2.2.2.2 with | none => ∀ r : Int, 0 ≤ r → Rk r | some e => ∃ M, zxr ρs e M ∧ ∀ r : Int, 0 ≤ r → r < M → Rk r) (hN : zhN lk Lx xs η0 ρe hp0 U Rk k ca sa Q)
    (hS : zSt (η0, ηs) ρs hp0 U.1 h G η ρ hp) (hL : zaL η ρ A L) (hs : zaS η ρ S st) : ∀ {N : List ND}, (∀ q ∈ N, q ∈ U.2.2.2.2.1) → zgoN U pc A S h G N = true → zWP lk Lx xs k (pc, L, st, hp, ca, sa) Q
  | [], _, hz => by simp [zgoN] at hz
  | q :: N, hin, hz => by
    simp only [zgoN, Bool.or_eq_true] at hz
    rcases hz with hz | hz
    · split at hz
      · rename_i hc
        have hc := Nat.eq_of_beq_eq_true hc
        subst hc
        obtain ⟨-, ⟨l0, rfl⟩, q3, q4, q5, q6⟩ := id hS
        obtain ⟨m0, rfl⟩ := q6.2.2.2
        obtain ⟨l1, rfl⟩ := hρ
        have ht : zth (ρe ++ l1 ++ l0) U.2.2.2.2.2.2.1 ρe := by rw [List.append_assoc]; exact zself_th hU
        obtain ⟨θ, μ, l, m, z1, z2, z3, z4, z5⟩ := zmt_ok ht (zself_mu hU) (zself_ap hU) hz hL hs q4 q3 q5
        rw [Bool.and_eq_true, Bool.or_eq_true] at z1
        obtain ⟨r', z, r1, r2, r3⟩ := zsb_ok z2 z1.2
        rw [Bool.and_eq_true] at r1
        have hz0 := zprv_ok q3.2.1 r1.1 q3.2.2.1 r2
        have hinj : zinj (η0 ++ m) hp := by
          refine ⟨fun i j x hi hj => ?_, fun i x hi => ?_⟩
          · have hi2 : i < μ.length := by rw [z3.1]; exact (List.getElem?_eq_some_iff.mp hi).1
            have hj2 : j < μ.length := by rw [z3.1]; exact (List.getElem?_eq_some_iff.mp hj).1
            obtain ⟨x1, a1, a2⟩ := z3.2 i _ (List.getElem?_eq_getElem hi2)
            obtain ⟨x2, b1, b2⟩ := z3.2 j _ (List.getElem?_eq_getElem hj2)
            cases hi.symm.trans a1
            cases hj.symm.trans b1
            have e := q4.2.2.1 _ _ _ a2 b2
            exact z4 i j _ (List.getElem?_eq_getElem hi2) (by rw [List.getElem?_eq_getElem hj2, e])
          · have hi2 : i < μ.length := by rw [z3.1]; exact (List.getElem?_eq_some_iff.mp hi).1
            obtain ⟨x1, a1, a2⟩ := z3.2 i _ (List.getElem?_eq_getElem hi2)
            cases hi.symm.trans a1
            exact q4.2.2.2 _ _ a2
        have hfm : zfm (η0, η0) hp0 U.1 (η0 ++ m) hp := by
          refine ⟨q6.1, fun i x hi hx => ?_, q6.2.2.1, m, rfl⟩
          have hi : η0.length ≤ i := hi
          have hi2 : i < μ.length := by rw [z3.1]; exact (List.getElem?_eq_some_iff.mp hx).1
          obtain ⟨x1, a1, a2⟩ := z3.2 i _ (List.getElem?_eq_getElem hi2)
          cases hx.symm.trans a1
          by_cases hlt : μ[i] < η0.length
          · have h9 : (η0 ++ m)[μ[i]]? = some x := by
              rw [List.getElem?_append_left hlt] at a2 ⊢
              exact a2
            have := hinj.1 i _ x hx h9
            omega
          · exact q6.2.1 _ x (show η0.length ≤ _ by omega) a2
        refine hN q (hin q List.mem_cons_self) (η0 ++ m) (ρe ++ l) L st hp z ⟨⟨m, rfl, fun hal => ?_⟩, ⟨l, rfl⟩, z5, hinj, hfm⟩ r3 hz0 ?_
        · rcases z1.1 with q | q
          · rw [hal] at q; cases q
          · have h9 := Nat.eq_of_beq_eq_true q
            rw [z3.1, hU.2.2.2, List.length_append] at h9
            exact List.length_eq_zero_iff.mp (by omega)
        split at hRk
        · exact hRk z hz0
        · rename_i e he
          rw [he] at r1
          obtain ⟨M, m1, m2⟩ := hRk
          refine m2 z hz0 ?_
          obtain ⟨d, d1, d2⟩ := zxsub_ok r1.2 (zxr_mono m1) r2
          obtain ⟨d', d3, d4⟩ := zxshi_ok d1 d2
          have := zprv_ok q3.2.1 d3 q3.2.2.1 d4
          omega
      · cases hz
    · exact zgoN_ok hU hρ hRk hN hS hL hs (fun r hr => hin r (List.mem_cons_of_mem _ hr)) hz
theorem zfct_ok {k : Nat} {kn : Bool} {kc : CT → Bool} : ∀ {Cs : List CT}, zfct k kn kc Cs = true → kn = true ∨ ∃ C ∈ Cs, C.1 = k ∧ kc C = true
  | [], h => Or.inl h
  | C :: Cs, h => by
    unfold zfct at h
    split at h
    · rename_i e
      exact Or.inr ⟨C, List.mem_cons_self, Nat.eq_of_beq_eq_true e, h⟩
    · rcases zfct_ok h with h | ⟨D, h1, h2⟩
      · exact Or.inl h
      · exact Or.inr ⟨D, List.mem_cons_of_mem _ h1, h2⟩
/-- how the counted cells stand to the real ones -/
def zcs (al : Bool) (k c s ca sa : Nat) : Prop := match al with
  | true => ca = c ∧ sa = s
  | false => c = 0 ∧ s = 0 ∧ ca ≤ (zrm k).cells ∧ sa ≤ (zrm k).slots
theorem zcs_le {al : Bool} {k c s ca sa : Nat} (h : zcs al k c s ca sa) (h1 : c ≤ (zrm k).cells) (h2 : s ≤ (zrm k).slots) : ca ≤ (zrm k).cells ∧ sa ≤ (zrm k).slots := by
  unfold zcs at h
  split at h
  · obtain ⟨rfl, rfl⟩ := h
    exact ⟨h1, h2⟩
  · exact ⟨h.2.2.1, h.2.2.2⟩
/-- what a run shows -/
def zRunOK (lk : ZLP) (Lx : Nat) (xs : Nat → Int32) (η0 : List Nat) (ρe ρs : List Int) (hp0 : List zhE) (U : ZU) (Rk : Int → Prop) (rec : ZRC) : Prop :=
  ∀ (fresh top : Bool) (k : Nat) (P : List zPE) (nL : Nat) (Kr : ZKR) (sfx : List zPE) (pc : Nat) (A : AL) (S : List AV) (h : AH) (G : AG) (c s : Nat), rec fresh top k P nL Kr sfx pc A S h G c s = true →
  k < 277 → P = (zrw k).1 → nL = (zrw k).2.1 → (∀ e ∈ P, ∀ x, e.2.1 = .new x → ∃ q, zcl[e.2.2.1]? = some q ∧ q.2.2 = e.2.2.2.1) → (∀ x ∈ sfx, x ∈ P) → ∀ (ca sa : Nat) (Q : ZP), zcs U.2.2.2.1 k c s ca sa → (top = true → zhN lk Lx xs η0 ρe hp0 U Rk k (zcn U.2.2.2.1 zcN ca) (zcn U.2.2.2.1 zsN sa) Q) →
  ∀ (η : List Nat) (ρ : List Int) (L : zL) (st : List Value) (hp : List zhE), (∃ l, ρ = ρs ++ l) → zSt (η0, η) ρ hp0 U.1 h G η ρ hp → zaL η ρ A L → zaS η ρ S st → zQk η0 ρe hp0 U.1 Kr Q η ρ → zWP lk Lx xs k (pc, L, st, hp, ca, sa) Q
theorem zSt_now {η0 ηs η : List Nat} {ρ0 ρ : List Int} {hp0 hp : List zhE} {W : List Nat} {h : AH} {G : AG} (hS : zSt (η0, ηs) ρ0 hp0 W h G η ρ hp) : zSt (η0, η) ρ hp0 W h G η ρ hp := by
  obtain ⟨-, -, q3, q4, q5, q6⟩ := hS
  exact ⟨⟨[], by simp⟩, ⟨[], by simp⟩, q3, q4, q5, q6⟩
theorem zSt_from {η0 ηs ηt η : List Nat} {ρ0 ρt ρ : List Int} {hp0 hp : List zhE} {W : List Nat} {h : AH} {G : AG} (h1 : ∃ m, ηs = ηt ++ m) (h2 : ∃ l, ρ0 = ρt ++ l) (hS : zSt (η0, ηs) ρ0 hp0 W h G η ρ hp) : zSt (η0, ηt) ρt hp0 W h G η ρ hp := by
  obtain ⟨⟨m, q1⟩, ⟨l, q2⟩, q3, q4, q5, q6⟩ := hS
  obtain ⟨m2, rfl⟩ := h1
  obtain ⟨l2, rfl⟩ := h2
  exact ⟨⟨m2 ++ m, by rw [q1, List.append_assoc]⟩, ⟨l2 ++ l, by rw [q2, List.append_assoc]⟩, q3, q4, q5, q6⟩
theorem zQk_from {W : List Nat} {Kr : ZKR} {Q : ZP} {η η2 : List Nat} {ρ ρ2 : List Int} (h1 : ∃ m, η2 = η ++ m) (h2 : ∃ l, ρ2 = ρ ++ l) (hQ : zQk η0 ρe hp0 W Kr Q η ρ) : zQk η0 ρe hp0 W Kr Q η2 ρ2 :=
  fun r h G hk η3 ρ3 rv hp hS hr => hQ r h G hk η3 ρ3 rv hp (zSt_from h1 h2 hS) hr
/-- what 'new' makes is as the classes say -/
def znewOK : Prop := ∀ k, k < 277 → ∀ e ∈ (zrw k).1, ∀ x, e.2.1 = .new x → ∃ q, zcl[e.2.2.1]? = some q ∧ q.2.2 = e.2.2.2.1
theorem zgoC_ok {Rk : Int → Prop} {rec : ZRC} (hrec : zRunOK lk Lx xs η0 ρe ρs hp0 U Rk rec) (hnw : znewOK) (hCs : ∀ C ∈ U.2.2.2.2.2.1, zHolds lk Lx xs C) (hn0 : U.2.1 = η0.length) {k' : Nat} {as S : List AV} {top : Bool} {k : Nat} {P : List zPE} {nL : Nat} {Kr : ZKR} {sfx : List zPE} {pc : Nat} {A : AL} {h : AH} {G : AG} {c s ca sa : Nat} {Q : ZP}
    (hz : zgoC U rec k' as S top k P nL Kr sfx pc A h G c s = true) (hk' : k' < 276) (hk277 : k < 277) (hP : P = (zrw k).1) (hnL : nL = (zrw k).2.1) (hnP : ∀ e ∈ P, ∀ x, e.2.1 = .new x → ∃ q, zcl[e.2.2.1]? = some q ∧ q.2.2 = e.2.2.2.1) (hsfx : ∀ x ∈ sfx, x ∈ P) (hcs : zcs U.2.2.2.1 k c s ca sa) (hN : top = true → zhN lk Lx xs η0 ρe hp0 U Rk k (zcn U.2.2.2.1 zcN ca) (zcn U.2.2.2.1 zsN sa) Q)
    {η : List Nat} {ρ : List Int} {L : zL} {st stk : List Value} {av : List Value} {hp : List zhE} (hρ : ∃ l, ρ = ρs ++ l) (hS : zSt (η0, η) ρ hp0 U.1 h G η ρ hp) (hL : zaL η ρ A L) (hs : zaS η ρ S st) (ha : zaS η ρ as av) (hQ : zQk η0 ρe hp0 U.1 Kr Q η ρ) : zCall (zWP lk Lx xs) k k' av st (pc, L, stk, hp, ca, sa) Q := by
  unfold zgoC at hz
  split at hz
  rename_i P' nL' rf' rl' rc' rs' hrw
  have e1 : (zrw k').1 = P' := by rw [hrw]
  have e2 : (zrw k').2.1 = nL' := by rw [hrw]
  have e3 : (zrm k').cells = rc' := by simp only [zrm, hrw]
  have e4 : (zrm k').slots = rs' := by simp only [zrm, hrw]
  simp only [Bool.and_eq_true, zfn_eq] at hz
  obtain ⟨z1, z2, z3, z4⟩ := hz
  have z1 := Nat.le_of_ble_eq_true z1
  have z2 := Nat.le_of_ble_eq_true z2
  -- the counts
  have hcnt : ca + rc' ≤ (zrm k).cells ∧ sa + rs' ≤ (zrm k).slots ∧ zcs U.2.2.2.1 k (c + rc') (s + rs') (ca + rc') (sa + rs') ∧ zcs U.2.2.2.1 k' 0 0 0 0 ∧ (U.2.2.2.1 = false → ca + rc' = ca ∧ sa + rs' = sa) := by
    unfold zcs at hcs ⊢
    split at z3
    · rename_i hal
      rw [hal] at hcs
      simp only [Bool.and_eq_true] at z3
      have z5 := Nat.le_of_ble_eq_true z3.1
      have z6 := Nat.le_of_ble_eq_true z3.2
      obtain ⟨rfl, rfl⟩ := hcs
      exact ⟨z5, z6, by simp [hal], by simp [hal], fun q => by rw [hal] at q; cases q⟩
    · rename_i hal
      rw [hal] at hcs
      simp only [Bool.and_eq_true] at z3
      have z5 := Nat.eq_of_beq_eq_true z3.1
      have z6 := Nat.eq_of_beq_eq_true z3.2
      obtain ⟨rfl, rfl, g1, g2⟩ := hcs
      rw [z5, z6]
      refine ⟨g1, g2, ?_, ?_, fun _ => ⟨rfl, rfl⟩⟩
      · exact ⟨rfl, rfl, g1, g2⟩
      · exact ⟨rfl, rfl, Nat.zero_le _, Nat.zero_le _⟩
  obtain ⟨c1, c2, c3, c4, c5⟩ := hcnt
  have hN2 : top = true → zhN lk Lx xs η0 ρe hp0 U Rk k (zcn U.2.2.2.1 zcN (ca + rc')) (zcn U.2.2.2.1 zsN (sa + rs')) Q := fun ht => by
    have h1 := hN ht
    cases hal : U.2.2.2.1 with
    | true => rw [hal] at h1; exact h1
    | false =>
      rw [hal] at h1
      obtain ⟨h3, h4⟩ := c5 hal
      rw [h3, h4]
      exact h1
  -- behind the call
  have back : ∀ (r : List AV) (h' : AH) (G' : AG) (η2 : List Nat) (ρ2 : List Int) (rv : Option Value) (hp' : List zhE), rec false top k P nL Kr sfx (pc + 3) A (r ++ S) h' G' (c + rc') (s + rs') = true → zSt (η0, η) ρ hp0 U.1 h' G' η2 ρ2 hp' → zaS η2 ρ2 r rv.toList → zWP lk Lx xs k (pc + 3, L, rv.toList ++ st, hp', ca + rc', sa + rs') Q := by
    intro r h' G' η2 ρ2 rv hp' q1 q2 q3
    obtain ⟨⟨m2, e5⟩, ⟨l2, e6⟩, -⟩ := id q2
    have e5 : η2 = η ++ m2 := e5
    obtain ⟨l0, e7⟩ := hρ
    refine hrec _ _ _ _ _ _ _ _ _ _ _ _ _ _ q1 hk277 hP hnL hnP hsfx _ _ Q c3 hN2 η2 ρ2 L _ hp' ⟨l0 ++ l2, by rw [e6, e7, List.append_assoc]⟩ (zSt_now q2) ?_ (zAll_app q3 ?_) (zQk_from ⟨m2, e5⟩ ⟨l2, e6⟩ hQ)
    · rw [e5, e6]; exact zaL_mono hL
    · rw [e5, e6]; exact zaS_mono hs
  refine ⟨by rw [e2, zlg_len ha]; exact z1, by rw [zcsum_ok hs]; exact z2, by rw [e3]; exact c1, by rw [e4]; exact c2, ?_⟩
  rw [e3, e4]
  rcases zfct_ok z4 with z4 | ⟨C, hC1, hC2, z5⟩
  · obtain ⟨A', a1, a2, -⟩ := zargs_ok z4 ha
    refine ⟨fun rv hp' => ∃ (r : List AV) (h' : AH) (G' : AG) (η2 : List Nat) (ρ2 : List Int), rec false top k P nL Kr sfx (pc + 3) A (r ++ S) h' G' (c + rc') (s + rs') = true ∧ zSt (η0, η) ρ hp0 U.1 h' G' η2 ρ2 hp' ∧ zaS η2 ρ2 r rv.toList, ?_, ?_⟩
    · refine hrec _ _ _ _ _ _ _ _ _ _ _ _ _ _ a1 (by omega) e1.symm e2.symm (fun e he => by rw [← e1] at he; exact hnw k' (by omega) e he) (fun x hx => hx) 0 0 _ c4 (fun q => by cases q) η ρ _ [] hp hρ hS a2 trivial ?_
      intro r h' G' hk η2 ρ2 rv hp' q1 q2
      exact ⟨r, h', G', η2, ρ2, hk, q1, q2⟩
    · rintro rv hp' ⟨r, h', G', η2, ρ2, q1, q2, q3⟩
      exact back r h' G' η2 ρ2 rv hp' q1 q2 q3
  · subst hC2
    refine ⟨_, zct_ok (hCs C hC1) hn0 z5 hS ha, ?_⟩
    rintro rv hp' ⟨r, h', G', l, q1, q2, q3⟩
    exact back r h' G' _ _ rv hp' q1 q2 q3
set_option maxHeartbeats 4000000 in
theorem zrun_ok {Rk : Int → Prop} (hnw : znewOK) (hCs : ∀ C ∈ U.2.2.2.2.2.1, zHolds lk Lx xs C) (hn0 : U.2.1 = η0.length) (hU : zself U η0 ρe) (hρ : ∃ l, ρs = ρe ++ l) (hsc : U.2.2.1 = true → ρs[0]? = some (Lx : Int) ∧ Lx < 2 ^ 31)
    (hRk : match U.2.2.2.2.2.2.2.2 with | none => ∀ r : Int, 0 ≤ r → Rk r | some e => ∃ M, zxr ρs e M ∧ ∀ r : Int, 0 ≤ r → r < M → Rk r) : ∀ n, zRunOK lk Lx xs η0 ρe ρs hp0 U Rk (zrun U n) := by
  intro n
  induction n with
  | zero =>
    intro fresh top k P nL Kr sfx pc A S h G c s hz
    cases hz
  | succ n ih =>
    intro fresh top k P nL Kr sfx pc A S h G c s hz hk277 hP hnL hnP hsfx ca sa Q hcs hN η ρ L st hp hρ2 hS hL hs hQ
    unfold zrun at hz
    split at hz
    · rename_i htop
      rw [Bool.and_eq_true] at htop
      have hN1 := hN htop.1
      obtain ⟨l2, rfl⟩ := hρ2
      have hS1 := zSt_from (ηt := η) ⟨[], by simp⟩ ⟨l2, rfl⟩ hS
      split at hz
      · rename_i hal
        simp only [Bool.and_eq_true] at hz
        have e1 := Nat.eq_of_beq_eq_true hz.1
        have e2 := Nat.eq_of_beq_eq_true hz.2.1
        unfold zcs at hcs
        rw [hal] at hcs hN1
        obtain ⟨rfl, rfl⟩ := hcs
        rw [e1, e2]
        exact zgoN_ok hU hρ hRk hN1 hS1 hL hs (fun q hq => hq) hz.2.2
      · rename_i hal
        rw [hal] at hN1
        exact zgoN_ok hU hρ hRk hN1 hS1 hL hs (fun q hq => hq) hz
    · obtain ⟨⟨pc', i, a, b, v⟩, sfx', hin, hpc, hsfx', hz⟩ := zfetch_ok hsfx hz
      simp only at hpc hz
      subst hpc
      apply zWP.step
      have hin2 : ((pc', i, a, b, v) : zPE) ∈ (zrw k).1 := by rw [← hP]; exact hin
      have hsc2 : U.2.2.1 = true → ρ[0]? = some (Lx : Int) ∧ Lx < 2 ^ 31 := fun q => by
        obtain ⟨l2, rfl⟩ := hρ2
        have := hsc q
        exact ⟨by rw [List.getElem?_append_left (List.getElem?_eq_some_iff.mp this.1).1]; exact this.1, this.2⟩
      split at hz
      · rename_i hkk
        rw [Bool.and_eq_true, Bool.or_eq_true] at hz
        have hzz : ∃ K : ZK, zdo U.2.2.1 U.1 U.2.1 nL (zrm k) i a b v pc' A S h G ca sa K = true ∧ ∀ z : zCF, zone pc' L st hp ca sa Lx xs nL (zrm k) i a b v = some z → zNx (η0, η) ρ hp0 U.1 K z → zWP lk Lx xs k z Q := by
          have fin : ∀ (c1 s1 : Nat) (z : zCF), zcs U.2.2.2.1 k c1 s1 z.2.2.2.2.1 z.2.2.2.2.2 → (top = true → zhN lk Lx xs η0 ρe hp0 U Rk k (zcn U.2.2.2.1 zcN z.2.2.2.2.1) (zcn U.2.2.2.1 zsN z.2.2.2.2.2) Q) → ∀ (A : AL) (S : List AV) (h : AH) (G : AG) (η2 : List Nat) (ρ2 : List Int), zrun U n false top k P nL Kr sfx' z.1 A S h G c1 s1 = true → zSt (η0, η) ρ hp0 U.1 h G η2 ρ2 z.2.2.2.1 → zaL η2 ρ2 A z.2.1 → zaS η2 ρ2 S z.2.2.1 → zWP lk Lx xs k z Q := by
            intro c1 s1 z q1 q2 A S h G η2 ρ2 q3 q4 q5 q6
            obtain ⟨⟨m2, e5⟩, ⟨l2, e6⟩, -⟩ := id q4
            obtain ⟨l0, e7⟩ := hρ2
            exact ih _ _ _ _ _ _ _ _ _ _ _ _ _ _ q3 hk277 hP hnL hnP hsfx' _ _ Q q1 q2 η2 ρ2 _ _ _ ⟨l0 ++ l2, by rw [e6, e7, List.append_assoc]⟩ (zSt_now q4) q5 q6 (zQk_from ⟨m2, e5⟩ ⟨l2, e6⟩ hQ)
          cases hal : U.2.2.2.1 with
          | true =>
            unfold zcs at hcs
            rw [hal] at hcs
            obtain ⟨rfl, rfl⟩ := hcs
            refine ⟨_, hz.2, fun z hz1 hz2 => ?_⟩
            obtain ⟨A2, S2, h2, G2, η2, ρ2, q3, q4, q5, q6⟩ := hz2
            refine fin _ _ z (by unfold zcs; rw [hal]; exact ⟨rfl, rfl⟩) (fun ht => by have := hN ht; rw [hal] at this ⊢; exact this) A2 S2 h2 G2 η2 ρ2 q3 q4 q5 q6
          | false =>
            unfold zcs at hcs
            rw [hal] at hcs
            obtain ⟨rfl, rfl, g1, g2⟩ := hcs
            have hna : zna i = true := by
              rcases hz.1 with q | q
              · rw [hal] at q; cases q
              · exact q
            refine ⟨_, zdo_cs hna hz.2, fun z hz1 hz2 => ?_⟩
            obtain ⟨A2, S2, h2, G2, η2, ρ2, q3, q4, q5, q6⟩ := hz2
            obtain ⟨k1, k2⟩ := zone_cs hna hz1
            refine fin 0 0 z (by unfold zcs; rw [hal, k1, k2]; exact ⟨rfl, rfl, g1, g2⟩) (fun ht => by rw [k1, k2]; exact hN ht) A2 S2 h2 G2 η2 ρ2 q3 q4 q5 q6
        obtain ⟨K, z1, z2⟩ := hzz
        obtain ⟨z', z3, z4⟩ := zdo_ok (xs := xs) z1 hn0 hsc2 (fun x hx => hnP _ hin x hx) hS hL hs
        refine ⟨_, hin2, rfl, ?_⟩
        simp only [hkk]
        exact ⟨z', by rw [← hnL]; exact z3, z2 z' z3 z4⟩
      · rename_i hkk
        obtain ⟨as, S', vs, st', g1, g2, g3, g4, g5⟩ := zspl_ok (va := []) hz hs trivial
        split at g1
        · match st', g3 with
          | w :: st', g3 =>
            obtain ⟨j, x, h1, rfl, h2⟩ := zref_ok g1 g3.1
            obtain ⟨fs, fv, h3, h4, -⟩ := zobj_ok h2 hS.2.2.2.1 h1
            have es : st = vs.reverse ++ .ref x :: st' := g5
            refine ⟨_, hin2, rfl, ?_⟩
            simp only [hkk]
            exact ⟨vs, x, st', fv, es, by simpa using g4, h4, zgoC_ok ih hnw hCs hn0 h3 (zroom hk277 hin2 (Or.inl hkk)).2 hk277 hP hnL hnP hsfx' hcs hN hρ2 hS hL g3.2 (av := .ref x :: vs) ⟨g3.1, g2⟩ hQ⟩
          | [], g3 => exact g3.elim
        · cases g1
      · rename_i hkk
        obtain ⟨as, S', vs, st', g1, g2, g3, g4, g5⟩ := zspl_ok (va := []) hz hs trivial
        have es : st = vs.reverse ++ st' := g5
        refine ⟨_, hin2, rfl, ?_⟩
        simp only [hkk]
        exact ⟨vs, st', es, by simpa using g4, zgoC_ok ih hnw hCs hn0 g1 (zroom hk277 hin2 (Or.inr (Or.inl hkk))).2 hk277 hP hnL hnP hsfx' hcs hN hρ2 hS hL g3 g2 hQ⟩
      · rename_i hkk
        obtain ⟨as, S', vs, st', g1, g2, g3, g4, g5⟩ := zspl_ok (va := []) hz hs trivial
        split at g1
        · match st', g3 with
          | w :: st', g3 =>
            obtain ⟨j, x, h1, rfl, h2⟩ := zref_ok g1 g3.1
            have es : st = vs.reverse ++ .ref x :: st' := g5
            refine ⟨_, hin2, rfl, ?_⟩
            simp only [hkk]
            exact ⟨vs, x, st', es, by simpa using g4, zgoC_ok ih hnw hCs hn0 h2 (zroom hk277 hin2 (Or.inr (Or.inr hkk))).2 hk277 hP hnL hnP hsfx' hcs hN hρ2 hS hL g3.2 (av := .ref x :: vs) ⟨g3.1, g2⟩ hQ⟩
          | [], g3 => exact g3.elim
        · cases g1
      · rename_i hkk
        split at hz
        · match st, hs with
          | [w], hs =>
            obtain ⟨y, rfl, h1, hy⟩ := zgI_ok hz hs.1
            simp only [Bool.and_eq_true, Bool.or_eq_true] at h1
            obtain ⟨h2, h3, h4, h5⟩ := h1
            obtain ⟨k1, k2⟩ := zcs_le hcs (Nat.le_of_ble_eq_true h3) (Nat.le_of_ble_eq_true h4)
            refine ⟨_, hin2, rfl, ?_⟩
            simp only [hkk]
            refine ⟨k1, k2, y, rfl, ?_, hQ [_] h G h5 η ρ (some (.int y)) hp hS hs⟩
            rcases h2 with h2 | h2
            · exact Or.inl (Nat.eq_of_beq_eq_true h2)
            · obtain ⟨lo, hi, d1, d2, d3⟩ := zbd_at hS.2.2.1.2.1 h2 hy
              simp only [Bool.and_eq_true, zle_iff] at d1
              exact Or.inr (zb_01 (by omega) (by omega))
          | [], hs => exact hs.elim
          | _ :: _ :: _, hs => exact hs.2.elim
        · cases hz
      · rename_i hkk
        split at hz
        · match st, hs with
          | [w], hs =>
            obtain ⟨y, rfl, h1, hy⟩ := zgL_ok hz hs.1
            simp only [Bool.and_eq_true] at h1
            obtain ⟨h3, h4, h5⟩ := h1
            obtain ⟨k1, k2⟩ := zcs_le hcs (Nat.le_of_ble_eq_true h3) (Nat.le_of_ble_eq_true h4)
            refine ⟨_, hin2, rfl, ?_⟩
            simp only [hkk]
            exact ⟨k1, k2, y, rfl, hQ [_] h G h5 η ρ (some (.long y)) hp hS hs⟩
          | [], hs => exact hs.elim
          | _ :: _ :: _, hs => exact hs.2.elim
        · cases hz
      · rename_i hkk
        split at hz
        · match st, hs with
          | [], hs =>
            simp only [Bool.and_eq_true] at hz
            obtain ⟨h3, h4, h5⟩ := hz
            obtain ⟨k1, k2⟩ := zcs_le hcs (Nat.le_of_ble_eq_true h3) (Nat.le_of_ble_eq_true h4)
            refine ⟨_, hin2, rfl, ?_⟩
            simp only [hkk]
            exact ⟨k1, k2, trivial, hQ [] h G h5 η ρ none hp hS trivial⟩
          | _ :: _, hs => exact hs.elim
        · cases hz
      · cases hz
end ZRUN
