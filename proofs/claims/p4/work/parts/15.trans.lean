/-! abstract instructions -/
abbrev ZK : Type := Nat → AL → List AV → AH → AG → Nat → Nat → Bool
/-- the cells at a start: of the run, of the frame -/
abbrev ZN : Type := List Nat × List Nat
section ZTR
variable {η0 : ZN} {ρ0 : List Int} {hp0 : List zhE} {W : List Nat} {Lx : Nat} {xs : Nat → Int32} {nL : Nat} {R : Room} {K : ZK}
variable {pc : Nat} {A : AL} {S : List AV} {h : AH} {G : AG} {c s : Nat} {η : List Nat} {ρ : List Int} {L : zL} {st : List Value} {hp : List zhE}
/-- what stays from a start on -/
def zfm (η0 : ZN) (hp0 : List zhE) (W : List Nat) (η : List Nat) (hp : List zhE) : Prop := hp0.length ≤ hp.length ∧ (∀ (i x : Nat), η0.1.length ≤ i → η[i]? = some x → hp0.length ≤ x) ∧ (∀ i, i < hp0.length → (∀ w ∈ W, η0.1[w]? ≠ some i) → hp[i]? = hp0[i]?) ∧ ∃ m, η = η0.1 ++ m
def zSt (η0 : ZN) (ρ0 : List Int) (hp0 : List zhE) (W : List Nat) (h : AH) (G : AG) (η : List Nat) (ρ : List Int) (hp : List zhE) : Prop :=
  (∃ m, η = η0.2 ++ m) ∧ (∃ l, ρ = ρ0 ++ l) ∧ zaG ρ G ∧ zaH η ρ h hp ∧ zaO η G.2.2.2.2 hp ∧ zfm η0 hp0 W η hp
/-- the next frame is one that K says is good -/
def zNx (η0 : ZN) (ρ0 : List Int) (hp0 : List zhE) (W : List Nat) (K : ZK) (z : zCF) : Prop :=
  ∃ (A : AL) (S : List AV) (h : AH) (G : AG) (η : List Nat) (ρ : List Int), K z.1 A S h G z.2.2.2.2.1 z.2.2.2.2.2 = true ∧ zSt η0 ρ0 hp0 W h G η ρ z.2.2.2.1 ∧ zaL η ρ A z.2.1 ∧ zaS η ρ S z.2.2.1
theorem zSt.grow {l : List Int} {G' : AG} (hS : zSt η0 ρ0 hp0 W h G η ρ hp) (hG : zaG (ρ ++ l) G') (ho : G'.2.2.2.2 = G.2.2.2.2) : zSt η0 ρ0 hp0 W h G' η (ρ ++ l) hp := by
  obtain ⟨h1, ⟨l0, h2⟩, h3, h4, h5, h6⟩ := hS
  exact ⟨h1, ⟨l0 ++ l, by rw [h2, List.append_assoc]⟩, hG, zaH_mono1 h4, by rw [ho]; exact h5, h6⟩
theorem zSt.same {G' : AG} (hS : zSt η0 ρ0 hp0 W h G η ρ hp) (hG : zaG ρ G') (ho : G'.2.2.2.2 = G.2.2.2.2) : zSt η0 ρ0 hp0 W h G' η ρ hp := by
  have := hS.grow (l := []) (by rw [List.append_nil]; exact hG) ho
  rwa [List.append_nil] at this
theorem zNx_push {n : Nat} {v : Value} (hS : zSt η0 ρ0 hp0 W h G η ρ hp) (hL : zaL η ρ A L) (hs : zaS η ρ S st) (hr : zrs η ρ G (fun r G => zfn (pc + n) (fun pc => K pc A (r :: S) h G c s)) v) : zNx η0 ρ0 hp0 W K (pc + n, L, v :: st, hp, c, s) := by
  obtain ⟨l, r, G', h1, h2, h3, h4⟩ := hr
  simp only [zfn_eq] at h1
  exact ⟨A, r :: S, h, G', η, ρ ++ l, h1, hS.grow h2 h4, zaL_mono1 hL, ⟨h3, zaS_mono1 hs⟩⟩
theorem zNx_go {n : Nat} {S' : List AV} {st' : List Value} {A' : AL} {L' : zL} (hS : zSt η0 ρ0 hp0 W h G η ρ hp) (hL : zaL η ρ A' L') (hk : zfn (pc + n) (fun pc => K pc A' S' h G c s) = true) (hs : zaS η ρ S' st') : zNx η0 ρ0 hp0 W K (pc + n, L', st', hp, c, s) := by
  rw [zfn_eq] at hk
  exact ⟨A', S', h, G, η, ρ, hk, hS, hL, hs⟩
def zo_cI (n : Nat) (x : Int32) (pc : Nat) (A : AL) (S : List AV) (h : AH) (G : AG) (c s : Nat) (K : ZK) : Bool := zfi x.toInt (fun x => zfn (pc + n) (fun pc => K pc A ((0, (x, [])) :: S) h G c s))
def zo_cL (n : Nat) (x : Int64) (pc : Nat) (A : AL) (S : List AV) (h : AH) (G : AG) (c s : Nat) (K : ZK) : Bool := zfi x.toInt (fun x => zfn (pc + n) (fun pc => K pc A ((1, (x, [])) :: S) h G c s))
theorem zn_cI {n : Nat} {x : Int32} (hz : zo_cI n x pc A S h G c s K = true) (hS : zSt η0 ρ0 hp0 W h G η ρ hp) (hL : zaL η ρ A L) (hs : zaS η ρ S st) : zNx η0 ρ0 hp0 W K (pc + n, L, .int x :: st, hp, c, s) := by
  unfold zo_cI at hz
  rw [zfi_eq] at hz
  exact zNx_go hS hL hz ⟨⟨x, rfl, zxr_c _ _⟩, hs⟩
theorem zn_cL {n : Nat} {x : Int64} (hz : zo_cL n x pc A S h G c s K = true) (hS : zSt η0 ρ0 hp0 W h G η ρ hp) (hL : zaL η ρ A L) (hs : zaS η ρ S st) : zNx η0 ρ0 hp0 W K (pc + n, L, .long x :: st, hp, c, s) := by
  unfold zo_cL at hz
  rw [zfi_eq] at hz
  exact zNx_go hS hL hz ⟨⟨x, rfl, zxr_c _ _⟩, hs⟩
def zo_bin (F : ZF2) (pc : Nat) (A : AL) (S : List AV) (h : AH) (G : AG) (c s : Nat) (K : ZK) : Bool := match S with
  | y :: x :: S => zgI x (fun ex => zgI y (fun ey => F G ex ey (fun r G => zfn (pc + 1) (fun pc => K pc A (r :: S) h G c s))))
  | _ => false
def zo_binL (F : ZF2) (pc : Nat) (A : AL) (S : List AV) (h : AH) (G : AG) (c s : Nat) (K : ZK) : Bool := match S with
  | y :: x :: S => zgL x (fun ex => zgL y (fun ey => F G ex ey (fun r G => zfn (pc + 1) (fun pc => K pc A (r :: S) h G c s))))
  | _ => false
theorem zn_bin {F : ZF2} {op : Int32 → Int32 → Int32} (hF : zO2 F op) (hz : zo_bin F pc A S h G c s K = true) (hS : zSt η0 ρ0 hp0 W h G η ρ hp) (hL : zaL η ρ A L) (hs : zaS η ρ S st) : ∃ z, zI2 pc L st hp c s op = some z ∧ zNx η0 ρ0 hp0 W K z := by
  unfold zo_bin at hz
  split at hz
  · match st, hs with
    | w :: v :: st, hs =>
      obtain ⟨x, rfl, h1, hx⟩ := zgI_ok hz hs.2.1
      obtain ⟨y, rfl, h2, hy⟩ := zgI_ok h1 hs.1
      exact ⟨_, rfl, zNx_push hS hL hs.2.2 (hF η ρ G _ _ _ x y h2 hS.2.2.1 hx hy)⟩
    | [], hs => exact hs.elim
    | [_], hs => exact hs.2.elim
  · cases hz
theorem zn_binL {F : ZF2} {op : Int64 → Int64 → Int64} (hF : zO2L F op) (hz : zo_binL F pc A S h G c s K = true) (hS : zSt η0 ρ0 hp0 W h G η ρ hp) (hL : zaL η ρ A L) (hs : zaS η ρ S st) : ∃ z, zL2 pc L st hp c s op = some z ∧ zNx η0 ρ0 hp0 W K z := by
  unfold zo_binL at hz
  split at hz
  · match st, hs with
    | w :: v :: st, hs =>
      obtain ⟨x, rfl, h1, hx⟩ := zgL_ok hz hs.2.1
      obtain ⟨y, rfl, h2, hy⟩ := zgL_ok h1 hs.1
      exact ⟨_, rfl, zNx_push hS hL hs.2.2 (hF η ρ G _ _ _ x y h2 hS.2.2.1 hx hy)⟩
    | [], hs => exact hs.elim
    | [_], hs => exact hs.2.elim
  · cases hz
def zo_lsh (pc : Nat) (A : AL) (S : List AV) (h : AH) (G : AG) (c s : Nat) (K : ZK) : Bool := match S with
  | y :: x :: S => zgL x (fun _ => zgI y (fun _ => ztopL G (fun r G => zfn (pc + 1) (fun pc => K pc A (r :: S) h G c s))))
  | _ => false
theorem zn_lsh {op : Int64 → Int32 → Int64} (hz : zo_lsh pc A S h G c s K = true) (hS : zSt η0 ρ0 hp0 W h G η ρ hp) (hL : zaL η ρ A L) (hs : zaS η ρ S st) : ∃ z, zLS pc L st hp c s op = some z ∧ zNx η0 ρ0 hp0 W K z := by
  unfold zo_lsh at hz
  split at hz
  · match st, hs with
    | w :: v :: st, hs =>
      obtain ⟨x, rfl, h1, hx⟩ := zgL_ok hz hs.2.1
      obtain ⟨y, rfl, h2, hy⟩ := zgI_ok h1 hs.1
      exact ⟨_, rfl, zNx_push hS hL hs.2.2 (ztopL_ok h2 hS.2.2.1)⟩
    | [], hs => exact hs.elim
    | [_], hs => exact hs.2.elim
  · cases hz
def zo_div (F : ZF2) (pc : Nat) (A : AL) (S : List AV) (h : AH) (G : AG) (c s : Nat) (K : ZK) : Bool := match S with
  | y :: x :: S => zgI x (fun ex => zgI y (fun ey => znz G ey && F G ex ey (fun r G => zfn (pc + 1) (fun pc => K pc A (r :: S) h G c s))))
  | _ => false
theorem zn_div {F : ZF2} {op : Int32 → Int32 → Int32} (hF : zO2 F op) (hz : zo_div F pc A S h G c s K = true) (hS : zSt η0 ρ0 hp0 W h G η ρ hp) (hL : zaL η ρ A L) (hs : zaS η ρ S st) : ∃ z, zDI pc L st hp c s op = some z ∧ zNx η0 ρ0 hp0 W K z := by
  unfold zo_div at hz
  split at hz
  · match st, hs with
    | w :: v :: st, hs =>
      obtain ⟨x, rfl, h1, hx⟩ := zgI_ok hz hs.2.1
      obtain ⟨y, rfl, h2, hy⟩ := zgI_ok h1 hs.1
      rw [Bool.and_eq_true] at h2
      have hne := znz_ok h2.1 hS.2.2.1 hy
      have hy0 : decide (y = 0) = false := decide_eq_false (fun e => hne (by rw [e]; rfl))
      refine ⟨_, ?_, zNx_push hS hL hs.2.2 (hF η ρ G _ _ _ x y h2.2 hS.2.2.1 hx hy)⟩
      simp only [zDI, hy0]
    | [], hs => exact hs.elim
    | [_], hs => exact hs.2.elim
  · cases hz
def zo_ldiv (pc : Nat) (A : AL) (S : List AV) (h : AH) (G : AG) (c s : Nat) (K : ZK) : Bool := match S with
  | y :: x :: S => zgL x (fun _ => zgL y (fun ey => znz G ey && ztopL G (fun r G => zfn (pc + 1) (fun pc => K pc A (r :: S) h G c s))))
  | _ => false
theorem zn_ldiv (hz : zo_ldiv pc A S h G c s K = true) (hS : zSt η0 ρ0 hp0 W h G η ρ hp) (hL : zaL η ρ A L) (hs : zaS η ρ S st) : ∃ z, (match st with | .long y :: .long x :: st => (match decide (y = 0) with | true => none | false => some (pc + 1, L, .long (x / y) :: st, hp, c, s)) | _ => (none : Option zCF)) = some z ∧ zNx η0 ρ0 hp0 W K z := by
  unfold zo_ldiv at hz
  split at hz
  · match st, hs with
    | w :: v :: st, hs =>
      obtain ⟨x, rfl, h1, hx⟩ := zgL_ok hz hs.2.1
      obtain ⟨y, rfl, h2, hy⟩ := zgL_ok h1 hs.1
      rw [Bool.and_eq_true] at h2
      have hne := znz_ok h2.1 hS.2.2.1 hy
      have hy0 : decide (y = 0) = false := decide_eq_false (fun e => hne (by rw [e]; rfl))
      refine ⟨(pc + 1, L, .long (x / y) :: st, hp, c, s), ?_, zNx_push hS hL hs.2.2 (ztopL_ok h2.2 hS.2.2.1)⟩
      simp only [hy0]
    | [], hs => exact hs.elim
    | [_], hs => exact hs.2.elim
  · cases hz
/-- one operand -/
def zo_un (F : AG → AV → (AV → AG → Bool) → Bool) (pc : Nat) (A : AL) (S : List AV) (h : AH) (G : AG) (c s : Nat) (K : ZK) : Bool := match S with
  | x :: S => F G x (fun r G => zfn (pc + 1) (fun pc => K pc A (r :: S) h G c s))
  | _ => false
def zu_neg (G : AG) (a : AV) (k : AV → AG → Bool) : Bool := zgI a (fun e => zxscl (-1) e (fun e => zexI G e k))
/-- the other long, where it may be too great: what isn't 0 stays so -/
def zu_lneg (G : AG) (a : AV) (k : AV → AG → Bool) : Bool := zgL a (fun e0 => match znz G e0 with
  | true => zxscl (-1) e0 (fun e => zbd G.2.1 e (fun lo hi => match zle (-9223372036854775808) lo && zle hi 9223372036854775807 with
    | true => k (1, e) G
    | false => zfr G (-9223372036854775808) 9223372036854775807 (fun s G => k (1, s) (G.1, G.2.1, G.2.2.1, s :: G.2.2.2.1, G.2.2.2.2))))
  | false => zxscl (-1) e0 (fun e => zexL G e k))
def zu_i2b (G : AG) (a : AV) (k : AV → AG → Bool) : Bool := zgI a (fun e => zbd G.2.1 e (fun lo hi => match zle (-128) lo && zle hi 127 with
  | true => k (0, e) G
  | false => zspI G (-128) 127 k))
def zu_i2l (G : AG) (a : AV) (k : AV → AG → Bool) : Bool := zgI a (fun e => k (1, e) G)
def zu_l2i (G : AG) (a : AV) (k : AV → AG → Bool) : Bool := zgL a (fun e => zexI G e k)
theorem zu_neg_ok {a : AV} {k : AV → AG → Bool} {v : Value} (hz : zu_neg G a k = true) (hG : zaG ρ G) (ha : zav η ρ a v) : ∃ x, v = .int x ∧ zrs η ρ G k (.int (-x)) := by
  obtain ⟨x, rfl, h1, hx⟩ := zgI_ok hz ha
  obtain ⟨e, h2, h3⟩ := zxscl_ok h1 hx
  refine ⟨x, rfl, zexI_ok h2 hG h3 (fun q1 q2 => ?_)⟩
  rw [Int32.toInt_neg, Int.bmod_eq_of_le (by omega) (by omega)]
  omega
theorem zu_lneg_ok {a : AV} {k : AV → AG → Bool} {v : Value} (hz : zu_lneg G a k = true) (hG : zaG ρ G) (ha : zav η ρ a v) : ∃ x, v = .long x ∧ zrs η ρ G k (.long (-x)) := by
  obtain ⟨x, rfl, h1, hx⟩ := zgL_ok hz ha
  have key : ∀ z : Int, z = -1 * x.toInt → -9223372036854775808 ≤ z → z ≤ 9223372036854775807 → (-x).toInt = z := fun z e q1 q2 => by
    rw [Int64.toInt_neg, Int.bmod_eq_of_le (by omega) (by omega)]
    omega
  split at h1
  · rename_i hc
    have hne := znz_ok hc hG hx
    obtain ⟨e, h2, h3⟩ := zxscl_ok h1 hx
    obtain ⟨lo, hi, h4, h5, h6⟩ := zbd_at hG.2.1 h2 h3
    split at h4
    · rename_i hb
      simp only [Bool.and_eq_true, zle_iff] at hb
      exact ⟨x, rfl, zrs_id h4 hG ⟨-x, rfl, by rw [key _ rfl (by omega) (by omega)]; exact h3⟩⟩
    · obtain ⟨s, G', g1, g2, g3, g4⟩ := zfr_ok h4 hG (zb_rngL (-x)).1 (zb_rngL (-x)).2
      refine ⟨x, rfl, _, _, _, g1, ⟨g2.1, g2.2.1, g2.2.2.1, fun f hf => ?_⟩, ⟨-x, rfl, g3⟩, g4⟩
      rcases List.mem_cons.mp hf with rfl | hf
      · refine ⟨_, g3, fun e0 => hne ?_⟩
        rw [Int64.toInt_neg] at e0
        have r1 := (zb_rngL x).1
        have r2 := (zb_rngL x).2
        by_cases em : x.toInt = -9223372036854775808
        · rw [em] at e0
          exact absurd e0 (by decide)
        · rw [Int.bmod_eq_of_le (by omega) (by omega)] at e0
          omega
      · exact g2.2.2.2 f hf
  · obtain ⟨e, h2, h3⟩ := zxscl_ok h1 hx
    exact ⟨x, rfl, zexL_ok h2 hG h3 (fun q1 q2 => key _ rfl q1 q2)⟩
theorem zb_byte {x : Int32} (h1 : -128 ≤ x.toInt) (h2 : x.toInt ≤ 127) : x.toInt8.toInt32 = x := by
  apply Int32.toInt_inj.1
  rw [Int8.toInt_toInt32, Int32.toInt_toInt8, Int.bmod_eq_of_le (by omega) (by omega)]
theorem zb_byteR (x : Int32) : -128 ≤ x.toInt8.toInt32.toInt ∧ x.toInt8.toInt32.toInt ≤ 127 := by
  rw [Int8.toInt_toInt32]
  have h1 := Int8.le_toInt x.toInt8
  have h2 := Int8.toInt_lt x.toInt8
  omega
theorem zu_i2b_ok {a : AV} {k : AV → AG → Bool} {v : Value} (hz : zu_i2b G a k = true) (hG : zaG ρ G) (ha : zav η ρ a v) : ∃ x, v = .int x ∧ zrs η ρ G k (.int x.toInt8.toInt32) := by
  obtain ⟨x, rfl, h1, hx⟩ := zgI_ok hz ha
  obtain ⟨lo, hi, h2, h3, h4⟩ := zbd_at hG.2.1 h1 hx
  split at h2
  · rename_i hc
    simp only [Bool.and_eq_true, zle_iff] at hc
    refine ⟨x, rfl, ?_⟩
    rw [zb_byte (by omega) (by omega)]
    exact zrs_id h2 hG ⟨x, rfl, hx⟩
  · exact ⟨x, rfl, zspI_ok h2 hG (zb_byteR x).1 (zb_byteR x).2⟩
theorem zu_i2l_ok {a : AV} {k : AV → AG → Bool} {v : Value} (hz : zu_i2l G a k = true) (hG : zaG ρ G) (ha : zav η ρ a v) : ∃ x, v = .int x ∧ zrs η ρ G k (.long x.toInt64) := by
  obtain ⟨x, rfl, h1, hx⟩ := zgI_ok hz ha
  exact ⟨x, rfl, zrs_id h1 hG ⟨_, rfl, by rw [Int32.toInt_toInt64]; exact hx⟩⟩
theorem zu_l2i_ok {a : AV} {k : AV → AG → Bool} {v : Value} (hz : zu_l2i G a k = true) (hG : zaG ρ G) (ha : zav η ρ a v) : ∃ x, v = .long x ∧ zrs η ρ G k (.int x.toInt32) := by
  obtain ⟨x, rfl, h1, hx⟩ := zgL_ok hz ha
  exact ⟨x, rfl, zexI_ok h1 hG hx (fun q1 q2 => by rw [Int64.toInt_toInt32, Int.bmod_eq_of_le (by omega) (by omega)])⟩
def zo_lcmp (pc : Nat) (A : AL) (S : List AV) (h : AH) (G : AG) (c s : Nat) (K : ZK) : Bool := match S with
  | y :: x :: S => zgL x (fun ex => zgL y (fun ey => zxsub ex ey (fun d => zfn (pc + 1) (fun pc => K pc A ((6, d) :: S) h G c s))))
  | _ => false
theorem zb_cmp (x y : Int64) : (x.toInt - y.toInt < 0 → (lg_cmp x y).toInt = -1) ∧ (x.toInt - y.toInt = 0 → (lg_cmp x y).toInt = 0) ∧ (0 < x.toInt - y.toInt → (lg_cmp x y).toInt = 1) := by
  have h1 : (y < x) ↔ y.toInt < x.toInt := Int64.lt_iff_toInt_lt
  refine ⟨fun h => ?_, fun h => ?_, fun h => ?_⟩
  · have h2 : ¬ y < x := by rw [h1]; omega
    have h3 : ¬ x = y := by intro e; subst e; omega
    simp [lg_cmp, h2, h3]
  · have : x = y := Int64.toInt_inj.1 (by omega)
    subst this
    simp [lg_cmp]
  · have h2 : y < x := by rw [h1]; omega
    simp [lg_cmp, h2]
theorem zn_lcmp (hz : zo_lcmp pc A S h G c s K = true) (hS : zSt η0 ρ0 hp0 W h G η ρ hp) (hL : zaL η ρ A L) (hs : zaS η ρ S st) : ∃ z, (match st with | .long y :: .long x :: st => some (pc + 1, L, .int (lg_cmp x y) :: st, hp, c, s) | _ => (none : Option zCF)) = some z ∧ zNx η0 ρ0 hp0 W K z := by
  unfold zo_lcmp at hz
  split at hz
  · match st, hs with
    | w :: v :: st, hs =>
      obtain ⟨x, rfl, h1, hx⟩ := zgL_ok hz hs.2.1
      obtain ⟨y, rfl, h2, hy⟩ := zgL_ok h1 hs.1
      obtain ⟨d, h3, h4⟩ := zxsub_ok h2 hx hy
      obtain ⟨b1, b2, b3⟩ := zb_cmp x y
      exact ⟨_, rfl, zNx_go hS hL h3 ⟨⟨_, _, rfl, h4, b1, b2, b3⟩, hs.2.2⟩⟩
    | [], hs => exact hs.elim
    | [_], hs => exact hs.2.elim
  · cases hz
def zo_dup (pc : Nat) (A : AL) (S : List AV) (h : AH) (G : AG) (c s : Nat) (K : ZK) : Bool := match S with
  | x :: S => (match Nat.beq (zcat x) 1 with | true => zfn (pc + 1) (fun pc => K pc A (x :: x :: S) h G c s) | false => false)
  | _ => false
theorem zn_dup (hz : zo_dup pc A S h G c s K = true) (hS : zSt η0 ρ0 hp0 W h G η ρ hp) (hL : zaL η ρ A L) (hs : zaS η ρ S st) : ∃ z, (match st with | v :: st => (match Nat.beq v.category 1 with | true => some (pc + 1, L, v :: v :: st, hp, c, s) | false => none) | _ => (none : Option zCF)) = some z ∧ zNx η0 ρ0 hp0 W K z := by
  unfold zo_dup at hz
  split at hz
  · split at hz
    · rename_i hc
      match st, hs with
      | v :: st, hs =>
        have e := zcat_ok hs.1
        exact ⟨(pc + 1, L, v :: v :: st, hp, c, s), by simp only [e, hc], zNx_go hS hL hz ⟨hs.1, hs⟩⟩
      | [], hs => exact hs.elim
    · cases hz
  · cases hz
def zo_dup2 (pc : Nat) (A : AL) (S : List AV) (h : AH) (G : AG) (c s : Nat) (K : ZK) : Bool := match S with
  | x :: y :: S => (match Nat.beq (zcat x) 1 && Nat.beq (zcat y) 1 with | true => zfn (pc + 1) (fun pc => K pc A (x :: y :: x :: y :: S) h G c s) | false => false)
  | _ => false
theorem zn_dup2 (hz : zo_dup2 pc A S h G c s K = true) (hS : zSt η0 ρ0 hp0 W h G η ρ hp) (hL : zaL η ρ A L) (hs : zaS η ρ S st) : ∃ z, (match st with | v :: w :: st => (match Nat.beq v.category 1 && Nat.beq w.category 1 with | true => some (pc + 1, L, v :: w :: v :: w :: st, hp, c, s) | false => none) | _ => (none : Option zCF)) = some z ∧ zNx η0 ρ0 hp0 W K z := by
  unfold zo_dup2 at hz
  split at hz
  · split at hz
    · rename_i hc
      match st, hs with
      | v :: w :: st, hs =>
        have e1 := zcat_ok hs.1
        have e2 := zcat_ok hs.2.1
        exact ⟨(pc + 1, L, v :: w :: v :: w :: st, hp, c, s), by simp only [e1, e2, hc], zNx_go hS hL hz ⟨hs.1, hs.2.1, hs⟩⟩
      | [], hs => exact hs.elim
      | [_], hs => exact hs.2.elim
    · cases hz
  · cases hz
def zo_pop (pc : Nat) (A : AL) (S : List AV) (h : AH) (G : AG) (c s : Nat) (K : ZK) : Bool := match S with
  | x :: S => (match Nat.beq (zcat x) 1 with | true => zfn (pc + 1) (fun pc => K pc A S h G c s) | false => false)
  | _ => false
theorem zn_pop (hz : zo_pop pc A S h G c s K = true) (hS : zSt η0 ρ0 hp0 W h G η ρ hp) (hL : zaL η ρ A L) (hs : zaS η ρ S st) : ∃ z, (match st with | v :: st => (match Nat.beq v.category 1 with | true => some (pc + 1, L, st, hp, c, s) | false => none) | _ => (none : Option zCF)) = some z ∧ zNx η0 ρ0 hp0 W K z := by
  unfold zo_pop at hz
  split at hz
  · split at hz
    · rename_i hc
      match st, hs with
      | v :: st, hs =>
        have e := zcat_ok hs.1
        exact ⟨(pc + 1, L, st, hp, c, s), by simp only [e, hc], zNx_go hS hL hz hs.2⟩
      | [], hs => exact hs.elim
    · cases hz
  · cases hz
def zo_pop2 (pc : Nat) (A : AL) (S : List AV) (h : AH) (G : AG) (c s : Nat) (K : ZK) : Bool := match S with
  | x :: S => zgL x (fun _ => zfn (pc + 1) (fun pc => K pc A S h G c s))
  | _ => false
theorem zn_pop2 (hz : zo_pop2 pc A S h G c s K = true) (hS : zSt η0 ρ0 hp0 W h G η ρ hp) (hL : zaL η ρ A L) (hs : zaS η ρ S st) : ∃ z, (match st with | .long _ :: st => some (pc + 1, L, st, hp, c, s) | _ => (none : Option zCF)) = some z ∧ zNx η0 ρ0 hp0 W K z := by
  unfold zo_pop2 at hz
  split at hz
  · match st, hs with
    | v :: st, hs =>
      obtain ⟨x, rfl, h1, hx⟩ := zgL_ok hz hs.1
      exact ⟨_, rfl, zNx_go hS hL h1 hs.2⟩
    | [], hs => exact hs.elim
  · cases hz
-- loads and stores
def zo_ldI (n i : Nat) (pc : Nat) (A : AL) (S : List AV) (h : AH) (G : AG) (c s : Nat) (K : ZK) : Bool := zal A i (fun a => zgI a (fun _ => zfn (pc + n) (fun pc => K pc A (a :: S) h G c s)))
theorem zn_ldI {n i : Nat} (hz : zo_ldI n i pc A S h G c s K = true) (hS : zSt η0 ρ0 hp0 W h G η ρ hp) (hL : zaL η ρ A L) (hs : zaS η ρ S st) : ∃ z, zldI pc L st hp c s n i = some z ∧ zNx η0 ρ0 hp0 W K z := by
  obtain ⟨a, v, h1, h2, h3⟩ := zal_ok hz hL
  obtain ⟨x, rfl, h4, hx⟩ := zgI_ok h1 h3
  exact ⟨(pc + n, L, .int x :: st, hp, c, s), by unfold zldI; rw [h2], zNx_go hS hL h4 ⟨h3, hs⟩⟩
def zo_ldL (n i : Nat) (pc : Nat) (A : AL) (S : List AV) (h : AH) (G : AG) (c s : Nat) (K : ZK) : Bool := zal A i (fun a => zgL a (fun _ => zfn (pc + n) (fun pc => K pc A (a :: S) h G c s)))
theorem zn_ldL {n i : Nat} (hz : zo_ldL n i pc A S h G c s K = true) (hS : zSt η0 ρ0 hp0 W h G η ρ hp) (hL : zaL η ρ A L) (hs : zaS η ρ S st) : ∃ z, zldL pc L st hp c s n i = some z ∧ zNx η0 ρ0 hp0 W K z := by
  obtain ⟨a, v, h1, h2, h3⟩ := zal_ok hz hL
  obtain ⟨x, rfl, h4, hx⟩ := zgL_ok h1 h3
  exact ⟨(pc + n, L, .long x :: st, hp, c, s), by unfold zldL; rw [h2], zNx_go hS hL h4 ⟨h3, hs⟩⟩
def zrfn (a : AV) : Bool := match a.1 with
  | 2 => true
  | 4 => true
  | _ => false
theorem zrfn_ok {a : AV} {v : Value} (h : zrfn a = true) (ha : zav η ρ a v) : (∃ x, v = .ref x) ∨ v = .float 0 := by
  obtain ⟨t, e⟩ := a
  unfold zrfn at h
  split at h
  · rename_i q
    simp only at q
    subst q
    obtain ⟨i, h1, h2⟩ := ha
    exact Or.inl ⟨i, h2⟩
  · rename_i q
    simp only at q
    subst q
    exact Or.inr ha
  · cases h
def zo_ldA (n i : Nat) (pc : Nat) (A : AL) (S : List AV) (h : AH) (G : AG) (c s : Nat) (K : ZK) : Bool := zal A i (fun a => match zrfn a with | true => zfn (pc + n) (fun pc => K pc A (a :: S) h G c s) | false => false)
theorem zn_ldA {n i : Nat} (hz : zo_ldA n i pc A S h G c s K = true) (hS : zSt η0 ρ0 hp0 W h G η ρ hp) (hL : zaL η ρ A L) (hs : zaS η ρ S st) : ∃ z, zldA pc L st hp c s n i = some z ∧ zNx η0 ρ0 hp0 W K z := by
  obtain ⟨a, v, h1, h2, h3⟩ := zal_ok hz hL
  split at h1
  · rename_i hc
    rcases zrfn_ok hc h3 with ⟨x, rfl⟩ | rfl
    · exact ⟨(pc + n, L, .ref x :: st, hp, c, s), by unfold zldA; rw [h2], zNx_go hS hL h1 ⟨h3, hs⟩⟩
    · exact ⟨(pc + n, L, .float 0 :: st, hp, c, s), by unfold zldA; rw [h2], zNx_go hS hL h1 ⟨h3, hs⟩⟩
  · cases h1
def zo_stI (n i nL : Nat) (pc : Nat) (A : AL) (S : List AV) (h : AH) (G : AG) (c s : Nat) (K : ZK) : Bool := match S with
  | a :: S => (match Nat.ble (i + 1) nL with | true => zgI a (fun _ => zst1 A i a (fun A => zfn (pc + n) (fun pc => K pc A S h G c s))) | false => false)
  | _ => false
theorem zn_stI {n i : Nat} (hz : zo_stI n i nL pc A S h G c s K = true) (hS : zSt η0 ρ0 hp0 W h G η ρ hp) (hL : zaL η ρ A L) (hs : zaS η ρ S st) : ∃ z, zstI pc L st hp c s n i nL = some z ∧ zNx η0 ρ0 hp0 W K z := by
  unfold zo_stI at hz
  split at hz
  · split at hz
    · rename_i hc
      match st, hs with
      | v :: st, hs =>
        obtain ⟨x, rfl, h1, hx⟩ := zgI_ok hz hs.1
        obtain ⟨A', h2, h3⟩ := zst1_ok h1 hL hs.1
        exact ⟨_, by simp only [zstI, hc], zNx_go hS h3 h2 hs.2⟩
      | [], hs => exact hs.elim
    · cases hz
  · cases hz
def zo_stL (n i nL : Nat) (pc : Nat) (A : AL) (S : List AV) (h : AH) (G : AG) (c s : Nat) (K : ZK) : Bool := match S with
  | a :: S => (match Nat.ble (i + 2) nL with | true => zgL a (fun _ => zst2 A i a (fun A => zfn (pc + n) (fun pc => K pc A S h G c s))) | false => false)
  | _ => false
theorem zn_stL {n i : Nat} (hz : zo_stL n i nL pc A S h G c s K = true) (hS : zSt η0 ρ0 hp0 W h G η ρ hp) (hL : zaL η ρ A L) (hs : zaS η ρ S st) : ∃ z, zstL pc L st hp c s n i nL = some z ∧ zNx η0 ρ0 hp0 W K z := by
  unfold zo_stL at hz
  split at hz
  · split at hz
    · rename_i hc
      match st, hs with
      | v :: st, hs =>
        obtain ⟨x, rfl, h1, hx⟩ := zgL_ok hz hs.1
        obtain ⟨A', h2, h3⟩ := zst2_ok h1 hL hs.1
        exact ⟨_, by simp only [zstL, hc], zNx_go hS h3 h2 hs.2⟩
      | [], hs => exact hs.elim
    · cases hz
  · cases hz
def zo_stA (n i nL : Nat) (pc : Nat) (A : AL) (S : List AV) (h : AH) (G : AG) (c s : Nat) (K : ZK) : Bool := match S with
  | a :: S => (match Nat.ble (i + 1) nL && zrfn a with | true => zst1 A i a (fun A => zfn (pc + n) (fun pc => K pc A S h G c s)) | false => false)
  | _ => false
theorem zn_stA {n i : Nat} (hz : zo_stA n i nL pc A S h G c s K = true) (hS : zSt η0 ρ0 hp0 W h G η ρ hp) (hL : zaL η ρ A L) (hs : zaS η ρ S st) : ∃ z, zstA pc L st hp c s n i nL = some z ∧ zNx η0 ρ0 hp0 W K z := by
  unfold zo_stA at hz
  split at hz
  · split at hz
    · rename_i hc
      rw [Bool.and_eq_true] at hc
      match st, hs with
      | v :: st, hs =>
        obtain ⟨A', h2, h3⟩ := zst1_ok hz hL hs.1
        rcases zrfn_ok hc.2 hs.1 with ⟨x, rfl⟩ | rfl
        · exact ⟨_, by simp only [zstA, hc.1], zNx_go hS h3 h2 hs.2⟩
        · exact ⟨_, by simp only [zstA, hc.1], zNx_go hS h3 h2 hs.2⟩
      | [], hs => exact hs.elim
    · cases hz
  · cases hz
def zo_inc (i : Nat) (d : Int) (nL : Nat) (pc : Nat) (A : AL) (S : List AV) (h : AH) (G : AG) (c s : Nat) (K : ZK) : Bool := match Nat.ble (i + 1) nL with
  | true => zal A i (fun a => zgI a (fun e => zxshi e (Int32.ofInt d).toInt (fun e => zexI G e (fun r G => zst1 A i r (fun A => zfn (pc + 3) (fun pc => K pc A S h G c s))))))
  | false => false
theorem zn_inc {i : Nat} {d : Int} (hz : zo_inc i d nL pc A S h G c s K = true) (hS : zSt η0 ρ0 hp0 W h G η ρ hp) (hL : zaL η ρ A L) (hs : zaS η ρ S st) : ∃ z, (match zlk L i, Nat.ble (i + 1) nL with | some (.int x), true => some (pc + 3, zput1 L i (.int (x + Int32.ofInt d)), st, hp, c, s) | _, _ => (none : Option zCF)) = some z ∧ zNx η0 ρ0 hp0 W K z := by
  unfold zo_inc at hz
  split at hz
  · rename_i hc
    obtain ⟨a, v, h1, h2, h3⟩ := zal_ok hz hL
    obtain ⟨x, rfl, h4, hx⟩ := zgI_ok h1 h3
    obtain ⟨e, h5, h6⟩ := zxshi_ok h4 hx
    obtain ⟨l, r, G', h7, h8, h9, h10⟩ := zexI_ok (η := η) (r := x + Int32.ofInt d) h5 hS.2.2.1 h6 (fun q1 q2 => zb_add q1 q2)
    obtain ⟨A', h11, h12⟩ := zst1_ok h7 (zaL_mono1 (l := l) hL) h9
    refine ⟨(pc + 3, zput1 L i (.int (x + Int32.ofInt d)), st, hp, c, s), by simp only [h2, hc], ?_⟩
    exact zNx_go (hS.grow h8 h10) h12 h11 (zaS_mono1 hs)
  · cases hz
-- branches
def zjt (pc : Nat) (off : Int) (k : Nat → Bool) : Bool := match (pc : Int) + off with
  | .ofNat n => zfn n k
  | .negSucc _ => false
theorem zjt_ok {off : Int} {k : Nat → Bool} (h : zjt pc off k = true) : ∃ t : Nat, zJ pc off = some t ∧ k t = true := by
  unfold zjt at h
  unfold zJ
  split at h
  · rename_i n e
    rw [zfn_eq] at h
    exact ⟨n, by simp only [e], h⟩
  · cases h
def zo_goto (off : Int) (pc : Nat) (A : AL) (S : List AV) (h : AH) (G : AG) (c s : Nat) (K : ZK) : Bool := zjt pc off (fun t => K t A S h G c s)
theorem zn_goto {off : Int} (hz : zo_goto off pc A S h G c s K = true) (hS : zSt η0 ρ0 hp0 W h G η ρ hp) (hL : zaL η ρ A L) (hs : zaS η ρ S st) : ∃ z, zjmp pc L hp c s off st = some z ∧ zNx η0 ρ0 hp0 W K z := by
  obtain ⟨t, h1, h2⟩ := zjt_ok hz
  exact ⟨_, by unfold zjmp; rw [h1], A, S, h, G, η, ρ, h2, hS, hL, hs⟩
def zo_cnd (cd : ClassFile.Cond) (off : Int) (d : LX) (pc : Nat) (A : AL) (S : List AV) (h : AH) (G : AG) (c s : Nat) (K : ZK) : Bool :=
  zjt pc off (fun t => zfn (pc + 3) (fun f => zcnd cd G d (fun G => K t A S h G c s) (fun G => K f A S h G c s)))
theorem zn_cnd {cd : ClassFile.Cond} {off : Int} {d : LX} {b : Bool} {z : Int} (hz : zo_cnd cd off d pc A S h G c s K = true) (hS : zSt η0 ρ0 hp0 W h G η ρ hp) (hL : zaL η ρ A L) (hs : zaS η ρ S st) (hd : zxr ρ d z) (hb : b = zcdI cd z) : ∃ z, zbr pc L hp c s off b st = some z ∧ zNx η0 ρ0 hp0 W K z := by
  obtain ⟨t, h1, h2⟩ := zjt_ok hz
  rw [zfn_eq] at h2
  obtain ⟨G', h3, h4, h5⟩ := zcnd_ok h2 hS.2.2.1 hd
  refine ⟨_, by unfold zbr; rw [h1], A, S, h, G', η, ρ, ?_, hS.same h4 h5, hL, hs⟩
  rw [hb]
  cases hq : zcdI cd z with
  | true => rw [hq] at h3; exact h3
  | false => rw [hq] at h3; exact h3
def zo_icmp (cd : ClassFile.Cond) (off : Int) (pc : Nat) (A : AL) (S : List AV) (h : AH) (G : AG) (c s : Nat) (K : ZK) : Bool := match S with
  | y :: x :: S => zgI x (fun ex => zgI y (fun ey => zxsub ex ey (fun d => zo_cnd cd off d pc A S h G c s K)))
  | _ => false
theorem zn_icmp {cd : ClassFile.Cond} {off : Int} (hz : zo_icmp cd off pc A S h G c s K = true) (hS : zSt η0 ρ0 hp0 W h G η ρ hp) (hL : zaL η ρ A L) (hs : zaS η ρ S st) : ∃ z, (match st with | .int y :: .int x :: st => zbr pc L hp c s off (zcb cd x y) st | _ => none) = some z ∧ zNx η0 ρ0 hp0 W K z := by
  unfold zo_icmp at hz
  split at hz
  · match st, hs with
    | w :: v :: st, hs =>
      obtain ⟨x, rfl, h1, hx⟩ := zgI_ok hz hs.2.1
      obtain ⟨y, rfl, h2, hy⟩ := zgI_ok h1 hs.1
      obtain ⟨d, h3, h4⟩ := zxsub_ok h2 hx hy
      exact zn_cnd h3 hS hL hs.2.2 h4 (zcb_I cd x y)
    | [], hs => exact hs.elim
    | [_], hs => exact hs.2.elim
  · cases hz
def zo_if (cd : ClassFile.Cond) (off : Int) (pc : Nat) (A : AL) (S : List AV) (h : AH) (G : AG) (c s : Nat) (K : ZK) : Bool := match S with
  | x :: S => (match x.1 with
    | 0 => zo_cnd cd off x.2 pc A S h G c s K
    | 6 => zo_cnd cd off x.2 pc A S h G c s K
    | _ => false)
  | _ => false
theorem zcdI_sign {cd : ClassFile.Cond} {w z : Int} (h1 : z < 0 → w = -1) (h2 : z = 0 → w = 0) (h3 : 0 < z → w = 1) : zcdI cd w = zcdI cd z := by
  rcases (show z < 0 ∨ z = 0 ∨ 0 < z by omega) with q | q | q
  · have := h1 q; subst this
    cases cd <;> simp only [zcdI] <;> simp <;> omega
  · have := h2 q; subst this; subst q; rfl
  · have := h3 q; subst this
    cases cd <;> simp only [zcdI] <;> simp <;> omega
theorem zn_if {cd : ClassFile.Cond} {off : Int} (hz : zo_if cd off pc A S h G c s K = true) (hS : zSt η0 ρ0 hp0 W h G η ρ hp) (hL : zaL η ρ A L) (hs : zaS η ρ S st) : ∃ z, (match st with | .int x :: st => zbr pc L hp c s off (zcb cd x 0) st | _ => none) = some z ∧ zNx η0 ρ0 hp0 W K z := by
  unfold zo_if at hz
  split at hz
  · rename_i a S'
    obtain ⟨t, e⟩ := a
    match st, hs with
    | v :: st, hs =>
      split at hz
      · rename_i q
        simp only at q
        subst q
        obtain ⟨x, rfl, hx⟩ := hs.1
        exact zn_cnd hz hS hL hs.2 hx (by rw [zcb_I]; congr 1; exact Int.sub_zero _)
      · rename_i q
        simp only at q
        subst q
        obtain ⟨w, z, rfl, hx, q1, q2, q3⟩ := hs.1
        exact zn_cnd hz hS hL hs.2 hx (by rw [zcb_I, ← zcdI_sign q1 q2 q3]; congr 1; exact Int.sub_zero _)
      · cases hz
    | [], hs => exact hs.elim
  · cases hz
/-- whether a reference is null -/
def zo_nul (neg : Bool) (off : Int) (pc : Nat) (A : AL) (S : List AV) (h : AH) (G : AG) (c s : Nat) (K : ZK) : Bool := match S with
  | x :: S => (match x.1, neg with
    | 2, true => zjt pc off (fun t => K t A S h G c s)
    | 2, false => zfn (pc + 3) (fun f => K f A S h G c s)
    | 3, false => zjt pc off (fun t => K t A S h G c s)
    | 3, true => zfn (pc + 3) (fun f => K f A S h G c s)
    | _, _ => false)
  | _ => false
theorem zn_nul {off : Int} (hz : zo_nul false off pc A S h G c s K = true) (hS : zSt η0 ρ0 hp0 W h G η ρ hp) (hL : zaL η ρ A L) (hs : zaS η ρ S st) : ∃ z, (match st with | .null :: st => zjmp pc L hp c s off st | .ref _ :: st => some (pc + 3, L, st, hp, c, s) | _ => none) = some z ∧ zNx η0 ρ0 hp0 W K z := by
  unfold zo_nul at hz
  split at hz
  · rename_i a S'
    obtain ⟨t, e⟩ := a
    match st, hs with
    | v :: st, hs =>
      split at hz
      · rename_i _ q; cases q
      · rename_i q1 q2
        simp only at q1
        subst q1
        obtain ⟨x, q3, rfl⟩ := hs.1
        exact ⟨_, rfl, zNx_go hS hL hz hs.2⟩
      · rename_i q1 q2
        simp only at q1
        subst q1
        have hv : v = .null := hs.1
        subst hv
        exact zn_goto hz hS hL hs.2
      · rename_i _ q; cases q
      · cases hz
    | [], hs => exact hs.elim
  · cases hz
theorem zn_nuln {off : Int} (hz : zo_nul true off pc A S h G c s K = true) (hS : zSt η0 ρ0 hp0 W h G η ρ hp) (hL : zaL η ρ A L) (hs : zaS η ρ S st) : ∃ z, (match st with | .ref _ :: st => zjmp pc L hp c s off st | .null :: st => some (pc + 3, L, st, hp, c, s) | _ => none) = some z ∧ zNx η0 ρ0 hp0 W K z := by
  unfold zo_nul at hz
  split at hz
  · rename_i a S'
    obtain ⟨t, e⟩ := a
    match st, hs with
    | v :: st, hs =>
      split at hz
      · rename_i q1 q2
        simp only at q1
        subst q1
        obtain ⟨x, q3, rfl⟩ := hs.1
        exact zn_goto hz hS hL hs.2
      · rename_i _ q; cases q
      · rename_i _ q; cases q
      · rename_i q1 q2
        simp only at q1
        subst q1
        have hv : v = .null := hs.1
        subst hv
        exact ⟨_, rfl, zNx_go hS hL hz hs.2⟩
      · cases hz
    | [], hs => exact hs.elim
  · cases hz
/-- on where e is a number -/
def zisn (G : AG) (e : LX) (j : Int) (k : AG → Bool) : Bool := zxshi e (-j) (fun d => zasm G d (fun G => zxscl (-1) d (fun m => zasm G m k)))
theorem zisn_ok {e : LX} {j : Int} {k : AG → Bool} (hz : zisn G e j k = true) (hG : zaG ρ G) (he : zxr ρ e j) : ∃ G', k G' = true ∧ zaG ρ G' ∧ G'.2.2.2.2 = G.2.2.2.2 := by
  obtain ⟨d, h1, h2⟩ := zxshi_ok hz he
  obtain ⟨G1, h3, h4, h5⟩ := zasm_ok h1 hG h2 (by omega)
  obtain ⟨m, h6, h7⟩ := zxscl_ok h3 h2
  obtain ⟨G2, h8, h9, h10⟩ := zasm_ok h6 h4 h7 (by omega)
  exact ⟨G2, h8, h9, h10.trans h5⟩
/-- the cases of a switch, one after another -/
def zswi (G : AG) (e : LX) (l u : Int) : List Int → Int → (Int → AG → Bool) → Bool
  | [], _, _ => true
  | off :: offs, j, k => (match zle l j && zle j u with
    | true => zisn G e j (k off)
    | false => true) && zfi (j + 1) (fun j => zswi G e l u offs j k)
theorem zswi_ok {e : LX} {l u x : Int} {k : Int → AG → Bool} (hG : zaG ρ G) (hx : zxr ρ e x) (h1 : l ≤ x) (h2 : x ≤ u) : ∀ (offs : List Int) (j : Int), zswi G e l u offs j k = true → ∀ (n : Nat) (off : Int), offs[n]? = some off → x = j + n → ∃ G', k off G' = true ∧ zaG ρ G' ∧ G'.2.2.2.2 = G.2.2.2.2
  | [], _, _, n, off, hn, _ => by simp at hn
  | o :: offs, j, h, n, off, hn, hj => by
    unfold zswi at h
    simp only [Bool.and_eq_true] at h
    obtain ⟨g1, g2⟩ := h
    rw [zfi_eq] at g2
    match n, hn, hj with
    | 0, hn, hj =>
      simp only [List.getElem?_cons_zero, Option.some.injEq] at hn
      subst hn
      rw [zle_iff.mpr (show l ≤ j by omega), zle_iff.mpr (show j ≤ u by omega)] at g1
      have hxj : x = j := by omega
      subst hxj
      exact zisn_ok g1 hG hx
    | n + 1, hn, hj => exact zswi_ok hG hx h1 h2 offs (j + 1) g2 n off (by simpa using hn) (by omega)
def zo_tsw (d lo hi : Int) (offs : Array Int) (pc : Nat) (A : AL) (S : List AV) (h : AH) (G : AG) (c s : Nat) (K : ZK) : Bool := match S with
  | x :: S => zgI x (fun e => zbd G.2.1 e (fun l u =>
      (match zle l (lo - 1) with | true => zxscl (-1) e (fun m => zxshi m (lo - 1) (fun m => zasm G m (fun G => zo_goto d pc A S h G c s K))) | false => true) &&
      ((match zle (hi + 1) u with | true => zxshi e (-hi - 1) (fun m => zasm G m (fun G => zo_goto d pc A S h G c s K)) | false => true) &&
      (zeq (hi - lo + 1) offs.toList.length && zswi G e l u offs.toList lo (fun off G => zo_goto off pc A S h G c s K)))))
  | _ => false
theorem zn_tsw {d lo hi : Int} {offs : Array Int} (hz : zo_tsw d lo hi offs pc A S h G c s K = true) (hS : zSt η0 ρ0 hp0 W h G η ρ hp) (hL : zaL η ρ A L) (hs : zaS η ρ S st) : ∃ z, ztsw pc L st hp c s d lo hi offs = some z ∧ zNx η0 ρ0 hp0 W K z := by
  unfold zo_tsw at hz
  split at hz
  · match st, hs with
    | v :: st, hs =>
      obtain ⟨x, rfl, h1, hx⟩ := zgI_ok hz hs.1
      obtain ⟨l, u, h2, h3, h4⟩ := zbd_at hS.2.2.1.2.1 h1 hx
      simp only [Bool.and_eq_true, zeq_iff] at h2
      obtain ⟨g1, g2, g3, g4⟩ := h2
      unfold ztsw
      by_cases q1 : x.toInt < lo
      · rw [zle_iff.mpr (show l ≤ lo - 1 by omega)] at g1
        obtain ⟨m, m1, m2⟩ := zxscl_ok g1 hx
        obtain ⟨m', m3, m4⟩ := zxshi_ok m1 m2
        obtain ⟨G', m5, m6, m7⟩ := zasm_ok m3 hS.2.2.1 m4 (by omega)
        simp only [q1, decide_true, Bool.true_or]
        exact zn_goto m5 (hS.same m6 m7) hL hs.2
      · by_cases q2 : hi < x.toInt
        · rw [zle_iff.mpr (show hi + 1 ≤ u by omega)] at g2
          obtain ⟨m', m3, m4⟩ := zxshi_ok g2 hx
          obtain ⟨G', m5, m6, m7⟩ := zasm_ok m3 hS.2.2.1 m4 (by omega)
          simp only [q2, decide_true, Bool.or_true]
          exact zn_goto m5 (hS.same m6 m7) hL hs.2
        · have hlt : (x.toInt - lo).toNat < offs.toList.length := by omega
          obtain ⟨G', g9, g10, g11⟩ := zswi_ok hS.2.2.1 hx h3 h4 offs.toList lo g4 (x.toInt - lo).toNat _ (List.getElem?_eq_getElem hlt) (by omega)
          simp only [q1, q2, decide_false, Bool.or_false]
          rw [← Array.getElem?_toList, List.getElem?_eq_getElem hlt]
          exact zn_goto g9 (hS.same g10 g11) hL hs.2
    | [], hs => exact hs.elim
  · cases hz
def zlsi (G : AG) (e : LX) (l u : Int) (d : Int) : List (Int × Int) → (Int → AG → Bool) → Bool
  | [], k => k d G
  | q :: ps, k => (match zle l q.1 && zle q.1 u with
    | true => zisn G e q.1 (k q.2)
    | false => true) && zlsi G e l u d ps k
theorem zlsi_ok {e : LX} {l u d x : Int} {k : Int → AG → Bool} (hG : zaG ρ G) (hx : zxr ρ e x) (h1 : l ≤ x) (h2 : x ≤ u) : ∀ (ps : List (Int × Int)), zlsi G e l u d ps k = true → ∃ G', k (Op.lookupswitch.offset ps d x) G' = true ∧ zaG ρ G' ∧ G'.2.2.2.2 = G.2.2.2.2
  | [], h => ⟨G, h, hG, rfl⟩
  | q :: ps, h => by
    unfold zlsi at h
    simp only [Bool.and_eq_true] at h
    obtain ⟨g1, g2⟩ := h
    obtain ⟨a, o⟩ := q
    rw [Op.lookupswitch.offset_cons]
    by_cases hq : a = x
    · rw [if_pos hq]
      subst hq
      rw [zle_iff.mpr h1, zle_iff.mpr h2] at g1
      exact zisn_ok g1 hG hx
    · rw [if_neg hq]
      exact zlsi_ok hG hx h1 h2 ps g2
def zo_lsw (d : Int) (ps : Array (Int × Int)) (pc : Nat) (A : AL) (S : List AV) (h : AH) (G : AG) (c s : Nat) (K : ZK) : Bool := match S with
  | x :: S => zgI x (fun e => zbd G.2.1 e (fun l u => zsor ps.toList && zlsi G e l u d ps.toList (fun off G => zo_goto off pc A S h G c s K)))
  | _ => false
theorem zn_lsw {d : Int} {ps : Array (Int × Int)} (hz : zo_lsw d ps pc A S h G c s K = true) (hS : zSt η0 ρ0 hp0 W h G η ρ hp) (hL : zaL η ρ A L) (hs : zaS η ρ S st) : ∃ z, zlsw pc L st hp c s d ps = some z ∧ zNx η0 ρ0 hp0 W K z := by
  unfold zo_lsw at hz
  split at hz
  · match st, hs with
    | v :: st, hs =>
      obtain ⟨x, rfl, h1, hx⟩ := zgI_ok hz hs.1
      obtain ⟨l, u, h2, h3, h4⟩ := zbd_at hS.2.2.1.2.1 h1 hx
      rw [Bool.and_eq_true] at h2
      obtain ⟨G', g1, g2, g3⟩ := zlsi_ok hS.2.2.1 hx h3 h4 ps.toList h2.2
      unfold zlsw
      simp only [h2.1]
      exact zn_goto g1 (hS.same g2 g3) hL hs.2
    | [], hs => exact hs.elim
  · cases hz
end ZTR
