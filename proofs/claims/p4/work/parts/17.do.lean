/-! making cells, copying rows; one abstract instruction, whichever -/
section ZTM
variable {η0 : ZN} {ρ0 : List Int} {hp0 : List zhE} {W : List Nat} {Lx : Nat} {xs : Nat → Int32} {nL n0 : Nat} {R : Room} {K : ZK}
variable {pc : Nat} {A : AL} {S : List AV} {h : AH} {G : AG} {c s : Nat} {η : List Nat} {ρ : List Int} {L : zL} {st : List Value} {hp : List zhE}
def znoO (O : List Nat) (k : Bool) : Bool := match O with
  | [] => k
  | _ => false
theorem znoO_ok {O : List Nat} {k : Bool} (h : znoO O k = true) : O = [] ∧ k = true := by
  unfold znoO at h
  split at h
  · exact ⟨rfl, h⟩
  · cases h
def zdfv (ty : FieldType) : AV := match ty with
  | .int => (0, (0, []))
  | .boolean => (0, (0, []))
  | .long => (1, (0, []))
  | _ => (3, (0, []))
def zdfa (a N : Nat) : List AV := (List.range N).map (fun k => zdfv (zFt a k))
theorem zdfv_ok {v : Int} {ty : FieldType} (h : zfkT v ty) : zav η ρ (zdfv ty) (defaultValue ty) := by
  unfold zfkT at h
  split at h
  · subst h; exact ⟨0, rfl, zxr_c _ _⟩
  · subst h; exact ⟨0, rfl, zxr_c _ _⟩
  · subst h; exact ⟨0, rfl, zxr_c _ _⟩
  · rcases h with ⟨n, rfl⟩ | ⟨n, rfl⟩ <;> exact (rfl : Value.null = Value.null)
theorem zdfa_ok {ci : Nat} {q : vw_C} (hc : zcl[ci]? = some q) : zaS η ρ (zdfa ci q.2.2) (zdf ci q.2.2) := by
  obtain ⟨-, -, -, -, h⟩ := zclass hc
  unfold zdfa zdf
  have gen : ∀ (l : List Nat), (∀ k ∈ l, k < q.2.2) → zaS η ρ (l.map (fun k => zdfv (zFt ci k))) (l.map (fun k => defaultValue (zFt ci k))) := by
    intro l
    induction l with
    | nil => intro _; trivial
    | cons k l ih =>
      intro hl
      exact ⟨zdfv_ok (h k (hl k List.mem_cons_self)), ih (fun j hj => hl j (List.mem_cons_of_mem _ hj))⟩
  exact gen _ (fun k hk => List.mem_range.mp hk)
theorem zSt.push {h' : AH} {x : zhE} (hS : zSt η0 ρ0 hp0 W h G η ρ hp) (hO : G.2.2.2.2 = []) (hh : zaH (η ++ [hp.length]) ρ h' (hp ++ [x])) : zSt η0 ρ0 hp0 W h' G (η ++ [hp.length]) ρ (hp ++ [x]) := by
  obtain ⟨⟨m, q1⟩, q2, q3, q4, q5, f1, f2, f3, m4, f4⟩ := hS
  refine ⟨⟨m ++ [hp.length], by rw [q1, List.append_assoc]⟩, q2, q3, hh, by rw [hO]; exact fun o ho => absurd ho List.not_mem_nil, by rw [List.length_append]; exact Nat.le_trans f1 (Nat.le_add_right _ _), fun i y hi hy => ?_, fun i hi hw => ?_, m4 ++ [hp.length], by rw [f4, List.append_assoc]⟩
  · by_cases e : i < η.length
    · rw [List.getElem?_append_left e] at hy
      exact f2 i y hi hy
    · rw [List.getElem?_append_right (by omega)] at hy
      have h2 := (List.getElem?_eq_some_iff.mp hy).1
      simp at h2
      rw [show i - η.length = 0 by omega] at hy
      cases hy
      exact f1
  · rw [List.getElem?_append_left (by omega)]
    exact f3 i hi hw
theorem zSt_L {l : List Nat} (hL : zaL η ρ A L) : zaL (η ++ l) ρ A L := by
  have := zaL_mono (m := l) (l := []) hL
  rwa [List.append_nil] at this
theorem zSt_S {l : List Nat} (hs : zaS η ρ S st) : zaS (η ++ l) ρ S st := by
  have := zaS_mono (m := l) (l := []) hs
  rwa [List.append_nil] at this
def zo_new (R : Room) (a b : Nat) (pc : Nat) (A : AL) (S : List AV) (h : AH) (G : AG) (c s : Nat) (K : ZK) : Bool := match Nat.ble (c + 1) R.cells && Nat.ble (s + b) R.slots with
  | true => znoO G.2.2.2.2 (zhpush h (.inl (a, zdfa a b)) (fun h' => zfn (pc + 3) (fun pc => zfn (c + 1) (fun c => zfn (s + b) (fun s => K pc A ((2, ((h.1 : Int), [])) :: S) h' G c s)))))
  | false => false
theorem zn_new {a b : Nat} {q : vw_C} (hq : zcl[a]? = some q) (hb : q.2.2 = b) (hz : zo_new R a b pc A S h G c s K = true) (hS : zSt η0 ρ0 hp0 W h G η ρ hp) (hL : zaL η ρ A L) (hs : zaS η ρ S st) : ∃ z, znw pc L st hp c s R a b = some z ∧ zNx η0 ρ0 hp0 W K z := by
  subst hb
  unfold zo_new at hz
  split at hz
  · rename_i hc
    obtain ⟨hO, hz⟩ := znoO_ok hz
    obtain ⟨h', g1, g2⟩ := zhpush_ok (h' := .inr (a, zdf a q.2.2)) hz hS.2.2.2.1 ⟨_, rfl, zdfa_ok hq⟩
    simp only [zfn_eq] at g1
    refine ⟨(pc + 3, L, .ref hp.length :: st, hp ++ [.inr (a, zdf a q.2.2)], c + 1, s + q.2.2), by simp only [znw, hc], ?_⟩
    refine ⟨A, _, h', G, η ++ [hp.length], ρ, g1, hS.push hO g2, zSt_L hL, ⟨hp.length, ?_, rfl⟩, zSt_S hs⟩
    rw [hS.2.2.2.1.1]
    simp
  · cases hz
def zdac (t n : Nat) : AC := match t with
  | 4 => .inr (.inr (List.replicate n (3, (0, []))))
  | _ => (match Nat.beq n 91 with
    | true => .inr (.inl (t, n, n, List.replicate n (0, 0), []))
    | false => .inr (.inl (t, n, 1, [(0, 0)], [])))
theorem zdac_ok {t n : Nat} : zac η ρ (zdac t n) (.inl (t, n, zda t)) := by
  unfold zdac
  split
  · refine ⟨fun _ => none, by rw [List.length_replicate]; rfl, fun j a ha => ?_⟩
    have := (List.mem_replicate.mp (List.mem_of_getElem? ha)).2
    subst this
    exact (rfl : va_rf none = .null)
  · rename_i hne
    have hz : ∃ f, zda t = f ∧ zaT t f ∧ ∀ j, zei f j = 0 := by
      by_cases h1 : t = 1
      · subst h1
        exact ⟨_, rfl, ⟨_, rfl⟩, fun j => rfl⟩
      · have hd : zda t = .inl (fun _ => 0) := by
          unfold zda
          split
          · exact absurd rfl h1
          · exact absurd rfl (hne)
          · rfl
        have hT : zaT t (zda t) := by
          rw [hd]
          unfold zaT
          split
          · exact absurd rfl h1
          · exact ⟨_, rfl⟩
        exact ⟨_, rfl, hT, fun j => by rw [hd]; rfl⟩
    obtain ⟨f, h1, h2, h3⟩ := hz
    rw [h1]
    split
    · rename_i hn
      have hn := Nat.eq_of_beq_eq_true hn
      subst hn
      refine ⟨f, rfl, h2, List.length_replicate, by decide, fun j _ q hq => ?_, fun e he => absurd he List.not_mem_nil⟩
      have hq := (List.mem_replicate.mp (List.mem_of_getElem? hq)).2
      subst hq
      rw [h3]
      exact ⟨Int.le_refl _, Int.le_refl _⟩
    · refine ⟨f, rfl, h2, rfl, Nat.one_pos, fun j _ q hq => ?_, fun e he => absurd he List.not_mem_nil⟩
      rw [Nat.mod_one] at hq
      cases hq
      rw [h3]
      exact ⟨Int.le_refl _, Int.le_refl _⟩
def zo_newa (R : Room) (n t : Nat) (pc : Nat) (A : AL) (S : List AV) (h : AH) (G : AG) (c s : Nat) (K : ZK) : Bool := match S with
  | x :: S => zgI x (fun e => zbd G.2.1 e (fun lo hi => zeq lo hi && (zle 0 lo && zfn lo.toNat (fun m => Nat.ble m 10000 && (Nat.ble (c + 1) R.cells && (Nat.ble (s + m) R.slots && znoO G.2.2.2.2 (zhpush h (zdac t m) (fun h' => zfn (pc + n) (fun pc => zfn (c + 1) (fun c => zfn (s + m) (fun s => K pc A ((2, ((h.1 : Int), [])) :: S) h' G c s)))))))))))
  | _ => false
theorem zn_newa {n t : Nat} (hz : zo_newa R n t pc A S h G c s K = true) (hS : zSt η0 ρ0 hp0 W h G η ρ hp) (hL : zaL η ρ A L) (hs : zaS η ρ S st) : ∃ z, znwa pc L st hp c s R n t = some z ∧ zNx η0 ρ0 hp0 W K z := by
  unfold zo_newa at hz
  split at hz
  · match st, hs with
    | v :: st, hs =>
      obtain ⟨x, rfl, h0, hx⟩ := zgI_ok hz hs.1
      obtain ⟨lo, hi, h1, h2, h3⟩ := zbd_at hS.2.2.1.2.1 h0 hx
      rw [zfn_eq] at h1
      simp only [Bool.and_eq_true, zeq_iff, zle_iff] at h1
      obtain ⟨g1, g2, g3, g4, g5, g6⟩ := h1
      have hm : lo.toNat = x.toNatClampNeg := by rw [zb_cl]; omega
      rw [hm] at g3 g5 g6
      obtain ⟨hO, hz⟩ := znoO_ok g6
      obtain ⟨h', g7, g8⟩ := zhpush_ok (h' := .inl (t, x.toNatClampNeg, zda t)) hz hS.2.2.2.1 zdac_ok
      simp only [zfn_eq] at g7
      have hx0 : decide (0 ≤ x.toInt) = true := decide_eq_true (by omega)
      refine ⟨(pc + n, L, .ref hp.length :: st, hp ++ [.inl (t, x.toNatClampNeg, zda t)], c + 1, s + x.toNatClampNeg), by simp only [znwa, hx0, g3, g4, g5, Bool.and_self], ?_⟩
      refine ⟨A, _, h', G, η ++ [hp.length], ρ, g7, hS.push hO g8, zSt_L hL, ⟨hp.length, ?_, rfl⟩, zSt_S hs.2⟩
      rw [hS.2.2.2.1.1]
      simp
    | [], hs => exact hs.elim
  · cases hz
def zcsum : List AV → Nat
  | [] => 0
  | a :: S => zcat a + zcsum S
theorem zcsum_ok : ∀ {S : List AV} {st : List Value}, zaS η ρ S st → zsum st = zcsum S
  | [], [], _ => rfl
  | [], _ :: _, h => h.elim
  | _ :: _, [], h => h.elim
  | a :: S, v :: st, h => by
    have h1 := zcsum_ok h.2
    unfold zsum at h1 ⊢
    simp only [List.map_cons, List.sum_cons, zcsum]
    rw [h1, zcat_ok h.1]
def zo_obi (R : Room) (pc : Nat) (A : AL) (S : List AV) (h : AH) (G : AG) (c s : Nat) (K : ZK) : Bool := match S with
  | a :: S => zref a (fun _ => match Nat.ble 1 R.frames && Nat.ble (zcsum S + 12) R.locals with
    | true => zfn (pc + 3) (fun pc => K pc A S h G c s)
    | false => false)
  | _ => false
theorem zn_obi (hz : zo_obi R pc A S h G c s K = true) (hS : zSt η0 ρ0 hp0 W h G η ρ hp) (hL : zaL η ρ A L) (hs : zaS η ρ S st) : ∃ z, zobi pc L st hp c s R = some z ∧ zNx η0 ρ0 hp0 W K z := by
  unfold zo_obi at hz
  split at hz
  · match st, hs with
    | v :: st, hs =>
      obtain ⟨i, x, h1, rfl, h2⟩ := zref_ok hz hs.1
      split at h2
      · rename_i hc
        rw [← zcsum_ok hs.2] at hc
        exact ⟨(pc + 3, L, st, hp, c, s), by simp only [zobi, hc], zNx_go hS hL h2 hs.2⟩
      · cases h2
    | [], hs => exact hs.elim
  · cases hz
def zo_cpo (W : List Nat) (n0 : Nat) (R : Room) (pc : Nat) (A : AL) (S : List AV) (h : AH) (G : AG) (c s : Nat) (K : ZK) : Bool := match S with
  | n :: dp :: b :: sp :: a :: S => zgI n (fun en => zgI dp (fun ed => zgI sp (fun es => zref a (fun i => zref b (fun j => zwk W n0 j && (zarr h i 0 (fun m0 _ rs0 _ => zarr h j 0 (fun m1 p1 rs1 _ => Nat.beq p1 1 && zbd G.2.1 en (fun ln un => zbd G.2.1 ed (fun ld ud => zbd G.2.1 es (fun ls us => zle 0 ln && (zle 0 ld && (zle 0 ls && (zle (us + un) m0 && (zle (ud + un) m1 && (Nat.ble 1 R.frames && (Nat.ble (zcsum S + 40) R.locals && znoO G.2.2.2.2 (zjall rs0 (fun lo hi => zrua lo hi rs1 (fun rs => zhset h j (.inr (.inl (0, m1, 1, rs, []))) (fun h' => zfn (pc + 3) (fun pc => K pc A S h' G c s))))))))))))))))))))))
  | _ => false
theorem zn_cpo (hz : zo_cpo W n0 R pc A S h G c s K = true) (hn : n0 = η0.1.length) (hS : zSt η0 ρ0 hp0 W h G η ρ hp) (hL : zaL η ρ A L) (hs : zaS η ρ S st) : ∃ z, zcpo pc L st hp c s R = some z ∧ zNx η0 ρ0 hp0 W K z := by
  unfold zo_cpo at hz
  split at hz
  · match st, hs with
    | vn :: vd :: vb :: vs :: va :: st, hs =>
      obtain ⟨s1, s2, s3, s4, s5, s6⟩ := hs
      obtain ⟨n, rfl, z1, hn'⟩ := zgI_ok hz s1
      obtain ⟨dp, rfl, z2, hd'⟩ := zgI_ok z1 s2
      obtain ⟨sp, rfl, z3, hs'⟩ := zgI_ok z2 s4
      obtain ⟨i, x, i1, rfl, z4⟩ := zref_ok z3 s5
      obtain ⟨j, y, j1, rfl, z5⟩ := zref_ok z4 s3
      rw [Bool.and_eq_true] at z5
      obtain ⟨q1, q2, q3, q4, q5, q6⟩ := id hS
      obtain ⟨m0, p0, rs0, es0, f, z6, e1, ⟨f, rfl⟩, e2⟩ := zarr_ok z5.2 q4 i1
      obtain ⟨m1, p1, rs1, es1, g, z7, e3, ⟨g, rfl⟩, e4⟩ := zarr_ok z6 q4 j1
      rw [Bool.and_eq_true] at z7
      have hp1 := Nat.eq_of_beq_eq_true z7.1
      subst hp1
      obtain ⟨ln, un, z8, b1, b2⟩ := zbd_at q3.2.1 z7.2 hn'
      obtain ⟨ld, ud, z9, b3, b4⟩ := zbd_at q3.2.1 z8 hd'
      obtain ⟨ls, us, z10, b5, b6⟩ := zbd_at q3.2.1 z9 hs'
      simp only [Bool.and_eq_true, zle_iff] at z10
      obtain ⟨c1, c2, c3, c4, c5, c6, c7, z11⟩ := z10
      obtain ⟨hO, z12⟩ := znoO_ok z11
      obtain ⟨lo, hi, z13, d1⟩ := zjall_ok z12
      obtain ⟨rs, z14, d2, d3, d4⟩ := zrua_ok z13
      have hf : ∀ k, k < m0 → lo ≤ (f k).toInt ∧ (f k).toInt ≤ hi := fun k hk => by
        have hlt : k % p0 < rs0.length := by rw [e2.1]; exact Nat.mod_lt _ e2.2.1
        have h3 := e2.2.2.1 k hk _ (List.getElem?_eq_getElem hlt)
        have h4 := d1 _ (List.getElem_mem hlt)
        have h5 : zei (.inl f) k = (f k).toInt := rfl
        omega
      obtain ⟨h', z15, e5⟩ := zhset_ok (h' := .inl (0, m1, .inl (va_cpy f g sp.toNatClampNeg dp.toNatClampNeg n.toNatClampNeg))) z14 q4 j1 ⟨_, rfl, ⟨_, rfl⟩, d2.trans e4.1, Nat.one_pos, fun k hk q hq => by
          obtain ⟨q0, r1, r2, r3⟩ := d3 _ q hq
          have r4 := d4 _ q hq
          have r5 := e4.2.2.1 k hk q0 r1
          have r6 : zei (.inl g) k = (g k).toInt := rfl
          show q.1 ≤ (va_cpy f g sp.toNatClampNeg dp.toNatClampNeg n.toNatClampNeg k).toInt ∧ (va_cpy f g sp.toNatClampNeg dp.toNatClampNeg n.toNatClampNeg k).toInt ≤ q.2
          unfold va_cpy
          split
          · rename_i hk2
            have := hf (sp.toNatClampNeg + (k - dp.toNatClampNeg)) (by simp only [zb_cl] at *; omega)
            omega
          · omega, fun e he => absurd he List.not_mem_nil⟩
      have k1 : decide (0 ≤ sp.toInt) = true := decide_eq_true (by omega)
      have k2 : decide (0 ≤ dp.toInt) = true := decide_eq_true (by omega)
      have k3 : decide (0 ≤ n.toInt) = true := decide_eq_true (by omega)
      have k4 : Nat.ble (sp.toNatClampNeg + n.toNatClampNeg) m0 = true := Nat.ble_eq_true_of_le (by rw [zb_cl, zb_cl]; omega)
      have k5 : Nat.ble (dp.toNatClampNeg + n.toNatClampNeg) m1 = true := Nat.ble_eq_true_of_le (by rw [zb_cl, zb_cl]; omega)
      rw [← zcsum_ok s6] at c7
      refine ⟨(pc + 3, L, st, hp.set y (.inl (0, m1, .inl (va_cpy f g sp.toNatClampNeg dp.toNatClampNeg n.toNatClampNeg))), c, s), by simp only [zcpo, e1, e3, k1, k2, k3, k4, k5, c6, c7, Bool.and_self], ?_⟩
      exact zNx_go ⟨q1, q2, q3, e5, by rw [hO]; exact fun o ho => absurd ho List.not_mem_nil, zfm_set z5.1 hn q1 j1 q6⟩ hL z15 s6
    | [], hs => exact hs.elim
    | [_], hs => exact hs.2.elim
    | [_, _], hs => exact hs.2.2.elim
    | [_, _, _], hs => exact hs.2.2.2.elim
    | [_, _, _, _], hs => exact hs.2.2.2.2.elim
  · cases hz
def zno : Nat → AL → List AV → AH → AG → Nat → Nat → ZK → Bool := fun _ _ _ _ _ _ _ _ => false
def zo_bald (pc : Nat) (A : AL) (S : List AV) (h : AH) (G : AG) (c s : Nat) (K : ZK) : Bool := match S with
  | _ :: a :: _ => zaty h a (fun t => match t with
    | 2 => zo_ald 2 pc A S h G c s K
    | 3 => zo_ald 3 pc A S h G c s K
    | _ => false)
  | _ => false
def zo_bast (W : List Nat) (n0 : Nat) (pc : Nat) (A : AL) (S : List AV) (h : AH) (G : AG) (c s : Nat) (K : ZK) : Bool := match S with
  | _ :: _ :: a :: _ => zaty h a (fun t => match t with
    | 2 => zo_ast W n0 2 pc A S h G c s K
    | 3 => zo_ast W n0 3 pc A S h G c s K
    | _ => false)
  | _ => false
/-- sc: whether the script is at hand; W, n0: what may be written -/
def zdo (sc : Bool) (W : List Nat) (n0 nL : Nat) (R : Room) (i : Instr) (a b : Nat) (v : Int) : Nat → AL → List AV → AH → AG → Nat → Nat → ZK → Bool := match i with
  | .iconst n => zo_cI 1 (Int32.ofInt n)
  | .bipush n => zo_cI 2 (Int8.ofInt n).toInt32
  | .sipush n => zo_cI 3 (Int16.ofInt n).toInt32
  | .lconst n => zo_cL 1 (Int64.ofNat n.val)
  | .ldc _ => zo_cI 2 (Int32.ofInt v)
  | .ldc_w _ => zo_cI 3 (Int32.ofInt v)
  | .ldc2_w _ => zo_cL 3 (Int64.ofInt v)
  | .iadd => zo_bin za_add
  | .isub => zo_bin za_sub
  | .imul => zo_bin za_mul
  | .iand => zo_bin za_and
  | .ior => zo_bin za_or
  | .ixor => zo_bin za_xor
  | .ishl => zo_bin za_shl
  | .ishr => zo_bin za_shr
  | .iushr => zo_bin (zkn (fun x y => (x.toUInt32 >>> (y.toUInt32 &&& Int32.toUInt32 31)).toInt32) zsptop)
  | .idiv => zo_div (zkn (fun x y => x / y) zsptop)
  | .irem => zo_div za_rem
  | .ineg => zo_un zu_neg
  | .i2b => zo_un zu_i2b
  | .i2l => zo_un zu_i2l
  | .l2i => zo_un zu_l2i
  | .lneg => zo_un zu_lneg
  | .ladd => zo_binL zl_add
  | .lsub => zo_binL zl_sub
  | .lmul => zo_binL zl_mul
  | .land => zo_binL zl_and
  | .lor => zo_binL zl_top
  | .lxor => zo_binL zl_top
  | .ldiv => zo_ldiv
  | .lshl => zo_lsh
  | .lshr => zo_lsh
  | .lcmp => zo_lcmp
  | .dup => zo_dup
  | .dup2 => zo_dup2
  | .pop => zo_pop
  | .pop2 => zo_pop2
  | .iload n => zo_ldI 2 n
  | .iload_n n => zo_ldI 1 n.val
  | .lload n => zo_ldL 2 n
  | .lload_n n => zo_ldL 1 n.val
  | .aload n => zo_ldA 2 n
  | .aload_n n => zo_ldA 1 n.val
  | .istore n => zo_stI 2 n nL
  | .istore_n n => zo_stI 1 n.val nL
  | .lstore n => zo_stL 2 n nL
  | .lstore_n n => zo_stL 1 n.val nL
  | .astore n => zo_stA 2 n nL
  | .astore_n n => zo_stA 1 n.val nL
  | .iinc n d => zo_inc n d nL
  | .goto off => zo_goto off
  | .if_icmp cd off => zo_icmp cd off
  | .ifCond cd off => zo_if cd off
  | .ifnull off => zo_nul false off
  | .ifnonnull off => zo_nul true off
  | .tableswitch d lo hi offs => zo_tsw d lo hi offs
  | .lookupswitch d ps => zo_lsw d ps
  | .getfield _ => zo_get a b
  | .putfield _ => zo_put W n0 a b v
  | .iaload => fun pc A S h G c s K => match sc && zscr S 1 with
    | true => zo_sld pc A S h G c s K
    | false => zo_ald 0 pc A S h G c s K
  | .laload => zo_ald 1
  | .baload => zo_bald
  | .aaload => zo_aald
  | .iastore => zo_ast W n0 0
  | .lastore => zo_ast W n0 1
  | .bastore => zo_bast W n0
  | .aastore => zo_aast W n0
  | .arraylength => fun pc A S h G c s K => match sc && zscr S 0 with
    | true => zo_slen pc A S h G c s K
    | false => zo_alen pc A S h G c s K
  | .new _ => zo_new R a b
  | .newarray _ => zo_newa R 2 a
  | .anewarray _ => zo_newa R 3 4
  | .invokespecial _ => (match v with | 0 => zo_obi R | _ => zno)
  | .invokestatic _ => (match Nat.beq b 99 with | true => zo_cpo W n0 R | false => zno)
  | _ => zno
theorem zvl_I {t j : Nat} {f : zhA} (ht : zaT t f) (h1 : t ≠ 1) : ∃ g, f = .inl g := by
  unfold zaT at ht
  split at ht
  · exact absurd rfl h1
  · exact ht
theorem zbt_at {d : Nat} {x t n : Nat} {f : zhA} {st' : List Value} (hd : st.drop (d + 1) = .ref x :: st') (hx : hp[x]? = some (.inl (t, n, f))) : zbt st hp d = t := by
  unfold zbt
  rw [hd]
  simp only [hx]
theorem zn_I {t : Nat} (h1 : t ≠ 1) (hz : zo_ald t pc A S h G c s K = true) (hS : zSt η0 ρ0 hp0 W h G η ρ hp) (hL : zaL η ρ A L) (hs : zaS η ρ S st) : ∃ z, zalI pc L st hp c s t = some z ∧ zNx η0 ρ0 hp0 W K z ∧ zbt st hp 0 = t := by
  obtain ⟨j, x, n, f, st', rfl, g1, g2, g3, g4⟩ := zn_ald hz hS hL hs
  obtain ⟨g, rfl⟩ := zvl_I (j := 0) g2 h1
  exact ⟨_, by simp only [zalI, g1, g3, Nat.beq_refl, Bool.and_self]; rfl, g4, zbt_at rfl g1⟩
theorem zn_sI {t : Nat} (h02 : t = 0 ∨ t = 2) (hz : zo_ast W n0 t pc A S h G c s K = true) (hn : n0 = η0.1.length) (hS : zSt η0 ρ0 hp0 W h G η ρ hp) (hL : zaL η ρ A L) (hs : zaS η ρ S st) : ∃ z, zasI pc L st hp c s t (match t with | 2 => fun x => x.toInt8.toInt32 | _ => fun x => x) = some z ∧ zNx η0 ρ0 hp0 W K z ∧ zbt st hp 1 = t := by
  obtain ⟨v, j, x, n, f, st', rfl, g1, g2, g3, g4, g5⟩ := zn_ast hz hn hS hL hs
  rcases g4 with ⟨rfl, -⟩ | ⟨-, y, rfl⟩ | ⟨rfl, -⟩
  · rcases h02 with h | h <;> cases h
  · rcases h02 with rfl | rfl
    · obtain ⟨g, rfl⟩ := g2
      exact ⟨_, by simp only [zasI, g1, g3, Nat.beq_refl, Bool.and_self]; rfl, g5, zbt_at rfl g1⟩
    · obtain ⟨g, rfl⟩ := g2
      exact ⟨_, by simp only [zasI, g1, g3, Nat.beq_refl, Bool.and_self]; rfl, g5, zbt_at rfl g1⟩
  · rcases h02 with h | h <;> cases h
set_option maxHeartbeats 4000000 in
theorem zdo_ok {sc : Bool} {i : Instr} {a b : Nat} {v : Int} (hz : zdo sc W n0 nL R i a b v pc A S h G c s K = true) (hn : n0 = η0.1.length) (hsc : sc = true → ρ0[0]? = some (Lx : Int) ∧ Lx < 2 ^ 31) (hnew : ∀ x, i = .new x → ∃ q, zcl[a]? = some q ∧ q.2.2 = b) (hS : zSt η0 ρ0 hp0 W h G η ρ hp) (hL : zaL η ρ A L) (hs : zaS η ρ S st) :
    ∃ z, zone pc L st hp c s Lx xs nL R i a b v = some z ∧ zNx η0 ρ0 hp0 W K z := by
  unfold zdo at hz
  split at hz
  · exact ⟨_, rfl, zn_cI hz hS hL hs⟩
  · exact ⟨_, rfl, zn_cI hz hS hL hs⟩
  · exact ⟨_, rfl, zn_cI hz hS hL hs⟩
  · exact ⟨_, rfl, zn_cL hz hS hL hs⟩
  · exact ⟨_, rfl, zn_cI hz hS hL hs⟩
  · exact ⟨_, rfl, zn_cI hz hS hL hs⟩
  · exact ⟨_, rfl, zn_cL hz hS hL hs⟩
  · exact zn_bin za_add_ok hz hS hL hs
  · exact zn_bin za_sub_ok hz hS hL hs
  · exact zn_bin za_mul_ok hz hS hL hs
  · exact zn_bin za_and_ok hz hS hL hs
  · exact zn_bin za_or_ok hz hS hL hs
  · exact zn_bin za_xor_ok hz hS hL hs
  · exact zn_bin za_shl_ok hz hS hL hs
  · exact zn_bin za_shr_ok hz hS hL hs
  · exact zn_bin (zsptop_ok _) hz hS hL hs
  · exact zn_div (zsptop_ok _) hz hS hL hs
  · exact zn_div za_rem_ok hz hS hL hs
  · unfold zo_un at hz
    split at hz
    · match st, hs with
      | v :: st, hs =>
        obtain ⟨x, rfl, hr⟩ := zu_neg_ok hz hS.2.2.1 hs.1
        exact ⟨_, rfl, zNx_push hS hL hs.2 hr⟩
      | [], hs => exact hs.elim
    · cases hz
  · unfold zo_un at hz
    split at hz
    · match st, hs with
      | v :: st, hs =>
        obtain ⟨x, rfl, hr⟩ := zu_i2b_ok hz hS.2.2.1 hs.1
        exact ⟨_, rfl, zNx_push hS hL hs.2 hr⟩
      | [], hs => exact hs.elim
    · cases hz
  · unfold zo_un at hz
    split at hz
    · match st, hs with
      | v :: st, hs =>
        obtain ⟨x, rfl, hr⟩ := zu_i2l_ok hz hS.2.2.1 hs.1
        exact ⟨_, rfl, zNx_push hS hL hs.2 hr⟩
      | [], hs => exact hs.elim
    · cases hz
  · unfold zo_un at hz
    split at hz
    · match st, hs with
      | v :: st, hs =>
        obtain ⟨x, rfl, hr⟩ := zu_l2i_ok hz hS.2.2.1 hs.1
        exact ⟨_, rfl, zNx_push hS hL hs.2 hr⟩
      | [], hs => exact hs.elim
    · cases hz
  · unfold zo_un at hz
    split at hz
    · match st, hs with
      | v :: st, hs =>
        obtain ⟨x, rfl, hr⟩ := zu_lneg_ok hz hS.2.2.1 hs.1
        exact ⟨_, rfl, zNx_push hS hL hs.2 hr⟩
      | [], hs => exact hs.elim
    · cases hz
  · exact zn_binL zl_add_ok hz hS hL hs
  · exact zn_binL zl_sub_ok hz hS hL hs
  · exact zn_binL zl_mul_ok hz hS hL hs
  · exact zn_binL zl_and_ok hz hS hL hs
  · exact zn_binL (zl_top_ok _) hz hS hL hs
  · exact zn_binL (zl_top_ok _) hz hS hL hs
  · exact zn_ldiv hz hS hL hs
  · exact zn_lsh hz hS hL hs
  · exact zn_lsh hz hS hL hs
  · exact zn_lcmp hz hS hL hs
  · exact zn_dup hz hS hL hs
  · exact zn_dup2 hz hS hL hs
  · exact zn_pop hz hS hL hs
  · exact zn_pop2 hz hS hL hs
  · exact zn_ldI hz hS hL hs
  · exact zn_ldI hz hS hL hs
  · exact zn_ldL hz hS hL hs
  · exact zn_ldL hz hS hL hs
  · exact zn_ldA hz hS hL hs
  · exact zn_ldA hz hS hL hs
  · exact zn_stI hz hS hL hs
  · exact zn_stI hz hS hL hs
  · exact zn_stL hz hS hL hs
  · exact zn_stL hz hS hL hs
  · exact zn_stA hz hS hL hs
  · exact zn_stA hz hS hL hs
  · exact zn_inc hz hS hL hs
  · exact zn_goto hz hS hL hs
  · exact zn_icmp hz hS hL hs
  · exact zn_if hz hS hL hs
  · exact zn_nul hz hS hL hs
  · exact zn_nuln hz hS hL hs
  · exact zn_tsw hz hS hL hs
  · exact zn_lsw hz hS hL hs
  · exact zn_get hz hS hL hs
  · exact zn_put hz hn hS hL hs
  · unfold zone
    split at hz
    · rename_i hc
      rw [Bool.and_eq_true] at hc
      obtain ⟨z, g1, g2⟩ := zn_sld (xs := xs) hz hc.2 (hsc hc.1) hS hL hs
      have hb : zbt st hp 0 = 9 := by
        unfold zscr at hc
        match S, st, hc, hs with
        | _ :: a :: S, w :: v :: st, hc, hs =>
          obtain ⟨t, e⟩ := a
          have ht : t = 4 := Nat.eq_of_beq_eq_true hc.2
          subst ht
          have hv : v = .float 0 := hs.2.1
          subst hv
          rfl
        | [], _, hc, _ => exact absurd hc.2 Bool.false_ne_true
        | [_], _, hc, _ => exact absurd hc.2 Bool.false_ne_true
        | _ :: _ :: _, [], _, hs => exact hs.elim
        | _ :: _ :: _, [_], _, hs => exact hs.2.elim
      exact ⟨z, by simp only [hb]; exact g1, g2⟩
    · obtain ⟨z, g1, g2, g3⟩ := zn_I (by decide) hz hS hL hs
      exact ⟨z, by simp only [g3]; exact g1, g2⟩
  · obtain ⟨j, x, n, f, st', rfl, g1, ⟨g, rfl⟩, g3, g4⟩ := zn_ald hz hS hL hs
    exact ⟨_, by simp only [zone, zalL, g1, g3, Nat.beq_refl, Bool.and_self]; rfl, g4⟩
  · unfold zo_bald at hz
    split at hz
    · match st, hs with
      | w :: v :: st, hs =>
        obtain ⟨t, x, n, f, g1, rfl, g2⟩ := zaty_ok hz hS.2.2.2.1 hs.2.1
        split at g1
        · obtain ⟨z, g4, g5, g6⟩ := zn_I (by decide) g1 hS hL hs
          exact ⟨z, by simp only [zone, g6]; exact g4, g5⟩
        · obtain ⟨z, g4, g5, g6⟩ := zn_I (by decide) g1 hS hL hs
          exact ⟨z, by simp only [zone, g6]; exact g4, g5⟩
        · cases g1
      | [], hs => exact hs.elim
      | [_], hs => exact hs.2.elim
    · cases hz
  · exact zn_aald hz hS hL hs
  · obtain ⟨z, g4, g5, g6⟩ := zn_sI (Or.inl rfl) hz hn hS hL hs
    exact ⟨z, g4, g5⟩
  · obtain ⟨v, j, x, n, f, st', rfl, g1, ⟨g, rfl⟩, g3, g4, g5⟩ := zn_ast hz hn hS hL hs
    rcases g4 with ⟨-, y, rfl⟩ | ⟨h1 | h1, -⟩ | ⟨h1, -⟩
    · exact ⟨_, by simp only [zone, zasL, g1, g3, Nat.beq_refl, Bool.and_self]; rfl, g5⟩
    · cases h1
    · cases h1
    · cases h1
  · unfold zo_bast at hz
    split at hz
    · match st, hs with
      | u :: w :: v :: st, hs =>
        obtain ⟨t, x, n, f, g1, rfl, g2⟩ := zaty_ok hz hS.2.2.2.1 hs.2.2.1
        split at g1
        · obtain ⟨z, g4, g5, g6⟩ := zn_sI (Or.inr rfl) g1 hn hS hL hs
          exact ⟨z, by simp only [zone, g6]; exact g4, g5⟩
        · obtain ⟨v, j, x, n, f, st', he, g1, ⟨g, rfl⟩, g3, g4, g5⟩ := zn_ast g1 hn hS hL hs
          rw [he]
          rcases g4 with ⟨h1, -⟩ | ⟨h1 | h1, -⟩ | ⟨-, y, rfl, h2⟩
          · cases h1
          · cases h1
          · cases h1
          · have hb : zbt (.int y :: .int j :: .ref x :: st') hp 1 = 3 := zbt_at rfl g1
            exact ⟨_, by simp only [zone, hb, zasZ, g1, g3, h2, Nat.beq_refl, Bool.and_self]; rfl, g5⟩
        · cases g1
      | [], hs => exact hs.elim
      | [_], hs => exact hs.2.elim
      | [_, _], hs => exact hs.2.2.elim
    · cases hz
  · exact zn_aast hz hn hS hL hs
  · split at hz
    · rename_i hc
      rw [Bool.and_eq_true] at hc
      exact zn_slen hz hc.2 (hsc hc.1) hS hL hs
    · exact zn_alen hz hS hL hs
  · obtain ⟨q, g1, g2⟩ := hnew _ rfl
    exact zn_new g1 g2 hz hS hL hs
  · exact zn_newa hz hS hL hs
  · exact zn_newa hz hS hL hs
  · match v, hz with
    | .ofNat 0, hz => exact zn_obi hz hS hL hs
    | .ofNat (n + 1), hz => exact absurd (show false = true from hz) Bool.false_ne_true
    | .negSucc n, hz => exact absurd (show false = true from hz) Bool.false_ne_true
  · cases hc : Nat.beq b 99 with
    | true =>
      rw [hc] at hz
      obtain ⟨z, g1, g2⟩ := zn_cpo hz hn hS hL hs
      exact ⟨z, by simp only [zone, hc]; exact g1, g2⟩
    | false =>
      rw [hc] at hz
      exact absurd (show false = true from hz) Bool.false_ne_true
  · cases hz
end ZTM
