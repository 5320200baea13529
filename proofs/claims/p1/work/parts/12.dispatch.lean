/-! one abstract instruction, whichever, and what it shows of the machine -/
def zW (p : Program) (l : Launch) (e : Env) (R : Room) (s0 : State) (m : MethodId) (args : Array Value) (below : List Frame) (meth : Method) (c0 : Code) (Q : State → Prop) : ZG :=
  fun H locs cells slots pc ls st => W p l e R s0 m args below meth c0 H locs cells slots Q (F0 m pc ls st)
/-- the script's numbers as symbols 0 to 5, its length as symbol 6, the first number's last five bits as symbol 7 -/
def zX (ρ : Nat → Int) (Lx : Nat) (xs : Nat → Int32) : Prop := (∀ j, j < 6 → ρ j = (xs j).toInt) ∧ ρ 6 = (Lx : Int) ∧ Lx < 2 ^ 31 ∧ ρ 7 = (xs 0 &&& 31).toInt
section ZF
variable {me : zMe} {pc a b x : Nat} {v : Int}
theorem zf_dec {i : Instr} (h : zOK me (pc, i, a, b, v)) (hs : zsw i = false) : decode me.2.1 pc = .ok (i, zlen i) := zdk_ok h.1 hs
theorem zf_get (h : zOK me (pc, .getfield x, a, b, v)) : ∃ q, zcl[a]? = some q ∧ b < q.2.2 ∧ Cond.fieldLink me.1.cls x (q.2.1 b).1 (q.2.1 b).2.1 (q.2.1 b).2.2.1 ∈ ztab := by
  have h2 := h.2.1
  simp only [zsd] at h2
  split at h2
  · rename_i q hq
    refine ⟨q, hq, of_decide_eq_true h2, zOK_tab h ?_ rfl⟩
    simp only [zwds, hq, List.mem_singleton]
  · cases h2
theorem zf_put (h : zOK me (pc, .putfield x, a, b, v)) : ∃ q, zcl[a]? = some q ∧ b < q.2.2 ∧ ((q.2.1 b).2.2.2 = true → me.1.name = "<init>" ∧ (q.2.1 b).1 = me.1.cls) ∧ (v = match zFt a b with | .int => 0 | .boolean => 1 | .long => 2 | _ => 3) ∧ Cond.fieldLink me.1.cls x (q.2.1 b).1 (q.2.1 b).2.1 (q.2.1 b).2.2.1 ∈ ztab := by
  have h2 := h.2.1
  simp only [zsd] at h2
  split at h2
  · rename_i q hq
    simp only [Bool.and_eq_true, Bool.or_eq_true, decide_eq_true_eq, Bool.not_eq_true'] at h2
    obtain ⟨⟨h3, h4⟩, h5⟩ := h2
    refine ⟨q, hq, h3, fun hf => ?_, h5, zOK_tab h ?_ rfl⟩
    · rcases h4 with h4 | h4
      · rw [hf] at h4; cases h4
      · exact h4
    · simp only [zwds, hq, List.mem_singleton]
  · cases h2
theorem zf_new (h : zOK me (pc, .new x, a, b, v)) : ∃ q, zcl[a]? = some q ∧ q.2.2 = b ∧ Cond.classLink me.1.cls x q.1 ∈ ztab ∧ Cond.instantiable q.1 q.2.2 ∈ ztab ∧ Cond.initialized q.1 ∈ ztab := by
  have h2 := h.2.1
  simp only [zsd] at h2
  split at h2
  · rename_i q hq
    exact ⟨q, hq, of_decide_eq_true h2, zOK_tab h (by simp [zwds, hq]) rfl, zOK_tab h (by simp [zwds, hq]) rfl, zOK_tab h (by simp [zwds, hq]) rfl⟩
  · cases h2
theorem zf_newa {t : ArrayType} (h : zOK me (pc, .newarray t, a, b, v)) : zat[a]? = some (newarray.typeOf t) ∧ a < 4 ∧ Cond.arrayClass (newarray.typeOf t) ∈ ztab := by
  have h2 := h.2.1
  simp only [zsd, Bool.and_eq_true, decide_eq_true_eq] at h2
  exact ⟨h2.1, h2.2, zOK_tab h (by simp [zwds]) rfl⟩
end ZF
def zo_sld (pc : Nat) (A : AL) (S : List AV) (h : AH) (E : AE) (c s : Nat) (K : ZK) : Bool := match S with
  | j :: _ :: S => ziv E j (fun l u => match zeq l u && (zle 0 l && zle l 5) with
    | true => zgE E 6 (fun lo _ => match zle (l + 1) lo with
      | true => zfi l (fun l => zfn (pc + 1) (fun pc => K pc A ((1, l, 0) :: S) h E c s))
      | false => false)
    | false => false)
  | _ => false
def zo_iand (pc : Nat) (A : AL) (S : List AV) (h : AH) (E : AE) (c s : Nat) (K : ZK) : Bool := match S with
  | y :: x :: S' => (match zaveq y (0, 31, 31) && zaveq x (1, 0, 0) with
    | true => zfn (pc + 1) (fun pc => K pc A ((1, 7, 0) :: S') h E c s)
    | false => zo_bin (zbin (fun x y => x &&& y) zandS) pc A S h E c s K)
  | _ => false
def zo_iald (pc : Nat) (A : AL) (S : List AV) (h : AH) (E : AE) (c s : Nat) (K : ZK) : Bool := match S with
  | _ :: (5, _, _) :: _ => zo_sld pc A S h E c s K
  | _ => zo_ald 0 pc A S h E c s K
def zo_slen (pc : Nat) (A : AL) (S : List AV) (h : AH) (E : AE) (c s : Nat) (K : ZK) : Bool := match S with
  | (5, _, _) :: S => zfn (pc + 1) (fun pc => K pc A ((1, 6, 0) :: S) h E c s)
  | _ => zo_alen pc A S h E c s K
/-- the array type under an index or a value and an index -/
def zaty (h : AH) (a : AV) (k : Nat → Bool) : Bool := zref a (fun i => zhget h i (fun x => match x with
  | .inr (t, _) => k t
  | _ => false))
def zo_bald (pc : Nat) (A : AL) (S : List AV) (h : AH) (E : AE) (c s : Nat) (K : ZK) : Bool := match S with
  | _ :: a :: _ => zaty h a (fun t => match t with
    | 2 => zo_ald 2 pc A S h E c s K
    | 3 => zo_ald 3 pc A S h E c s K
    | _ => false)
  | _ => false
def zo_bast (pc : Nat) (A : AL) (S : List AV) (h : AH) (E : AE) (c s : Nat) (K : ZK) : Bool := match S with
  | _ :: _ :: a :: _ => zaty h a (fun t => match t with
    | 2 => zo_ast 2 pc A S h E c s K
    | 3 => zo_ast 3 pc A S h E c s K
    | _ => false)
  | _ => false
/-- a division, where the divisor isn't 0 -/
def zo_div (op : Int32 → Int32 → Int32) (pc : Nat) (A : AL) (S : List AV) (h : AH) (E : AE) (c s : Nat) (K : ZK) : Bool := match S with
  | y :: x :: S => ziv E y (fun l u => zle 1 l || zle u (-1)) && zbin op ztop2 E x y (fun r => zfn (pc + 1) (fun pc => K pc A (r :: S) h E c s))
  | _ => false
def zo_ldiv (pc : Nat) (A : AL) (S : List AV) (h : AH) (E : AE) (c s : Nat) (K : ZK) : Bool := match S with
  | y :: x :: S => zliv y (fun l u => zle 1 l || zle u (-1)) && zbinL (fun x y => x / y) ztopS x y (fun r => zfn (pc + 1) (fun pc => K pc A (r :: S) h E c s))
  | _ => false
/-- a shift of a long by an int -/
def zo_lsh (op : Int64 → Int32 → Int64) (pc : Nat) (A : AL) (S : List AV) (h : AH) (E : AE) (c s : Nat) (K : ZK) : Bool := match S with
  | y :: x :: S => zliv x (fun l1 h1 => ziv E y (fun l2 h2 => match zeq l1 h1 && zeq l2 h2 with
    | true => zfi (op (Int64.ofInt l1) (Int32.ofInt l2)).toInt (fun r => zfn (pc + 1) (fun pc => K pc A ((2, r, r) :: S) h E c s))
    | false => zfn (pc + 1) (fun pc => K pc A ((2, -9223372036854775808, 9223372036854775807) :: S) h E c s)))
  | _ => false
def zno : Nat → AL → List AV → AH → AE → Nat → Nat → ZK → Bool := fun _ _ _ _ _ _ _ _ => false
def zdo (i : Instr) (a b : Nat) (v : Int) (nL rf rl rc rs : Nat) : Nat → AL → List AV → AH → AE → Nat → Nat → ZK → Bool := match i with
  | .iconst n => zo_pushI 1 (Int32.ofInt n)
  | .bipush n => zo_pushI 2 (Int8.ofInt n).toInt32
  | .sipush n => zo_pushI 3 (Int16.ofInt n).toInt32
  | .lconst n => zo_pushL 1 (Int64.ofNat n.val)
  | .ldc _ => zo_pushI 2 (Int32.ofInt v)
  | .ldc_w _ => zo_pushI 3 (Int32.ofInt v)
  | .ldc2_w _ => zo_pushL 3 (Int64.ofInt v)
  | .iadd => zo_bin zadd
  | .isub => zo_bin zsub
  | .imul => zo_bin (zbin (fun x y => x * y) zmulS)
  | .iand => zo_iand
  | .ior => zo_bin (zbin (fun x y => x ||| y) zorS)
  | .ixor => zo_bin (zbin (fun x y => x ^^^ y) ztop2)
  | .ishl => zo_bin (zbin (fun x y => x <<< (y &&& 31)) zshS)
  | .ishr => zo_bin (zbin (fun x y => x >>> (y &&& 31)) zshS)
  | .iushr => zo_bin (zbin (fun x y => (x.toUInt32 >>> (y.toUInt32 &&& Int32.toUInt32 31)).toInt32) ztop2)
  | .idiv => zo_div (fun x y => x / y)
  | .irem => zo_div (fun x y => x - x / y * y)
  | .ineg => zo_un zu_neg
  | .i2b => zo_un zu_i2b
  | .i2l => zo_un zu_i2l
  | .l2i => zo_un zu_l2i
  | .lneg => zo_un zu_lneg
  | .ladd => zo_binL (zbinL (fun x y => x + y) ztopS)
  | .lsub => zo_binL (zbinL (fun x y => x - y) ztopS)
  | .lmul => zo_binL (zbinL (fun x y => x * y) ztopS)
  | .land => zo_binL (zbinL (fun x y => x &&& y) zandL)
  | .lor => zo_binL (zbinL (fun x y => x ||| y) ztopS)
  | .lxor => zo_binL (zbinL (fun x y => x ^^^ y) ztopS)
  | .ldiv => zo_ldiv
  | .lshl => zo_lsh (fun x y => x <<< (y.toInt64 &&& 63))
  | .lshr => zo_lsh (fun x y => x >>> (y.toInt64 &&& 63))
  | .lcmp => zo_lcmp
  | .dup => zo_dup
  | .dup2 => zo_dup2
  | .pop => zo_pop
  | .iload n => zo_load 2 n zint
  | .iload_n n => zo_load 1 n.val zint
  | .lload n => zo_load 2 n zlng
  | .lload_n n => zo_load 1 n.val zlng
  | .aload n => zo_load 2 n zrfn
  | .aload_n n => zo_load 1 n.val zrfn
  | .istore n => zo_st1 2 n nL zint
  | .istore_n n => zo_st1 1 n.val nL zint
  | .astore n => zo_st1 2 n nL zrfn
  | .astore_n n => zo_st1 1 n.val nL zrfn
  | .lstore n => zo_st2 2 n nL
  | .lstore_n n => zo_st2 1 n.val nL
  | .iinc n d => zo_inc n d nL
  | .goto off => zo_goto off
  | .if_icmp cd off => zo_icmp cd off
  | .ifCond cd off => zo_if cd off
  | .ifnull off => zo_nul false off
  | .ifnonnull off => zo_nul true off
  | .tableswitch d lo hi offs => zo_tsw d lo hi offs.toList
  | .getfield _ => zo_get a b
  | .putfield _ => zo_put a b v
  | .iaload => zo_iald
  | .laload => zo_ald 1
  | .baload => zo_bald
  | .aaload => zo_ald 4
  | .iastore => zo_ast 0
  | .lastore => zo_ast 1
  | .bastore => zo_bast
  | .aastore => zo_aast 6
  | .arraylength => zo_slen
  | .new _ => zo_new rc rs a b (zdA.getD a [])
  | .newarray _ => zo_newa rc rs 2 a
  | .anewarray _ => zo_newa rc rs 3 4
  | .invokespecial _ => (match v with | 0 => zo_obj rf rl | _ => zno)
  | .invokestatic _ => (match b with | 99 => zo_cpy rf rl | _ => zno)
  | _ => zno
section ZDO
variable {p : Program} {l : Launch} {e : Env} {R : Room} {s0 : State} {m : MethodId} {args : Array Value} {below : List Frame} {meth : Method} {c0 : Code} {Q : State → Prop}
variable {D : va_G} {B : zB} {tA : Nat → ClassId} {H0 : Heap} {nL : Nat} {ρ : Nat → Int} {K : ZK} {pc : Nat} {A : AL} {S : List AV} {h : AH} {E : AE} {c s : Nat} {me : zMe} {Lx : Nat} {xs : Nat → Int32}
theorem zs_sld (hz : zo_sld pc A S h E c s K = true) (hS5 : ∃ j q w S', S = j :: (5, q, w) :: S') (hX : zX ρ Lx xs) (hK : zKS (zW p l e R s0 m args below meth c0 Q) D B tA H0 nL ρ K)
    (row : ∀ H locs ls st (j : Int32) hp, zH D B tA H0 hp H → vp_in j Lx → (zW p l e R s0 m args below meth c0 Q) H locs c s (pc + 1) ls (.int (xs j.toNatClampNeg) :: st) → (zW p l e R s0 m args below meth c0 Q) H locs c s pc ls (.int j :: .ref B.2 :: st)) : zS (zW p l e R s0 m args below meth c0 Q) D B tA H0 nL ρ pc A S h E c s := by
  intro hE L st hp hL hS hH H locs ls h1 h2 h3
  obtain ⟨j, q, w, S', rfl⟩ := hS5
  simp only [zo_sld] at hz
  match st, hS with
  | vj :: va :: st, hS =>
    have hva : va = .float 0 := hS.2.1
    subst hva
    obtain ⟨x, l', u, rfl, g1, g2, g3⟩ := ziv_ok hz hE hS.1
    split at g1
    · rename_i hc
      simp only [Bool.and_eq_true, zle_iff, zeq_iff] at hc
      obtain ⟨q6, g4, g5⟩ := zgE_ok g1
      split at g5
      · rename_i hc2
        rw [zle_iff] at hc2
        rw [zfi_eq, zfn_eq] at g5
        have h6 := (hE 6 q6 g4).1
        have h7 := hX.2.1
        have ex : x.toNatClampNeg = l'.toNat := by rw [zb_cl, show x.toInt = l' by omega]
        refine row _ _ _ _ x hp h1 (vp_in_iff.mpr ⟨by omega, by omega⟩) ?_
        refine hK _ _ _ _ _ _ _ g5 hE L (.int (xs x.toNatClampNeg) :: st) hp hL ⟨⟨_, rfl, ?_⟩, hS.2.2⟩ hH H locs ls h1 h2 h3
        rw [ex, ← hX.1 l'.toNat (by omega)]
        omega
      · cases g5
    · cases g1
  | [], hS => exact hS.elim
  | [_], hS => exact hS.2.elim
theorem zs_iand {G : ZG} (hz : zo_iand pc A S h E c s K = true) (hX : zX ρ Lx xs) (hK : zKS G D B tA H0 nL ρ K)
    (row : ∀ H locs ls st x y, G H locs c s (pc + 1) ls (.int (x &&& y) :: st) → G H locs c s pc ls (.int y :: .int x :: st)) : zS G D B tA H0 nL ρ pc A S h E c s := by
  unfold zo_iand at hz
  split at hz
  · split at hz
    · rename_i hc
      rw [Bool.and_eq_true] at hc
      have c1 := zaveq_ok hc.1
      have c2 := zaveq_ok hc.2
      subst c1; subst c2
      intro hE L st hp hL hS hH H locs ls h1 h2 h3
      match st, hS with
      | w :: v :: st, hS =>
        obtain ⟨y, rfl, y1, y2⟩ := hS.1
        obtain ⟨x, rfl, x1⟩ := hS.2.1
        rw [zfn_eq] at hz
        have ey : y = 31 := (zb_of (z := 31) (by omega)).trans (by decide)
        have e0 := hX.1 0 (by decide)
        have ex : x = xs 0 := Int32.toInt_inj.1 (by rw [x1, ← e0]; exact Int.add_zero _)
        refine row _ _ _ _ x y (hK _ _ _ _ _ _ _ hz hE L (.int (x &&& y) :: st) hp hL ⟨⟨_, rfl, ?_⟩, hS.2.2⟩ hH H locs ls h1 h2 h3)
        rw [ey, ex, ← hX.2.2.2]
        exact (Int.add_zero _).symm
      | [], hS => exact hS.elim
      | [_], hS => exact hS.2.elim
    · exact zs_bin (zbin_ok zandS_ok) hz hK row
  · cases hz
theorem zs_iald (hz : zo_iald pc A S h E c s K = true) (hX : zX ρ Lx xs) (hK : zKS (zW p l e R s0 m args below meth c0 Q) D B tA H0 nL ρ K)
    (row : ∀ H locs ls st (j : Int32) hp, zH D B tA H0 hp H → vp_in j Lx → (zW p l e R s0 m args below meth c0 Q) H locs c s (pc + 1) ls (.int (xs j.toNatClampNeg) :: st) → (zW p l e R s0 m args below meth c0 Q) H locs c s pc ls (.int j :: .ref B.2 :: st))
    (row2 : ∀ H locs ls st i n f hp (j : Int32), zH D B tA H0 hp H → hp[i]? = some (.inl (0, n, f)) → zaT 0 f → vp_in j n → (zW p l e R s0 m args below meth c0 Q) H locs c s (pc + 1) ls (zvm B (zel f j.toNatClampNeg) :: st) → (zW p l e R s0 m args below meth c0 Q) H locs c s pc ls (.int j :: .ref (B.1 + i) :: st)) : zS (zW p l e R s0 m args below meth c0 Q) D B tA H0 nL ρ pc A S h E c s := by
  unfold zo_iald at hz
  split at hz
  · exact zs_sld hz ⟨_, _, _, _, rfl⟩ hX hK row
  · exact zs_ald hz hK row2
theorem zs_slen (hz : zo_slen pc A S h E c s K = true) (hX : zX ρ Lx xs) (hK : zKS (zW p l e R s0 m args below meth c0 Q) D B tA H0 nL ρ K)
    (row : ∀ H locs ls st hp, zH D B tA H0 hp H → (zW p l e R s0 m args below meth c0 Q) H locs c s (pc + 1) ls (.int (Int32.ofNat Lx) :: st) → (zW p l e R s0 m args below meth c0 Q) H locs c s pc ls (.ref B.2 :: st))
    (row2 : ∀ H locs ls st i t n f hp, zH D B tA H0 hp H → hp[i]? = some (.inl (t, n, f)) → t < 5 → (zW p l e R s0 m args below meth c0 Q) H locs c s (pc + 1) ls (.int (Int32.ofNat n) :: st) → (zW p l e R s0 m args below meth c0 Q) H locs c s pc ls (.ref (B.1 + i) :: st)) : zS (zW p l e R s0 m args below meth c0 Q) D B tA H0 nL ρ pc A S h E c s := by
  unfold zo_slen at hz
  split at hz
  · intro hE L st hp hL hS hH H locs ls h1 h2 h3
    match st, hS with
    | va :: st, hS =>
      have hva : va = .float 0 := hS.1
      subst hva
      rw [zfn_eq] at hz
      refine row _ _ _ _ hp h1 (hK _ _ _ _ _ _ _ hz hE L (.int (Int32.ofNat Lx) :: st) hp hL ⟨⟨_, rfl, ?_⟩, hS.2⟩ hH H locs ls h1 h2 h3)
      have h6 : ρ (6 : Int).toNat = (Lx : Int) := hX.2.1
      rw [h6]
      have := nI_toInt (n := Lx) hX.2.2.1
      show (nI Lx).toInt = (Lx : Int) + 0
      omega
    | [], hS => exact hS.elim
  · exact zs_alen hz hK row2
theorem zaty_ok {a : AV} {k : Nat → Bool} (hz : zaty h a k = true) : ∃ t, k t = true := by
  unfold zaty at hz
  unfold zref at hz
  split at hz
  · obtain ⟨x, -, g⟩ := zhget_ok hz
    split at g
    · exact ⟨_, g⟩
    · cases g
  · cases hz
theorem zs_div {op : Int32 → Int32 → Int32} {G : ZG} (hz : zo_div op pc A S h E c s K = true) (hK : zKS G D B tA H0 nL ρ K)
    (row : ∀ H locs ls st (x y : Int32), ¬ y = 0 → G H locs c s (pc + 1) ls (.int (op x y) :: st) → G H locs c s pc ls (.int y :: .int x :: st)) : zS G D B tA H0 nL ρ pc A S h E c s := by
  intro hE L st hp hL hS hH H locs ls h1 h2 h3
  unfold zo_div at hz
  split at hz
  · match st, hS with
    | w :: v :: st, hS =>
      rw [Bool.and_eq_true] at hz
      obtain ⟨y', l', u, hw, g1, g2, g3⟩ := ziv_ok hz.1 hE hS.1
      obtain ⟨x, y, r, rfl, rfl, g4, g5⟩ := zbin_ok (ztop2_ok op) ρ E _ _ _ _ _ hz.2 hE hS.2.1 hS.1
      have e9 := Value.int.inj hw
      subst e9
      rw [zfn_eq] at g4
      refine row _ _ _ _ x y ?_ (hK _ _ _ _ _ _ _ g4 hE L (_ :: st) hp hL ⟨g5, hS.2.2⟩ hH H locs ls h1 h2 h3)
      intro e0
      subst e0
      simp only [Bool.or_eq_true, zle_iff] at g1
      have z0 : (0 : Int32).toInt = 0 := by decide
      omega
    | [], hS => exact hS.elim
    | [_], hS => exact hS.2.elim
  · cases hz
theorem zs_ldiv {G : ZG} (hz : zo_ldiv pc A S h E c s K = true) (hK : zKS G D B tA H0 nL ρ K)
    (row : ∀ H locs ls st (x y : Int64), ¬ y = 0 → G H locs c s (pc + 1) ls (.long (x / y) :: st) → G H locs c s pc ls (.long y :: .long x :: st)) : zS G D B tA H0 nL ρ pc A S h E c s := by
  intro hE L st hp hL hS hH H locs ls h1 h2 h3
  unfold zo_ldiv at hz
  split at hz
  · match st, hS with
    | w :: v :: st, hS =>
      rw [Bool.and_eq_true] at hz
      obtain ⟨y', l', u, hw, g1, g2, g3⟩ := zliv_ok hz.1 hS.1
      obtain ⟨x, y, r, rfl, rfl, g4, g5⟩ := zbinL_ok (ztopS_ok (fun x y => x / y)) ρ _ _ _ _ _ hz.2 hS.2.1 hS.1
      have e9 := Value.long.inj hw
      subst e9
      rw [zfn_eq] at g4
      refine row _ _ _ _ x y ?_ (hK _ _ _ _ _ _ _ g4 hE L (_ :: st) hp hL ⟨g5, hS.2.2⟩ hH H locs ls h1 h2 h3)
      intro e0
      subst e0
      simp only [Bool.or_eq_true, zle_iff] at g1
      have z0 : (0 : Int64).toInt = 0 := by decide
      omega
    | [], hS => exact hS.elim
    | [_], hS => exact hS.2.elim
  · cases hz
theorem zs_lsh {op : Int64 → Int32 → Int64} {G : ZG} (hz : zo_lsh op pc A S h E c s K = true) (hK : zKS G D B tA H0 nL ρ K)
    (row : ∀ H locs ls st (x : Int64) (y : Int32), G H locs c s (pc + 1) ls (.long (op x y) :: st) → G H locs c s pc ls (.int y :: .long x :: st)) : zS G D B tA H0 nL ρ pc A S h E c s := by
  intro hE L st hp hL hS hH H locs ls h1 h2 h3
  unfold zo_lsh at hz
  split at hz
  · match st, hS with
    | w :: v :: st, hS =>
      obtain ⟨x, l1, u1, rfl, g1, g2, g3⟩ := zliv_ok hz hS.2.1
      obtain ⟨y, l2, u2, rfl, g4, g5, g6⟩ := ziv_ok g1 hE hS.1
      split at g4
      · rename_i hc
        simp only [Bool.and_eq_true, zeq_iff] at hc
        rw [zfi_eq, zfn_eq] at g4
        have ex : x = Int64.ofInt l1 := zb_ofL (by omega)
        have ey : y = Int32.ofInt l2 := zb_of (by omega)
        refine row _ _ _ _ x y (hK _ _ _ _ _ _ _ g4 hE L (.long (op x y) :: st) hp hL ⟨⟨_, rfl, ?_, ?_⟩, hS.2.2⟩ hH H locs ls h1 h2 h3)
        · rw [ex, ey]; exact Int.le_refl _
        · rw [ex, ey]; exact Int.le_refl _
      · rw [zfn_eq] at g4
        exact row _ _ _ _ x y (hK _ _ _ _ _ _ _ g4 hE L (.long (op x y) :: st) hp hL ⟨za_topL ρ _, hS.2.2⟩ hH H locs ls h1 h2 h3)
    | [], hS => exact hS.elim
    | [_], hS => exact hS.2.elim
  · cases hz
end ZDO
