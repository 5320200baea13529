/-! the law's steps by hand; patterns in other symbols (as p2's 71 without its zlc) -/
/-! other symbols, other cells: what a pattern says stays -/
def zreX (f : Nat → Nat) (e : LX) : LX := (e.1, e.2.map (fun q => (f q.1, q.2)))
def zreV (p f : Nat → Nat) (a : AV) : AV := match Nat.beq a.1 2 with
  | true => (2, ((p a.2.1.toNat : Nat), []))
  | false => (a.1, zreX f a.2)
def zreC (p f : Nat → Nat) (c : AC) : AC := match c with
  | .inl (ci, fs) => .inl (ci, fs.map (zreV p f))
  | .inr (.inl (t, n, pe, rs, es)) => .inr (.inl (t, n, pe, rs, es.map (fun e => (zreX f e.1, zreX f e.2))))
  | .inr (.inr as) => .inr (.inr (as.map (zreV p f)))
def zokV (N : Nat) (a : AV) : Bool := !(Nat.beq a.1 2) || Nat.ble (a.2.1.toNat + 1) N
def zokC (N : Nat) (c : AC) : Bool := match c with
  | .inl (_, fs) => fs.all (zokV N)
  | .inr (.inl _) => true
  | .inr (.inr as) => as.all (zokV N)
section ZRE
variable {η η' : List Nat} {ρ ρ' : List Int} {p f : Nat → Nat} {N : Nat}
theorem zreT_ok (hf : ∀ (s : Nat) (x : Int), ρ[s]? = some x → ρ'[f s]? = some x) : ∀ {ts : LT} {z : Int}, zxt ρ ts z → zxt ρ' (ts.map (fun q => (f q.1, q.2))) z
  | [], _, h => h
  | _ :: _, _, ⟨x, y, h1, h2, h3⟩ => ⟨x, y, hf _ _ h1, zreT_ok hf h2, h3⟩
theorem zreX_ok (hf : ∀ (s : Nat) (x : Int), ρ[s]? = some x → ρ'[f s]? = some x) {e : LX} {z : Int} (h : zxr ρ e z) : zxr ρ' (zreX f e) z := by
  obtain ⟨y, h1, h2⟩ := h
  exact ⟨y, zreT_ok hf h1, h2⟩
theorem zreV_ok (hp : ∀ (m x : Nat), m < N → η[m]? = some x → η'[p m]? = some x) (hf : ∀ (s : Nat) (x : Int), ρ[s]? = some x → ρ'[f s]? = some x) {a : AV} {v : Value} (ho : zokV N a = true) (h : zav η ρ a v) : zav η' ρ' (zreV p f a) v := by
  obtain ⟨t, e⟩ := a
  match t, h with
  | 0, ⟨x, h1, h2⟩ => exact ⟨x, h1, zreX_ok hf h2⟩
  | 1, ⟨x, h1, h2⟩ => exact ⟨x, h1, zreX_ok hf h2⟩
  | 2, ⟨i, h1, h2⟩ =>
    have hlt : e.1.toNat < N := Nat.le_of_ble_eq_true (n := e.1.toNat + 1) (m := N) (by simpa [zokV] using ho)
    exact ⟨i, by show η'[((p e.1.toNat : Nat) : Int).toNat]? = some i; rw [Int.toNat_natCast]; exact hp _ _ hlt h1, h2⟩
  | 3, h => exact h
  | 4, h => exact h
  | 5, h => exact h
  | 6, ⟨w, z, h1, h2, h3⟩ => exact ⟨w, z, h1, zreX_ok hf h2, h3⟩
theorem zreS_ok (hp : ∀ (m x : Nat), m < N → η[m]? = some x → η'[p m]? = some x) (hf : ∀ (s : Nat) (x : Int), ρ[s]? = some x → ρ'[f s]? = some x) : ∀ {as : List AV} {vs : List Value}, as.all (zokV N) = true → zaS η ρ as vs → zaS η' ρ' (as.map (zreV p f)) vs
  | [], [], _, _ => trivial
  | [], _ :: _, _, h => h.elim
  | _ :: _, [], _, h => h.elim
  | a :: as, _ :: _, ho, h => by
    rw [List.all_cons, Bool.and_eq_true] at ho
    exact ⟨zreV_ok hp hf ho.1 h.1, zreS_ok hp hf ho.2 h.2⟩
theorem zreC_ok (hp : ∀ (m x : Nat), m < N → η[m]? = some x → η'[p m]? = some x) (hf : ∀ (s : Nat) (x : Int), ρ[s]? = some x → ρ'[f s]? = some x) {c : AC} {h : zhE} (ho : zokC N c = true) (hc : zac η ρ c h) : zac η' ρ' (zreC p f c) h := by
  match c, hc with
  | .inl (ci, fs), ⟨vs, h1, h2⟩ => exact ⟨vs, h1, zreS_ok hp hf ho h2⟩
  | .inr (.inl (t, n, pe, rs, es)), ⟨g, h1, h2, h3, h4, h5, h6⟩ =>
    refine ⟨g, h1, h2, h3, h4, h5, fun e he => ?_⟩
    obtain ⟨e0, he0, rfl⟩ := List.mem_map.mp he
    obtain ⟨j, j1, j2, j3⟩ := h6 e0 he0
    exact ⟨j, zreX_ok hf j1, j2, zreX_ok hf j3⟩
  | .inr (.inr as), ⟨g, h1, h2⟩ =>
    refine ⟨g, by rw [h1, List.length_map], fun j a ha => ?_⟩
    rw [List.getElem?_map] at ha
    cases hj : as[j]? with
    | none => rw [hj] at ha; cases ha
    | some b =>
      rw [hj] at ha
      cases ha
      exact zreV_ok hp hf (List.all_eq_true.mp ho b (List.mem_of_getElem? hj)) (h2 j b hj)
theorem zreCl_ok (hp : ∀ (m x : Nat), m < N → η[m]? = some x → η'[p m]? = some x) (hf : ∀ (s : Nat) (x : Int), ρ[s]? = some x → ρ'[f s]? = some x) {C : PC} {h : List zhE} (ho : C.all (fun q => Nat.ble (q.1 + 1) N && zokC N q.2) = true) (hc : zcl2 η ρ C h) : zcl2 η' ρ' (C.map (fun q => (p q.1, zreC p f q.2))) h := by
  intro q hq
  obtain ⟨q0, hq0, rfl⟩ := List.mem_map.mp hq
  have h1 := List.all_eq_true.mp ho q0 hq0
  rw [Bool.and_eq_true] at h1
  obtain ⟨x, y, g1, g2, g3⟩ := hc q0 hq0
  exact ⟨x, y, hp _ _ (Nat.le_of_ble_eq_true h1.1) g1, g2, zreC_ok hp hf h1.2 g3⟩
theorem zreL_ok (hp : ∀ (m x : Nat), m < N → η[m]? = some x → η'[p m]? = some x) (hf : ∀ (s : Nat) (x : Int), ρ[s]? = some x → ρ'[f s]? = some x) {A : AL} {L : zL} (ho : A.all (fun q => zokV N q.2) = true) (hc : zaL η ρ A L) : zaL η' ρ' (A.map (fun q => (q.1, zreV p f q.2))) L := by
  intro q hq
  obtain ⟨q0, hq0, rfl⟩ := List.mem_map.mp hq
  obtain ⟨v, v1, v2⟩ := hc q0 hq0
  exact ⟨v, v1, zreV_ok hp hf (List.all_eq_true.mp ho q0 hq0) v2⟩
theorem zreO_ok (hp : ∀ (m x : Nat), m < N → η[m]? = some x → η'[p m]? = some x) {O O' : List Nat} {h : List zhE} (ho : O'.all (fun o => O.any (fun o0 => Nat.beq (o0 / 1000) (o / 1000) && (Nat.beq (p (o0 % 1000)) (o % 1000) && Nat.ble (o0 % 1000 + 1) N))) = true) (hc : zaO η O h) : zaO η' O' h := by
  intro o hoo
  have h1 := List.all_eq_true.mp ho o hoo
  obtain ⟨o0, h2, h3⟩ := List.any_eq_true.mp h1
  simp only [Bool.and_eq_true] at h3
  obtain ⟨j, j1, j2⟩ := hc o0 h2
  refine ⟨j, ?_, ?_⟩
  · rw [← Nat.eq_of_beq_eq_true h3.2.1]
    exact hp _ _ (Nat.le_of_ble_eq_true h3.2.2) j1
  · rw [← Nat.eq_of_beq_eq_true h3.1]
    exact j2
end ZRE
def zeqE : List (LX × LX) → List (LX × LX) → Bool
  | [], [] => true
  | p :: C, q :: D => decide (p.1 = q.1) && (decide (p.2 = q.2) && zeqE C D)
  | _, _ => false
theorem zeqE_ok : ∀ {C D : List (LX × LX)}, zeqE C D = true → C = D
  | [], [], _ => rfl
  | [], _ :: _, h => by cases h
  | _ :: _, [], h => by cases h
  | p :: C, q :: D, h => by
    simp only [zeqE, Bool.and_eq_true, decide_eq_true_eq] at h
    rw [zeqE_ok h.2.2]
    congr 1
    exact Prod.ext h.1 h.2.1
def zeqC (c d : AC) : Bool := match c, d with
  | .inl (a, fs), .inl (b, gs) => Nat.beq a b && decide (fs = gs)
  | .inr (.inl (t, n, p, rs, es)), .inr (.inl (t', n', p', rs', es')) => Nat.beq t t' && (Nat.beq n n' && (Nat.beq p p' && (decide (rs = rs') && zeqE es es')))
  | .inr (.inr x), .inr (.inr y) => decide (x = y)
  | _, _ => false
theorem zeqC_ok {c d : AC} (h : zeqC c d = true) : c = d := by
  unfold zeqC at h
  split at h
  · simp only [Bool.and_eq_true, decide_eq_true_eq] at h
    rw [Nat.eq_of_beq_eq_true h.1, h.2]
  · simp only [Bool.and_eq_true, decide_eq_true_eq] at h
    obtain ⟨h1, h2, h3, h4, h5⟩ := h
    rw [Nat.eq_of_beq_eq_true h1, Nat.eq_of_beq_eq_true h2, Nat.eq_of_beq_eq_true h3, h4, zeqE_ok h5]
  · simp only [decide_eq_true_eq] at h
    rw [h]
  · cases h
def zeqP : PC → PC → Bool
  | [], [] => true
  | p :: C, q :: D => Nat.beq p.1 q.1 && (zeqC p.2 q.2 && zeqP C D)
  | _, _ => false
theorem zeqP_ok : ∀ {C D : PC}, zeqP C D = true → C = D
  | [], [], _ => rfl
  | [], _ :: _, h => by cases h
  | _ :: _, [], h => by cases h
  | p :: C, q :: D, h => by
    simp only [zeqP, Bool.and_eq_true] at h
    rw [zeqP_ok h.2.2]
    congr 1
    exact Prod.ext (Nat.eq_of_beq_eq_true h.1) (zeqC_ok h.2.1)
/-! more cells behind those that a pattern speaks of -/
theorem zcl2_app {η : List Nat} {ρ : List Int} {C : PC} {hp m : List zhE} (h : zcl2 η ρ C hp) : zcl2 η ρ C (hp ++ m) := by
  intro q hq
  obtain ⟨x, y, g1, g2, g3⟩ := h q hq
  exact ⟨x, y, g1, by rw [List.getElem?_append_left (List.getElem?_eq_some_iff.mp g2).1]; exact g2, g3⟩
/-! steps by hand in the law -/
section ZLS
variable {lk : ZLP} {Lx : Nat} {xs : Nat → Int32} {k : Nat} {pc : Nat} {L : zL} {st : List Value} {hp : List zhE} {c s : Nat} {Q : ZP}
theorem zl_ldI {p0 i a b : Nat} {v : Int} {x : Int32} (h : zatp k pc = some (p0, .iload i, a, b, v)) (hl : zlk L i = some (.int x)) (hn : zWP lk Lx xs k (pc + 2, L, .int x :: st, hp, c, s) Q) : zWP lk Lx xs k (pc, L, st, hp, c, s) Q := by
  refine zs0 h rfl ?_ hn
  show zldI pc L st hp c s 2 i = _
  unfold zldI
  rw [hl]
theorem zl_ldR {p0 a b : Nat} {i : Fin 4} {v : Int} {x : Nat} (h : zatp k pc = some (p0, .aload_n i, a, b, v)) (hl : zlk L i.val = some (.ref x)) (hn : zWP lk Lx xs k (pc + 1, L, .ref x :: st, hp, c, s) Q) : zWP lk Lx xs k (pc, L, st, hp, c, s) Q := by
  refine zs0 h rfl ?_ hn
  show zldA pc L st hp c s 1 i.val = _
  unfold zldA
  rw [hl]
theorem zl_ldS {p0 a b : Nat} {i : Fin 4} {v : Int} (h : zatp k pc = some (p0, .aload_n i, a, b, v)) (hl : zlk L i.val = some (.float 0)) (hn : zWP lk Lx xs k (pc + 1, L, .float 0 :: st, hp, c, s) Q) : zWP lk Lx xs k (pc, L, st, hp, c, s) Q := by
  refine zs0 h rfl ?_ hn
  show zldA pc L st hp c s 1 i.val = _
  unfold zldA
  rw [hl]
theorem zl_sld {p0 a b : Nat} {v : Int} {j : Int32} (h : zatp k pc = some (p0, .iaload, a, b, v)) (hx : zin j Lx = true) (hn : zWP lk Lx xs k (pc + 1, L, .int (xs j.toNatClampNeg) :: st, hp, c, s) Q) : zWP lk Lx xs k (pc, L, .int j :: .float 0 :: st, hp, c, s) Q := by
  refine zs0 h rfl ?_ hn
  show (match zbt (.int j :: .float 0 :: st) hp 0 with | 0 => zalI pc L (.int j :: .float 0 :: st) hp c s 0 | _ => zsl pc L (.int j :: .float 0 :: st) hp c s Lx xs) = _
  have e : zbt (.int j :: .float 0 :: st) hp 0 = 9 := rfl
  rw [e]
  show zsl pc L (.int j :: .float 0 :: st) hp c s Lx xs = _
  unfold zsl
  simp only [hx]
theorem zl_iadd {p0 a b : Nat} {v : Int} {x y : Int32} (h : zatp k pc = some (p0, .iadd, a, b, v)) (hn : zWP lk Lx xs k (pc + 1, L, .int (x + y) :: st, hp, c, s) Q) : zWP lk Lx xs k (pc, L, .int y :: .int x :: st, hp, c, s) Q := zs0 h rfl rfl hn
theorem zl_ret {p0 b : Nat} {v : Int} {a : Nat} {x : Int32} (h : zatp k pc = some (p0, .ireturn, a, b, v)) (hx : x = 0 ∨ x = 1) (hc : c ≤ (zrm k).cells) (hs : s ≤ (zrm k).slots) (hq : Q (some (.int x)) hp) : zWP lk Lx xs k (pc, L, [.int x], hp, c, s) Q := by
  obtain ⟨h1, h2⟩ := zatp_ok h
  exact zWP.step ⟨_, h1, h2, hc, hs, x, rfl, Or.inr hx, hq⟩
/-- the look's own rule -/
theorem zl_look {p0 q a b : Nat} {v : Int} {vs : List Value} {P : ZP} (h : zatp k pc = some (p0, .invokestatic q, a, b, v)) (hk : zkind (.invokestatic q) a b v = 7) (hs8 : zsum st ≤ 8) (hc : c + 8 ≤ (zrm k).cells) (hs : s + 100 ≤ (zrm k).slots) (hP : lk vs hp P) (hn : ∀ rv hp', P rv hp' → zWP lk Lx xs k (pc + 3, L, rv.toList ++ st, hp', c + 8, s + 100) Q) : zWP lk Lx xs k (pc, L, vs.reverse ++ st, hp, c, s) Q := by
  obtain ⟨h1, h2⟩ := zatp_ok h
  refine zWP.step ⟨_, h1, h2, ?_⟩
  simp only [hk]
  exact ⟨vs, st, rfl, hs8, hc, hs, P, hP, hn⟩
end ZLS
def zltg : List Nat := [184, 257, 282, 307, 332, 372, 421, 446, 459, 496, 545, 582, 595, 632, 701, 726, 775, 840, 865, 902, 927, 964, 1013, 1026, 1051, 1076, 1101, 1126, 1163, 1176, 1189, 1202]
section ZHD
variable {lk : ZLP} {Lx : Nat} {xs : Nat → Int32} {L : zL} {hp : List zhE} {c s : Nat} {Q : ZP}
set_option maxRecDepth 20000 in
theorem zhead {x : Int32} (hL0 : zlk L 0 = some (.float 0)) (hL4 : zlk L 4 = some (.int x)) (hLx : Lx ≤ 3072) (hx0 : 0 ≤ x.toInt) (hret : Q (some (.int 1)) hp) (hc : c ≤ (zrm 276).cells) (hs : s ≤ (zrm 276).slots) (hk : x.toInt + 6 ≤ (Lx : Int) → ∀ k : Nat, k < 32 → zWP lk Lx xs 276 (zltg.getD k 0, L, [], hp, c, s) Q) : zWP lk Lx xs 276 (23, L, [], hp, c, s) Q := by
  have e6 : ((Int8.ofInt 6).toInt32).toInt = 6 := rfl
  have eL : (Int32.ofNat Lx).toInt = (Lx : Int) := Int32.toInt_ofNat_of_lt (by omega)
  have e1 : (Int32.ofNat Lx - (Int8.ofInt 6).toInt32).toInt = (Lx : Int) - 6 := by
    rw [zb_sub (by rw [eL, e6]; omega) (by rw [eL, e6]; omega), eL, e6]
  refine zl_ldI (by rfl) hL4 ?_
  refine zl_ldS (by rfl) hL0 ?_
  refine zs0 (by rfl) rfl rfl ?_
  refine zs0 (by rfl) rfl rfl ?_
  refine zs0 (by rfl) rfl rfl ?_
  refine zs_icmp (by rfl) (t := 1233) (by rfl) (fun hb => ?_) (fun hb => ?_)
  · refine zs0 (by rfl) rfl rfl ?_
    exact zl_ret (by rfl) (Or.inr rfl) hc hs hret
  · have hb : decide (Int32.ofNat Lx - (Int8.ofInt 6).toInt32 < x) = false := hb
    rw [decide_eq_false_iff_not, Int32.lt_iff_toInt_lt, e1] at hb
    have hi : x.toInt + 6 ≤ (Lx : Int) := by omega
    refine zl_ldS (by rfl) hL0 ?_
    refine zl_ldI (by rfl) hL4 ?_
    refine zl_sld (by rfl) (zin_of hx0 (by omega)) ?_
    refine zs0 (by rfl) rfl rfl ?_
    refine zs0 (by rfl) rfl rfl ?_
    have hw := zb_and0 (x := xs x.toNatClampNeg) (y := (Int8.ofInt 31).toInt32) (by decide)
    have e31 : ((Int8.ofInt 31).toInt32).toInt = 31 := rfl
    rw [e31] at hw
    have hh : ∀ w : Int32, 0 ≤ w.toInt → w.toInt ≤ 31 → zWP lk Lx xs 276 (40, L, [.int w], hp, c, s) Q := by
      intro w w0 w1
      obtain ⟨k, hk32, rfl⟩ : ∃ k : Nat, k < 32 ∧ w = Int32.ofInt (k : Int) := ⟨w.toInt.toNat, by omega, by apply Int32.toInt_inj.1; rw [zof_ix (by omega)]; omega⟩
      have hk := hk hi k hk32
      rcases (show k = 0 ∨ k = 1 ∨ k = 2 ∨ k = 3 ∨ k = 4 ∨ k = 5 ∨ k = 6 ∨ k = 7 ∨ k = 8 ∨ k = 9 ∨ k = 10 ∨ k = 11 ∨ k = 12 ∨ k = 13 ∨ k = 14 ∨ k = 15 ∨ k = 16 ∨ k = 17 ∨ k = 18 ∨ k = 19 ∨ k = 20 ∨ k = 21 ∨ k = 22 ∨ k = 23 ∨ k = 24 ∨ k = 25 ∨ k = 26 ∨ k = 27 ∨ k = 28 ∨ k = 29 ∨ k = 30 ∨ k = 31 by omega) with rfl | rfl | rfl | rfl | rfl | rfl | rfl | rfl | rfl | rfl | rfl | rfl | rfl | rfl | rfl | rfl | rfl | rfl | rfl | rfl | rfl | rfl | rfl | rfl | rfl | rfl | rfl | rfl | rfl | rfl | rfl | rfl
      all_goals exact zs0 (by rfl) rfl rfl hk
    exact hh _ hw.1 hw.2
end ZHD
