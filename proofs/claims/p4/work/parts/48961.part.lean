/-! a heap by a list of cells at places of their own; steps of a run that comes back -/
def zHe (e : Nat → Nat) : Nat → List zhE → List zhE → List zhE
  | _, [], hp => hp
  | i, c :: C, hp => (zHe e (i + 1) C hp).set (e i) c
/-- places apart, within the heap -/
def zeI (e : Nat → Nat) (hp : List zhE) (N : Nat) : Prop := (∀ i j, i < N → j < N → e i = e j → i = j) ∧ ∀ i, i < N → e i < hp.length
theorem zHe_len {e : Nat → Nat} {hp : List zhE} : ∀ {C : List zhE} {i : Nat}, (zHe e i C hp).length = hp.length
  | [], _ => rfl
  | c :: C, i => by
    show ((zHe e (i + 1) C hp).set (e i) c).length = _
    rw [List.length_set]
    exact zHe_len
theorem zHe_get0 {e : Nat → Nat} {hp : List zhE} {N : Nat} (he : zeI e hp N) : ∀ {C : List zhE} {i j : Nat} {c : zhE}, i + C.length ≤ N → C[j]? = some c → (zHe e i C hp)[e (i + j)]? = some c
  | [], _, j, _, _, h => by simp at h
  | x :: C, i, j, c, hN, h => by
    have hN : i + (C.length + 1) ≤ N := hN
    show ((zHe e (i + 1) C hp).set (e i) x)[e (i + j)]? = some c
    match j, h with
    | 0, h =>
      cases h
      exact List.getElem?_set_self (by rw [zHe_len]; exact he.2 i (by omega))
    | j + 1, h =>
      have h : C[j]? = some c := by simpa using h
      have hj : j < C.length := (List.getElem?_eq_some_iff.mp h).1
      have hne : e i ≠ e (i + (j + 1)) := fun q => by
        have := he.1 i (i + (j + 1)) (by omega) (by omega) q
        omega
      rw [List.getElem?_set_ne hne, show i + (j + 1) = i + 1 + j by omega]
      exact zHe_get0 he (by omega) h
theorem zHe_set0 {e : Nat → Nat} {hp : List zhE} {N : Nat} (he : zeI e hp N) : ∀ {C : List zhE} {i j : Nat} {v : zhE}, i + C.length ≤ N → j < C.length → (zHe e i C hp).set (e (i + j)) v = zHe e i (C.set j v) hp
  | [], _, j, _, _, h => by simp at h
  | x :: C, i, j, v, hN, h => by
    have hN : i + (C.length + 1) ≤ N := hN
    match j, h with
    | 0, h =>
      show ((zHe e (i + 1) C hp).set (e i) x).set (e i) v = (zHe e (i + 1) C hp).set (e i) v
      rw [List.set_set]
    | j + 1, h =>
      have h : j < C.length := Nat.lt_of_succ_lt_succ h
      have hne : e i ≠ e (i + (j + 1)) := fun q => by
        have := he.1 i (i + (j + 1)) (by omega) (by omega) q
        omega
      show ((zHe e (i + 1) C hp).set (e i) x).set (e (i + (j + 1))) v = (zHe e (i + 1) (C.set j v) hp).set (e i) x
      rw [List.set_comm _ _ hne, show i + (j + 1) = i + 1 + j by omega, zHe_set0 he (by omega) h]
theorem zHe_out {e : Nat → Nat} {hp : List zhE} {x : Nat} : ∀ {C : List zhE} {i : Nat}, (∀ j, i ≤ j → j < i + C.length → x ≠ e j) → (zHe e i C hp)[x]? = hp[x]?
  | [], _, _ => rfl
  | c :: C, i, h => by
    show ((zHe e (i + 1) C hp).set (e i) c)[x]? = _
    rw [List.getElem?_set_ne (fun q => h i (Nat.le_refl _) (by simp) q.symm)]
    exact zHe_out (fun j h1 h2 => h j (by omega) (by simp only [List.length_cons]; omega))
/-- a heap is its own list of cells -/
theorem zHe_self {e : Nat → Nat} {hp : List zhE} : ∀ {C : List zhE} {i : Nat}, (∀ j c, C[j]? = some c → hp[e (i + j)]? = some c) → zHe e i C hp = hp
  | [], _, _ => rfl
  | c :: C, i, h => by
    show (zHe e (i + 1) C hp).set (e i) c = hp
    have h1 : zHe e (i + 1) C hp = hp := zHe_self (fun j d hd => by
      have := h (j + 1) d (by simpa using hd)
      rwa [show i + (j + 1) = i + 1 + j by omega] at this)
    rw [h1]
    have h2 := h 0 c rfl
    rw [Nat.add_zero] at h2
    obtain ⟨h3, h4⟩ := List.getElem?_eq_some_iff.mp h2
    rw [← h4]
    exact List.set_getElem_self h3
def zPn (Lx : Nat) (xs : Nat → Int32) (n k : Nat) (z : zCF) (Q : ZP) : Prop := ∀ rv hp', zEv Lx xs n k z rv hp' → Q rv hp'
section ZPN
variable {Lx : Nat} {xs : Nat → Int32} {n k : Nat} {pc : Nat} {L : zL} {st : List Value} {hp : List zhE} {c s : Nat} {Q : ZP} {z : zCF}
theorem zPn.le {m : Nat} (h : zPn Lx xs m k z Q) (hnm : n ≤ m) : zPn Lx xs n k z Q := fun rv hp' he => h rv hp' (zEv_le hnm he)
theorem zPn.post (h : zPn Lx xs n k z Q) {Q' : ZP} (hq : ∀ rv hp', Q rv hp' → Q' rv hp') : zPn Lx xs n k z Q' := fun rv hp' he => hq _ _ (h rv hp' he)
/-- a run with an end ends with both -/
theorem zWP.and {lk : ZLP} {k : Nat} {z : zCF} {P Q : ZP} (hk : k < 276) (h : zWP lk Lx xs k z P) (h2 : ∀ n, zPn Lx xs n k z Q) : zWP lk Lx xs k z (fun rv hp' => P rv hp' ∧ Q rv hp') := (zWP.ev hk h).post fun rv hp' ⟨p, n, q⟩ => ⟨p, h2 n rv hp' q⟩
theorem zp0s {e : zPE} (h : zatp k pc = some e) (hk : zkind e.2.1 e.2.2.1 e.2.2.2.1 e.2.2.2.2 = 0) (hn : ∀ m, m < n → ∀ z', zone pc L st hp c s Lx xs (zrw k).2.1 (zrm k) e.2.1 e.2.2.1 e.2.2.2.1 e.2.2.2.2 = some z' → zPn Lx xs m k z' Q) : zPn Lx xs n k (pc, L, st, hp, c, s) Q := by
  intro rv hp' hE
  match n, hE, hn with
  | 0, hE, _ => exact hE.elim
  | n + 1, hE, hn =>
    obtain ⟨e', h1, h2⟩ := hE
    cases h.symm.trans h1
    rw [hk] at h2
    obtain ⟨z2, h3, h4⟩ := h2
    exact hn n (Nat.lt_succ_self n) z2 h3 rv hp' h4
theorem zp0g {e : zPE} (h : zatp k pc = some e) (hk : zkind e.2.1 e.2.2.1 e.2.2.2.1 e.2.2.2.2 = 0) (hn : ∀ z', zone pc L st hp c s Lx xs (zrw k).2.1 (zrm k) e.2.1 e.2.2.1 e.2.2.2.1 e.2.2.2.2 = some z' → zPn Lx xs n k z' Q) : zPn Lx xs n k (pc, L, st, hp, c, s) Q := zp0s h hk fun m hm z' hz => (hn z' hz).le (Nat.le_of_lt hm)
theorem zp0 {e : zPE} {z' : zCF} (h : zatp k pc = some e) (hk : zkind e.2.1 e.2.2.1 e.2.2.2.1 e.2.2.2.2 = 0) (hz : zone pc L st hp c s Lx xs (zrw k).2.1 (zrm k) e.2.1 e.2.2.1 e.2.2.2.1 e.2.2.2.2 = some z') (hn : zPn Lx xs n k z' Q) : zPn Lx xs n k (pc, L, st, hp, c, s) Q := zp0g h hk fun z2 hz2 => by
  cases hz.symm.trans hz2
  exact hn
/-- a step that counts: for loops -/
theorem zp0l {e : zPE} {z' : zCF} (h : zatp k pc = some e) (hk : zkind e.2.1 e.2.2.1 e.2.2.2.1 e.2.2.2.2 = 0) (hz : zone pc L st hp c s Lx xs (zrw k).2.1 (zrm k) e.2.1 e.2.2.1 e.2.2.2.1 e.2.2.2.2 = some z') (hn : ∀ m, m < n → zPn Lx xs m k z' Q) : zPn Lx xs n k (pc, L, st, hp, c, s) Q := zp0s h hk fun m hm z2 hz2 => by
  cases hz.symm.trans hz2
  exact hn m hm
theorem zp_if {p0 t : Nat} {cd : ClassFile.Cond} {off : Int} {a b : Nat} {v : Int} {x : Int32} (h : zatp k pc = some (p0, .ifCond cd off, a, b, v)) (ht : zJ pc off = some t) (h1 : zcb cd x 0 = true → zPn Lx xs n k (t, L, st, hp, c, s) Q) (h2 : zcb cd x 0 = false → zPn Lx xs n k (pc + 3, L, st, hp, c, s) Q) : zPn Lx xs n k (pc, L, .int x :: st, hp, c, s) Q := by
  cases hb : zcb cd x 0 with
  | true =>
    refine zp0 h rfl ?_ (h1 hb)
    show zbr pc L hp c s off (zcb cd x 0) st = _
    unfold zbr
    rw [ht, hb]
    rfl
  | false =>
    refine zp0 h rfl ?_ (h2 hb)
    show zbr pc L hp c s off (zcb cd x 0) st = _
    unfold zbr
    rw [ht, hb]
    rfl
theorem zp_icmp {p0 t : Nat} {cd : ClassFile.Cond} {off : Int} {a b : Nat} {v : Int} {x y : Int32} (h : zatp k pc = some (p0, .if_icmp cd off, a, b, v)) (ht : zJ pc off = some t) (h1 : zcb cd x y = true → zPn Lx xs n k (t, L, st, hp, c, s) Q) (h2 : zcb cd x y = false → zPn Lx xs n k (pc + 3, L, st, hp, c, s) Q) : zPn Lx xs n k (pc, L, .int y :: .int x :: st, hp, c, s) Q := by
  cases hb : zcb cd x y with
  | true =>
    refine zp0 h rfl ?_ (h1 hb)
    show zbr pc L hp c s off (zcb cd x y) st = _
    unfold zbr
    rw [ht, hb]
    rfl
  | false =>
    refine zp0 h rfl ?_ (h2 hb)
    show zbr pc L hp c s off (zcb cd x y) st = _
    unfold zbr
    rw [ht, hb]
    rfl
theorem zp_retI {p0 a b : Nat} {v : Int} {x : Int32} (h : zatp k pc = some (p0, .ireturn, a, b, v)) (hq : Q (some (.int x)) hp) : zPn Lx xs n k (pc, L, [.int x], hp, c, s) Q := by
  intro rv hp' hE
  match n, hE with
  | 0, hE => exact hE.elim
  | n + 1, hE =>
    obtain ⟨e', h1, h2⟩ := hE
    cases h.symm.trans h1
    obtain ⟨y, h3, rfl, rfl⟩ := h2
    cases h3
    exact hq
theorem zp_retV {p0 a b : Nat} {v : Int} (h : zatp k pc = some (p0, .return_, a, b, v)) (hq : Q none hp) : zPn Lx xs n k (pc, L, [], hp, c, s) Q := by
  intro rv hp' hE
  match n, hE with
  | 0, hE => exact hE.elim
  | n + 1, hE =>
    obtain ⟨e', h1, h2⟩ := hE
    cases h.symm.trans h1
    obtain ⟨h3, rfl, rfl⟩ := h2
    exact hq
theorem zsplit_virt {vs vs2 : List Value} {r r2 : Nat} {st st2 : List Value} (hl : vs2.length = vs.length) (h : vs.reverse ++ Value.ref r :: st = vs2.reverse ++ Value.ref r2 :: st2) : vs = vs2 ∧ r = r2 ∧ st = st2 := by
  obtain ⟨h1, h2⟩ := List.append_inj h (by simp [hl])
  cases h2
  exact ⟨List.reverse_inj.mp h1, rfl, rfl⟩
theorem zsplit_stat {vs vs2 : List Value} {st st2 : List Value} (hl : vs2.length = vs.length) (h : vs.reverse ++ st = vs2.reverse ++ st2) : vs = vs2 ∧ st = st2 := by
  obtain ⟨h1, h2⟩ := List.append_inj h (by simp [hl])
  exact ⟨List.reverse_inj.mp h1, h2⟩
theorem zp_virt {p0 q a j nn : Nat} {v : Int} {vs : List Value} {P : ZP} (h : zatp k pc = some (p0, .invokevirtual q, a, nn, v)) (hl : vs.length = nn) (hP : zPn Lx xs n a (0, lv_args 0 (.ref j :: vs), [], hp, 0, 0) P) (hn : ∀ rv hp', P rv hp' → zPn Lx xs n k (pc + 3, L, rv.toList ++ st, hp', c + (zrm a).cells, s + (zrm a).slots) Q) : zPn Lx xs n k (pc, L, vs.reverse ++ .ref j :: st, hp, c, s) Q := by
  intro rv hp' hE
  match n, hE, hP, hn with
  | 0, hE, _, _ => exact hE.elim
  | n + 1, hE, hP, hn =>
    obtain ⟨e', h1, h2⟩ := hE
    cases h.symm.trans h1
    obtain ⟨vs2, r2, st2, h3, h4, rv1, hp1, h5, h6⟩ := h2
    obtain ⟨rfl, rfl, rfl⟩ := zsplit_virt (h4.trans hl.symm) h3
    exact hn rv1 hp1 (hP rv1 hp1 (zEv_up h5)) rv hp' (zEv_up h6)
theorem zp_spec {p0 q a j nn : Nat} {v : Int} {vs : List Value} {P : ZP} (h : zatp k pc = some (p0, .invokespecial q, a, nn, v)) (hk : zkind (.invokespecial q) a nn v = 3) (hl : vs.length = nn) (hP : zPn Lx xs n a (0, lv_args 0 (.ref j :: vs), [], hp, 0, 0) P) (hn : ∀ rv hp', P rv hp' → zPn Lx xs n k (pc + 3, L, rv.toList ++ st, hp', c + (zrm a).cells, s + (zrm a).slots) Q) : zPn Lx xs n k (pc, L, vs.reverse ++ .ref j :: st, hp, c, s) Q := by
  intro rv hp' hE
  match n, hE, hP, hn with
  | 0, hE, _, _ => exact hE.elim
  | n + 1, hE, hP, hn =>
    obtain ⟨e', h1, h2⟩ := hE
    cases h.symm.trans h1
    simp only [hk] at h2
    obtain ⟨vs2, r2, st2, h3, h4, rv1, hp1, h5, h6⟩ := h2
    obtain ⟨rfl, rfl, rfl⟩ := zsplit_virt (h4.trans hl.symm) h3
    exact hn rv1 hp1 (hP rv1 hp1 (zEv_up h5)) rv hp' (zEv_up h6)
theorem zp_stat {p0 q a nn : Nat} {v : Int} {vs : List Value} {P : ZP} (h : zatp k pc = some (p0, .invokestatic q, a, nn, v)) (hk : zkind (.invokestatic q) a nn v = 2) (hl : vs.length = nn) (hP : zPn Lx xs n a (0, lv_args 0 vs, [], hp, 0, 0) P) (hn : ∀ rv hp', P rv hp' → zPn Lx xs n k (pc + 3, L, rv.toList ++ st, hp', c + (zrm a).cells, s + (zrm a).slots) Q) : zPn Lx xs n k (pc, L, vs.reverse ++ st, hp, c, s) Q := by
  intro rv hp' hE
  match n, hE, hP, hn with
  | 0, hE, _, _ => exact hE.elim
  | n + 1, hE, hP, hn =>
    obtain ⟨e', h1, h2⟩ := hE
    cases h.symm.trans h1
    simp only [hk] at h2
    obtain ⟨vs2, st2, h3, h4, rv1, hp1, h5, h6⟩ := h2
    obtain ⟨rfl, rfl⟩ := zsplit_stat (h4.trans hl.symm) h3
    exact hn rv1 hp1 (hP rv1 hp1 (zEv_up h5)) rv hp' (zEv_up h6)
end ZPN
section ZPH
variable {Lx : Nat} {xs : Nat → Int32} {n k : Nat} {pc : Nat} {L : zL} {st : List Value} {hp : List zhE} {c s : Nat} {Q : ZP} {e : Nat → Nat} {C : List zhE}
theorem zHe_get {j : Nat} {d : zhE} (he : zeI e hp C.length) (h : C[j]? = some d) : (zHe e 0 C hp)[e j]? = some d := by
  have := zHe_get0 he (i := 0) (by omega) h
  rwa [Nat.zero_add] at this
theorem zHe_set {j : Nat} {v : zhE} (he : zeI e hp C.length) (h : j < C.length) : (zHe e 0 C hp).set (e j) v = zHe e 0 (C.set j v) hp := by
  have := zHe_set0 he (i := 0) (v := v) (by omega) h
  rwa [Nat.zero_add] at this
theorem zp_get {p0 q a b j : Nat} {v : Int} {fs : List Value} {w : Value} (he : zeI e hp C.length) (h : zatp k pc = some (p0, .getfield q, a, b, v)) (hc : C[j]? = some (.inr (a, fs))) (hf : fs[b]? = some w) (hn : zPn Lx xs n k (pc + 3, L, w :: st, zHe e 0 C hp, c, s) Q) : zPn Lx xs n k (pc, L, .ref (e j) :: st, zHe e 0 C hp, c, s) Q := by
  refine zp0 h rfl ?_ hn
  show zgf pc L (.ref (e j) :: st) _ c s a b = _
  unfold zgf
  simp only [zHe_get he hc, Nat.beq_refl, hf]
theorem zp_put {p0 q a b j : Nat} {v : Int} {fs : List Value} {w : Value} (he : zeI e hp C.length) (h : zatp k pc = some (p0, .putfield q, a, b, v)) (hc : C[j]? = some (.inr (a, fs))) (hn : zvk v w = true → zPn Lx xs n k (pc + 3, L, st, zHe e 0 (C.set j (.inr (a, fs.set b w))) hp, c, s) Q) : zPn Lx xs n k (pc, L, w :: .ref (e j) :: st, zHe e 0 C hp, c, s) Q := by
  refine zp0g h rfl fun z' hz => ?_
  have hz : zpf pc L (w :: .ref (e j) :: st) (zHe e 0 C hp) c s a b v = some z' := hz
  unfold zpf at hz
  simp only [zHe_get he hc, Nat.beq_refl, Bool.true_and] at hz
  split at hz
  · rename_i hg
    rw [Bool.and_eq_true] at hg
    cases hz
    rw [zHe_set he (List.getElem?_eq_some_iff.mp hc).1]
    exact hn hg.2
  · cases hz
theorem zzin {x : Int32} {m : Nat} (h : zin x m = true) : 0 ≤ x.toInt ∧ x.toInt < m := by
  unfold zin at h
  rw [Bool.and_eq_true, decide_eq_true_eq, decide_eq_true_eq] at h
  exact h
theorem zp_aldI {p0 a b j m : Nat} {v : Int} {f : Nat → Int32} {x : Int32} (he : zeI e hp C.length) (h : zatp k pc = some (p0, .iaload, a, b, v)) (hc : C[j]? = some (.inl (0, m, .inl f))) (hn : 0 ≤ x.toInt → x.toInt < m → zPn Lx xs n k (pc + 1, L, .int (f x.toNatClampNeg) :: st, zHe e 0 C hp, c, s) Q) : zPn Lx xs n k (pc, L, .int x :: .ref (e j) :: st, zHe e 0 C hp, c, s) Q := by
  refine zp0g h rfl fun z' hz => ?_
  have hz : (match zbt (.int x :: .ref (e j) :: st) (zHe e 0 C hp) 0 with | 0 => zalI pc L (.int x :: .ref (e j) :: st) (zHe e 0 C hp) c s 0 | _ => zsl pc L (.int x :: .ref (e j) :: st) (zHe e 0 C hp) c s Lx xs) = some z' := hz
  have hb : zbt (.int x :: .ref (e j) :: st) (zHe e 0 C hp) 0 = 0 := by
    unfold zbt
    simp only [List.drop_succ_cons, List.drop_zero, zHe_get he hc]
  rw [hb] at hz
  have hz : zalI pc L (.int x :: .ref (e j) :: st) (zHe e 0 C hp) c s 0 = some z' := hz
  unfold zalI at hz
  simp only [zHe_get he hc, Nat.beq_refl, Bool.true_and] at hz
  split at hz
  · rename_i hg
    cases hz
    exact hn (zzin hg).1 (zzin hg).2
  · cases hz
theorem zp_aldB {p0 a b j m : Nat} {v : Int} {f : Nat → Int32} {x : Int32} (he : zeI e hp C.length) (h : zatp k pc = some (p0, .baload, a, b, v)) (hc : C[j]? = some (.inl (2, m, .inl f))) (hn : 0 ≤ x.toInt → x.toInt < m → zPn Lx xs n k (pc + 1, L, .int (f x.toNatClampNeg) :: st, zHe e 0 C hp, c, s) Q) : zPn Lx xs n k (pc, L, .int x :: .ref (e j) :: st, zHe e 0 C hp, c, s) Q := by
  refine zp0g h rfl fun z' hz => ?_
  have hz : (match zbt (.int x :: .ref (e j) :: st) (zHe e 0 C hp) 0 with | 2 => zalI pc L (.int x :: .ref (e j) :: st) (zHe e 0 C hp) c s 2 | 3 => zalI pc L (.int x :: .ref (e j) :: st) (zHe e 0 C hp) c s 3 | _ => none) = some z' := hz
  have hb : zbt (.int x :: .ref (e j) :: st) (zHe e 0 C hp) 0 = 2 := by
    unfold zbt
    simp only [List.drop_succ_cons, List.drop_zero, zHe_get he hc]
  rw [hb] at hz
  have hz : zalI pc L (.int x :: .ref (e j) :: st) (zHe e 0 C hp) c s 2 = some z' := hz
  unfold zalI at hz
  simp only [zHe_get he hc, Nat.beq_refl, Bool.true_and] at hz
  split at hz
  · rename_i hg
    cases hz
    exact hn (zzin hg).1 (zzin hg).2
  · cases hz
theorem zp_astI {p0 a b j m : Nat} {v : Int} {f : Nat → Int32} {x y : Int32} (he : zeI e hp C.length) (h : zatp k pc = some (p0, .iastore, a, b, v)) (hc : C[j]? = some (.inl (0, m, .inl f))) (hn : 0 ≤ x.toInt → x.toInt < m → zPn Lx xs n k (pc + 1, L, st, zHe e 0 (C.set j (.inl (0, m, .inl (va_up f x.toNatClampNeg y)))) hp, c, s) Q) : zPn Lx xs n k (pc, L, .int y :: .int x :: .ref (e j) :: st, zHe e 0 C hp, c, s) Q := by
  refine zp0g h rfl fun z' hz => ?_
  have hz : zasI pc L (.int y :: .int x :: .ref (e j) :: st) (zHe e 0 C hp) c s 0 (fun x => x) = some z' := hz
  unfold zasI at hz
  simp only [zHe_get he hc, Nat.beq_refl, Bool.true_and] at hz
  split at hz
  · rename_i hg
    cases hz
    rw [zHe_set he (List.getElem?_eq_some_iff.mp hc).1]
    exact hn (zzin hg).1 (zzin hg).2
  · cases hz
theorem zp_len {p0 a b j t m : Nat} {v : Int} {f : zhA} (he : zeI e hp C.length) (h : zatp k pc = some (p0, .arraylength, a, b, v)) (hc : C[j]? = some (.inl (t, m, f))) (hn : zPn Lx xs n k (pc + 1, L, .int (Int32.ofNat m) :: st, zHe e 0 C hp, c, s) Q) : zPn Lx xs n k (pc, L, .ref (e j) :: st, zHe e 0 C hp, c, s) Q := by
  refine zp0g h rfl fun z' hz => ?_
  have hz : zlen1 pc L (.ref (e j) :: st) (zHe e 0 C hp) c s Lx = some z' := hz
  unfold zlen1 at hz
  simp only [zHe_get he hc] at hz
  split at hz
  · cases hz
    exact hn
  · cases hz
/-- a switch: the number is one of the list, or none -/
def zswP (pc : Nat) (d : Int) : List (Int × Int) → Int → (Nat → Prop) → Prop
  | [], _, P => ∀ t, zJ pc d = some t → P t
  | q :: ps, x, P => (x = q.1 → ∀ t, zJ pc q.2 = some t → P t) ∧ (x ≠ q.1 → zswP pc d ps x P)
end ZPH
