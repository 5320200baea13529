/-! the tokens told, on both sides; E's loop -/
def zScT (T : Nat → Int32) (m k i : Nat) (C : Nat → Nat → Int32) : Prop := zCrow T m (k + 1) C ∧ C 1 3 = Int32.ofInt (k : Int) ∧ zpl T m k = m ∧ (∀ j, j < k → zpl T m j < m) ∧ k ≤ 600 ∧ i ≤ k ∧ C 1 4 = Int32.ofInt (i : Int) ∧ C 1 8 = (zcE T m (zpl T m i)).2.1 ∧ C 1 9 = Int32.ofInt (zpl T m i : Nat) ∧ C 1 10 = (zcE T m (zpl T m i)).2.2
theorem zScT_of {T U : Nat → Int32} {m k i : Nat} {C : Nat → Nat → Int32} (h : ∀ q, q < m → T q = U q) (g : zScT T m k i C) : zScT U m k i C := by
  obtain ⟨h1, h2, h3, h4, h5, h6, h7, h8, h9, h10⟩ := g
  have hp := zpl_congr h
  have hE := fun a => zcE_congr (a := a) h
  refine ⟨fun j hj => ?_, h2, ?_, fun j hj => ?_, h5, h6, h7, ?_, ?_, ?_⟩
  · rw [← hp, ← hE]
    exact h1 j hj
  · rw [← hp]
    exact h3
  · rw [← hp]
    exact h4 j hj
  · rw [← hp, ← hE]
    exact h8
  · rw [← hp]
    exact h9
  · rw [← hp, ← hE]
    exact h10
theorem zScT_fr {T : Nat → Int32} {m k i : Nat} {C C' : Nat → Nat → Int32} (g : zScT T m k i C) (e1 : C' 1 = C 1) (e2 : C' 2 = C 2) (e3 : C' 3 = C 3) (e4 : C' 4 = C 4) : zScT T m k i C' := by
  unfold zScT zCrow at g ⊢
  rw [e1, e2, e3, e4]
  exact g
theorem zScT_nx {T : Nat → Int32} {m k i : Nat} {C : Nat → Nat → Int32} (h : zScT T m k i C) (hi : i < k) : zScT T m k (i + 1) (zcnx C (i + 1)) := by
  obtain ⟨h1, h2, h3, h4, h5, h6, h7, h8, h9, h10⟩ := h
  obtain ⟨r1, r2, r3⟩ := h1 (i + 1) (by omega)
  exact ⟨h1, h2, h3, h4, h5, hi, rfl, r1, r2, r3⟩
/-- a token's kind and what it is, as the model has it -/
def zmkB (T : Nat → Int32) (m b : Nat) : Int := (zTkO T m b (Int32.ofInt 0) (zcth T m b)).2.1
def zmwB (T : Nat → Int32) (m b : Nat) : Int32 := (zTkO T m b (Int32.ofInt 0) (zcth T m b)).2.2
theorem zTkO_old {T : Nat → Int32} {m b : Nat} {o1 o2 : Int32} {th : Int} : (zTkO T m b o1 th).2.1 = (zTkO T m b o2 th).2.1 ∧ ((zTkO T m b o1 th).2.1 ≠ 0 → (zTkO T m b o1 th).2.2 = (zTkO T m b o2 th).2.2) := by
  unfold zTkO
  by_cases h : m ≤ b
  · rw [if_pos h, if_pos h]
    exact ⟨rfl, fun q => absurd rfl q⟩
  · rw [if_neg h, if_neg h]
    exact ⟨rfl, fun _ => rfl⟩
/-- the model at the i-th token -/
def zMd (T : Nat → Int32) (m i : Nat) (S : Nat → Nat → Int32) : Prop := S 1 = T ∧ zspell (S 2) 0 zWds ∧ zPos m (zcE T m (zpl T m i)).1 S ∧ S 0 10 = Int32.ofInt (zpl T m i : Nat) ∧ zTR (S 0 8) (S 0 9) (zcE T m (zpl T m i)).2.1 (zcE T m (zpl T m i)).2.2 ∧ S 0 8 = Int32.ofInt (zmkB T m (zpl T m i)) ∧ (zmkB T m (zpl T m i) ≠ 0 → S 0 9 = zmwB T m (zpl T m i))
theorem zMd_tok {T : Nat → Int32} {m b : Nat} {S S' : Nat → Nat → Int32} (h1 : S 1 = T) (h2 : zspell (S 2) 0 zWds) (h6 : S 0 6 = Int32.ofInt (m : Int)) (hm : m ≤ 600) (hb : b ≤ m) (h : zTok2 S S' m b) : S' 1 = T ∧ zspell (S' 2) 0 zWds ∧ zPos m (zcE T m b).1 S' ∧ S' 0 10 = Int32.ofInt (b : Nat) ∧ zTR (S' 0 8) (S' 0 9) (zcE T m b).2.1 (zcE T m b).2.2 ∧ S' 0 8 = Int32.ofInt (zmkB T m b) ∧ (zmkB T m b ≠ 0 → S' 0 9 = zmwB T m b) := by
  obtain ⟨t1, t2, t3, t4, t5, t6⟩ := h
  have hth : zthen S m b = zcth T m b := by
    rw [← h1]
    rfl
  rw [h1, hth] at t4 t5 t6
  obtain ⟨g1, g2⟩ := zTR_ok (T := T) (m := m) (b := b) (old := S 0 9) hb hm
  have ho := zTkO_old (T := T) (m := m) (b := b) (o1 := Int32.ofInt 0) (o2 := S 0 9) (th := zcth T m b)
  refine ⟨(t1 1 (by decide)).trans h1, ?_, ⟨?_, ?_, ?_, hm⟩, t3, ?_, ?_, fun q => ?_⟩
  · rw [t1 2 (by decide)]
    exact h2
  · rw [t2 6 (by decide) (by decide) (by decide) (by decide)]
    exact h6
  · rw [t4, g1]
  · exact (zcE_rg (T := T) hb).2.1
  · rw [t5, t6]
    exact g2
  · rw [t5]
    exact congrArg Int32.ofInt ho.1.symm
  · rw [t6]
    exact (ho.2 q).symm
theorem zMd_nx {T : Nat → Int32} {m i a : Nat} {S S1 S' : Nat → Nat → Int32} (h : zMd T m i S) (e1 : S1 1 = S 1) (e2 : S1 2 = S 2) (e6 : S1 0 6 = S 0 6) (ha : a = (S 0 7).toNatClampNeg) (ht : zTok2 S1 S' m (zend (fun q => zcb1 (S1 1 q)) m a)) : zMd T m (i + 1) S' := by
  obtain ⟨h1, h2, h3, h4, h5⟩ := h
  have hx := zPos_x h3
  rw [ha, hx.2.2, e1, h1] at ht
  have hb := zend_le (p := fun q => zcb1 (T q)) (m := m) (m - (zcE T m (zpl T m i)).1) (zcE T m (zpl T m i)).1 (by have := h3.2.2.1; omega)
  exact zMd_tok (e1.trans h1) (by rw [e2]; exact h2) (e6.trans h3.1) h3.2.2.2 hb.2 ht
/-- one token on both sides -/
theorem zMS_R {T : Nat → Int32} {m k i : Nat} {S C : Nat → Nat → Int32} (h : zMd T m i S) (g : zScT T m k i C) : zTR (S 0 8) (S 0 9) (C 1 8) (C 1 10) := by
  rw [g.2.2.2.2.2.2.2.1, g.2.2.2.2.2.2.2.2.2]
  exact h.2.2.2.2.1
theorem zMS_lt {T : Nat → Int32} {m k i : Nat} {S C : Nat → Nat → Int32} (h : zMd T m i S) (g : zScT T m k i C) (hk : (S 0 8).toInt ≠ 0) : i < k := by
  apply Classical.byContradiction
  intro q
  have e : i = k := by have := g.2.2.2.2.2.1; omega
  have hI := zTR_i (zMS_R h g)
  have e8 : C 1 8 = Int32.ofInt 0 := by
    have h1 : zcE T m m = (m, Int32.ofInt 0, Int32.ofInt 0) := if_pos (Nat.le_refl m)
    rw [g.2.2.2.2.2.2.2.1, e, g.2.2.1, h1]
  have e9 : (C 1 8).toInt = 0 := by
    rw [e8]
    decide
  rcases hI with h | ⟨v, h⟩ | h | h | h | h | h <;> omega
theorem zlfO_kind {S : Nat → Nat → Int32} (h : (zlfO S).1 = none) : (S 0 8).toInt ≠ 0 := by
  intro q
  unfold zlfO at h
  have e1 : (znm S).toInt = -1 := by
    unfold znm
    rw [if_neg (by omega), if_neg (by omega)]
    decide
  have q1 : ¬ zsg S 40 := by
    intro w
    have w : (S 0 8).toInt = 4 ∧ (S 0 9).toInt = (Int32.ofInt 40).toInt := w
    omega
  have q2 : ¬ (zky S 9 ∧ (S 0 40).toInt ≠ 0) := by
    intro w
    have w : ((S 0 8).toInt = 1 ∧ (S 0 9).toInt = (Int32.ofInt 9).toInt) ∧ (S 0 40).toInt ≠ 0 := w
    omega
  rw [if_neg q1, if_neg q2, if_pos (by omega)] at h
  cases h
theorem zlfO_wants {S : Nat → Nat → Int32} (h : (zlfO S).1 = none) (hw : (S 0 39).toInt ≠ 0) : ((zlfO S).2 0 39).toInt ≠ 0 ↔ (zsg S 40 ∨ zky S 9) := by
  by_cases g1 : zsg S 40
  · unfold zlfO at h ⊢
    rw [if_pos g1] at h ⊢
    by_cases g2 : (S 0 37).toInt = 8
    · rw [if_pos g2] at h
      cases h
    · rw [if_neg g2]
      exact ⟨fun _ => Or.inl g1, fun _ => hw⟩
  by_cases g2 : zky S 9
  · unfold zlfO at h ⊢
    rw [if_neg g1] at h ⊢
    by_cases g3 : (S 0 40).toInt ≠ 0
    · rw [if_pos ⟨g2, g3⟩] at h ⊢
      by_cases g4 : (S 0 38).toInt = 64
      · rw [if_pos g4] at h
        cases h
      · rw [if_neg g4]
        exact ⟨fun _ => Or.inr g2, fun _ => hw⟩
    · have g5 : (S 0 8).toInt = 1 ∧ (S 0 9).toInt = (Int32.ofInt 9).toInt := g2
      have g6 : (Int32.ofInt 9).toInt = 9 := by decide
      have e1 : (znm S).toInt = -1 := by
        unfold znm
        rw [if_neg (by omega), if_neg (by omega)]
        decide
      rw [if_neg (fun q => g3 q.2), if_pos (by omega)] at h
      cases h
  · unfold zlfO at h ⊢
    rw [if_neg g1, if_neg (fun q => g2 q.1)] at h ⊢
    by_cases g3 : (znm S).toInt < 0 ∧ (S 0 8).toInt ≠ 3
    · rw [if_pos g3] at h
      cases h
    rw [if_neg g3] at h ⊢
    by_cases g4 : (znm S).toInt < 0 ∧ 9999 < (S 0 9).toInt
    · rw [if_pos g4] at h
      cases h
    rw [if_neg g4] at h ⊢
    by_cases g5 : (S 0 38).toInt = 64
    · rw [if_pos g5] at h
      cases h
    rw [if_neg g5]
    exact ⟨fun q => absurd (show (Int32.ofInt 0).toInt = 0 by decide) q, fun q => by
      rcases q with q | q
      · exact absurd q g1
      · exact absurd q g2⟩
theorem zsnO_kind {S : Nat → Nat → Int32} {d : Nat} (h : (zsnO d S).1 = none) : (S 0 8).toInt ≠ 0 := by
  intro q
  unfold zsnO at h
  have hk : zsnK S = Int32.ofInt 0 := by
    have n1 : ∀ x, ¬ zky S x := fun x w => by
      have w : (S 0 8).toInt = 1 ∧ (S 0 9).toInt = (Int32.ofInt x).toInt := w
      omega
    have n2 : ∀ x, ¬ zsg S x := fun x w => by
      have w : (S 0 8).toInt = 4 ∧ (S 0 9).toInt = (Int32.ofInt x).toInt := w
      omega
    unfold zsnK
    rw [if_neg (n1 _), if_neg (n1 _), if_neg (by omega), if_neg (n2 _), if_neg (n2 _), if_neg (n2 _), if_neg (n2 _)]
  have n3 : ¬ (zsg S 41 ∧ 0 < (S 0 37).toInt) := by
    intro w
    have w : (S 0 8).toInt = 4 ∧ (S 0 9).toInt = (Int32.ofInt 41).toInt := w.1
    omega
  rw [if_neg n3, if_pos (by rw [hk]; decide)] at h
  cases h
theorem zsnO_wants {S : Nat → Nat → Int32} {d : Nat} {c0 d0 : Int} (hI : zTRi (S 0 8).toInt (S 0 9).toInt c0 d0) (h : (zsnO d S).1 = none) (hw : (S 0 39).toInt = 0) : ((zsnO d S).2 0 39).toInt = 0 ↔ zsg S 41 := by
  obtain ⟨b1, b2⟩ := zbindA_k (l := 1) d S
  unfold zsnO at h ⊢
  by_cases g1 : zsg S 41 ∧ 0 < (S 0 37).toInt
  · rw [if_pos g1]
    refine ⟨fun _ => g1.1, fun _ => ?_⟩
    show (zbindA 1 d S 0 39).toInt = 0
    rw [b2 39 (by decide) (by decide) (by decide)]
    exact hw
  rw [if_neg g1] at h ⊢
  by_cases g2 : (zsnK S).toInt = 0
  · rw [if_pos g2] at h
    cases h
  rw [if_neg g2] at h ⊢
  have n1 : ¬ zsg S 41 := by
    intro w
    have w : (S 0 8).toInt = 4 ∧ (S 0 9).toInt = (Int32.ofInt 41).toInt := w
    have k : (Int32.ofInt 41).toInt = 41 := by decide
    rw [k] at w
    rw [zsnK_i hI, w.1, w.2] at g2
    exact g2 rfl
  unfold zsnE at h ⊢
  split at h
  · cases h
  rename_i g3
  rw [if_neg g3]
  split at h
  · cases h
  rename_i g4
  rw [if_neg g4]
  exact ⟨fun q => absurd q (show ¬ (Int32.ofInt 1).toInt = 0 by decide), fun q => absurd q n1⟩
/-- what a step of E leaves of the token -/
theorem zstO_10 {S : Nat → Nat → Int32} : (zstO S).2 0 10 = S 0 10 := by
  have hk := fun (b : Int) (d : Nat) => (zbindA_k (l := b) d S).2 10 (by decide) (by decide) (by decide)
  unfold zstO zlfO zsnO zsnE
  (repeat' split) <;> first | rfl | exact hk _ _
theorem zEq_tr {S C S2 C2 : Nat → Nat → Int32} {d br kn l : Nat} (h : zEq S C d br kn l) (a1 : S2 16 = S 16) (a2 : ∀ f, f ≠ 7 → f ≠ 8 → f ≠ 9 → f ≠ 10 → S2 0 f = S 0 f) (b1 : C2 16 = C 16) (b2 : C2 18 = C 18) (b3 : C2 19 = C 19) : zEq S2 C2 d br kn l := by
  unfold zEq zWt at h ⊢
  rw [a1, b1, b2, b3, a2 35 (by decide) (by decide) (by decide) (by decide), a2 37 (by decide) (by decide) (by decide) (by decide), a2 38 (by decide) (by decide) (by decide) (by decide), a2 39 (by decide) (by decide) (by decide) (by decide), a2 40 (by decide) (by decide) (by decide) (by decide)]
  exact h
def zFrE (C C' : Nat → Nat → Int32) : Prop := ∀ q, q ≠ 1 → q ≠ 16 → q ≠ 17 → q ≠ 18 → q ≠ 19 → C' q = C q
section ZCLA
variable {Lx : Nat} {xs : Nat → Int32} {n : Nat} {hp : List zhE} {e : Nat → Nat} {x1 x2 x3 x4 m K : Nat} {T : Nat → Int32} {S C C0 : Nat → Nat → Int32}
theorem zc_nx (he : zeI e hp (zDC x1 x2 x3 x4).length) {i : Nat} (h : zScT T m K i C) (hi : i < K) : zPn Lx xs n 63 (0, lv_args 0 [.ref (e 1)], [], zHS e (zDC x1 x2 x3 x4) C hp, 0, 0) (fun rv hp1 => rv = none ∧ hp1 = zHS e (zDC x1 x2 x3 x4) (zcnx C (i + 1)) hp) := by
  have h4 : C 1 4 = Int32.ofInt (((i + 1 : Nat) : Int) - 1) := by
    rw [h.2.2.2.2.2.2.1]
    congr 1
    omega
  exact zc_next he h4 h.2.1 hi h.2.2.2.2.1
theorem zc_lastU (he : zeI e hp (zDC x1 x2 x3 x4).length) : zPn Lx xs n 115 (0, lv_args 0 [.ref (e 18)], [], zHS e (zDC x1 x2 x3 x4) C hp, 0, 0) (fun rv hp1 => ∃ r, rv = some (.int r) ∧ hp1 = zHS e (zDC x1 x2 x3 x4) C hp) := by
  refine zp0 (by rfl) rfl rfl ?_
  refine zy_get (b := 2) he (by rfl) (by rfl) (by rfl) (by rfl) ?_
  refine zy_if (by rfl) (by rfl) (fun h1 => ?_) (fun h1 => ?_)
  · refine zp0 (by rfl) rfl rfl ?_
    refine zp_retI (by rfl) ?_
    exact ⟨_, rfl, rfl⟩
  · refine zp0 (by rfl) rfl rfl ?_
    refine zy_get (b := 2) he (by rfl) (by rfl) (by rfl) (by rfl) ?_
    refine zp0 (by rfl) rfl rfl ?_
    refine zy_ref (r := 19) he (by rfl) (by rfl) (by rfl) (by rfl) ?_
    refine zy_len he (by rfl) (by rfl) ?_
    refine zy_icmp (by rfl) (by rfl) (fun h2 => ?_) (fun h2 => ?_)
    · refine zp0 (by rfl) rfl rfl ?_
      refine zp_retI (by rfl) ?_
      exact ⟨_, rfl, rfl⟩
    · refine zp0 (by rfl) rfl rfl ?_
      refine zy_ref (r := 19) he (by rfl) (by rfl) (by rfl) (by rfl) ?_
      refine zp0 (by rfl) rfl rfl ?_
      refine zy_get (b := 2) he (by rfl) (by rfl) (by rfl) (by rfl) ?_
      iterate 2 refine zp0 (by rfl) rfl rfl ?_
      refine zy_ald he (by rfl) (by rfl) (fun u3 w3 => ?_)
      refine zp0 (by rfl) rfl rfl ?_
      refine zp_retI (by rfl) ?_
      exact ⟨_, rfl, rfl⟩
theorem zcput_fr (x : Int32) : zFrC C (zcput C x) := by
  intro q q1 q2 q3 q4
  unfold zcput
  split
  · rw [zuS_ne q1, zuS_ne q2]
  · rfl
theorem zc_settleU (he : zeI e hp (zDC x1 6 2 17).length) : ∀ (n : Nat) (C : Nat → Nat → Int32) (i x : Int32) (c s : Nat), zPn Lx xs n 114 (5, [(2, .int i), (0, .ref (e 18)), (1, .int x)], [], zHS e (zDC x1 6 2 17) C hp, c, s) (fun rv hp1 => rv = none ∧ ∃ C', hp1 = zHS e (zDC x1 6 2 17) C' hp ∧ zFrC C C') := by
  intro n
  induction n using Nat.strongRecOn with
  | _ n ih =>
  intro C i x c s
  refine zp0 (by rfl) rfl rfl ?_
  refine zy_if (by rfl) (by rfl) (fun h1 => ?_) (fun h1 => ?_)
  · refine zp_retV (by rfl) ?_
    exact ⟨rfl, C, rfl, fun _ _ _ _ _ => rfl⟩
  · refine zp0 (by rfl) rfl rfl ?_
    refine zy_v0 (by rfl) (zc_lastU he) ?_
    intro rv hp1 hq
    obtain ⟨r, q1, q2⟩ := hq
    rw [q1, q2]
    refine zy_if (by rfl) (by rfl) (fun h2 => ?_) (fun h2 => ?_)
    · refine zp_retV (by rfl) ?_
      exact ⟨rfl, C, rfl, fun _ _ _ _ _ => rfl⟩
    · refine zp0 (by rfl) rfl rfl ?_
      refine zy_v0 (by rfl) (zc_lastU he) ?_
      intro rv hp1 hq
      obtain ⟨r, q1, q2⟩ := hq
      rw [q1, q2]
      refine zy_s1e (by rfl) (by rfl) (zc_str _) ?_
      refine zp0 (by rfl) rfl rfl ?_
      refine zy_s1e (by rfl) (by rfl) (zc_str _) ?_
      refine zy_icmp (by rfl) (by rfl) (fun h3 => ?_) (fun h3 => ?_)
      · refine zp_retV (by rfl) ?_
        exact ⟨rfl, C, rfl, fun _ _ _ _ _ => rfl⟩
      · refine zp0 (by rfl) rfl rfl ?_
        refine zy_ref (r := 16) he (by rfl) (by rfl) (by rfl) (by rfl) ?_
        refine zp0 (by rfl) rfl rfl ?_
        refine zy_v0 (by rfl) (zc_lastU he) ?_
        intro rv hp1 hq
        obtain ⟨r, q1, q2⟩ := hq
        rw [q1, q2]
        refine zy_v1n (by rfl) (zc_put he _) ?_
        iterate 2 refine zp0 (by rfl) rfl rfl ?_
        refine zy_get (b := 2) he (by rfl) (by rfl) (by rfl) (by rfl) ?_
        iterate 2 refine zp0 (by rfl) rfl rfl ?_
        refine zy_put (b := 2) he (by rfl) (by rfl) (by rfl) ?_
        refine zp0 (by rfl) rfl rfl ?_
        refine zp0l (by rfl) rfl rfl (fun m1 hm1 => ?_)
        refine (ih m1 hm1 _ _ _ _ _).post ?_
        intro rv hp1 hq
        obtain ⟨q1, C', q2, q3⟩ := hq
        refine ⟨q1, C', q2, fun q h1 h2 h3 h4 => ?_⟩
        rw [q3 q h1 h2 h3 h4, zuS_ne h3]
        exact zcput_fr _ q h1 h2 h3 h4
theorem zc_settleV (he : zeI e hp (zDC x1 6 2 17).length) (x : Int32) : zPn Lx xs n 114 (0, lv_args 0 [.ref (e 18), .int x], [], zHS e (zDC x1 6 2 17) C hp, 0, 0) (fun rv hp1 => rv = none ∧ ∃ C', hp1 = zHS e (zDC x1 6 2 17) C' hp ∧ zFrC C C') := by
  refine zp0 (by rfl) rfl rfl ?_
  refine zy_get (b := 2) he (by rfl) (by rfl) (by rfl) (by rfl) ?_
  refine zp0 (by rfl) rfl rfl ?_
  exact zc_settleU he n C _ _ _ _
end ZCLA
