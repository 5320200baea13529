/-! a thing's line, purely; the model's manners -/
def zhw (T : Nat → Int32) (m i : Nat) : Int := if zmk T m i = 1 ∧ 3 ≤ (zmw T m i).toInt ∧ (zmw T m i).toInt ≤ 6 then (zmw T m i).toInt - 3 else -1
def zhi (w : Nat) (wd : Int32) : Int32 := if w = 1 then Int32.ofInt 2 * wd else if w = 2 then Int32.ofInt 5 else Int32.ofInt 10
def zManT (T : Nat → Int32) (m : Nat) (wd : Int32) : Nat → Nat → Nat → Int32 → Int32 → Int32 → Int × Nat × Int32 × Int32 × Int32
  | 0, i, _, H, D, G => (0, i, H, D, G)
  | k + 1, i, t, H, D, G =>
    if zhw T m i < 0 then (0, i, H, D, G)
    else if t.testBit (zhw T m i).toNat = true then (3, i, H, D, G)
    else if zhw T m i = 0 then zManT T m wd k (i + 1) (t + 1) H D G
    else if zsNum T m (i + 1) 0 (zhi (zhw T m i).toNat wd).toInt ≠ 0 then (zsNum T m (i + 1) 0 (zhi (zhw T m i).toNat wd).toInt, i + 1, H, D, G)
    else zManT T m wd k (i + 2) (t + 2 ^ (zhw T m i).toNat) (if zhw T m i = 1 then zmw T m (i + 1) else H) (if zhw T m i = 2 then zmw T m (i + 1) else D) (if zhw T m i = 3 then zmw T m (i + 1) else G)
def zanyF (p : Nat → Bool) : Nat → Nat → Bool
  | 0, _ => false
  | d + 1, k => p k || zanyF p d (k + 1)
def zThB (T : Nat → Int32) (m n : Nat) (ov : Nat → Bool) (i : Nat) (o : Int × Nat × Int32 × Int32 × Int32) : Int × Nat × Int32 × Int32 × Int32 :=
  if o.1 ≠ 0 then o else if ¬ (zmk T m o.2.1 = 4 ∧ (zmw T m o.2.1).toInt = 59) then (1, o.2) else if zanyF ov n 0 = true then (4, i + 1, o.2.2) else o
def zThing (T : Nat → Int32) (m n : Nat) (nm : Nat → Int32) (ov : Nat → Bool) (i : Nat) : Int × Nat × Int32 × Int32 × Int32 :=
  let z := Int32.ofInt 0
  if n = 9 then (2, i, z, z, z)
  else if zmk T m (i + 1) ≠ 2 then (1, i + 1, z, z, z)
  else if 0 ≤ zfindA nm 0 (zmw T m (i + 1)) n 0 then (3, i + 1, z, z, z)
  else if zsNum T m (i + 2) 0 39 ≠ 0 then (zsNum T m (i + 2) 0 39, i + 2, z, z, z)
  else if zsNum T m (i + 3) 0 39 ≠ 0 then (zsNum T m (i + 3) 0 39, i + 3, z, z, z)
  else if zsNum T m (i + 4) 1 12 ≠ 0 then (zsNum T m (i + 4) 1 12, i + 4, z, z, z)
  else if zsNum T m (i + 5) 1 12 ≠ 0 then (zsNum T m (i + 5) 1 12, i + 5, z, z, z)
  else if zsNum T m (i + 6) 1 99 ≠ 0 then (zsNum T m (i + 6) 1 99, i + 6, z, z, z)
  else zThB T m n ov i (zManT T m (zmw T m (i + 4)) 5 (i + 7) 0 (zmw T m (i + 4)) z (Int32.ofInt 5))
/-- whether it is told to be round -/
def zManR (T : Nat → Int32) (m : Nat) (wd : Int32) : Nat → Nat → Nat → Bool
  | 0, _, _ => false
  | k + 1, i, t => if zhw T m i < 0 then false else if t.testBit (zhw T m i).toNat = true then false else if zhw T m i = 0 then true else if zsNum T m (i + 1) 0 (zhi (zhw T m i).toNat wd).toInt ≠ 0 then false else zManR T m wd k (i + 2) (t + 2 ^ (zhw T m i).toNat)
def zpc (t : Nat) : Nat := t % 2 + t / 2 % 2 + t / 4 % 2 + t / 8 % 2
theorem zbt1 : ∀ t : Nat, t < 16 → ∀ w : Nat, w < 4 → ((((Int32.ofInt (t : Int) >>> (Int32.ofInt (w : Int) &&& 31)) &&& Int32.ofInt 1).toInt = 1) ↔ t.testBit w = true) := by decide +kernel
theorem zbt2 : ∀ t : Nat, t < 16 → ∀ w : Nat, w < 4 → t.testBit w = false → (Int32.ofInt (t : Int) ||| (Int32.ofInt 1 <<< (Int32.ofInt (w : Int) &&& 31)) = Int32.ofInt ((t + 2 ^ w : Nat) : Int) ∧ t + 2 ^ w < 16 ∧ zpc (t + 2 ^ w) = zpc t + 1) := by decide +kernel
theorem zpc_le (t : Nat) : zpc t ≤ 4 := by
  unfold zpc
  omega
/-- what a token read leaves of the model -/
def zTf (S S' : Nat → Nat → Int32) : Prop := (∀ q, q ≠ 0 → S' q = S q) ∧ ∀ f, f ≠ 7 → f ≠ 8 → f ≠ 9 → f ≠ 10 → f ≠ 11 → S' 0 f = S 0 f
/-- tape, words and the tape's size are as they were -/
def zFx (S S' : Nat → Nat → Int32) : Prop := S' 1 = S 1 ∧ S' 2 = S 2 ∧ S' 0 1 = S 0 1
theorem zFx_tr {S S1 S2 : Nat → Nat → Int32} (h : zFx S S1) (g : zFx S1 S2) : zFx S S2 := ⟨g.1.trans h.1, g.2.1.trans h.2.1, g.2.2.trans h.2.2⟩
theorem zFx_f {S S1 : Nat → Nat → Int32} (h : zTf S S1) : zFx S S1 := ⟨h.1 1 (by decide), h.1 2 (by decide), h.2 1 (by decide) (by decide) (by decide) (by decide) (by decide)⟩
section ZTKD
variable {Lx : Nat} {xs : Nat → Int32} {hp : List zhE} {e : Nat → Nat} {m : Nat} {T : Nat → Int32} {S : Nat → Nat → Int32} {k : Nat}
theorem zt_tokM (he : zeI e hp zDM.length) {i : Nat} (h : zMd T m i S) : zPn Lx xs k 167 (0, lv_args 0 [.ref (e 0)], [], zHS e zDM S hp, 0, 0) (fun rv hp1 => rv = none ∧ ∃ S', hp1 = zHS e zDM S' hp ∧ zMd T m (i + 1) S' ∧ zTf S S') := by
  refine (zt_token he k S _ h.2.2.1 h.2.1).post ?_
  intro rv hp1 hq
  obtain ⟨q1, S', q2, q3⟩ := hq
  exact ⟨q1, S', q2, zMd_nx h rfl rfl rfl (zPos_x h.2.2.1).2.2.symm q3, q3.1, fun f h1 h2 h3 h4 _ => q3.2.1 f h1 h2 h3 h4⟩
theorem zNum_M {i a : Nat} {S' : Nat → Nat → Int32} {lo hi r : Int32} (h : zMd T m i S) (ha : a = (S 0 7).toNatClampNeg) (hn : zNum S S' m a lo hi r) : (zsNum T m i lo.toInt hi.toInt ≠ 0 ∧ r.toInt = 0 ∧ S' 0 4 = Int32.ofInt (zsNum T m i lo.toInt hi.toInt) ∧ S' 0 5 = Int32.ofInt (zpl T m i : Nat) ∧ zFx S S') ∨ (zsNum T m i lo.toInt hi.toInt = 0 ∧ r.toInt ≠ 0 ∧ zMd T m (i + 1) S' ∧ S' 0 11 = zmw T m i ∧ zTf S S') := by
  have hk := zMd_k h
  unfold zNum at hn
  unfold zsNum
  by_cases g : zmk T m i ≠ 3
  · rw [if_pos (by omega)] at hn
    rw [if_pos g]
    refine Or.inl ⟨by decide, by rw [hn.1]; decide, ?_, ?_, ?_⟩
    · rw [hn.2]
      rfl
    · rw [hn.2]
      exact h.2.2.2.1
    · rw [hn.2]
      exact ⟨rfl, rfl, rfl⟩
  · have hw := zMd_w h (by omega)
    rw [if_neg (by omega), hw] at hn
    rw [if_neg g]
    by_cases g2 : lo.toInt ≤ (zmw T m i).toInt ∧ (zmw T m i).toInt ≤ hi.toInt
    · rw [if_pos g2] at hn
      rw [if_pos g2]
      refine Or.inr ⟨rfl, by rw [hn.1]; decide, zMd_nx (S1 := zuS S 0 11 (zmw T m i)) h rfl rfl rfl ha hn.2, ?_, ?_, ?_⟩
      · rw [hn.2.2.1 11 (by decide) (by decide) (by decide) (by decide), zuS_at]
      · intro q hq
        rw [hn.2.1 q hq, zuS_ne hq]
      · intro f h1 h2 h3 h4 h5
        rw [hn.2.2.1 f h1 h2 h3 h4, zuS_off (Or.inr h5)]
    · rw [if_neg g2] at hn
      rw [if_neg g2]
      refine Or.inl ⟨by decide, by rw [hn.1]; decide, ?_, ?_, ?_⟩
      · rw [hn.2]
        rfl
      · rw [hn.2]
        exact h.2.2.2.1
      · rw [hn.2]
        exact ⟨rfl, rfl, rfl⟩
theorem zt_numM (he : zeI e hp zDM.length) {i : Nat} (lo hi : Int) (h1 : zR lo) (h2 : zR hi) (h : zMd T m i S) : zPn Lx xs k 172 (0, lv_args 0 [.ref (e 0), .int (Int32.ofInt lo), .int (Int32.ofInt hi)], [], zHS e zDM S hp, 0, 0) (fun rv hp1 => ∃ r S', rv = some (.int r) ∧ hp1 = zHS e zDM S' hp ∧ ((zsNum T m i lo hi ≠ 0 ∧ r.toInt = 0 ∧ S' 0 4 = Int32.ofInt (zsNum T m i lo hi) ∧ S' 0 5 = Int32.ofInt (zpl T m i : Nat) ∧ zFx S S') ∨ (zsNum T m i lo hi = 0 ∧ r.toInt ≠ 0 ∧ zMd T m (i + 1) S' ∧ S' 0 11 = zmw T m i ∧ zTf S S'))) := by
  refine (zt_number he (Int32.ofInt lo) (Int32.ofInt hi) _ h.2.2.1 h.2.1).post ?_
  intro rv hp1 hq
  obtain ⟨r, S', q1, q2, q3⟩ := hq
  have := zNum_M h (zPos_x h.2.2.1).2.2.symm q3
  rw [zRt h1, zRt h2] at this
  exact ⟨r, S', q1, q2, this⟩
theorem zt_hasW (he : zeI e hp zDM.length) {i : Nat} (h : zMd T m i S) : zPn Lx xs k 177 (0, lv_args 0 [.ref (e 0)], [], zHS e zDM S hp, 0, 0) (fun rv hp1 => rv = some (.int (Int32.ofInt (zhw T m i))) ∧ hp1 = zHS e zDM S hp) := by
  have hk := zMd_k h
  have h0 := zt_hasWord (Lx := Lx) (xs := xs) (n := k) (S := S) he
  have e1 : (if (S 0 8).toInt = 1 ∧ 3 ≤ (S 0 9).toInt ∧ (S 0 9).toInt ≤ 6 then S 0 9 - Int32.ofInt 3 else Int32.ofInt (-1)) = Int32.ofInt (zhw T m i) := by
    unfold zhw
    by_cases g : zmk T m i = 1
    · rw [hk, zMd_w h (by omega)]
      by_cases g2 : zmk T m i = 1 ∧ 3 ≤ (zmw T m i).toInt ∧ (zmw T m i).toInt ≤ 6
      · rw [if_pos g2, if_pos g2, Int32.ofInt_sub, Int32.ofInt_toInt]
      · rw [if_neg g2, if_neg g2]
    · rw [if_neg (by omega), if_neg (by omega)]
  rw [e1] at h0
  exact h0
theorem zt_isOf {x y : Int32} {hp2 : List zhE} : zPn Lx xs k 161 (0, lv_args 0 [.int x, .int y], [], hp2, 0, 0) (fun rv hp1 => rv = some (.int (if ((x >>> (y &&& 31)) &&& Int32.ofInt 1).toInt = 1 then 1 else 0)) ∧ hp1 = hp2) := by
  iterate 6 refine zp0 (by rfl) rfl rfl ?_
  refine zy_icmpC (by rfl) (by rfl) ⟨by decide, by decide⟩ (fun h1 => ?_) (fun h1 => ?_)
  · refine zp0 (by rfl) rfl rfl ?_
    refine zp_retI (by rfl) ?_
    refine ⟨?_, rfl⟩
    simp only [zcf] at h1
    split
    all_goals first | rfl | contradiction
  · iterate 2 refine zp0 (by rfl) rfl rfl ?_
    refine zp_retI (by rfl) ?_
    refine ⟨?_, rfl⟩
    simp only [zcf] at h1
    split
    all_goals first | rfl | contradiction
theorem zt_col (he : zeI e hp zDM.length) {n : Nat} (hn : n ≤ 9) (hS : S 0 15 = Int32.ofInt (n : Int)) {at0 tl : Int32} : ∀ (d u c s : Nat), d + u = n → zPn Lx xs k 178 (304, [(4, .int (Int32.ofInt (u : Int))), (3, .int tl), (2, .int at0), (1, .int (Int32.ofInt ((10 + n : Nat) : Int))), (0, .ref (e 0))], [], zHS e zDM S hp, c, s) (fun rv hp1 => ∃ r S', rv = some (.int r) ∧ hp1 = zHS e zDM S' hp ∧ ((zanyF (fun u => decide (zover S (10 + n) (10 + u))) d u = true ∧ r = 0 ∧ S' = zwrong (zuS S 0 10 at0) (Int32.ofInt 4)) ∨ (zanyF (fun u => decide (zover S (10 + n) (10 + u))) d u = false ∧ r = Int32.ofInt 1 ∧ S' = zuS S 0 15 (Int32.ofInt ((n + 1 : Nat) : Int))))) := by
  have yn : (S 0 15).toInt = n := by rw [hS]; exact zof_ix (by omega)
  have cn : (Int32.ofInt ((10 + n : Nat) : Int)).toNatClampNeg = 10 + n := zof_cl (by omega)
  have hup : S 0 15 + Int32.ofInt 1 = Int32.ofInt ((n + 1 : Nat) : Int) := by rw [hS, zof_up]
  intro d
  induction d with
  | zero =>
    intro u c s hu
    have yu : (Int32.ofInt (u : Int)).toInt = u := zof_ix (by omega)
    iterate 2 refine zp0 (by rfl) rfl rfl ?_
    refine zy_get (b := 15) he (by rfl) (by rfl) (by rfl) (by rfl) ?_
    refine zy_icmp (by rfl) (by rfl) (fun h1 => ?_) (fun h1 => ?_)
    · iterate 2 refine zp0 (by rfl) rfl rfl ?_
      refine zy_get (b := 15) he (by rfl) (by rfl) (by rfl) (by rfl) ?_
      iterate 2 refine zp0 (by rfl) rfl rfl ?_
      refine zy_put (b := 15) he (by rfl) (by rfl) (by rfl) ?_
      refine zp0 (by rfl) rfl rfl ?_
      refine zp_retI (by rfl) ?_
      refine ⟨_, _, rfl, rfl, Or.inr ⟨rfl, rfl, ?_⟩⟩
      show zuS S 0 15 (S 0 15 + Int32.ofInt 1) = _
      rw [hup]
    · exfalso
      simp only [zcf, yn, yu] at h1
      omega
  | succ d ih =>
    intro u c s hu
    have yu : (Int32.ofInt (u : Int)).toInt = u := zof_ix (by omega)
    have e10 : Int32.ofInt 10 + Int32.ofInt (u : Int) = Int32.ofInt ((10 + u : Nat) : Int) := by
      rw [← Int32.ofInt_add]
      congr 1
    have cu : (Int32.ofInt ((10 + u : Nat) : Int)).toNatClampNeg = 10 + u := zof_cl (by omega)
    have hov := zt_isOver (Lx := Lx) (xs := xs) (n := k) (S := S) he (Int32.ofInt ((10 + n : Nat) : Int)) (Int32.ofInt ((10 + u : Nat) : Int))
    rw [cn, cu] at hov
    iterate 2 refine zp0 (by rfl) rfl rfl ?_
    refine zy_get (b := 15) he (by rfl) (by rfl) (by rfl) (by rfl) ?_
    refine zy_icmp (by rfl) (by rfl) (fun h1 => ?_) (fun h1 => ?_)
    · iterate 2 refine zp0 (by rfl) rfl rfl ?_
      refine zy_get (b := 15) he (by rfl) (by rfl) (by rfl) (by rfl) ?_
      iterate 2 refine zp0 (by rfl) rfl rfl ?_
      refine zy_put (b := 15) he (by rfl) (by rfl) (by rfl) ?_
      refine zp0 (by rfl) rfl rfl ?_
      refine zp_retI (by rfl) ?_
      exfalso
      simp only [zcf, yn, yu] at h1
      omega
    · iterate 2 refine zp0 (by rfl) rfl rfl ?_
      refine zq_bip (by rfl) (by decide) ?_
      iterate 2 refine zp0 (by rfl) rfl rfl ?_
      show zPn Lx xs k 178 (_, _, [.int (Int32.ofInt 10 + Int32.ofInt (u : Int)), .int (Int32.ofInt ((10 + n : Nat) : Int)), .ref (e 0)], _, _, _) _
      rw [e10]
      refine zy_v2e (by rfl) (hov) ?_
      refine zy_if (by rfl) (by rfl) (fun h2 => ?_) (fun h2 => ?_)
      · iterate 2 refine zp0 (by rfl) rfl rfl ?_
        refine zy_put (b := 10) he (by rfl) (by rfl) (by rfl) ?_
        iterate 2 refine zp0 (by rfl) rfl rfl ?_
        refine zy_v1e (by rfl) (zt_wrong he _) ?_
        refine zp_retI (by rfl) ?_
        refine ⟨_, _, rfl, rfl, Or.inl ⟨?_, rfl, rfl⟩⟩
        have g := zite2 h2
        show (decide (zover S (10 + n) (10 + u)) || zanyF _ d (u + 1)) = true
        rw [decide_eq_true g]
        rfl
      · iterate 3 refine zp0 (by rfl) rfl rfl ?_
        rw [zof_up]
        have g := zite3 h2
        have h9 : zanyF (fun u => decide (zover S (10 + n) (10 + u))) (d + 1) u = zanyF (fun u => decide (zover S (10 + n) (10 + u))) d (u + 1) := by
          show (decide (zover S (10 + n) (10 + u)) || zanyF _ d (u + 1)) = _
          rw [decide_eq_false g]
          rfl
        rw [h9]
        exact ih (u + 1) _ _ (by omega)
/-- what comes of the manners and all behind -/
def zMnR (T : Nat → Int32) (m n : Nat) (S S' : Nat → Nat → Int32) (r : Int32) (o : Int × Nat × Int32 × Int32 × Int32) (rd : Bool) : Prop :=
  (o.1 ≠ 0 ∧ r.toInt = 0 ∧ S' 0 4 = Int32.ofInt o.1 ∧ S' 0 5 = Int32.ofInt (zpl T m o.2.1 : Nat) ∧ zFx S S') ∨
  (o.1 = 0 ∧ r.toInt ≠ 0 ∧ zMd T m o.2.1 S' ∧ S' 0 15 = Int32.ofInt ((n + 1 : Nat) : Int) ∧ (∀ f, f ≠ 7 → f ≠ 8 → f ≠ 9 → f ≠ 10 → f ≠ 11 → f ≠ 15 → S' 0 f = S 0 f) ∧ (∀ q, q ≠ 0 → q ≠ 9 → q ≠ 10 → q ≠ 11 → q ≠ 12 → S' q = S q) ∧ (∀ q u, q ≠ 0 → u ≠ 10 + n → S' q u = S q u) ∧ S' 12 (10 + n) = o.2.2.1 ∧ S' 11 (10 + n) = o.2.2.2.1 ∧ S' 10 (10 + n) = o.2.2.2.2 ∧ S' 9 (10 + n) = if rd = true then Int32.ofInt 1 else S 9 (10 + n))
theorem zMnR_tr {n : Nat} {S S1 S' : Nat → Nat → Int32} {r : Int32} {o : Int × Nat × Int32 × Int32 × Int32} {rd rd' : Bool} (h : zMnR T m n S1 S' r o rd) (h1 : ∀ f, f ≠ 7 → f ≠ 8 → f ≠ 9 → f ≠ 10 → f ≠ 11 → f ≠ 15 → S1 0 f = S 0 f) (h2 : ∀ q, q ≠ 0 → q ≠ 9 → q ≠ 10 → q ≠ 11 → q ≠ 12 → S1 q = S q) (h3 : ∀ q u, q ≠ 0 → u ≠ 10 + n → S1 q u = S q u) (h4 : (if rd = true then Int32.ofInt 1 else S1 9 (10 + n)) = if rd' = true then Int32.ofInt 1 else S 9 (10 + n)) : zMnR T m n S S' r o rd' := by
  rcases h with ⟨b1, b2, b3, b4, b5⟩ | ⟨a1, a2, a3, a4, a5, a6, a7, a8, a9, a10, a11⟩
  · exact Or.inl ⟨b1, b2, b3, b4, zFx_tr ⟨h2 1 (by decide) (by decide) (by decide) (by decide) (by decide), h2 2 (by decide) (by decide) (by decide) (by decide) (by decide), h1 1 (by decide) (by decide) (by decide) (by decide) (by decide) (by decide)⟩ b5⟩
  · exact Or.inr ⟨a1, a2, a3, a4, fun f q3 q4 q5 q6 q7 q8 => (a5 f q3 q4 q5 q6 q7 q8).trans (h1 f q3 q4 q5 q6 q7 q8), fun q q1 q2 q3 q4 q5 => (a6 q q1 q2 q3 q4 q5).trans (h2 q q1 q2 q3 q4 q5), fun q u q1 q2 => (a7 q u q1 q2).trans (h3 q u q1 q2), a8, a9, a10, a11.trans h4⟩
theorem zsNum_rg {i : Nat} {lo hi : Int} : 0 ≤ zsNum T m i lo hi ∧ zsNum T m i lo hi ≤ 2 := by
  unfold zsNum
  (repeat' split) <;> omega
theorem zt_man (he : zeI e hp zDM.length) {n i0 : Nat} (hn : n ≤ 9) : ∀ (j i t : Nat) (H D G : Int32) (S : Nat → Nat → Int32) (c s : Nat), j + zpc t = 5 → t < 16 → zMd T m i S → S 0 15 = Int32.ofInt (n : Int) → S 12 (10 + n) = H → S 11 (10 + n) = D → S 10 (10 + n) = G → zPn Lx xs k 178 (234, [(4, .int (Int32.ofInt (zhw T m i))), (3, .int (Int32.ofInt (t : Int))), (2, .int (Int32.ofInt (zpl T m (i0 + 1) : Nat))), (1, .int (Int32.ofInt ((10 + n : Nat) : Int))), (0, .ref (e 0))], [], zHS e zDM S hp, c, s) (fun rv hp1 => ∃ r S', rv = some (.int r) ∧ hp1 = zHS e zDM S' hp ∧ zMnR T m n S S' r (zThB T m n (fun u => decide (zover S (10 + n) (10 + u))) i0 (zManT T m (S 6 (10 + n)) j i t H D G)) (zManR T m (S 6 (10 + n)) j i t)) := by
  intro j
  induction j with
  | zero =>
    intro i t H D G S c s hj
    have := zpc_le t
    omega
  | succ j ih =>
    intro i t H D G S c s hj ht hM hS hH hD hG
    have hk := zMd_k hM
    have cn : (Int32.ofInt ((10 + n : Nat) : Int)).toNatClampNeg = 10 + n := zof_cl (by omega)
    have hwr : -1 ≤ zhw T m i ∧ zhw T m i ≤ 3 := by
      unfold zhw
      split <;> omega
    have yw : (Int32.ofInt (zhw T m i)).toInt = zhw T m i := zRt ⟨by omega, by omega⟩
    have k59 : (Int32.ofInt 59).toInt = 59 := by decide
    have h59 : ((S 0 8).toInt = 4 ∧ (S 0 9).toInt = (Int32.ofInt 59).toInt) ↔ (zmk T m i = 4 ∧ (zmw T m i).toInt = 59) := by
      rw [k59, hk]
      by_cases g : zmk T m i = 0
      · omega
      · rw [zMd_w hM g]
    have hbt : 0 ≤ zhw T m i → ((((Int32.ofInt (t : Int) >>> (Int32.ofInt (zhw T m i) &&& 31)) &&& Int32.ofInt 1).toInt = 1) ↔ t.testBit (zhw T m i).toNat = true) := by
      intro g
      have := zbt1 t ht (zhw T m i).toNat (by omega)
      rwa [Int.toNat_of_nonneg g] at this
    refine zp0 (by rfl) rfl rfl ?_
    refine zy_if (by rfl) (by rfl) (fun h1 => ?_) (fun h1 => ?_)
    · refine zp0 (by rfl) rfl rfl ?_
      refine zq_bip (by rfl) (by decide) ?_
      refine zy_v1e (by rfl) (zt_isSign he _) ?_
      refine zy_if (by rfl) (by rfl) (fun h2 => ?_) (fun h2 => ?_)
      · iterate 2 refine zp0 (by rfl) rfl rfl ?_
        simp only [zcf, yw] at h1
        have g59 := h59.mp (zite2 h2)
        have hO : zThB T m n (fun u => decide (zover S (10 + n) (10 + u))) i0 (zManT T m (S 6 (10 + n)) (j + 1) i t H D G) = if zanyF (fun u => decide (zover S (10 + n) (10 + u))) n 0 = true then (4, i0 + 1, H, D, G) else (0, i, H, D, G) := by
          have h1 : zManT T m (S 6 (10 + n)) (j + 1) i t H D G = (0, i, H, D, G) := if_pos (by omega)
          unfold zThB
          rw [h1, if_neg (show ¬ ((0 : Int) ≠ 0) by decide), if_neg (fun q => q g59)]
        rw [hO]
        refine (zt_col (S := S) he hn hS n 0 _ _ (Nat.add_zero n)).post ?_
        intro rv hp1 hq
        obtain ⟨r, S', q1, q2, q3⟩ := hq
        refine ⟨r, S', q1, q2, ?_⟩
        rcases q3 with ⟨b1, b2, b3⟩ | ⟨b1, b2, b3⟩
        · rw [if_pos b1]
          refine Or.inl ⟨show (4 : Int) ≠ 0 by decide, by rw [b2]; decide, ?_, ?_, by rw [b3]; exact ⟨rfl, rfl, rfl⟩⟩
          · rw [b3]
            rfl
          · rw [b3]
            rfl
        · rw [b1, if_neg (by decide), b3]
          refine Or.inr ⟨rfl, by rw [b2]; decide, zMd_of hM rfl rfl (fun f hf => by rcases hf with rfl | rfl | rfl | rfl | rfl <;> rfl), zuS_at, fun f q3 q4 q5 q6 q7 q8 => zuS_off (Or.inr q8), fun q q1 _ _ _ _ => zuS_ne q1, fun q u q1 _ => by rw [zuS_ne q1], hH, hD, hG, by rw [show zManR T m (S 6 (10 + n)) (j + 1) i t = false from if_pos (by omega), zuS_ne (by decide)]; rfl⟩
      · iterate 2 refine zp0 (by rfl) rfl rfl ?_
        refine zy_v1e (by rfl) (zt_wrong he _) ?_
        refine zp_retI (by rfl) ?_
        simp only [zcf, yw] at h1
        have g59 : ¬ (zmk T m i = 4 ∧ (zmw T m i).toInt = 59) := fun q => zite3 h2 (h59.mpr q)
        have hO : zThB T m n (fun u => decide (zover S (10 + n) (10 + u))) i0 (zManT T m (S 6 (10 + n)) (j + 1) i t H D G) = (1, i, H, D, G) := by
          have h1 : zManT T m (S 6 (10 + n)) (j + 1) i t H D G = (0, i, H, D, G) := if_pos (by omega)
          unfold zThB
          rw [h1, if_neg (show ¬ ((0 : Int) ≠ 0) by decide), if_pos g59]
        refine ⟨0, _, rfl, rfl, Or.inl ⟨?_, by decide, ?_, ?_, ⟨rfl, rfl, rfl⟩⟩⟩
        · rw [hO]
          exact (show (1 : Int) ≠ 0 by decide)
        · rw [hO]
          rfl
        · rw [hO]
          exact hM.2.2.2.1
    · iterate 2 refine zp0 (by rfl) rfl rfl ?_
      refine zy_s2e (by rfl) (by rfl) (zt_isOf) ?_
      refine zy_if (by rfl) (by rfl) (fun h3 => ?_) (fun h3 => ?_)
      · iterate 7 refine zp0 (by rfl) rfl rfl ?_
        refine zy_v0 (by rfl) (zt_tokM he hM) ?_
        have gt : t.testBit (zhw T m i).toNat = false := Bool.eq_false_iff.mpr (fun q => zite0 h3 ((hbt (by simp only [zcf, yw] at h1; omega)).mpr q))
        simp only [zcf, yw] at h1
        have hb2 := zbt2 t ht (zhw T m i).toNat (by omega) gt
        rw [Int.toNat_of_nonneg (by omega)] at hb2
        obtain ⟨b1, b2, b3⟩ := hb2
        have hO1 : zManT T m (S 6 (10 + n)) (j + 1) i t H D G = if zhw T m i = 0 then zManT T m (S 6 (10 + n)) j (i + 1) (t + 1) H D G else if zsNum T m (i + 1) 0 (zhi (zhw T m i).toNat (S 6 (10 + n))).toInt ≠ 0 then (zsNum T m (i + 1) 0 (zhi (zhw T m i).toNat (S 6 (10 + n))).toInt, i + 1, H, D, G) else zManT T m (S 6 (10 + n)) j (i + 2) (t + 2 ^ (zhw T m i).toNat) (if zhw T m i = 1 then zmw T m (i + 1) else H) (if zhw T m i = 2 then zmw T m (i + 1) else D) (if zhw T m i = 3 then zmw T m (i + 1) else G) := by
          show (if zhw T m i < 0 then _ else if t.testBit (zhw T m i).toNat = true then _ else _) = _
          rw [if_neg (by omega), if_neg (by rw [gt]; decide)]
        have hR1 : zManR T m (S 6 (10 + n)) (j + 1) i t = if zhw T m i = 0 then true else if zsNum T m (i + 1) 0 (zhi (zhw T m i).toNat (S 6 (10 + n))).toInt ≠ 0 then false else zManR T m (S 6 (10 + n)) j (i + 2) (t + 2 ^ (zhw T m i).toNat) := by
          show (if zhw T m i < 0 then _ else if t.testBit (zhw T m i).toNat = true then _ else _) = _
          rw [if_neg (by omega), if_neg (by rw [gt]; decide)]
        intro rv hp1 hq
        obtain ⟨q1, S2, q2, hM2, hf⟩ := hq
        rw [q1, q2]
        have c6 : S2 6 = S 6 := hf.1 6 (by decide)
        iterate 3 refine zp0 (by rfl) rfl rfl ?_
        refine zy_v2 (by rfl) (zt_hasRead he _ _ _ hM2.2.2.1 hM2.2.1) ?_
        intro rv hp1 hq
        obtain ⟨r, S3, q3, q4, hR⟩ := hq
        rw [q3, q4]
        unfold zHasR at hR
        rw [cn, yw, c6] at hR
        have hzhi : (if zhw T m i = 1 then Int32.ofInt 2 * S 6 (10 + n) else if zhw T m i = 2 then Int32.ofInt 5 else Int32.ofInt 10) = zhi (zhw T m i).toNat (S 6 (10 + n)) := by
          unfold zhi
          by_cases g1 : zhw T m i = 1
          · rw [if_pos g1, if_pos (by omega)]
          · rw [if_neg g1, if_neg (show ¬ (zhw T m i).toNat = 1 by omega)]
            by_cases g2 : zhw T m i = 2
            · rw [if_pos g2, if_pos (show (zhw T m i).toNat = 2 by omega)]
            · rw [if_neg g2, if_neg (show ¬ (zhw T m i).toNat = 2 by omega)]
        rw [hzhi] at hR
        have k0 : (Int32.ofInt 0).toInt = 0 := by decide
        refine zy_if (by rfl) (by rfl) (fun h4 => ?_) (fun h4 => ?_)
        · refine zp0 (by rfl) rfl rfl ?_
          rcases hR with ⟨b4, b5, b6⟩ | ⟨b4, r1, S4, b5, b6⟩
          · have hM3 : zMd T m (i + 1) S3 := by
              rw [b6]
              exact zMd_of hM2 rfl rfl (fun f hf => by rcases hf with rfl | rfl | rfl | rfl | rfl <;> rfl)
            refine zy_v0e (by rfl) (zt_hasW he hM3) ?_
            iterate 2 refine zp0 (by rfl) rfl rfl ?_
            have g0 : (zhw T m i).toNat = 0 := by omega
            rw [g0] at b1 b2 b3
            show zPn Lx xs k 178 (234, [(4, .int (Int32.ofInt (zhw T m (i + 1)))), (3, .int (Int32.ofInt (t : Int) ||| Int32.ofInt 1 <<< (Int32.ofInt (zhw T m i) &&& 31))), (2, .int (Int32.ofInt (zpl T m (i0 + 1) : Nat))), (1, .int (Int32.ofInt ((10 + n : Nat) : Int))), (0, .ref (e 0))], [], zHS e zDM S3 hp, _, _) _
            rw [b1, hO1, if_pos b4]
            have e3 : ∀ q, q ≠ 0 → q ≠ 9 → S3 q = S q := fun q q1 q2 => by rw [b6, zuS_ne q2, hf.1 q q1]
            refine (ih (i + 1) (t + 1) H D G S3 _ _ (by have : t + 2 ^ 0 = t + 1 := rfl; rw [this] at b3; omega) b2 hM3 ?_ ?_ ?_ ?_).post ?_
            · rw [b6, zuS_ne (by decide), hf.2 15 (by decide) (by decide) (by decide) (by decide) (by decide)]
              exact hS
            · rw [e3 12 (by decide) (by decide)]
              exact hH
            · rw [e3 11 (by decide) (by decide)]
              exact hD
            · rw [e3 10 (by decide) (by decide)]
              exact hG
            · intro rv hp1 hq
              obtain ⟨r2, S5, v1, v2, v3⟩ := hq
              have hz : (fun u => decide (zover S3 (10 + n) (10 + u))) = fun u => decide (zover S (10 + n) (10 + u)) := by
                unfold zover
                rw [e3 4 (by decide) (by decide), e3 5 (by decide) (by decide), e3 6 (by decide) (by decide), e3 7 (by decide) (by decide)]
              rw [hz, e3 6 (by decide) (by decide)] at v3
              refine ⟨r2, S5, v1, v2, zMnR_tr v3 (fun f q3 q4 q5 q6 q7 q8 => ?_) (fun q q1 q2 q3 q4 q5 => e3 q q1 q2) (fun q u q1 q2 => ?_) ?_⟩
              · rw [b6, zuS_ne (by decide)]
                exact hf.2 f q3 q4 q5 q6 q7
              · rw [b6]
                by_cases g9 : q = 9
                · rw [g9, zuS_off (Or.inr q2), hf.1 9 (by decide)]
                · rw [zuS_ne g9, hf.1 q q1]
              · rw [hR1, if_pos b4, if_pos rfl, b6, zuS_at]
                split <;> rfl
          · have hN := zNum_M hM2 (zPos_x hM2.2.2.1).2.2.symm b5
            rw [k0] at hN
            rcases b6 with ⟨b6, b7, b8⟩ | ⟨b6, b7, b8⟩
            · exfalso
              rw [b7] at h4
              exact h4 (by decide)
            · rcases hN with ⟨n1, n2, n3, n4⟩ | ⟨n1, n2, n3, n4, n5⟩
              · exact absurd n2 b6
              · have e3 : ∀ q, q ≠ 0 → q ≠ 10 → q ≠ 11 → q ≠ 12 → S3 q = S q := fun q q1 q2 q3 q4 => by
                  rw [b8]
                  have e4 : S4 q = S q := by rw [n5.1 q q1, hf.1 q q1]
                  (repeat' split) <;> first | (rw [zuS_ne q4]; exact e4) | (rw [zuS_ne q3]; exact e4) | (rw [zuS_ne q2]; exact e4) | exact e4
                have e0 : ∀ f, S3 0 f = S4 0 f := fun f => by
                  rw [b8]
                  (repeat' split) <;> first | (rw [zuS_ne (by decide)]) | rfl
                have e1 : S3 1 = S4 1 := by rw [e3 1 (by decide) (by decide) (by decide) (by decide), n5.1 1 (by decide), hf.1 1 (by decide)]
                have e2 : S3 2 = S4 2 := by rw [e3 2 (by decide) (by decide) (by decide) (by decide), n5.1 2 (by decide), hf.1 2 (by decide)]
                have hM3 : zMd T m (i + 2) S3 := zMd_of n3 e1 e2 (fun f _ => e0 f)
                refine zy_v0e (by rfl) (zt_hasW he hM3) ?_
                iterate 2 refine zp0 (by rfl) rfl rfl ?_
                show zPn Lx xs k 178 (234, [(4, .int (Int32.ofInt (zhw T m (i + 2)))), (3, .int (Int32.ofInt (t : Int) ||| Int32.ofInt 1 <<< (Int32.ofInt (zhw T m i) &&& 31))), (2, .int (Int32.ofInt (zpl T m (i0 + 1) : Nat))), (1, .int (Int32.ofInt ((10 + n : Nat) : Int))), (0, .ref (e 0))], [], zHS e zDM S3 hp, _, _) _
                rw [b1, hO1, if_neg b4, if_neg (fun q => q n1)]
                have o : ∀ q, q = 12 ∨ q = 11 ∨ q = 10 → S4 q (10 + n) = S q (10 + n) := fun q hq => by rw [n5.1 q (by omega), hf.1 q (by omega)]
                have f12 : S3 12 (10 + n) = if zhw T m i = 1 then zmw T m (i + 1) else H := by
                  rw [b8, n4]
                  by_cases g1 : zhw T m i = 1
                  · rw [if_pos g1, if_pos g1, zuS_at]
                  · rw [if_neg g1, if_neg g1]
                    have o := (o 12 (by decide)).trans hH
                    (repeat' split) <;> first | (rw [zuS_ne (by decide)]; exact o) | exact o
                have f11 : S3 11 (10 + n) = if zhw T m i = 2 then zmw T m (i + 1) else D := by
                  rw [b8, n4]
                  have o := (o 11 (by decide)).trans hD
                  by_cases g1 : zhw T m i = 1
                  · rw [if_pos g1, if_neg (by omega), zuS_ne (by decide)]
                    exact o
                  · rw [if_neg g1]
                    by_cases g2 : zhw T m i = 2
                    · rw [if_pos g2, if_pos g2, zuS_at]
                    · rw [if_neg g2, if_neg g2]
                      split <;> first | (rw [zuS_ne (by decide)]; exact o) | exact o
                have f10 : S3 10 (10 + n) = if zhw T m i = 3 then zmw T m (i + 1) else G := by
                  rw [b8, n4]
                  have o := (o 10 (by decide)).trans hG
                  by_cases g1 : zhw T m i = 1
                  · rw [if_pos g1, if_neg (by omega), zuS_ne (by decide)]
                    exact o
                  · rw [if_neg g1]
                    by_cases g2 : zhw T m i = 2
                    · rw [if_pos g2, if_neg (by omega), zuS_ne (by decide)]
                      exact o
                    · rw [if_neg g2]
                      by_cases g3 : zhw T m i = 3
                      · rw [if_pos g3, if_pos g3, zuS_at]
                      · rw [if_neg g3, if_neg g3]
                        exact o
                refine (ih (i + 2) (t + 2 ^ (zhw T m i).toNat) _ _ _ S3 _ _ (by omega) b2 hM3 ?_ f12 f11 f10).post ?_
                · rw [e0, n5.2 15 (by decide) (by decide) (by decide) (by decide) (by decide), hf.2 15 (by decide) (by decide) (by decide) (by decide) (by decide)]
                  exact hS
                · intro rv hp1 hq
                  obtain ⟨r2, S5, v1, v2, v3⟩ := hq
                  have hz : (fun u => decide (zover S3 (10 + n) (10 + u))) = fun u => decide (zover S (10 + n) (10 + u)) := by
                    unfold zover
                    rw [e3 4 (by decide) (by decide) (by decide) (by decide), e3 5 (by decide) (by decide) (by decide) (by decide), e3 6 (by decide) (by decide) (by decide) (by decide), e3 7 (by decide) (by decide) (by decide) (by decide)]
                  rw [hz, e3 6 (by decide) (by decide) (by decide) (by decide)] at v3
                  refine ⟨r2, S5, v1, v2, zMnR_tr v3 (fun f q3 q4 q5 q6 q7 q8 => ?_) (fun q q1 q2 q3 q4 q5 => e3 q q1 q3 q4 q5) (fun q u q1 q2 => ?_) ?_⟩
                  · rw [e0, n5.2 f q3 q4 q5 q6 q7]
                    exact hf.2 f q3 q4 q5 q6 q7
                  · have e4 : S4 q u = S q u := by rw [n5.1 q q1, hf.1 q q1]
                    rw [b8]
                    (repeat' split) <;> first | (rw [zuS_off (Or.inr q2)]; exact e4) | exact e4
                  · rw [hR1, if_neg b4, if_neg (show ¬ (zsNum T m (i + 1) 0 (zhi (zhw T m i).toNat (S 6 (10 + n))).toInt ≠ 0) from fun q => q n1), e3 9 (by decide) (by decide) (by decide) (by decide)]
        · refine zp0 (by rfl) rfl rfl ?_
          refine zp_retI (by rfl) ?_
          rcases hR with ⟨b4, b5, b6⟩ | ⟨b4, r1, S4, b5, b6⟩
          · exfalso
            rw [b5] at h4
            exact h4 (show (Int32.ofInt 1).toInt ≠ 0 by decide)
          · have hN := zNum_M hM2 (zPos_x hM2.2.2.1).2.2.symm b5
            rw [k0] at hN
            rcases b6 with ⟨b6, b7, b8⟩ | ⟨b6, b7, b8⟩
            · rcases hN with ⟨n1, n2, n3, n4, n5⟩ | ⟨n1, n2, n3⟩
              · have hO : zThB T m n (fun u => decide (zover S (10 + n) (10 + u))) i0 (zManT T m (S 6 (10 + n)) (j + 1) i t H D G) = (zsNum T m (i + 1) 0 (zhi (zhw T m i).toNat (S 6 (10 + n))).toInt, i + 1, H, D, G) := by
                  rw [hO1, if_neg b4, if_pos n1]
                  unfold zThB
                  rw [if_pos n1]
                refine ⟨_, _, rfl, rfl, Or.inl ⟨?_, by decide, ?_, ?_, by rw [b8]; exact zFx_tr (zFx_f hf) n5⟩⟩
                · rw [hO]
                  exact n1
                · rw [hO, b8]
                  exact n3
                · rw [hO, b8]
                  exact n4
              · exact absurd b6 n2
            · exfalso
              rw [b7] at h4
              exact h4 (show (Int32.ofInt 1).toInt ≠ 0 by decide)
      · iterate 2 refine zp0 (by rfl) rfl rfl ?_
        refine zy_v1e (by rfl) (zt_wrong he _) ?_
        refine zp_retI (by rfl) ?_
        simp only [zcf, yw] at h1
        have gt := (hbt (by omega)).mp (zite1 h3)
        have hO : zThB T m n (fun u => decide (zover S (10 + n) (10 + u))) i0 (zManT T m (S 6 (10 + n)) (j + 1) i t H D G) = (3, i, H, D, G) := by
          have h1 : zManT T m (S 6 (10 + n)) (j + 1) i t H D G = (3, i, H, D, G) := by
            unfold zManT
            rw [if_neg (by omega), if_pos gt]
          unfold zThB
          rw [h1, if_pos (show ((3 : Int) ≠ 0) by decide)]
        refine ⟨0, _, rfl, rfl, Or.inl ⟨?_, by decide, ?_, ?_, ⟨rfl, rfl, rfl⟩⟩⟩
        · rw [hO]
          exact (show (3 : Int) ≠ 0 by decide)
        · rw [hO]
          rfl
        · rw [hO]
          exact hM.2.2.2.1
end ZTKD
