/-! the model's text -/
section ZTKJ
variable {Lx : Nat} {xs : Nat → Int32} {hp : List zhE} {e : Nat → Nat} {m : Nat} {T : Nat → Int32} {k : Nat}
theorem zSum_md {S' : Nat → Nat → Int32} {r : Int32} : ∀ (j : Nat) (S : Nat → Nat → Int32) (i : Nat), zMd T m i S → zSum m j S S' r → r.toInt ≠ 0 → ∃ i', zMd T m i' S'
  | 0, _, _, _, h, _ => h.elim
  | j + 1, S, i, hM, h, hr => by
    rcases h with ⟨_, _, h⟩ | ⟨_, r1, S1, h1, h2⟩
    · obtain ⟨b1, b2⟩ := zbindA_k (l := 1) (S 0 35).toNatClampNeg S
      rw [h]
      exact ⟨i, zMd_of hM (b1 1 (by decide) (by decide) (by decide) (by decide) (by decide)) (b1 2 (by decide) (by decide) (by decide) (by decide) (by decide)) (fun f hf => b2 f (by omega) (by omega) (by omega))⟩
    · rcases h2 with ⟨_, h2, _⟩ | ⟨h2, h3⟩
      · exact absurd (by rw [h2]; decide) hr
      · have hkp : zKp S (zstO S).2 := by
          unfold zstO
          split
          · exact zlfO_keep
          · exact zsnO_keep
        have hM1 : zMd T m (i + 1) S1 := by
          unfold zOut at h1
          split at h1
          · exact absurd (by rw [h1.1]; decide) h2
          · exact zMd_nx hM hkp.1 hkp.2.1 hkp.2.2.1 rfl h1.2
        exact zSum_md j S1 (i + 1) hM1 h3 hr
theorem zMd_uniq {S : Nat → Nat → Int32} {i j : Nat} (h : zMd T m i S) (g : zMd T m j S) (hk : zmk T m i ≠ 0) : i = j := by
  have hm := h.2.2.1.2.2.2
  have li := zpl_le (T := T) (m := m) i
  have lj := zpl_le (T := T) (m := m) j
  have e1 : zpl T m i = zpl T m j := by
    have := h.2.2.2.1.symm.trans g.2.2.2.1
    have := congrArg Int32.toInt this
    rw [zof_ix (by omega), zof_ix (by omega)] at this
    omega
  have hlt : zpl T m i < m := by
    apply Classical.byContradiction
    intro q
    apply hk
    unfold zmk zmkB zTkO
    rw [if_pos (by omega)]
  have hmono : ∀ d a, zpl T m a < m → zpl T m a < zpl T m (a + d + 1) := by
    intro d
    induction d with
    | zero =>
      intro a ha
      exact zpl_up ha
    | succ d ih =>
      intro a ha
      have h1 := zpl_up ha
      by_cases g2 : zpl T m (a + 1) < m
      · have := ih (a + 1) g2
        rw [show a + 1 + d + 1 = a + (d + 1) + 1 by omega] at this
        omega
      · have h3 : ∀ d b, zpl T m b = m → zpl T m (b + d) = m := by
          intro d
          induction d with
          | zero => exact fun b hb => hb
          | succ d ih2 =>
            intro b hb
            have h4 : zpl T m (b + 1) = m := by
              show zend (fun q => zcb1 (T q)) m (zcE T m (zpl T m b)).1 = m
              rw [hb]
              have h5 : (zcE T m m).1 = m := by
                unfold zcE
                rw [if_pos (Nat.le_refl m)]
              rw [h5, zend_no (Or.inl (Nat.le_refl m))]
            have := ih2 (b + 1) h4
            rwa [show b + 1 + d = b + (d + 1) by omega] at this
        have l1 := zpl_le (T := T) (m := m) (a + 1)
        have := h3 (d + 1) (a + 1) (by omega)
        rw [show a + 1 + (d + 1) = a + (d + 1) + 1 by omega] at this
        omega
  apply Classical.byContradiction
  intro q
  by_cases h2 : i < j
  · have := hmono (j - i - 1) i hlt
    rw [show i + (j - i - 1) + 1 = j by omega] at this
    omega
  · have := hmono (i - j - 1) j (by omega)
    rw [show j + (i - j - 1) + 1 = i by omega] at this
    omega
theorem zFx_e {S S' : Nat → Nat → Int32} (h : zFmE S S') : zFx S S' := ⟨h.1 1 (by decide) (by decide), h.1 2 (by decide) (by decide), h.2 1 (by decide)⟩
theorem zEnd_x {S S' : Nat → Nat → Int32} {r : Int32} (h : zEndR S S' r m) : zFx S S' := by
  rcases h with ⟨_, _, h⟩ | ⟨_, _, h⟩
  · rw [h]
    exact ⟨rfl, rfl, rfl⟩
  · exact zFx_e (zFmE_t h)
/-- what a line leaves of the model -/
theorem zLn_x {S S' : Nat → Nat → Int32} {i n : Nat} {r : Int32} (h : zLnR T m i n S S' r) : zFx S S' := by
  rcases h with ⟨_, _, h⟩ | ⟨_, _, r1, S1, ht, h⟩ | ⟨_, _, h⟩ | ⟨_, _, _, h⟩
  · rw [h]
    exact ⟨rfl, rfl, rfl⟩
  · have hx : zFx S S1 := by
      rcases ht with ⟨_, _, _, _, h⟩ | ⟨_, _, _, _, _, a5, a6, _⟩
      · exact h
      · exact ⟨a6 1 (Or.inl rfl), a6 2 (Or.inr (Or.inl rfl)), a5 1 (by decide) (by decide) (by decide) (by decide) (by decide) (by decide)⟩
    rcases h with ⟨_, _, h⟩ | ⟨_, h⟩
    · rw [h]
      exact hx
    · exact zFx_tr hx (zEnd_x h)
  · rcases h with ⟨_, _, h⟩ | ⟨_, ⟨_, _, _, _, h⟩ | ⟨_, S1, _, _, _, b1, b2, h⟩⟩
    · rw [h]
      exact ⟨rfl, rfl, rfl⟩
    · exact h
    · exact zFx_tr ⟨b1 1 (by decide), b1 2 (by decide), b2 1 (Or.inl rfl)⟩ (zEnd_x h)
  · rcases h with ⟨_, _, h⟩ | ⟨_, S1, _, _, b1, b2, j, r2, S2, hs, h⟩
    · rw [h]
      exact ⟨rfl, rfl, rfl⟩
    · have hx : zFx S S2 := zFx_tr ⟨b1 1 (by decide), b1 2 (by decide), b2 1 (Or.inl rfl)⟩ (zFx_tr (S1 := zsm0 S1) ⟨rfl, rfl, rfl⟩ (zFx_e (zSum_fm j _ hs)))
      rcases h with ⟨_, _, h⟩ | ⟨_, h⟩
      · rw [h]
        exact hx
      · exact zFx_tr hx (zEnd_x h)
theorem zEnd_md {S S' : Nat → Nat → Int32} {r : Int32} {i : Nat} (hM : zMd T m i S) (h : zEndR S S' r m) (hr : r.toInt ≠ 0) : zMd T m (i + 1) S' ∧ zTf S S' := by
  rcases h with ⟨_, h, _⟩ | ⟨_, _, h⟩
  · exact absurd (by rw [h]; decide) hr
  · exact ⟨zMd_nx hM rfl rfl rfl rfl h, h.1, fun f h1 h2 h3 h4 _ => h.2.1 f h1 h2 h3 h4⟩
theorem zLn_nx {S S' : Nat → Nat → Int32} {i n : Nat} {r : Int32} (hM : zMd T m i S) (hS : S 0 15 = Int32.ofInt (n : Int)) (hn : n ≤ 9) (h : zLnR T m i n S S' r) (hr : r.toInt ≠ 0) : ∃ i' n', zMd T m i' S' ∧ n' ≤ 9 ∧ S' 0 15 = Int32.ofInt ((n' : Nat) : Int) := by
  rcases h with ⟨_, h, _⟩ | ⟨_, _, r1, S1, ht, h⟩ | ⟨_, _, h⟩ | ⟨_, _, _, h⟩
  · exact absurd h hr
  · rcases h with ⟨_, h, _⟩ | ⟨h0, h⟩
    · exact absurd h hr
    · rcases ht with ⟨_, q, _⟩ | ⟨_, _, b8, a3, a4, _⟩
      · exact absurd q h0
      · obtain ⟨g1, g2⟩ := zEnd_md a3 h hr
        exact ⟨_, n + 1, g1, by omega, (g2.2 15 (by decide) (by decide) (by decide) (by decide) (by decide)).trans a4⟩
  · rcases h with ⟨_, h, _⟩ | ⟨_, ⟨_, h, _⟩ | ⟨_, S1, a3, _, _, b1, b2, h⟩⟩
    · exact absurd h hr
    · exact absurd h hr
    · obtain ⟨g1, g2⟩ := zEnd_md a3 h hr
      exact ⟨_, n, g1, hn, ((g2.2 15 (by decide) (by decide) (by decide) (by decide) (by decide)).trans (b2 15 (by decide))).trans hS⟩
  · rcases h with ⟨_, h, _⟩ | ⟨_, S1, a3, _, b1, b2, j, r2, S2, hs, h⟩
    · exact absurd h hr
    · rcases h with ⟨_, h, _⟩ | ⟨h0, h⟩
      · exact absurd h hr
      · obtain ⟨i2, hM2⟩ := zSum_md j (zsm0 S1) (i + 1) (zMd_of a3 rfl rfl (fun f hf => by rcases hf with rfl | rfl | rfl | rfl | rfl <;> rfl)) hs h0
        obtain ⟨g1, g2⟩ := zEnd_md hM2 h hr
        refine ⟨_, n, g1, hn, ?_⟩
        rw [g2.2 15 (by decide) (by decide) (by decide) (by decide) (by decide), (zSum_fm j _ hs).2 15 (by decide)]
        exact (b2 15 (by decide)).trans hS
/-- all lines -/
def zTxR (T : Nat → Int32) (m : Nat) : Nat → (Nat → Nat → Int32) → Nat → Int32 → (Nat → Nat → Int32) → Prop
  | 0, _, _, _, _ => False
  | j + 1, S, a, r, S' => ((S 0 8).toInt = 0 ∧ r = Int32.ofInt (a : Int) ∧ S' = S) ∨ ((S 0 8).toInt ≠ 0 ∧ ∃ i n r1 S1, zMd T m i S ∧ n ≤ 9 ∧ S 0 15 = Int32.ofInt ((n : Nat) : Int) ∧ zLnR T m i n S S1 r1 ∧ ((r1.toInt = 0 ∧ r = Int32.ofInt (-1) ∧ S' = S1) ∨ (r1.toInt ≠ 0 ∧ zTxR T m j S1 (a + 1) r S')))
theorem zy_s2 {n pc : Nat} {L : zL} {st : List Value} {c s : Nat} {Q : ZP} {p0 q a : Nat} {v : Int} {x y : Value} {hp2 : List zhE} {P : ZP} (h : zatp k pc = some (p0, .invokestatic q, a, 2, v)) (hk : zkind (.invokestatic q) a 2 v = 2) (hP : zPn Lx xs n a (0, lv_args 0 [x, y], [], hp2, 0, 0) P) (hn : ∀ rv hp', P rv hp' → zPn Lx xs n k (pc + 3, L, rv.toList ++ st, hp', c + (zrm a).cells, s + (zrm a).slots) Q) : zPn Lx xs n k (pc, L, y :: x :: st, hp2, c, s) Q := zp_stat (vs := [x, y]) h hk rfl hP hn
/-- a row's lower part, taken from its upper one, up to u -/
def zcpS (Y : Nat) (S : Nat → Nat → Int32) (q u : Nat) : Nat → Nat → Int32 := fun p b => if p = q ∧ b < u then S p (Y + b) else S p b
theorem zcpS_ne {Y q u p : Nat} {S : Nat → Nat → Int32} (h : p ≠ q) : zcpS Y S q u p = S p := by
  funext b
  unfold zcpS
  rw [if_neg (fun z => h z.1)]
theorem zcpS_hi {Y q u b : Nat} {S : Nat → Nat → Int32} (h : u ≤ b) : zcpS Y S q u q b = S q b := by
  unfold zcpS
  rw [if_neg (fun z => by omega)]
theorem zcpS_lo {Y q u b : Nat} {S : Nat → Nat → Int32} (h : b < u) : zcpS Y S q u q b = S q (Y + b) := by
  unfold zcpS
  rw [if_pos ⟨rfl, h⟩]
theorem zcpS_0 {Y q : Nat} {S : Nat → Nat → Int32} : zcpS Y S q 0 = S := by
  funext p b
  unfold zcpS
  rw [if_neg (fun z => by omega)]
theorem zcpS_up {Y q u : Nat} {S : Nat → Nat → Int32} (h : u < Y) : zuS (zcpS Y S q u) q u (zcpS Y S q u q (Y + u)) = zcpS Y S q (u + 1) := by
  rw [zcpS_hi (b := Y + u) (by omega)]
  funext p b
  by_cases hp : p = q
  · subst hp
    by_cases hb : b = u
    · subst hb
      rw [zuS_at, zcpS_lo (by omega)]
    · rw [zuS_off (Or.inr hb)]
      by_cases h1 : b < u
      · rw [zcpS_lo h1, zcpS_lo (by omega)]
      · rw [zcpS_hi (by omega), zcpS_hi (by omega)]
  · rw [zuS_ne hp, zcpS_ne hp, zcpS_ne hp]
theorem zt_copies (he : zeI e hp zDM.length) {q N : Nat} (hD : zDM[q]? = some (.inr (0, N))) {Y : Nat} (hY : Y ≤ 64) (S : Nat → Nat → Int32) {n : Nat} : ∀ (d u c s : Nat), d + u = Y → zPn Lx xs n 174 (2, [(2, .int (Int32.ofInt (u : Int))), (0, .ref (e q)), (1, .int (Int32.ofInt (Y : Int)))], [], zHS e zDM (zcpS Y S q u) hp, c, s) (fun rv hp1 => rv = none ∧ hp1 = zHS e zDM (zcpS Y S q Y) hp) := by
  have yy : (Int32.ofInt (Y : Int)).toInt = Y := zof_ix (by omega)
  intro d
  induction d with
  | zero =>
    intro u c s hu
    have yu : (Int32.ofInt (u : Int)).toInt = u := zof_ix (by omega)
    have eu : u = Y := by omega
    iterate 2 refine zp0 (by rfl) rfl rfl ?_
    refine zy_icmp (by rfl) (by rfl) (fun h1 => ?_) (fun h1 => ?_)
    · refine zp_retV (by rfl) ?_
      refine ⟨rfl, ?_⟩
      rw [eu]
    · exfalso
      simp only [zcf, yy, yu] at h1
      omega
  | succ d ih =>
    intro u c s hu
    have yu : (Int32.ofInt (u : Int)).toInt = u := zof_ix (by omega)
    have cu : (Int32.ofInt (u : Int)).toNatClampNeg = u := zof_cl (by omega)
    have ea : Int32.ofInt (Y : Int) + Int32.ofInt (u : Int) = Int32.ofInt ((Y + u : Nat) : Int) := by
      rw [← Int32.ofInt_add]
      congr 1
    have ca : (Int32.ofInt ((Y + u : Nat) : Int)).toNatClampNeg = Y + u := zof_cl (by omega)
    have hup := zcpS_up (S := S) (q := q) (show u < Y by omega)
    iterate 2 refine zp0 (by rfl) rfl rfl ?_
    refine zy_icmp (by rfl) (by rfl) (fun h1 => ?_) (fun h1 => ?_)
    · refine zp_retV (by rfl) ?_
      exfalso
      simp only [zcf, yy, yu] at h1
      omega
    · iterate 6 refine zp0 (by rfl) rfl rfl ?_
      refine zy_ald he (by rfl) hD (fun u2 w2 => ?_)
      refine zy_ast he (by rfl) hD (fun u3 w3 => ?_)
      iterate 2 refine zp0 (by rfl) rfl rfl ?_
      show zPn Lx xs n 174 (2, [(2, .int (Int32.ofInt (u : Int) + Int32.ofInt 1)), (0, .ref (e q)), (1, .int (Int32.ofInt (Y : Int)))], [], zHS e zDM (zuS (zcpS Y S q u) q (Int32.ofInt (u : Int)).toNatClampNeg (zcpS Y S q u q (Int32.ofInt (Y : Int) + Int32.ofInt (u : Int)).toNatClampNeg)) hp, _, _) _
      rw [ea, ca, cu, hup, zof_up]
      exact ih (u + 1) _ _ (by omega)
theorem zt_copy (he : zeI e hp zDM.length) {q N : Nat} (hD : zDM[q]? = some (.inr (0, N))) {Y : Nat} (hY : Y ≤ 64) (S : Nat → Nat → Int32) {n : Nat} : zPn Lx xs n 174 (0, lv_args 0 [.ref (e q), .int (Int32.ofInt (Y : Int))], [], zHS e zDM S hp, 0, 0) (fun rv hp1 => rv = none ∧ hp1 = zHS e zDM (zcpS Y S q Y) hp) := by
  iterate 2 refine zp0 (by rfl) rfl rfl ?_
  have h := zt_copies (Lx := Lx) (xs := xs) (n := n) (hp := hp) he hD hY S Y 0 0 0 (Nat.add_zero Y)
  rw [zcpS_0] at h
  exact h
def zKy (p : Nat) : Nat := if p ≤ 12 then 10 else 64
/-- while the rows are kept -/
def zKs (S S1 : Nat → Nat → Int32) (j : Nat) : Prop := (∀ p b, 3 ≤ p → p < 3 + j → b < zKy p → S1 p b = S p (zKy p + b)) ∧ (∀ p b, 3 ≤ p → p < 3 + j → zKy p ≤ b → S1 p b = S p b) ∧ (∀ p, p ≠ 0 → p < 3 ∨ 3 + j ≤ p → S1 p = S p) ∧ S1 0 = zuS (zuS (zuS S 0 12 (S 0 15)) 0 13 (S 0 16)) 0 14 (S 0 17) 0
theorem zKs_up {S S1 : Nat → Nat → Int32} {j : Nat} (h : zKs S S1 j) : zKs S (zcpS (zKy (3 + j)) S1 (3 + j) (zKy (3 + j))) (j + 1) := by
  obtain ⟨h1, h2, h3, h4⟩ := h
  refine ⟨fun p b p1 p2 hb => ?_, fun p b p1 p2 hb => ?_, fun p p0 hp => ?_, ?_⟩
  · by_cases g : p = 3 + j
    · subst g
      rw [zcpS_lo hb, h3 _ (by omega) (by omega)]
    · rw [zcpS_ne g, h1 p b p1 (by omega) hb]
  · by_cases g : p = 3 + j
    · subst g
      rw [zcpS_hi hb, h3 _ (by omega) (by omega)]
    · rw [zcpS_ne g, h2 p b p1 (by omega) hb]
  · rw [zcpS_ne (by omega), h3 p p0 (by omega)]
  · rw [zcpS_ne (by omega), h4]
/-- what is told is there now -/
def zKeep (S S' : Nat → Nat → Int32) : Prop := (∀ p b, 3 ≤ p → p < 16 → b < zKy p → S' p b = S p (zKy p + b)) ∧ (∀ p b, 3 ≤ p → p < 16 → zKy p ≤ b → S' p b = S p b) ∧ (∀ p, p ≠ 0 → p < 3 ∨ 16 ≤ p → S' p = S p) ∧ S' 0 12 = S 0 15 ∧ S' 0 13 = S 0 16 ∧ S' 0 14 = S 0 17 ∧ S' 0 41 = (Int32.ofInt 1 <<< (S 0 15 &&& 31)) - Int32.ofInt 1 ∧ S' 0 67 = Int32.ofInt 0 ∧ S' 0 69 = Int32.ofInt 0 ∧ ∀ f, f ≠ 12 → f ≠ 13 → f ≠ 14 → f ≠ 41 → f ≠ 67 → f ≠ 69 → S' 0 f = S 0 f
theorem zKeep_x {S S' : Nat → Nat → Int32} (h : zKeep S S') : zFx S S' := ⟨h.2.2.1 1 (by decide) (by decide), h.2.2.1 2 (by decide) (by decide), h.2.2.2.2.2.2.2.2.2 1 (by decide) (by decide) (by decide) (by decide) (by decide) (by decide)⟩
theorem zt_keep (he : zeI e hp zDM.length) {S : Nat → Nat → Int32} : zPn Lx xs k 175 (0, lv_args 0 [.ref (e 0)], [], zHS e zDM S hp, 0, 0) (fun rv hp1 => rv = none ∧ ∃ S', hp1 = zHS e zDM S' hp ∧ zKeep S S') := by
  have hx0 : zKs S (zuS (zuS (zuS S 0 12 (S 0 15)) 0 13 (S 0 16)) 0 14 (S 0 17)) 0 := ⟨fun p b h1 h2 => absurd h2 (by omega), fun p b h1 h2 => absurd h2 (by omega), fun p h _ => by rw [zuS_ne h, zuS_ne h, zuS_ne h], rfl⟩
  iterate 2 refine zp0 (by rfl) rfl rfl ?_
  refine zy_get (b := 15) he (by rfl) (by rfl) (by rfl) (by rfl) ?_
  refine zy_put (b := 12) he (by rfl) (by rfl) (by rfl) ?_
  iterate 2 refine zp0 (by rfl) rfl rfl ?_
  refine zy_get (b := 16) he (by rfl) (by rfl) (by rfl) (by rfl) ?_
  refine zy_put (b := 13) he (by rfl) (by rfl) (by rfl) ?_
  iterate 2 refine zp0 (by rfl) rfl rfl ?_
  refine zy_get (b := 17) he (by rfl) (by rfl) (by rfl) (by rfl) ?_
  refine zy_put (b := 14) he (by rfl) (by rfl) (by rfl) ?_
  refine zp0 (by rfl) rfl rfl ?_
  refine zy_ref (r := 3) he (by rfl) (by rfl) (by rfl) (by rfl) ?_
  refine zq_bip (by rfl) (by decide) ?_
  refine zy_s2 (by rfl) (by rfl) (zt_copy he (q := 3) (Y := 10) rfl (by decide) (zuS (zuS (zuS S 0 12 (S 0 15)) 0 13 (S 0 16)) 0 14 (S 0 17))) ?_
  intro rv hp1 hq
  obtain ⟨q1, q2⟩ := hq
  rw [q1, q2]
  have hx1 : zKs S (zcpS 10 (zuS (zuS (zuS S 0 12 (S 0 15)) 0 13 (S 0 16)) 0 14 (S 0 17)) 3 10) 1 := zKs_up hx0
  generalize zcpS 10 (zuS (zuS (zuS S 0 12 (S 0 15)) 0 13 (S 0 16)) 0 14 (S 0 17)) 3 10 = S1 at hx1
  refine zp0 (by rfl) rfl rfl ?_
  refine zy_ref (r := 4) he (by rfl) (by rfl) (by rfl) (by rfl) ?_
  refine zq_bip (by rfl) (by decide) ?_
  refine zy_s2 (by rfl) (by rfl) (zt_copy he (q := 4) (Y := 10) rfl (by decide) S1) ?_
  intro rv hp1 hq
  obtain ⟨q1, q2⟩ := hq
  rw [q1, q2]
  have hx2 : zKs S (zcpS 10 S1 4 10) 2 := zKs_up hx1
  generalize zcpS 10 S1 4 10 = S2 at hx2
  refine zp0 (by rfl) rfl rfl ?_
  refine zy_ref (r := 5) he (by rfl) (by rfl) (by rfl) (by rfl) ?_
  refine zq_bip (by rfl) (by decide) ?_
  refine zy_s2 (by rfl) (by rfl) (zt_copy he (q := 5) (Y := 10) rfl (by decide) S2) ?_
  intro rv hp1 hq
  obtain ⟨q1, q2⟩ := hq
  rw [q1, q2]
  have hx3 : zKs S (zcpS 10 S2 5 10) 3 := zKs_up hx2
  generalize zcpS 10 S2 5 10 = S3 at hx3
  refine zp0 (by rfl) rfl rfl ?_
  refine zy_ref (r := 6) he (by rfl) (by rfl) (by rfl) (by rfl) ?_
  refine zq_bip (by rfl) (by decide) ?_
  refine zy_s2 (by rfl) (by rfl) (zt_copy he (q := 6) (Y := 10) rfl (by decide) S3) ?_
  intro rv hp1 hq
  obtain ⟨q1, q2⟩ := hq
  rw [q1, q2]
  have hx4 : zKs S (zcpS 10 S3 6 10) 4 := zKs_up hx3
  generalize zcpS 10 S3 6 10 = S4 at hx4
  refine zp0 (by rfl) rfl rfl ?_
  refine zy_ref (r := 7) he (by rfl) (by rfl) (by rfl) (by rfl) ?_
  refine zq_bip (by rfl) (by decide) ?_
  refine zy_s2 (by rfl) (by rfl) (zt_copy he (q := 7) (Y := 10) rfl (by decide) S4) ?_
  intro rv hp1 hq
  obtain ⟨q1, q2⟩ := hq
  rw [q1, q2]
  have hx5 : zKs S (zcpS 10 S4 7 10) 5 := zKs_up hx4
  generalize zcpS 10 S4 7 10 = S5 at hx5
  refine zp0 (by rfl) rfl rfl ?_
  refine zy_ref (r := 8) he (by rfl) (by rfl) (by rfl) (by rfl) ?_
  refine zq_bip (by rfl) (by decide) ?_
  refine zy_s2 (by rfl) (by rfl) (zt_copy he (q := 8) (Y := 10) rfl (by decide) S5) ?_
  intro rv hp1 hq
  obtain ⟨q1, q2⟩ := hq
  rw [q1, q2]
  have hx6 : zKs S (zcpS 10 S5 8 10) 6 := zKs_up hx5
  generalize zcpS 10 S5 8 10 = S6 at hx6
  refine zp0 (by rfl) rfl rfl ?_
  refine zy_ref (r := 9) he (by rfl) (by rfl) (by rfl) (by rfl) ?_
  refine zq_bip (by rfl) (by decide) ?_
  refine zy_s2 (by rfl) (by rfl) (zt_copy he (q := 9) (Y := 10) rfl (by decide) S6) ?_
  intro rv hp1 hq
  obtain ⟨q1, q2⟩ := hq
  rw [q1, q2]
  have hx7 : zKs S (zcpS 10 S6 9 10) 7 := zKs_up hx6
  generalize zcpS 10 S6 9 10 = S7 at hx7
  refine zp0 (by rfl) rfl rfl ?_
  refine zy_ref (r := 10) he (by rfl) (by rfl) (by rfl) (by rfl) ?_
  refine zq_bip (by rfl) (by decide) ?_
  refine zy_s2 (by rfl) (by rfl) (zt_copy he (q := 10) (Y := 10) rfl (by decide) S7) ?_
  intro rv hp1 hq
  obtain ⟨q1, q2⟩ := hq
  rw [q1, q2]
  have hx8 : zKs S (zcpS 10 S7 10 10) 8 := zKs_up hx7
  generalize zcpS 10 S7 10 10 = S8 at hx8
  refine zp0 (by rfl) rfl rfl ?_
  refine zy_ref (r := 11) he (by rfl) (by rfl) (by rfl) (by rfl) ?_
  refine zq_bip (by rfl) (by decide) ?_
  refine zy_s2 (by rfl) (by rfl) (zt_copy he (q := 11) (Y := 10) rfl (by decide) S8) ?_
  intro rv hp1 hq
  obtain ⟨q1, q2⟩ := hq
  rw [q1, q2]
  have hx9 : zKs S (zcpS 10 S8 11 10) 9 := zKs_up hx8
  generalize zcpS 10 S8 11 10 = S9 at hx9
  refine zp0 (by rfl) rfl rfl ?_
  refine zy_ref (r := 12) he (by rfl) (by rfl) (by rfl) (by rfl) ?_
  refine zq_bip (by rfl) (by decide) ?_
  refine zy_s2 (by rfl) (by rfl) (zt_copy he (q := 12) (Y := 10) rfl (by decide) S9) ?_
  intro rv hp1 hq
  obtain ⟨q1, q2⟩ := hq
  rw [q1, q2]
  have hx10 : zKs S (zcpS 10 S9 12 10) 10 := zKs_up hx9
  generalize zcpS 10 S9 12 10 = S10 at hx10
  refine zp0 (by rfl) rfl rfl ?_
  refine zy_ref (r := 13) he (by rfl) (by rfl) (by rfl) (by rfl) ?_
  refine zq_bip (by rfl) (by decide) ?_
  refine zy_s2 (by rfl) (by rfl) (zt_copy he (q := 13) (Y := 64) rfl (by decide) S10) ?_
  intro rv hp1 hq
  obtain ⟨q1, q2⟩ := hq
  rw [q1, q2]
  have hx11 : zKs S (zcpS 64 S10 13 64) 11 := zKs_up hx10
  generalize zcpS 64 S10 13 64 = S11 at hx11
  refine zp0 (by rfl) rfl rfl ?_
  refine zy_ref (r := 14) he (by rfl) (by rfl) (by rfl) (by rfl) ?_
  refine zq_bip (by rfl) (by decide) ?_
  refine zy_s2 (by rfl) (by rfl) (zt_copy he (q := 14) (Y := 64) rfl (by decide) S11) ?_
  intro rv hp1 hq
  obtain ⟨q1, q2⟩ := hq
  rw [q1, q2]
  have hx12 : zKs S (zcpS 64 S11 14 64) 12 := zKs_up hx11
  generalize zcpS 64 S11 14 64 = S12 at hx12
  refine zp0 (by rfl) rfl rfl ?_
  refine zy_ref (r := 15) he (by rfl) (by rfl) (by rfl) (by rfl) ?_
  refine zq_bip (by rfl) (by decide) ?_
  refine zy_s2 (by rfl) (by rfl) (zt_copy he (q := 15) (Y := 64) rfl (by decide) S12) ?_
  intro rv hp1 hq
  obtain ⟨q1, q2⟩ := hq
  rw [q1, q2]
  have hx13 : zKs S (zcpS 64 S12 15 64) 13 := zKs_up hx12
  generalize zcpS 64 S12 15 64 = S13 at hx13
  iterate 3 refine zp0 (by rfl) rfl rfl ?_
  refine zy_get (b := 12) he (by rfl) (by rfl) (by rfl) (by rfl) ?_
  iterate 3 refine zp0 (by rfl) rfl rfl ?_
  refine zy_put (b := 41) he (by rfl) (by rfl) (by rfl) ?_
  iterate 2 refine zp0 (by rfl) rfl rfl ?_
  refine zy_put (b := 67) he (by rfl) (by rfl) (by rfl) ?_
  iterate 2 refine zp0 (by rfl) rfl rfl ?_
  refine zy_put (b := 69) he (by rfl) (by rfl) (by rfl) ?_
  refine zp_retV (by rfl) ?_
  obtain ⟨c1, c2, c3, c4⟩ := hx13
  refine ⟨rfl, _, rfl, fun p b p1 p2 hb => ?_, fun p b p1 p2 hb => ?_, fun p p0 hp => ?_, ?_, ?_, ?_, ?_, ?_, ?_, fun f f1 f2 f3 f4 f5 f6 => ?_⟩
  · rw [zuS_ne (by omega), zuS_ne (by omega), zuS_ne (by omega), c1 p b p1 p2 hb]
  · rw [zuS_ne (by omega), zuS_ne (by omega), zuS_ne (by omega), c2 p b p1 p2 hb]
  · rw [zuS_ne p0, zuS_ne p0, zuS_ne p0, c3 p p0 hp]
  · rw [zuS_off (by decide), zuS_off (by decide), zuS_off (by decide), c4]
    rfl
  · rw [zuS_off (by decide), zuS_off (by decide), zuS_off (by decide), c4]
    rfl
  · rw [zuS_off (by decide), zuS_off (by decide), zuS_off (by decide), c4]
    rfl
  · rw [zuS_off (by decide), zuS_off (by decide), zuS_at, c4]
    rfl
  · rw [zuS_off (by decide), zuS_at]
  · rw [zuS_at]
  · rw [zuS_off (Or.inr f6), zuS_off (Or.inr f5), zuS_off (Or.inr f4), c4, zuS_off (Or.inr f3), zuS_off (Or.inr f2), zuS_off (Or.inr f1)]
theorem zt_plain (he : zeI e hp zDM.length) {S : Nat → Nat → Int32} : zPn Lx xs k 173 (0, lv_args 0 [.ref (e 0)], [], zHS e zDM S hp, 0, 0) (fun rv hp1 => rv = none ∧ hp1 = zHS e zDM (zuS (zuS (zuS (zuS (zuS S 0 15 (Int32.ofInt 0)) 0 16 (Int32.ofInt 20)) 0 17 (Int32.ofInt 0)) 0 18 (Int32.ofInt 0)) 0 19 (Int32.ofInt 0)) hp) := by
  iterate 2 refine zp0 (by rfl) rfl rfl ?_
  refine zy_put (b := 15) he (by rfl) (by rfl) (by rfl) ?_
  refine zp0 (by rfl) rfl rfl ?_
  refine zq_bip (by rfl) (by decide) ?_
  refine zy_put (b := 16) he (by rfl) (by rfl) (by rfl) ?_
  iterate 2 refine zp0 (by rfl) rfl rfl ?_
  refine zy_put (b := 17) he (by rfl) (by rfl) (by rfl) ?_
  iterate 2 refine zp0 (by rfl) rfl rfl ?_
  refine zy_put (b := 18) he (by rfl) (by rfl) (by rfl) ?_
  iterate 2 refine zp0 (by rfl) rfl rfl ?_
  refine zy_put (b := 19) he (by rfl) (by rfl) (by rfl) ?_
  refine zp_retV (by rfl) ?_
  exact ⟨rfl, rfl⟩
theorem zt_txtA (he : zeI e hp zDM.length) (x1 : Int32) : ∀ (n : Nat) (S : Nat → Nat → Int32) (i N a c s : Nat), zMd T m i S → N ≤ 9 → S 0 15 = Int32.ofInt (N : Int) → zPn Lx xs n 182 (55, [(2, .int (Int32.ofInt (a : Int))), (0, .ref (e 0)), (1, .int x1)], [], zHS e zDM S hp, c, s) (fun rv hp1 => ∃ r S', rv = some (.int r) ∧ hp1 = zHS e zDM S' hp ∧ zFx S S' ∧ ∃ j S2, zTxR T m j S a r S2 ∧ ((r = Int32.ofInt (-1) ∧ S' = S2) ∨ ((∃ b : Nat, r = Int32.ofInt (b : Int)) ∧ zKeep S2 S'))) := by
  intro n
  induction n using Nat.strongRecOn with
  | _ n ih =>
  intro S i N a c s hM hN hS
  refine zp0 (by rfl) rfl rfl ?_
  refine zy_get (b := 8) he (by rfl) (by rfl) (by rfl) (by rfl) ?_
  refine zy_if (by rfl) (by rfl) (fun h1 => ?_) (fun h1 => ?_)
  · refine zp0 (by rfl) rfl rfl ?_
    refine zy_v0 (by rfl) (zt_keep he) ?_
    intro rv hp1 hq
    obtain ⟨q1, S9, q2, hkp⟩ := hq
    have hx := zKeep_x hkp
    rw [q1, q2]
    refine zp0 (by rfl) rfl rfl ?_
    refine zp_retI (by rfl) ?_
    exact ⟨_, _, rfl, rfl, hx, 1, S, Or.inl ⟨h1, rfl, rfl⟩, Or.inr ⟨⟨a, rfl⟩, hkp⟩⟩
  · refine zp0 (by rfl) rfl rfl ?_
    refine zy_v0 (by rfl) (zt_line he hN hM hS (by have := zMd_k hM; simp only [zcf] at h1; omega)) ?_
    intro rv hp1 hq
    obtain ⟨r1, S1, q1, q2, hL⟩ := hq
    rw [q1, q2]
    refine zy_if (by rfl) (by rfl) (fun h2 => ?_) (fun h2 => ?_)
    · refine zp0 (by rfl) rfl rfl ?_
      obtain ⟨i2, N2, g1, g2, g3⟩ := zLn_nx hM hS hN hL h2
      refine zp0l (by rfl) rfl rfl (fun m1 hm1 => ?_)
      show zPn Lx xs m1 182 (55, [(2, .int (Int32.ofInt (a : Int) + Int32.ofInt 1)), (0, .ref (e 0)), (1, .int x1)], [], zHS e zDM S1 hp, _, _) _
      rw [zof_up]
      refine (ih m1 hm1 S1 i2 N2 (a + 1) _ _ g1 g2 g3).post ?_
      intro rv hp1 hq
      obtain ⟨r, S', v1, v2, v3, j, S2, v4, v5⟩ := hq
      exact ⟨r, S', v1, v2, zFx_tr (zLn_x hL) v3, j + 1, S2, Or.inr ⟨h1, i, N, r1, S1, hM, hN, hS, hL, Or.inr ⟨h2, v4⟩⟩, v5⟩
    · refine zp0 (by rfl) rfl rfl ?_
      refine zp_retI (by rfl) ?_
      exact ⟨_, _, rfl, rfl, zLn_x hL, 1, S1, Or.inr ⟨h1, i, N, r1, S1, hM, hN, hS, hL, Or.inl ⟨Classical.not_not.mp h2, rfl, rfl⟩⟩, Or.inl ⟨rfl, rfl⟩⟩
/-- a text told to the model -/
def zTxtR (nn : Int32) (S S' : Nat → Nat → Int32) (r : Int32) : Prop :=
  ((nn.toInt < 0 ∨ (S 0 1).toInt < nn.toInt) ∧ r = Int32.ofInt (-2) ∧ S' = zuS S 0 2 (Int32.ofInt 0)) ∨
  (0 ≤ nn.toInt ∧ nn.toInt ≤ (S 0 1).toInt ∧ S' 1 = S 1 ∧ S' 2 = S 2 ∧ S' 0 1 = Int32.ofInt 0 ∧ ∃ S1 j S2, zMd (S 1) nn.toNatClampNeg 0 S1 ∧ S1 0 15 = Int32.ofInt 0 ∧ S1 0 16 = Int32.ofInt 20 ∧ S1 0 18 = Int32.ofInt 0 ∧ S1 0 19 = Int32.ofInt 0 ∧ S1 0 4 = Int32.ofInt 0 ∧ S1 0 5 = Int32.ofInt (-1) ∧ zTxR (S 1) nn.toNatClampNeg j S1 0 r S2 ∧ ((r = Int32.ofInt (-1) ∧ S' = S2) ∨ ((∃ b : Nat, r = Int32.ofInt (b : Int)) ∧ zKeep S2 S')))
theorem zt_text (he : zeI e hp zDM.length) {S : Nat → Nat → Int32} (nn : Int32) (h6 : (S 0 1).toInt ≤ 600) (hs : zspell (S 2) 0 zWds) : zPn Lx xs k 182 (0, lv_args 0 [.ref (e 0), .int nn], [], zHS e zDM S hp, 0, 0) (fun rv hp1 => ∃ r S', rv = some (.int r) ∧ hp1 = zHS e zDM S' hp ∧ zTxtR nn S S' r) := by
  iterate 2 refine zp0 (by rfl) rfl rfl ?_
  refine zy_put (b := 2) he (by rfl) (by rfl) (by rfl) ?_
  refine zp0 (by rfl) rfl rfl ?_
  refine zy_if (by rfl) (by rfl) (fun h1 => ?_) (fun h1 => ?_)
  · refine zq_bip (by rfl) (by decide) ?_
    refine zp_retI (by rfl) ?_
    simp +decide only [↓reduceIte, zcf, zuS, va_up] at h1
    exact ⟨_, _, rfl, rfl, Or.inl ⟨by omega, rfl, rfl⟩⟩
  · iterate 2 refine zp0 (by rfl) rfl rfl ?_
    refine zy_get (b := 1) he (by rfl) (by rfl) (by rfl) (by rfl) ?_
    refine zy_icmp (by rfl) (by rfl) (fun h2 => ?_) (fun h2 => ?_)
    · iterate 2 refine zp0 (by rfl) rfl rfl ?_
      refine zy_put (b := 6) he (by rfl) (by rfl) (by rfl) ?_
      iterate 2 refine zp0 (by rfl) rfl rfl ?_
      refine zy_put (b := 1) he (by rfl) (by rfl) (by rfl) ?_
      iterate 2 refine zp0 (by rfl) rfl rfl ?_
      refine zy_put (b := 4) he (by rfl) (by rfl) (by rfl) ?_
      iterate 2 refine zp0 (by rfl) rfl rfl ?_
      refine zy_put (b := 5) he (by rfl) (by rfl) (by rfl) ?_
      iterate 2 refine zp0 (by rfl) rfl rfl ?_
      refine zy_put (b := 7) he (by rfl) (by rfl) (by rfl) ?_
      refine zp0 (by rfl) rfl rfl ?_
      refine zy_v0n (by rfl) (zt_plain he) ?_
      refine zp0 (by rfl) rfl rfl ?_
      simp +decide only [↓reduceIte, zcf, zuS, va_up] at h1 h2
      have hcl : nn.toNatClampNeg = nn.toInt.toNat := zb_cl
      have hnn : nn = Int32.ofInt ((nn.toNatClampNeg : Nat) : Int) := by
        rw [hcl, Int.toNat_of_nonneg (by omega), Int32.ofInt_toInt]
      refine zy_v0 (by rfl) (zt_token he k (zuS (zuS (zuS (zuS (zuS (zuS (zuS (zuS (zuS (zuS (zuS S 0 2 (Int32.ofInt 0)) 0 6 nn) 0 1 (Int32.ofInt 0)) 0 4 (Int32.ofInt 0)) 0 5 (Int32.ofInt (-1))) 0 7 (Int32.ofInt 0)) 0 15 (Int32.ofInt 0)) 0 16 (Int32.ofInt 20)) 0 17 (Int32.ofInt 0)) 0 18 (Int32.ofInt 0)) 0 19 (Int32.ofInt 0)) 0 ⟨hnn, rfl, Nat.zero_le _, by omega⟩ hs) ?_
      intro rv hp1 hq
      obtain ⟨q1, Sz, q2, hT⟩ := hq
      rw [q1, q2]
      iterate 2 refine zp0 (by rfl) rfl rfl ?_
      obtain ⟨i1, i2, i3⟩ := hT
      have hM : zMd (S 1) nn.toNatClampNeg 0 Sz := zMd_tok (b := zend (fun q => zcb1 (S 1 q)) nn.toNatClampNeg 0) (S := (zuS (zuS (zuS (zuS (zuS (zuS (zuS (zuS (zuS (zuS (zuS S 0 2 (Int32.ofInt 0)) 0 6 nn) 0 1 (Int32.ofInt 0)) 0 4 (Int32.ofInt 0)) 0 5 (Int32.ofInt (-1))) 0 7 (Int32.ofInt 0)) 0 15 (Int32.ofInt 0)) 0 16 (Int32.ofInt 20)) 0 17 (Int32.ofInt 0)) 0 18 (Int32.ofInt 0)) 0 19 (Int32.ofInt 0))) rfl hs hnn (by omega) (zpl_le (T := S 1) 0) ⟨i1, i2, i3⟩
      refine (zt_txtA (T := S 1) (m := nn.toNatClampNeg) he _ k Sz 0 0 0 _ _ hM (by decide) ((i2 15 (by decide) (by decide) (by decide) (by decide)).trans rfl)).post ?_
      intro rv hp1 hq
      obtain ⟨r, S', v1, v2, v3, j, S2, v4, v5⟩ := hq
      refine ⟨r, S', v1, v2, Or.inr ⟨by omega, by omega, ?_, ?_, ?_, Sz, j, S2, hM, ?_, ?_, ?_, ?_, ?_, ?_, v4, v5⟩⟩
      · rw [v3.1, i1 1 (by decide)]
        rfl
      · rw [v3.2.1, i1 2 (by decide)]
        rfl
      · rw [v3.2.2, i2 1 (by decide) (by decide) (by decide) (by decide)]
        rfl
      · rw [i2 15 (by decide) (by decide) (by decide) (by decide)]
        rfl
      · rw [i2 16 (by decide) (by decide) (by decide) (by decide)]
        rfl
      · rw [i2 18 (by decide) (by decide) (by decide) (by decide)]
        rfl
      · rw [i2 19 (by decide) (by decide) (by decide) (by decide)]
        rfl
      · rw [i2 4 (by decide) (by decide) (by decide) (by decide)]
        rfl
      · rw [i2 5 (by decide) (by decide) (by decide) (by decide)]
        rfl
    · refine zq_bip (by rfl) (by decide) ?_
      refine zp_retI (by rfl) ?_
      simp +decide only [↓reduceIte, zcf, zuS, va_up] at h1 h2
      exact ⟨_, _, rfl, rfl, Or.inl ⟨by omega, rfl, rfl⟩⟩
end ZTKJ
