/-! the model's text -/
section ZTKJ
variable {Lx : Nat} {xs : Nat → Int32} {hp : List zhE} {e : Nat → Nat} {m : Nat} {T : Nat → Int32} {k : Nat}
theorem zSum_md {S' : Nat → Nat → Int32} {r : Int32} : ∀ (j : Nat) (S : Nat → Nat → Int32) (i : Nat), zMd T m i S → zSum m j S S' r → r.toInt ≠ 0 → ∃ i', zMd T m i' S'
  | 0, _, _, _, h, _ => h.elim
  | j + 1, S, i, hM, h, hr => by
    rcases h with ⟨_, _, h⟩ | ⟨_, r1, S1, h1, h2⟩
    · obtain ⟨b1, b2⟩ := zbindA_k (l := 1) (S 0 35).toNatClampNeg S
      rw [h]
      exact ⟨i, zMd_of hM (b1 1 (by decide) (by decide) (by decide) (by decide) (by decide)) (b1 2 (by decide) (by decide) (by decide) (by decide) (by decide)) (fun f hf => b2 f (by omega) (by omega) (by omega))⟩
    · rcases h2 with ⟨_, h2, _⟩ | ⟨h2, h3⟩
      · exact absurd (by rw [h2]; decide) hr
      · have hkp : zKp S (zstO S).2 := by
          unfold zstO
          split
          · exact zlfO_keep
          · exact zsnO_keep
        have hM1 : zMd T m (i + 1) S1 := by
          unfold zOut at h1
          split at h1
          · exact absurd (by rw [h1.1]; decide) h2
          · exact zMd_nx hM hkp.1 hkp.2.1 hkp.2.2.1 rfl h1.2
        exact zSum_md j S1 (i + 1) hM1 h3 hr
theorem zMd_uniq {S : Nat → Nat → Int32} {i j : Nat} (h : zMd T m i S) (g : zMd T m j S) (hk : zmk T m i ≠ 0) : i = j := by
  have hm := h.2.2.1.2.2.2
  have li := zpl_le (T := T) (m := m) i
  have lj := zpl_le (T := T) (m := m) j
  have e1 : zpl T m i = zpl T m j := by
    have := h.2.2.2.1.symm.trans g.2.2.2.1
    have := congrArg Int32.toInt this
    rw [zof_ix (by omega), zof_ix (by omega)] at this
    omega
  have hlt : zpl T m i < m := by
    apply Classical.byContradiction
    intro q
    apply hk
    unfold zmk zmkB zTkO
    rw [if_pos (by omega)]
  have hmono : ∀ d a, zpl T m a < m → zpl T m a < zpl T m (a + d + 1) := by
    intro d
    induction d with
    | zero =>
      intro a ha
      exact zpl_up ha
    | succ d ih =>
      intro a ha
      have h1 := zpl_up ha
      by_cases g2 : zpl T m (a + 1) < m
      · have := ih (a + 1) g2
        rw [show a + 1 + d + 1 = a + (d + 1) + 1 by omega] at this
        omega
      · have h3 : ∀ d b, zpl T m b = m → zpl T m (b + d) = m := by
          intro d
          induction d with
          | zero => exact fun b hb => hb
          | succ d ih2 =>
            intro b hb
            have h4 : zpl T m (b + 1) = m := by
              show zend (fun q => zcb1 (T q)) m (zcE T m (zpl T m b)).1 = m
              rw [hb]
              have h5 : (zcE T m m).1 = m := by
                unfold zcE
                rw [if_pos (Nat.le_refl m)]
              rw [h5, zend_no (Or.inl (Nat.le_refl m))]
            have := ih2 (b + 1) h4
            rwa [show b + 1 + d = b + (d + 1) by omega] at this
        have l1 := zpl_le (T := T) (m := m) (a + 1)
        have := h3 (d + 1) (a + 1) (by omega)
        rw [show a + 1 + (d + 1) = a + (d + 1) + 1 by omega] at this
        omega
  apply Classical.byContradiction
  intro q
  by_cases h2 : i < j
  · have := hmono (j - i - 1) i hlt
    rw [show i + (j - i - 1) + 1 = j by omega] at this
    omega
  · have := hmono (i - j - 1) j (by omega)
    rw [show j + (i - j - 1) + 1 = i by omega] at this
    omega
theorem zFx_e {S S' : Nat → Nat → Int32} (h : zFmE S S') : zFx S S' := ⟨h.1 1 (by decide) (by decide), h.1 2 (by decide) (by decide), h.2 1 (by decide)⟩
theorem zEnd_x {S S' : Nat → Nat → Int32} {r : Int32} (h : zEndR S S' r m) : zFx S S' := by
  rcases h with ⟨_, _, h⟩ | ⟨_, _, h⟩
  · rw [h]
    exact ⟨rfl, rfl, rfl⟩
  · exact zFx_e (zFmE_t h)
/-- what a line leaves of the model -/
theorem zLn_x {S S' : Nat → Nat → Int32} {i n : Nat} {r : Int32} (h : zLnR T m i n S S' r) : zFx S S' := by
  rcases h with ⟨_, _, h⟩ | ⟨_, _, r1, S1, ht, h⟩ | ⟨_, _, h⟩ | ⟨_, _, _, h⟩
  · rw [h]
    exact ⟨rfl, rfl, rfl⟩
  · have hx : zFx S S1 := by
      rcases ht with ⟨_, _, _, _, h⟩ | ⟨_, _, _, _, _, a5, a6, _⟩
      · exact h
      · exact ⟨a6 1 (Or.inl rfl), a6 2 (Or.inr (Or.inl rfl)), a5 1 (by decide) (by decide) (by decide) (by decide) (by decide) (by decide) (by decide) (by decide)⟩
    rcases h with ⟨_, _, h⟩ | ⟨_, h⟩
    · rw [h]
      exact hx
    · exact zFx_tr hx (zEnd_x h)
  · rcases h with ⟨_, _, h⟩ | ⟨_, ⟨_, _, _, _, h⟩ | ⟨_, S1, _, _, _, b1, b2, h⟩⟩
    · rw [h]
      exact ⟨rfl, rfl, rfl⟩
    · exact h
    · exact zFx_tr ⟨b1 1 (by decide), b1 2 (by decide), b2 1 (Or.inl rfl)⟩ (zEnd_x h)
  · rcases h with ⟨_, _, h⟩ | ⟨_, S1, _, _, b1, b2, j, r2, S2, hs, h⟩
    · rw [h]
      exact ⟨rfl, rfl, rfl⟩
    · have hx : zFx S S2 := zFx_tr ⟨b1 1 (by decide), b1 2 (by decide), b2 1 (Or.inl rfl)⟩ (zFx_tr (S1 := zsm0 S1) ⟨rfl, rfl, rfl⟩ (zFx_e (zSum_fm j _ hs)))
      rcases h with ⟨_, _, h⟩ | ⟨_, h⟩
      · rw [h]
        exact hx
      · exact zFx_tr hx (zEnd_x h)
theorem zEnd_md {S S' : Nat → Nat → Int32} {r : Int32} {i : Nat} (hM : zMd T m i S) (h : zEndR S S' r m) (hr : r.toInt ≠ 0) : zMd T m (i + 1) S' ∧ zTf S S' := by
  rcases h with ⟨_, h, _⟩ | ⟨_, _, h⟩
  · exact absurd (by rw [h]; decide) hr
  · exact ⟨zMd_nx hM rfl rfl rfl rfl h, h.1, fun f h1 h2 h3 h4 _ => h.2.1 f h1 h2 h3 h4⟩
theorem zLn_nx {S S' : Nat → Nat → Int32} {i n : Nat} {r : Int32} (hM : zMd T m i S) (hS : S 0 15 = Int32.ofInt (n : Int)) (hn : n ≤ 9) (h : zLnR T m i n S S' r) (hr : r.toInt ≠ 0) : ∃ i' n', zMd T m i' S' ∧ n' ≤ 9 ∧ S' 0 15 = Int32.ofInt ((n' : Nat) : Int) := by
  rcases h with ⟨_, h, _⟩ | ⟨_, _, r1, S1, ht, h⟩ | ⟨_, _, h⟩ | ⟨_, _, _, h⟩
  · exact absurd h hr
  · rcases h with ⟨_, h, _⟩ | ⟨h0, h⟩
    · exact absurd h hr
    · rcases ht with ⟨_, q, _⟩ | ⟨_, _, b8, a3, a4, _⟩
      · exact absurd q h0
      · obtain ⟨g1, g2⟩ := zEnd_md a3 h hr
        exact ⟨_, n + 1, g1, by omega, (g2.2 15 (by decide) (by decide) (by decide) (by decide) (by decide)).trans a4⟩
  · rcases h with ⟨_, h, _⟩ | ⟨_, ⟨_, h, _⟩ | ⟨_, S1, a3, _, _, b1, b2, h⟩⟩
    · exact absurd h hr
    · exact absurd h hr
    · obtain ⟨g1, g2⟩ := zEnd_md a3 h hr
      exact ⟨_, n, g1, hn, ((g2.2 15 (by decide) (by decide) (by decide) (by decide) (by decide)).trans (b2 15 (by decide))).trans hS⟩
  · rcases h with ⟨_, h, _⟩ | ⟨_, S1, a3, _, b1, b2, j, r2, S2, hs, h⟩
    · exact absurd h hr
    · rcases h with ⟨_, h, _⟩ | ⟨h0, h⟩
      · exact absurd h hr
      · obtain ⟨i2, hM2⟩ := zSum_md j (zsm0 S1) (i + 1) (zMd_of a3 rfl rfl (fun f hf => by rcases hf with rfl | rfl | rfl | rfl | rfl <;> rfl)) hs h0
        obtain ⟨g1, g2⟩ := zEnd_md hM2 h hr
        refine ⟨_, n, g1, hn, ?_⟩
        rw [g2.2 15 (by decide) (by decide) (by decide) (by decide) (by decide), (zSum_fm j _ hs).2 15 (by decide)]
        exact (b2 15 (by decide)).trans hS
/-- all lines -/
def zTxR (T : Nat → Int32) (m : Nat) : Nat → (Nat → Nat → Int32) → Nat → Int32 → (Nat → Nat → Int32) → Prop
  | 0, _, _, _, _ => False
  | j + 1, S, a, r, S' => ((S 0 8).toInt = 0 ∧ r = Int32.ofInt (a : Int) ∧ S' = S) ∨ ((S 0 8).toInt ≠ 0 ∧ ∃ i n r1 S1, zMd T m i S ∧ n ≤ 9 ∧ S 0 15 = Int32.ofInt ((n : Nat) : Int) ∧ zLnR T m i n S S1 r1 ∧ ((r1.toInt = 0 ∧ r = Int32.ofInt (-1) ∧ S' = S1) ∨ (r1.toInt ≠ 0 ∧ zTxR T m j S1 (a + 1) r S')))
theorem zy_s2 {n pc : Nat} {L : zL} {st : List Value} {c s : Nat} {Q : ZP} {p0 q a : Nat} {v : Int} {x y : Value} {hp2 : List zhE} {P : ZP} (h : zatp k pc = some (p0, .invokestatic q, a, 2, v)) (hk : zkind (.invokestatic q) a 2 v = 2) (hP : zPn Lx xs n a (0, lv_args 0 [x, y], [], hp2, 0, 0) P) (hn : ∀ rv hp', P rv hp' → zPn Lx xs n k (pc + 3, L, rv.toList ++ st, hp', c + (zrm a).cells, s + (zrm a).slots) Q) : zPn Lx xs n k (pc, L, y :: x :: st, hp2, c, s) Q := zp_stat (vs := [x, y]) h hk rfl hP hn
theorem zt_copies (he : zeI e hp zDM.length) {q N : Nat} (hD : zDM[q]? = some (.inr (0, N))) (y : Int32) : ∀ (n : Nat) (S : Nat → Nat → Int32) (u : Int32) (c s : Nat), zPn Lx xs n 174 (2, [(2, .int u), (0, .ref (e q)), (1, .int y)], [], zHS e zDM S hp, c, s) (fun rv hp1 => rv = none ∧ ∃ S', hp1 = zHS e zDM S' hp ∧ ∀ p, p ≠ q → S' p = S p) := by
  intro n
  induction n using Nat.strongRecOn with
  | _ n ih =>
  intro S u c s
  iterate 2 refine zp0 (by rfl) rfl rfl ?_
  refine zy_icmp (by rfl) (by rfl) (fun h1 => ?_) (fun h1 => ?_)
  · refine zp_retV (by rfl) ?_
    exact ⟨rfl, S, rfl, fun _ _ => rfl⟩
  · iterate 6 refine zp0 (by rfl) rfl rfl ?_
    refine zy_ald he (by rfl) hD (fun u2 w2 => ?_)
    refine zy_ast he (by rfl) hD (fun u3 w3 => ?_)
    refine zp0 (by rfl) rfl rfl ?_
    refine zp0l (by rfl) rfl rfl (fun m1 hm1 => ?_)
    refine (ih m1 hm1 _ _ _ _).post ?_
    intro rv hp1 hq
    obtain ⟨q1, S', q2, q3⟩ := hq
    exact ⟨q1, S', q2, fun p hp => by rw [q3 p hp, zuS_ne hp]⟩
theorem zt_copy (he : zeI e hp zDM.length) {q N : Nat} (hD : zDM[q]? = some (.inr (0, N))) (hq : 3 ≤ q) (y : Int32) {n : Nat} {S S0 : Nat → Nat → Int32} (hx : zFx S0 S) : zPn Lx xs n 174 (0, lv_args 0 [.ref (e q), .int y], [], zHS e zDM S hp, 0, 0) (fun rv hp1 => rv = none ∧ ∃ S', hp1 = zHS e zDM S' hp ∧ zFx S0 S') := by
  iterate 2 refine zp0 (by rfl) rfl rfl ?_
  refine (zt_copies he hD y n S _ _ _).post ?_
  intro rv hp1 hh
  obtain ⟨q1, S', q2, q3⟩ := hh
  exact ⟨q1, S', q2, zFx_tr hx ⟨q3 1 (by omega), q3 2 (by omega), by rw [q3 0 (by omega)]⟩⟩
theorem zt_keep (he : zeI e hp zDM.length) {S : Nat → Nat → Int32} : zPn Lx xs k 175 (0, lv_args 0 [.ref (e 0)], [], zHS e zDM S hp, 0, 0) (fun rv hp1 => rv = none ∧ ∃ S', hp1 = zHS e zDM S' hp ∧ zFx S S') := by
  have hx0 : zFx S (zuS (zuS (zuS S 0 12 (S 0 15)) 0 13 (S 0 16)) 0 14 (S 0 17)) := ⟨rfl, rfl, rfl⟩
  iterate 2 refine zp0 (by rfl) rfl rfl ?_
  refine zy_get (b := 15) he (by rfl) (by rfl) (by rfl) (by rfl) ?_
  refine zy_put (b := 12) he (by rfl) (by rfl) (by rfl) ?_
  iterate 2 refine zp0 (by rfl) rfl rfl ?_
  refine zy_get (b := 16) he (by rfl) (by rfl) (by rfl) (by rfl) ?_
  refine zy_put (b := 13) he (by rfl) (by rfl) (by rfl) ?_
  iterate 2 refine zp0 (by rfl) rfl rfl ?_
  refine zy_get (b := 17) he (by rfl) (by rfl) (by rfl) (by rfl) ?_
  refine zy_put (b := 14) he (by rfl) (by rfl) (by rfl) ?_
  refine zp0 (by rfl) rfl rfl ?_
  refine zy_ref (r := 3) he (by rfl) (by rfl) (by rfl) (by rfl) ?_
  refine zq_bip (by rfl) (by decide) ?_
  refine zy_s2 (by rfl) (by rfl) (zt_copy he (q := 3) rfl (by decide) _ hx0) ?_
  intro rv hp1 hq
  obtain ⟨q1, S1, q2, hx1⟩ := hq
  rw [q1, q2]
  refine zp0 (by rfl) rfl rfl ?_
  refine zy_ref (r := 4) he (by rfl) (by rfl) (by rfl) (by rfl) ?_
  refine zq_bip (by rfl) (by decide) ?_
  refine zy_s2 (by rfl) (by rfl) (zt_copy he (q := 4) rfl (by decide) _ hx1) ?_
  intro rv hp1 hq
  obtain ⟨q1, S2, q2, hx2⟩ := hq
  rw [q1, q2]
  refine zp0 (by rfl) rfl rfl ?_
  refine zy_ref (r := 5) he (by rfl) (by rfl) (by rfl) (by rfl) ?_
  refine zq_bip (by rfl) (by decide) ?_
  refine zy_s2 (by rfl) (by rfl) (zt_copy he (q := 5) rfl (by decide) _ hx2) ?_
  intro rv hp1 hq
  obtain ⟨q1, S3, q2, hx3⟩ := hq
  rw [q1, q2]
  refine zp0 (by rfl) rfl rfl ?_
  refine zy_ref (r := 6) he (by rfl) (by rfl) (by rfl) (by rfl) ?_
  refine zq_bip (by rfl) (by decide) ?_
  refine zy_s2 (by rfl) (by rfl) (zt_copy he (q := 6) rfl (by decide) _ hx3) ?_
  intro rv hp1 hq
  obtain ⟨q1, S4, q2, hx4⟩ := hq
  rw [q1, q2]
  refine zp0 (by rfl) rfl rfl ?_
  refine zy_ref (r := 7) he (by rfl) (by rfl) (by rfl) (by rfl) ?_
  refine zq_bip (by rfl) (by decide) ?_
  refine zy_s2 (by rfl) (by rfl) (zt_copy he (q := 7) rfl (by decide) _ hx4) ?_
  intro rv hp1 hq
  obtain ⟨q1, S5, q2, hx5⟩ := hq
  rw [q1, q2]
  refine zp0 (by rfl) rfl rfl ?_
  refine zy_ref (r := 8) he (by rfl) (by rfl) (by rfl) (by rfl) ?_
  refine zq_bip (by rfl) (by decide) ?_
  refine zy_s2 (by rfl) (by rfl) (zt_copy he (q := 8) rfl (by decide) _ hx5) ?_
  intro rv hp1 hq
  obtain ⟨q1, S6, q2, hx6⟩ := hq
  rw [q1, q2]
  refine zp0 (by rfl) rfl rfl ?_
  refine zy_ref (r := 9) he (by rfl) (by rfl) (by rfl) (by rfl) ?_
  refine zq_bip (by rfl) (by decide) ?_
  refine zy_s2 (by rfl) (by rfl) (zt_copy he (q := 9) rfl (by decide) _ hx6) ?_
  intro rv hp1 hq
  obtain ⟨q1, S7, q2, hx7⟩ := hq
  rw [q1, q2]
  refine zp0 (by rfl) rfl rfl ?_
  refine zy_ref (r := 10) he (by rfl) (by rfl) (by rfl) (by rfl) ?_
  refine zq_bip (by rfl) (by decide) ?_
  refine zy_s2 (by rfl) (by rfl) (zt_copy he (q := 10) rfl (by decide) _ hx7) ?_
  intro rv hp1 hq
  obtain ⟨q1, S8, q2, hx8⟩ := hq
  rw [q1, q2]
  refine zp0 (by rfl) rfl rfl ?_
  refine zy_ref (r := 11) he (by rfl) (by rfl) (by rfl) (by rfl) ?_
  refine zq_bip (by rfl) (by decide) ?_
  refine zy_s2 (by rfl) (by rfl) (zt_copy he (q := 11) rfl (by decide) _ hx8) ?_
  intro rv hp1 hq
  obtain ⟨q1, S9, q2, hx9⟩ := hq
  rw [q1, q2]
  refine zp0 (by rfl) rfl rfl ?_
  refine zy_ref (r := 12) he (by rfl) (by rfl) (by rfl) (by rfl) ?_
  refine zq_bip (by rfl) (by decide) ?_
  refine zy_s2 (by rfl) (by rfl) (zt_copy he (q := 12) rfl (by decide) _ hx9) ?_
  intro rv hp1 hq
  obtain ⟨q1, S10, q2, hx10⟩ := hq
  rw [q1, q2]
  refine zp0 (by rfl) rfl rfl ?_
  refine zy_ref (r := 13) he (by rfl) (by rfl) (by rfl) (by rfl) ?_
  refine zq_bip (by rfl) (by decide) ?_
  refine zy_s2 (by rfl) (by rfl) (zt_copy he (q := 13) rfl (by decide) _ hx10) ?_
  intro rv hp1 hq
  obtain ⟨q1, S11, q2, hx11⟩ := hq
  rw [q1, q2]
  refine zp0 (by rfl) rfl rfl ?_
  refine zy_ref (r := 14) he (by rfl) (by rfl) (by rfl) (by rfl) ?_
  refine zq_bip (by rfl) (by decide) ?_
  refine zy_s2 (by rfl) (by rfl) (zt_copy he (q := 14) rfl (by decide) _ hx11) ?_
  intro rv hp1 hq
  obtain ⟨q1, S12, q2, hx12⟩ := hq
  rw [q1, q2]
  refine zp0 (by rfl) rfl rfl ?_
  refine zy_ref (r := 15) he (by rfl) (by rfl) (by rfl) (by rfl) ?_
  refine zq_bip (by rfl) (by decide) ?_
  refine zy_s2 (by rfl) (by rfl) (zt_copy he (q := 15) rfl (by decide) _ hx12) ?_
  intro rv hp1 hq
  obtain ⟨q1, S13, q2, hx13⟩ := hq
  rw [q1, q2]
  iterate 3 refine zp0 (by rfl) rfl rfl ?_
  refine zy_get (b := 12) he (by rfl) (by rfl) (by rfl) (by rfl) ?_
  iterate 3 refine zp0 (by rfl) rfl rfl ?_
  refine zy_put (b := 41) he (by rfl) (by rfl) (by rfl) ?_
  iterate 2 refine zp0 (by rfl) rfl rfl ?_
  refine zy_put (b := 67) he (by rfl) (by rfl) (by rfl) ?_
  iterate 2 refine zp0 (by rfl) rfl rfl ?_
  refine zy_put (b := 69) he (by rfl) (by rfl) (by rfl) ?_
  refine zp_retV (by rfl) ?_
  exact ⟨rfl, _, rfl, zFx_tr hx13 ⟨rfl, rfl, rfl⟩⟩
theorem zt_plain (he : zeI e hp zDM.length) {S : Nat → Nat → Int32} : zPn Lx xs k 173 (0, lv_args 0 [.ref (e 0)], [], zHS e zDM S hp, 0, 0) (fun rv hp1 => rv = none ∧ hp1 = zHS e zDM (zuS (zuS (zuS (zuS (zuS S 0 15 (Int32.ofInt 0)) 0 16 (Int32.ofInt 20)) 0 17 (Int32.ofInt 0)) 0 18 (Int32.ofInt 0)) 0 19 (Int32.ofInt 0)) hp) := by
  iterate 2 refine zp0 (by rfl) rfl rfl ?_
  refine zy_put (b := 15) he (by rfl) (by rfl) (by rfl) ?_
  refine zp0 (by rfl) rfl rfl ?_
  refine zq_bip (by rfl) (by decide) ?_
  refine zy_put (b := 16) he (by rfl) (by rfl) (by rfl) ?_
  iterate 2 refine zp0 (by rfl) rfl rfl ?_
  refine zy_put (b := 17) he (by rfl) (by rfl) (by rfl) ?_
  iterate 2 refine zp0 (by rfl) rfl rfl ?_
  refine zy_put (b := 18) he (by rfl) (by rfl) (by rfl) ?_
  iterate 2 refine zp0 (by rfl) rfl rfl ?_
  refine zy_put (b := 19) he (by rfl) (by rfl) (by rfl) ?_
  refine zp_retV (by rfl) ?_
  exact ⟨rfl, rfl⟩
theorem zt_txtA (he : zeI e hp zDM.length) (x1 : Int32) : ∀ (n : Nat) (S : Nat → Nat → Int32) (i N a c s : Nat), zMd T m i S → N ≤ 9 → S 0 15 = Int32.ofInt (N : Int) → zPn Lx xs n 182 (55, [(2, .int (Int32.ofInt (a : Int))), (0, .ref (e 0)), (1, .int x1)], [], zHS e zDM S hp, c, s) (fun rv hp1 => ∃ r S', rv = some (.int r) ∧ hp1 = zHS e zDM S' hp ∧ zFx S S' ∧ ∃ j S2, zTxR T m j S a r S2) := by
  intro n
  induction n using Nat.strongRecOn with
  | _ n ih =>
  intro S i N a c s hM hN hS
  refine zp0 (by rfl) rfl rfl ?_
  refine zy_get (b := 8) he (by rfl) (by rfl) (by rfl) (by rfl) ?_
  refine zy_if (by rfl) (by rfl) (fun h1 => ?_) (fun h1 => ?_)
  · refine zp0 (by rfl) rfl rfl ?_
    refine zy_v0 (by rfl) (zt_keep he) ?_
    intro rv hp1 hq
    obtain ⟨q1, S9, q2, hx⟩ := hq
    rw [q1, q2]
    refine zp0 (by rfl) rfl rfl ?_
    refine zp_retI (by rfl) ?_
    exact ⟨_, _, rfl, rfl, hx, 1, S, Or.inl ⟨h1, rfl, rfl⟩⟩
  · refine zp0 (by rfl) rfl rfl ?_
    refine zy_v0 (by rfl) (zt_line he hN hM hS (by have := zMd_k hM; simp only [zcf] at h1; omega)) ?_
    intro rv hp1 hq
    obtain ⟨r1, S1, q1, q2, hL⟩ := hq
    rw [q1, q2]
    refine zy_if (by rfl) (by rfl) (fun h2 => ?_) (fun h2 => ?_)
    · refine zp0 (by rfl) rfl rfl ?_
      obtain ⟨i2, N2, g1, g2, g3⟩ := zLn_nx hM hS hN hL h2
      refine zp0l (by rfl) rfl rfl (fun m1 hm1 => ?_)
      show zPn Lx xs m1 182 (55, [(2, .int (Int32.ofInt (a : Int) + Int32.ofInt 1)), (0, .ref (e 0)), (1, .int x1)], [], zHS e zDM S1 hp, _, _) _
      rw [zof_up]
      refine (ih m1 hm1 S1 i2 N2 (a + 1) _ _ g1 g2 g3).post ?_
      intro rv hp1 hq
      obtain ⟨r, S', v1, v2, v3, j, S2, v4⟩ := hq
      exact ⟨r, S', v1, v2, zFx_tr (zLn_x hL) v3, j + 1, S2, Or.inr ⟨h1, i, N, r1, S1, hM, hN, hS, hL, Or.inr ⟨h2, v4⟩⟩⟩
    · refine zp0 (by rfl) rfl rfl ?_
      refine zp_retI (by rfl) ?_
      exact ⟨_, _, rfl, rfl, zLn_x hL, 1, S1, Or.inr ⟨h1, i, N, r1, S1, hM, hN, hS, hL, Or.inl ⟨Classical.not_not.mp h2, rfl, rfl⟩⟩⟩
/-- a text told to the model -/
def zTxtR (nn : Int32) (S S' : Nat → Nat → Int32) (r : Int32) : Prop :=
  ((nn.toInt < 0 ∨ (S 0 1).toInt < nn.toInt) ∧ r = Int32.ofInt (-2) ∧ zFx S S') ∨
  (0 ≤ nn.toInt ∧ nn.toInt ≤ (S 0 1).toInt ∧ S' 1 = S 1 ∧ S' 2 = S 2 ∧ S' 0 1 = Int32.ofInt 0 ∧ ∃ S1 j S2, zMd (S 1) nn.toNatClampNeg 0 S1 ∧ S1 0 15 = Int32.ofInt 0 ∧ S1 0 16 = Int32.ofInt 20 ∧ S1 0 18 = Int32.ofInt 0 ∧ S1 0 19 = Int32.ofInt 0 ∧ S1 0 4 = Int32.ofInt 0 ∧ S1 0 5 = Int32.ofInt (-1) ∧ zTxR (S 1) nn.toNatClampNeg j S1 0 r S2)
theorem zt_text (he : zeI e hp zDM.length) {S : Nat → Nat → Int32} (nn : Int32) (h6 : (S 0 1).toInt ≤ 600) (hs : zspell (S 2) 0 zWds) : zPn Lx xs k 182 (0, lv_args 0 [.ref (e 0), .int nn], [], zHS e zDM S hp, 0, 0) (fun rv hp1 => ∃ r S', rv = some (.int r) ∧ hp1 = zHS e zDM S' hp ∧ zTxtR nn S S' r) := by
  iterate 2 refine zp0 (by rfl) rfl rfl ?_
  refine zy_put (b := 2) he (by rfl) (by rfl) (by rfl) ?_
  refine zp0 (by rfl) rfl rfl ?_
  refine zy_if (by rfl) (by rfl) (fun h1 => ?_) (fun h1 => ?_)
  · refine zq_bip (by rfl) (by decide) ?_
    refine zp_retI (by rfl) ?_
    simp +decide only [↓reduceIte, zcf, zuS, va_up] at h1
    exact ⟨_, _, rfl, rfl, Or.inl ⟨by omega, rfl, ⟨rfl, rfl, rfl⟩⟩⟩
  · iterate 2 refine zp0 (by rfl) rfl rfl ?_
    refine zy_get (b := 1) he (by rfl) (by rfl) (by rfl) (by rfl) ?_
    refine zy_icmp (by rfl) (by rfl) (fun h2 => ?_) (fun h2 => ?_)
    · iterate 2 refine zp0 (by rfl) rfl rfl ?_
      refine zy_put (b := 6) he (by rfl) (by rfl) (by rfl) ?_
      iterate 2 refine zp0 (by rfl) rfl rfl ?_
      refine zy_put (b := 1) he (by rfl) (by rfl) (by rfl) ?_
      iterate 2 refine zp0 (by rfl) rfl rfl ?_
      refine zy_put (b := 4) he (by rfl) (by rfl) (by rfl) ?_
      iterate 2 refine zp0 (by rfl) rfl rfl ?_
      refine zy_put (b := 5) he (by rfl) (by rfl) (by rfl) ?_
      iterate 2 refine zp0 (by rfl) rfl rfl ?_
      refine zy_put (b := 7) he (by rfl) (by rfl) (by rfl) ?_
      refine zp0 (by rfl) rfl rfl ?_
      refine zy_v0n (by rfl) (zt_plain he) ?_
      refine zp0 (by rfl) rfl rfl ?_
      simp +decide only [↓reduceIte, zcf, zuS, va_up] at h1 h2
      have hcl : nn.toNatClampNeg = nn.toInt.toNat := zb_cl
      have hnn : nn = Int32.ofInt ((nn.toNatClampNeg : Nat) : Int) := by
        rw [hcl, Int.toNat_of_nonneg (by omega), Int32.ofInt_toInt]
      refine zy_v0 (by rfl) (zt_token he k (zuS (zuS (zuS (zuS (zuS (zuS (zuS (zuS (zuS (zuS (zuS S 0 2 (Int32.ofInt 0)) 0 6 nn) 0 1 (Int32.ofInt 0)) 0 4 (Int32.ofInt 0)) 0 5 (Int32.ofInt (-1))) 0 7 (Int32.ofInt 0)) 0 15 (Int32.ofInt 0)) 0 16 (Int32.ofInt 20)) 0 17 (Int32.ofInt 0)) 0 18 (Int32.ofInt 0)) 0 19 (Int32.ofInt 0)) 0 ⟨hnn, rfl, Nat.zero_le _, by omega⟩ hs) ?_
      intro rv hp1 hq
      obtain ⟨q1, Sz, q2, hT⟩ := hq
      rw [q1, q2]
      iterate 2 refine zp0 (by rfl) rfl rfl ?_
      obtain ⟨i1, i2, i3⟩ := hT
      have hM : zMd (S 1) nn.toNatClampNeg 0 Sz := zMd_tok (b := zend (fun q => zcb1 (S 1 q)) nn.toNatClampNeg 0) (S := (zuS (zuS (zuS (zuS (zuS (zuS (zuS (zuS (zuS (zuS (zuS S 0 2 (Int32.ofInt 0)) 0 6 nn) 0 1 (Int32.ofInt 0)) 0 4 (Int32.ofInt 0)) 0 5 (Int32.ofInt (-1))) 0 7 (Int32.ofInt 0)) 0 15 (Int32.ofInt 0)) 0 16 (Int32.ofInt 20)) 0 17 (Int32.ofInt 0)) 0 18 (Int32.ofInt 0)) 0 19 (Int32.ofInt 0))) rfl hs hnn (by omega) (zpl_le (T := S 1) 0) ⟨i1, i2, i3⟩
      refine (zt_txtA (T := S 1) (m := nn.toNatClampNeg) he _ k Sz 0 0 0 _ _ hM (by decide) ((i2 15 (by decide) (by decide) (by decide) (by decide)).trans rfl)).post ?_
      intro rv hp1 hq
      obtain ⟨r, S', v1, v2, v3, j, S2, v4⟩ := hq
      refine ⟨r, S', v1, v2, Or.inr ⟨by omega, by omega, ?_, ?_, ?_, Sz, j, S2, hM, ?_, ?_, ?_, ?_, ?_, ?_, v4⟩⟩
      · rw [v3.1, i1 1 (by decide)]
        rfl
      · rw [v3.2.1, i1 2 (by decide)]
        rfl
      · rw [v3.2.2, i2 1 (by decide) (by decide) (by decide) (by decide)]
        rfl
      · rw [i2 15 (by decide) (by decide) (by decide) (by decide)]
        rfl
      · rw [i2 16 (by decide) (by decide) (by decide) (by decide)]
        rfl
      · rw [i2 18 (by decide) (by decide) (by decide) (by decide)]
        rfl
      · rw [i2 19 (by decide) (by decide) (by decide) (by decide)]
        rfl
      · rw [i2 4 (by decide) (by decide) (by decide) (by decide)]
        rfl
      · rw [i2 5 (by decide) (by decide) (by decide) (by decide)]
        rfl
    · refine zq_bip (by rfl) (by decide) ?_
      refine zp_retI (by rfl) ?_
      simp +decide only [↓reduceIte, zcf, zuS, va_up] at h1 h2
      exact ⟨_, _, rfl, rfl, Or.inl ⟨by omega, rfl, ⟨rfl, rfl, rfl⟩⟩⟩
end ZTKJ
