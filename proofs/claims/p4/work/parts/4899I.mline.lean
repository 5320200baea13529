/-! the model's lines and its text -/
/-- what E leaves as it was -/
def zFmE (S S' : Nat → Nat → Int32) : Prop := (∀ q, 1 ≤ q → q ≤ 12 → S' q = S q) ∧ ∀ f, f = 1 ∨ f = 15 ∨ f = 16 ∨ f = 18 ∨ f = 19 → S' 0 f = S 0 f
theorem zFmE_rfl {S : Nat → Nat → Int32} : zFmE S S := ⟨fun _ _ _ => rfl, fun _ _ => rfl⟩
theorem zFmE_tr {S S1 S2 : Nat → Nat → Int32} (h : zFmE S S1) (g : zFmE S1 S2) : zFmE S S2 := ⟨fun q h1 h2 => (g.1 q h1 h2).trans (h.1 q h1 h2), fun f hf => (g.2 f hf).trans (h.2 f hf)⟩
theorem zFmE_u {S S1 : Nat → Nat → Int32} {i b : Nat} {x : Int32} (h : zFmE S S1) (hi : 13 ≤ i ∨ (i = 0 ∧ b ≠ 1 ∧ b ≠ 15 ∧ b ≠ 16 ∧ b ≠ 18 ∧ b ≠ 19)) : zFmE S (zuS S1 i b x) :=
  ⟨fun q h1 h2 => by rw [zuS_ne (by omega), h.1 q h1 h2], fun f hf => by rw [zuS_off (by omega), h.2 f hf]⟩
theorem zFmE_b {S S1 : Nat → Nat → Int32} (h : zBk S S1) : zFmE S S1 := ⟨fun q h1 h2 => h.1 q (by omega) (by omega) (by omega) (by omega) (by omega), fun f hf => h.2 f (by omega) (by omega) (by omega)⟩
theorem zFmE_w {S S1 : Nat → Nat → Int32} {x : Int32} (h : zFmE S S1) : zFmE S (zwt S1 x) := zFmE_u (zFmE_u h (Or.inl (by decide))) (Or.inr (by decide))
theorem zFmE_c {S S1 : Nat → Nat → Int32} (h : zFmE S S1) : zFmE S (zcntd S1) := zFmE_u h (Or.inr (by decide))
theorem zFmE_wr {S S1 : Nat → Nat → Int32} {x : Int32} (h : zFmE S S1) : zFmE S (zwrong S1 x) := zFmE_u (zFmE_u h (Or.inr (by decide))) (Or.inr (by decide))
theorem zFmE_g {S S1 : Nat → Nat → Int32} {x y z : Int32} (h : zFmE S S1) : zFmE S (zgrown S1 x y z) := zFmE_tr h (zFmE_b zgrown_k)
theorem zFmE_t {S S1 : Nat → Nat → Int32} {m b : Nat} (h : zTok2 S S1 m b) : zFmE S S1 := ⟨fun q h1 _ => h.1 q (by omega), fun f hf => h.2.1 f (by omega) (by omega) (by omega) (by omega)⟩
theorem zlfO_fm {S : Nat → Nat → Int32} : zFmE S (zlfO S).2 := by
  have r := zFmE_rfl (S := S)
  unfold zlfO
  (repeat' split) <;> first | exact r | exact zFmE_u (zFmE_w (zFmE_u r (Or.inr (by decide)))) (Or.inr (by decide)) | exact zFmE_w (zFmE_c r) | exact zFmE_u (zFmE_g (zFmE_c r)) (Or.inr (by decide))
theorem zsnO_fm {S : Nat → Nat → Int32} {d : Nat} : zFmE S (zsnO d S).2 := by
  have r := zFmE_rfl (S := S)
  have b := fun l => zFmE_b (zbindA_k (l := l) d S)
  unfold zsnO zsnE zsnC
  (repeat' split) <;> first | exact r | exact b _ | exact zFmE_u (zFmE_u (b _) (Or.inr (by decide))) (Or.inr (by decide)) | exact zFmE_u (zFmE_u (zFmE_w (zFmE_c (b _))) (Or.inr (by decide))) (Or.inr (by decide))
theorem zstO_fm {S : Nat → Nat → Int32} : zFmE S (zstO S).2 := by
  unfold zstO
  split
  · exact zlfO_fm
  · exact zsnO_fm
theorem zSum_fm {m : Nat} {S' : Nat → Nat → Int32} {r : Int32} : ∀ (k : Nat) (S : Nat → Nat → Int32), zSum m k S S' r → zFmE S S'
  | 0, _, h => h.elim
  | k + 1, S, h => by
    rcases h with ⟨_, _, h⟩ | ⟨_, r1, S1, h1, h2⟩
    · rw [h]
      exact zFmE_b (zbindA_k _ _)
    · have h3 : zFmE S S1 := by
        refine zFmE_tr zstO_fm ?_
        unfold zOut at h1
        split at h1
        · rw [h1.2]
          exact zFmE_wr zFmE_rfl
        · exact zFmE_t h1.2
      rcases h2 with ⟨_, _, h2⟩ | ⟨_, h2⟩
      · rw [h2]
        exact h3
      · exact zFmE_tr h3 (zSum_fm k S1 h2)
theorem zSum_pos {m : Nat} {S' : Nat → Nat → Int32} {r : Int32} : ∀ (k : Nat) (S : Nat → Nat → Int32) (a : Nat), zPos m a S → zSum m k S S' r → r.toInt ≠ 0 → ∃ a', zPos m a' S'
  | 0, _, _, _, h, _ => h.elim
  | k + 1, S, a, hS, h, hr => by
    rcases h with ⟨_, _, h⟩ | ⟨_, r1, S1, h1, h2⟩
    · obtain ⟨k1, k2, k3, k4, k5, k6⟩ := zbindA_keep (l := 1) (S 0 35).toNatClampNeg S
      rw [h]
      exact ⟨a, k3.trans hS.1, k4.trans hS.2.1, hS.2.2⟩
    · rcases h2 with ⟨_, h2, _⟩ | ⟨h2, h3⟩
      · exact absurd (by rw [h2]; decide) hr
      · obtain ⟨a', p1, p2, p3⟩ := zstO_pos hS (by rw [(zPos_x hS).2.2] at h1; exact h1) h2
        exact zSum_pos k S1 a' p1 h3 hr
/-- fault and place are as they were where E is read -/
def zF45 (S S' : Nat → Nat → Int32) : Prop := S' 0 4 = S 0 4 ∧ S' 0 5 = S 0 5
theorem zF45_u {S S1 : Nat → Nat → Int32} {i b : Nat} {x : Int32} (h : zF45 S S1) (hi : i ≠ 0 ∨ (b ≠ 4 ∧ b ≠ 5)) : zF45 S (zuS S1 i b x) := ⟨by rw [zuS_off (by omega), h.1], by rw [zuS_off (by omega), h.2]⟩
theorem zF45_b {S S1 : Nat → Nat → Int32} (h : zBk S S1) : zF45 S S1 := ⟨h.2 4 (by decide) (by decide) (by decide), h.2 5 (by decide) (by decide) (by decide)⟩
theorem zF45_tr {S S1 S2 : Nat → Nat → Int32} (h : zF45 S S1) (g : zF45 S1 S2) : zF45 S S2 := ⟨g.1.trans h.1, g.2.trans h.2⟩
theorem zF45_w {S S1 : Nat → Nat → Int32} {x : Int32} (h : zF45 S S1) : zF45 S (zwt S1 x) := zF45_u (zF45_u h (Or.inl (by decide))) (Or.inr (by decide))
theorem zF45_c {S S1 : Nat → Nat → Int32} (h : zF45 S S1) : zF45 S (zcntd S1) := zF45_u h (Or.inr (by decide))
theorem zF45_g {S S1 : Nat → Nat → Int32} {x y z : Int32} (h : zF45 S S1) : zF45 S (zgrown S1 x y z) := zF45_tr h (zF45_b zgrown_k)
theorem zlfO_45 {S : Nat → Nat → Int32} : zF45 S (zlfO S).2 := by
  have r : zF45 S S := ⟨rfl, rfl⟩
  unfold zlfO
  (repeat' split) <;> first | exact r | exact zF45_u (zF45_w (zF45_u r (Or.inr (by decide)))) (Or.inr (by decide)) | exact zF45_w (zF45_c r) | exact zF45_u (zF45_g (zF45_c r)) (Or.inr (by decide))
theorem zsnO_45 {S : Nat → Nat → Int32} {d : Nat} : zF45 S (zsnO d S).2 := by
  have r : zF45 S S := ⟨rfl, rfl⟩
  have b := fun l => zF45_b (zbindA_k (l := l) d S)
  unfold zsnO zsnE zsnC
  (repeat' split) <;> first | exact r | exact b _ | exact zF45_u (zF45_u (b _) (Or.inr (by decide))) (Or.inr (by decide)) | exact zF45_u (zF45_u (zF45_w (zF45_c (b _))) (Or.inr (by decide))) (Or.inr (by decide))
theorem zSum_45 {m : Nat} {S' : Nat → Nat → Int32} {r : Int32} : ∀ (k : Nat) (S : Nat → Nat → Int32), zSum m k S S' r → r.toInt ≠ 0 → zF45 S S'
  | 0, _, h, _ => h.elim
  | k + 1, S, h, hr => by
    rcases h with ⟨_, _, h⟩ | ⟨_, r1, S1, h1, h2⟩
    · rw [h]
      exact zF45_b (zbindA_k _ _)
    · rcases h2 with ⟨_, h2, _⟩ | ⟨h0, h2⟩
      · exact absurd (by rw [h2]; decide) hr
      · have h3 : zF45 S S1 := by
          have hs : zF45 S (zstO S).2 := by
            unfold zstO
            split
            · exact zlfO_45
            · exact zsnO_45
          refine zF45_tr hs ?_
          unfold zOut at h1
          split at h1
          · exact absurd (by rw [h1.1]; decide) h0
          · exact ⟨h1.2.2.1 4 (by decide) (by decide) (by decide) (by decide), h1.2.2.1 5 (by decide) (by decide) (by decide) (by decide)⟩
        exact zF45_tr h3 (zSum_45 k S1 h2 hr)
/-- a line's end -/
def zEndR (S S' : Nat → Nat → Int32) (r : Int32) (m : Nat) : Prop := (¬ zsg S 59 ∧ r = 0 ∧ S' = zwrong S (Int32.ofInt 1)) ∨ (zsg S 59 ∧ r = Int32.ofInt 1 ∧ zTok2 S S' m (zend (fun q => zcb1 (S 1 q)) m (S 0 7).toNatClampNeg))
def zLnR (T : Nat → Int32) (m i n : Nat) (S S' : Nat → Nat → Int32) (r : Int32) : Prop :=
  (¬ (zmk T m i = 1 ∧ (zmw T m i).toInt ≤ 2) ∧ r.toInt = 0 ∧ S' = zwrong S (Int32.ofInt 1)) ∨
  (zmk T m i = 1 ∧ (zmw T m i).toInt = 1 ∧ ∃ r1 S1, zThR T m n i S S1 r1 ∧ ((r1.toInt = 0 ∧ r.toInt = 0 ∧ S' = S1) ∨ (r1.toInt ≠ 0 ∧ zEndR S1 S' r m))) ∨
  (zmk T m i = 1 ∧ (zmw T m i).toInt = 0 ∧ (((S 0 18).toInt ≠ 0 ∧ r.toInt = 0 ∧ S' = zwrong S (Int32.ofInt 3)) ∨ ((S 0 18).toInt = 0 ∧ ((zsNum T m (i + 1) 1 40 ≠ 0 ∧ r.toInt = 0 ∧ S' 0 4 = Int32.ofInt (zsNum T m (i + 1) 1 40) ∧ S' 0 5 = Int32.ofInt (zpl T m (i + 1) : Nat) ∧ zFx S S') ∨ (zsNum T m (i + 1) 1 40 = 0 ∧ ∃ S1, zMd T m (i + 2) S1 ∧ S1 0 16 = zmw T m (i + 1) ∧ S1 0 18 = Int32.ofInt 1 ∧ (∀ q, q ≠ 0 → S1 q = S q) ∧ (∀ f, f = 1 ∨ f = 4 ∨ f = 5 ∨ f = 15 ∨ f = 19 → S1 0 f = S 0 f) ∧ zEndR S1 S' r m))))) ∨
  (zmk T m i = 1 ∧ 2 ≤ (zmw T m i).toInt ∧ (zmw T m i).toInt ≤ 2 ∧ (((S 0 19).toInt ≠ 0 ∧ r.toInt = 0 ∧ S' = zwrong S (Int32.ofInt 3)) ∨ ((S 0 19).toInt = 0 ∧ ∃ S1, zMd T m (i + 1) S1 ∧ S1 0 19 = Int32.ofInt 1 ∧ (∀ q, q ≠ 0 → S1 q = S q) ∧ (∀ f, f = 1 ∨ f = 4 ∨ f = 5 ∨ f = 15 ∨ f = 16 ∨ f = 18 → S1 0 f = S 0 f) ∧ ∃ k r2 S2, zSum m k (zsm0 S1) S2 r2 ∧ ((r2.toInt = 0 ∧ r.toInt = 0 ∧ S' = S2) ∨ (r2.toInt ≠ 0 ∧ zEndR S2 S' r m)))))
section ZTKI
variable {Lx : Nat} {xs : Nat → Int32} {hp : List zhE} {e : Nat → Nat} {m : Nat} {T : Nat → Int32} {S : Nat → Nat → Int32} {k : Nat}
theorem zt_lend (he : zeI e hp zDM.length) {a : Nat} (hS : zPos m a S) (hs : zspell (S 2) 0 zWds) {c s : Nat} : zPn Lx xs k 181 (122, [(0, .ref (e 0))], [], zHS e zDM S hp, c, s) (fun rv hp1 => ∃ r S', rv = some (.int r) ∧ hp1 = zHS e zDM S' hp ∧ zEndR S S' r m) := by
  refine zp0 (by rfl) rfl rfl ?_
  refine zq_bip (by rfl) (by decide) ?_
  refine zy_v1e (by rfl) (zt_isSign he _) ?_
  refine zy_if (by rfl) (by rfl) (fun h1 => ?_) (fun h1 => ?_)
  · refine zp0 (by rfl) rfl rfl ?_
    refine zy_v0 (by rfl) (zt_token he k S a hS hs) ?_
    intro rv hp1 hq
    obtain ⟨q1, S2, q2, q3⟩ := hq
    rw [q1, q2]
    rw [← (zPos_x hS).2.2] at q3
    refine zp0 (by rfl) rfl rfl ?_
    refine zp_retI (by rfl) ?_
    exact ⟨_, _, rfl, rfl, Or.inr ⟨zite2 h1, rfl, q3⟩⟩
  · iterate 2 refine zp0 (by rfl) rfl rfl ?_
    refine zy_v1e (by rfl) (zt_wrong he _) ?_
    refine zp_retI (by rfl) ?_
    exact ⟨_, _, rfl, rfl, Or.inl ⟨zite3 h1, rfl, rfl⟩⟩
theorem zt_line (he : zeI e hp zDM.length) {n i : Nat} (hn : n ≤ 9) (hM : zMd T m i S) (hS : S 0 15 = Int32.ofInt (n : Int)) (hk0 : zmk T m i ≠ 0) : zPn Lx xs k 181 (0, lv_args 0 [.ref (e 0)], [], zHS e zDM S hp, 0, 0) (fun rv hp1 => ∃ r S', rv = some (.int r) ∧ hp1 = zHS e zDM S' hp ∧ zLnR T m i n S S' r) := by
  have hk := zMd_k hM
  have hw := zMd_w hM hk0
  have hk2 : zmk T m i = 1 → 0 ≤ (zmw T m i).toInt := by
    intro q
    have hI := zTRi_at (T := T) (m := m) hM.2.2.1.2.2.2 i
    rcases hI with h | ⟨v, h⟩ | h | h | h | h | h <;> omega
  have k2 : (Int32.ofInt 2).toInt = 2 := by decide
  refine zp0 (by rfl) rfl rfl ?_
  refine zy_get (b := 8) he (by rfl) (by rfl) (by rfl) (by rfl) ?_
  refine zp0 (by rfl) rfl rfl ?_
  refine zy_icmpC (by rfl) (by rfl) ⟨by decide, by decide⟩ (fun h1 => ?_) (fun h1 => ?_)
  · iterate 2 refine zp0 (by rfl) rfl rfl ?_
    refine zy_v1e (by rfl) (zt_wrong he _) ?_
    refine zp_retI (by rfl) ?_
    simp only [zcf, hk, hw, k2] at h1
    exact ⟨_, _, rfl, rfl, Or.inl ⟨by omega, by decide, rfl⟩⟩
  · refine zp0 (by rfl) rfl rfl ?_
    refine zy_get (b := 9) he (by rfl) (by rfl) (by rfl) (by rfl) ?_
    refine zp0 (by rfl) rfl rfl ?_
    refine zy_icmpC (by rfl) (by rfl) ⟨by decide, by decide⟩ (fun h2 => ?_) (fun h2 => ?_)
    · refine zp0 (by rfl) rfl rfl ?_
      refine zy_get (b := 9) he (by rfl) (by rfl) (by rfl) (by rfl) ?_
      refine zp0 (by rfl) rfl rfl ?_
      refine zy_icmpC (by rfl) (by rfl) ⟨by decide, by decide⟩ (fun h3 => ?_) (fun h3 => ?_)
      · refine zp0 (by rfl) rfl rfl ?_
        refine zy_get (b := 9) he (by rfl) (by rfl) (by rfl) (by rfl) ?_
        refine zy_if (by rfl) (by rfl) (fun h4 => ?_) (fun h4 => ?_)
        · refine zp0 (by rfl) rfl rfl ?_
          refine zy_get (b := 19) he (by rfl) (by rfl) (by rfl) (by rfl) ?_
          refine zy_if (by rfl) (by rfl) (fun h5 => ?_) (fun h5 => ?_)
          · iterate 2 refine zp0 (by rfl) rfl rfl ?_
            refine zy_put (b := 19) he (by rfl) (by rfl) (by rfl) ?_
            refine zp0 (by rfl) rfl rfl ?_
            have hMz : zMd T m i (zuS S 0 19 (Int32.ofInt 1)) := zMd_of hM rfl rfl (fun f hf => by rcases hf with rfl | rfl | rfl | rfl | rfl <;> rfl)
            refine zy_v0 (by rfl) (zt_tokM he hMz) ?_
            intro rv hp1 hq
            obtain ⟨q1, S1, q2, hM1, fb⟩ := hq
            rw [q1, q2]
            refine zp0 (by rfl) rfl rfl ?_
            refine zy_v0 (by rfl) (zt_sumRead he _ S1 _ hM1.2.2.1 hM1.2.1) ?_
            intro rv hp1 hq
            obtain ⟨r2, S2, q1, q2, k9, hsum⟩ := hq
            rw [q1, q2]
            refine zy_if (by rfl) (by rfl) (fun h6 => ?_) (fun h6 => ?_)
            · simp only [zcf, hk, hw] at h1 h2 h3 h4
              obtain ⟨a2, hp2⟩ := zSum_pos k9 _ _ (show zPos m (zcE T m (zpl T m (i + 1))).1 (zsm0 S1) from ⟨hM1.2.2.1.1, hM1.2.2.1.2.1, hM1.2.2.1.2.2⟩) hsum h6
              have hs2 : zspell (S2 2) 0 zWds := by
                rw [(zSum_fm k9 _ hsum).1 2 (by decide) (by decide)]
                exact hM1.2.1
              refine (zt_lend he hp2 hs2).post ?_
              intro rv hp1 hq
              obtain ⟨r, S', q1, q2, q3⟩ := hq
              exact ⟨r, S', q1, q2, Or.inr (Or.inr (Or.inr ⟨by omega, by omega, by omega, Or.inr ⟨h5, S1, hM1, by rw [fb.2 19 (by decide) (by decide) (by decide) (by decide) (by decide), zuS_at], fun q hq => by rw [fb.1 q hq, zuS_ne hq], fun f hf => by rw [fb.2 f (by omega) (by omega) (by omega) (by omega) (by omega), zuS_off (Or.inr (by omega))], k9, r2, S2, hsum, Or.inr ⟨h6, q3⟩⟩⟩))⟩
            · refine zp0 (by rfl) rfl rfl ?_
              refine zp_retI (by rfl) ?_
              simp only [zcf, hk, hw] at h1 h2 h3 h4
              exact ⟨_, _, rfl, rfl, Or.inr (Or.inr (Or.inr ⟨by omega, by omega, by omega, Or.inr ⟨Classical.byContradiction (fun q => absurd h5 (fun z => q z)), S1, hM1, by rw [fb.2 19 (by decide) (by decide) (by decide) (by decide) (by decide), zuS_at], fun q hq => by rw [fb.1 q hq, zuS_ne hq], fun f hf => by rw [fb.2 f (by omega) (by omega) (by omega) (by omega) (by omega), zuS_off (Or.inr (by omega))], k9, r2, S2, hsum, Or.inl ⟨Classical.not_not.mp h6, by decide, rfl⟩⟩⟩))⟩
          · iterate 2 refine zp0 (by rfl) rfl rfl ?_
            refine zy_v1e (by rfl) (zt_wrong he _) ?_
            refine zp_retI (by rfl) ?_
            simp only [zcf, hk, hw] at h1 h2 h3 h4
            exact ⟨_, _, rfl, rfl, Or.inr (Or.inr (Or.inr ⟨by omega, by omega, by omega, Or.inl ⟨h5, by decide, rfl⟩⟩))⟩
        · refine zp0 (by rfl) rfl rfl ?_
          refine zy_get (b := 18) he (by rfl) (by rfl) (by rfl) (by rfl) ?_
          refine zy_if (by rfl) (by rfl) (fun h7 => ?_) (fun h7 => ?_)
          · iterate 2 refine zp0 (by rfl) rfl rfl ?_
            refine zy_put (b := 18) he (by rfl) (by rfl) (by rfl) ?_
            refine zp0 (by rfl) rfl rfl ?_
            have hMz : zMd T m i (zuS S 0 18 (Int32.ofInt 1)) := zMd_of hM rfl rfl (fun f hf => by rcases hf with rfl | rfl | rfl | rfl | rfl <;> rfl)
            have h7z : (S 0 18).toInt = 0 := by
              simp only [zcf] at h7
              exact h7
            refine zy_v0 (by rfl) (zt_tokM he hMz) ?_
            intro rv hp1 hq
            obtain ⟨q1, S1, q2, hM1, fb⟩ := hq
            rw [q1, q2]
            iterate 2 refine zp0 (by rfl) rfl rfl ?_
            refine zq_bip (by rfl) (by decide) ?_
            refine zy_v2 (by rfl) (zt_numM he 1 40 ⟨by decide, by decide⟩ ⟨by decide, by decide⟩ hM1) ?_
            intro rv hp1 hq
            obtain ⟨r3, S3, q1, q2, dj⟩ := hq
            rw [q1, q2]
            refine zy_if (by rfl) (by rfl) (fun h8 => ?_) (fun h8 => ?_)
            · iterate 2 refine zp0 (by rfl) rfl rfl ?_
              refine zy_get (b := 11) he (by rfl) (by rfl) (by rfl) (by rfl) ?_
              refine zy_put (b := 16) he (by rfl) (by rfl) (by rfl) ?_
              refine zp0 (by rfl) rfl rfl ?_
              simp only [zcf, hk, hw] at h1 h2 h3 h4
              rcases dj with ⟨d1, d2, d3, d4⟩ | ⟨d1, d2, d3, d4, d5⟩
              · exact absurd d2 h8
              have hM3 : zMd T m (i + 2) (zuS S3 0 16 (S3 0 11)) := zMd_of d3 rfl rfl (fun f hf => by rcases hf with rfl | rfl | rfl | rfl | rfl <;> rfl)
              refine (zt_lend he hM3.2.2.1 hM3.2.1).post ?_
              intro rv hp1 hq
              obtain ⟨r, S', q1, q2, q3⟩ := hq
              exact ⟨r, S', q1, q2, Or.inr (Or.inr (Or.inl ⟨by omega, by omega, Or.inr ⟨h7z, Or.inr ⟨d1, _, hM3, by rw [zuS_at, d4], by rw [zuS_off (Or.inr (by decide)), d5.2 18 (by decide) (by decide) (by decide) (by decide) (by decide), fb.2 18 (by decide) (by decide) (by decide) (by decide) (by decide), zuS_at], fun q hq => by rw [zuS_ne hq, d5.1 q hq, fb.1 q hq, zuS_ne hq], fun f hf => by rw [zuS_off (Or.inr (by omega)), d5.2 f (by omega) (by omega) (by omega) (by omega) (by omega), fb.2 f (by omega) (by omega) (by omega) (by omega) (by omega), zuS_off (Or.inr (by omega))], q3⟩⟩⟩))⟩
            · refine zp0 (by rfl) rfl rfl ?_
              refine zp_retI (by rfl) ?_
              simp only [zcf, hk, hw] at h1 h2 h3 h4
              rcases dj with ⟨d1, d2, d3, d4, d5⟩ | ⟨d1, d2, d3⟩
              · exact ⟨_, _, rfl, rfl, Or.inr (Or.inr (Or.inl ⟨by omega, by omega, Or.inr ⟨h7z, Or.inl ⟨d1, by decide, d3, d4, zFx_tr (zFx_tr (S1 := zuS S 0 18 (Int32.ofInt 1)) ⟨rfl, rfl, rfl⟩ (zFx_f fb)) d5⟩⟩⟩))⟩
              · exact absurd (Classical.not_not.mp h8) d2
          · iterate 2 refine zp0 (by rfl) rfl rfl ?_
            refine zy_v1e (by rfl) (zt_wrong he _) ?_
            refine zp_retI (by rfl) ?_
            simp only [zcf, hk, hw] at h1 h2 h3 h4
            exact ⟨_, _, rfl, rfl, Or.inr (Or.inr (Or.inl ⟨by omega, by omega, Or.inl ⟨h7, by decide, rfl⟩⟩))⟩
      · refine zp0 (by rfl) rfl rfl ?_
        refine zy_v0 (by rfl) (zt_thing he hn hM hS) ?_
        intro rv hp1 hq
        obtain ⟨r1, S1, q1, q2, hth⟩ := hq
        rw [q1, q2]
        refine zy_if (by rfl) (by rfl) (fun h9 => ?_) (fun h9 => ?_)
        · simp only [zcf, hk, hw] at h1 h2 h3
          rcases hth with ⟨b1, b2, b3⟩ | ⟨b1, b2, b8, b3, b4⟩
          · exact absurd b2 h9
          refine (zt_lend he b3.2.2.1 b3.2.1).post ?_
          intro rv hp1 hq
          obtain ⟨r, S', q1, q2, q3⟩ := hq
          exact ⟨r, S', q1, q2, Or.inr (Or.inl ⟨by omega, by omega, r1, S1, Or.inr ⟨b1, b2, b8, b3, b4⟩, Or.inr ⟨b2, q3⟩⟩)⟩
        · refine zp0 (by rfl) rfl rfl ?_
          refine zp_retI (by rfl) ?_
          simp only [zcf, hk, hw] at h1 h2 h3
          exact ⟨_, _, rfl, rfl, Or.inr (Or.inl ⟨by omega, by omega, r1, S1, hth, Or.inl ⟨Classical.not_not.mp h9, by decide, rfl⟩⟩)⟩
    · iterate 2 refine zp0 (by rfl) rfl rfl ?_
      refine zy_v1e (by rfl) (zt_wrong he _) ?_
      refine zp_retI (by rfl) ?_
      simp only [zcf, hk, hw, k2] at h1 h2
      exact ⟨_, _, rfl, rfl, Or.inl ⟨by omega, by decide, rfl⟩⟩
end ZTKI
