/-! a step between two sides -/
def zsnB (k : Int32) : Int := if zrank k.toInt = 4 then 5 else zrank k.toInt
def zsnC (d : Nat) (S : Nat → Nat → Int32) : Nat → Nat → Int32 := zuS (zuS (zbindA 1 d S) 0 35 (zbindA 1 d S 0 35 - Int32.ofInt 1)) 0 37 (zuS (zbindA 1 d S) 0 35 (zbindA 1 d S 0 35 - Int32.ofInt 1) 0 37 - Int32.ofInt 1)
def zsnE (k : Int32) (S1 : Nat → Nat → Int32) : Option Int32 × (Nat → Nat → Int32) :=
  if zrank k.toInt = 4 ∧ 0 < (S1 0 35).toInt ∧ zrank (S1 16 (S1 0 35 - Int32.ofInt 1).toNatClampNeg).toInt = 4 then (some (Int32.ofInt 1), S1)
  else if (S1 0 38).toInt = 64 then (some (Int32.ofInt 2), S1)
  else (none, zuS (zuS (zwt (zcntd S1) k) 0 39 (Int32.ofInt 1)) 0 40 (if zrank k.toInt < 3 then Int32.ofInt 1 else Int32.ofInt 0))
def zsnO (d : Nat) (S : Nat → Nat → Int32) : Option Int32 × (Nat → Nat → Int32) :=
  if zsg S 41 ∧ 0 < (S 0 37).toInt then (none, zsnC d S)
  else if (zsnK S).toInt = 0 then (some (Int32.ofInt 1), S)
  else zsnE (zsnK S) (zbindA (zsnB (zsnK S)) d S)
section ZTK14
variable {Lx : Nat} {xs : Nat → Int32} {n : Nat} {hp : List zhE} {e : Nat → Nat} {S : Nat → Nat → Int32} {m : Nat}
theorem zt_bindI (he : zeI e hp zDM.length) {b : Int} (hb : zR b) {d : Nat} (hd : (S 0 35).toNatClampNeg = d) : zPn Lx xs n 188 (0, lv_args 0 [.ref (e 0), .int (Int32.ofInt b)], [], zHS e zDM S hp, 0, 0) (fun rv hp1 => rv = none ∧ hp1 = zHS e zDM (zbindA b d S) hp) := by
  rw [zb_cl] at hd
  by_cases h0 : 0 ≤ (S 0 35).toInt ∧ (S 0 35).toInt < 1000
  · have hS : S 0 35 = Int32.ofInt (d : Int) := by
      rw [← Int32.ofInt_toInt (S 0 35)]
      congr 1
      omega
    have := zt_bind (Lx := Lx) (xs := xs) (hp := hp) he n (Int32.ofInt b) d S hS (by omega)
    rw [zRt hb] at this
    exact this
  · by_cases h1 : (S 0 35).toInt < 0
    · have hd0 : d = 0 := by omega
      rw [hd0]
      refine zp0 (by rfl) rfl rfl ?_
      refine zy_get (b := 35) he (by rfl) (by rfl) (by rfl) (by rfl) ?_
      refine zy_if (by rfl) (by rfl) (fun h1 => ?_) (fun h1 => ?_)
      · refine zp_retV (by rfl) ?_
        exact ⟨rfl, rfl⟩
      · exfalso
        simp only [zcf] at h1
        omega
    · have e1 : (S 0 35 - Int32.ofInt 1).toInt = (S 0 35).toInt - 1 := by
        have hm := Int32.toInt_lt (S 0 35)
        have := zRt (a := (S 0 35).toInt - 1) ⟨by omega, by omega⟩
        rw [Int32.ofInt_sub, Int32.ofInt_toInt] at this
        exact this
      refine zp0 (by rfl) rfl rfl ?_
      refine zy_get (b := 35) he (by rfl) (by rfl) (by rfl) (by rfl) ?_
      refine zy_if (by rfl) (by rfl) (fun h1 => ?_) (fun h1 => ?_)
      · refine zp_retV (by rfl) ?_
        exfalso
        simp only [zcf] at h1
        omega
      · refine zp0 (by rfl) rfl rfl ?_
        refine zy_ref (r := 16) he (by rfl) (by rfl) (by rfl) (by rfl) ?_
        refine zp0 (by rfl) rfl rfl ?_
        refine zy_get (b := 35) he (by rfl) (by rfl) (by rfl) (by rfl) ?_
        iterate 2 refine zp0 (by rfl) rfl rfl ?_
        refine zy_ald he (by rfl) (by rfl) (fun u2 w2 => ?_)
        exfalso
        rw [e1] at w2
        omega
theorem zt_sn217 (he : zeI e hp zDM.length) (k : Int32) (a : Nat) (hS : zPos m a S) (hs : zspell (S 2) 0 zWds) (g : ¬ (zrank k.toInt = 4 ∧ 0 < (S 0 35).toInt ∧ zrank (S 16 (S 0 35 - Int32.ofInt 1).toNatClampNeg).toInt = 4)) {c s : Nat} : zPn Lx xs n 193 (217, [(1, .int k), (0, .ref (e 0))], [], zHS e zDM S hp, c, s) (fun rv hp1 => ∃ r S', rv = some (.int r) ∧ hp1 = zHS e zDM S' hp ∧ zOut (zsnE k S).1 (zsnE k S).2 S' m a r) := by
  by_cases hc : (S 0 38).toInt = 64
  · refine zp0 (by rfl) rfl rfl ?_
    refine zy_v0e (by rfl) (zt_cnt0 he hc) ?_
    refine zy_if (by rfl) (by rfl) (fun h1 => ?_) (fun h1 => ?_)
    · exact absurd rfl h1
    · refine zp0 (by rfl) rfl rfl ?_
      refine zp_retI (by rfl) ?_
      have hO : zsnE k S = (some (Int32.ofInt 2), S) := by
        unfold zsnE
        rw [if_neg g, if_pos hc]
      refine ⟨_, _, rfl, rfl, ?_⟩
      rw [hO]
      exact ⟨rfl, rfl⟩
  · refine zp0 (by rfl) rfl rfl ?_
    refine zy_v0e (by rfl) (zt_cnt1 he hc) ?_
    refine zy_if (by rfl) (by rfl) (fun h1 => ?_) (fun h1 => ?_)
    · iterate 2 refine zp0 (by rfl) rfl rfl ?_
      refine zy_v1n (by rfl) (zt_wt he _) ?_
      iterate 2 refine zp0 (by rfl) rfl rfl ?_
      refine zy_put (b := 39) he (by rfl) (by rfl) (by rfl) ?_
      iterate 2 refine zp0 (by rfl) rfl rfl ?_
      refine zy_s1e (by rfl) (by rfl) (zt_rank) ?_
      refine zp0 (by rfl) rfl rfl ?_
      refine zy_icmpC (by rfl) (by rfl) ⟨by decide, by decide⟩ (fun h2 => ?_) (fun h2 => ?_)
      · refine zp0 (by rfl) rfl rfl ?_
        refine zy_put (b := 40) he (by rfl) (by rfl) (by rfl) ?_
        refine zp0 (by rfl) rfl rfl ?_
        refine zy_v0 (by rfl) (zt_token he n _ a ⟨hS.1, hS.2.1, hS.2.2⟩ hs) ?_
        intro rv hp1 hq
        obtain ⟨r1, S2, r2, hT⟩ := hq
        rw [r1, r2]
        refine zp0 (by rfl) rfl rfl ?_
        refine zp_retI (by rfl) ?_
        simp only [zcf, zrank_ix] at h2
        have hO : zsnE k S = (none, zuS (zuS (zwt (zcntd S) k) 0 39 (Int32.ofInt 1)) 0 40 (Int32.ofInt 0)) := by
          unfold zsnE
          rw [if_neg g, if_neg hc, if_neg (by omega)]
        refine ⟨_, _, rfl, rfl, ?_⟩
        rw [hO]
        exact ⟨rfl, hT⟩
      · iterate 2 refine zp0 (by rfl) rfl rfl ?_
        refine zy_put (b := 40) he (by rfl) (by rfl) (by rfl) ?_
        refine zp0 (by rfl) rfl rfl ?_
        refine zy_v0 (by rfl) (zt_token he n _ a ⟨hS.1, hS.2.1, hS.2.2⟩ hs) ?_
        intro rv hp1 hq
        obtain ⟨r1, S2, r2, hT⟩ := hq
        rw [r1, r2]
        refine zp0 (by rfl) rfl rfl ?_
        refine zp_retI (by rfl) ?_
        simp only [zcf, zrank_ix] at h2
        have hO : zsnE k S = (none, zuS (zuS (zwt (zcntd S) k) 0 39 (Int32.ofInt 1)) 0 40 (Int32.ofInt 1)) := by
          unfold zsnE
          rw [if_neg g, if_neg hc, if_pos (by omega)]
        refine ⟨_, _, rfl, rfl, ?_⟩
        rw [hO]
        exact ⟨rfl, hT⟩
    · refine zp0 (by rfl) rfl rfl ?_
      refine zp_retI (by rfl) ?_
      exact absurd (show (1 : Int32).toInt ≠ 0 by decide) h1
theorem zt_sn178 (he : zeI e hp zDM.length) (k : Int32) (a : Nat) (hS : zPos m a S) (hs : zspell (S 2) 0 zWds) {c s : Nat} : zPn Lx xs n 193 (178, [(1, .int k), (0, .ref (e 0))], [], zHS e zDM S hp, c, s) (fun rv hp1 => ∃ r S', rv = some (.int r) ∧ hp1 = zHS e zDM S' hp ∧ zOut (zsnE k S).1 (zsnE k S).2 S' m a r) := by
  refine zp0 (by rfl) rfl rfl ?_
  refine zy_s1e (by rfl) (by rfl) (zt_rank) ?_
  refine zp0 (by rfl) rfl rfl ?_
  refine zy_icmpC (by rfl) (by rfl) ⟨by decide, by decide⟩ (fun h1 => ?_) (fun h1 => ?_)
  · simp only [zcf, zrank_ix, ne_eq, Classical.not_not] at h1
    exact zt_sn217 he k a hS hs (by omega)
  · refine zp0 (by rfl) rfl rfl ?_
    refine zy_get (b := 35) he (by rfl) (by rfl) (by rfl) (by rfl) ?_
    refine zy_if (by rfl) (by rfl) (fun h2 => ?_) (fun h2 => ?_)
    · simp only [zcf, zrank_ix, ne_eq, Classical.not_not] at h1 h2
      exact zt_sn217 he k a hS hs (by omega)
    · refine zp0 (by rfl) rfl rfl ?_
      refine zy_ref (r := 16) he (by rfl) (by rfl) (by rfl) (by rfl) ?_
      refine zp0 (by rfl) rfl rfl ?_
      refine zy_get (b := 35) he (by rfl) (by rfl) (by rfl) (by rfl) ?_
      iterate 2 refine zp0 (by rfl) rfl rfl ?_
      refine zy_ald he (by rfl) (by rfl) (fun u3 w3 => ?_)
      refine zy_s1e (by rfl) (by rfl) (zt_rank) ?_
      refine zp0 (by rfl) rfl rfl ?_
      refine zy_icmpC (by rfl) (by rfl) ⟨by decide, by decide⟩ (fun h4 => ?_) (fun h4 => ?_)
      · simp only [zcf, zrank_ix, ne_eq, Classical.not_not] at h1 h2 h4
        exact zt_sn217 he k a hS hs (by omega)
      · iterate 2 refine zp0 (by rfl) rfl rfl ?_
        refine zy_v1e (by rfl) (zt_wrong he _) ?_
        refine zp_retI (by rfl) ?_
        simp only [zcf, zrank_ix, ne_eq, Classical.not_not] at h1 h2 h4
        have hO : zsnE k S = (some (Int32.ofInt 1), S) := by
          unfold zsnE
          rw [if_pos ⟨by omega, by omega, by omega⟩]
        refine ⟨_, _, rfl, rfl, ?_⟩
        rw [hO]
        exact ⟨rfl, rfl⟩
theorem zt_signs (he : zeI e hp zDM.length) (a d : Nat) (hS : zPos m a S) (hs : zspell (S 2) 0 zWds) (hd : (S 0 35).toNatClampNeg = d) : zPn Lx xs n 193 (0, lv_args 0 [.ref (e 0)], [], zHS e zDM S hp, 0, 0) (fun rv hp1 => ∃ r S', rv = some (.int r) ∧ hp1 = zHS e zDM S' hp ∧ zOut (zsnO d S).1 (zsnO d S).2 S' m a r) := by
  have hk := fun (b : Int) => zbindA_keep (l := b) d S
  have hP : ∀ b : Int, zPos m a (zbindA b d S) := fun b => ⟨(hk b).2.2.1.trans hS.1, (hk b).2.2.2.1.trans hS.2.1, hS.2.2⟩
  have hs2 : ∀ b : Int, zspell (zbindA b d S 2) 0 zWds := fun b => by rw [(hk b).2.1]; exact hs
  have h47 : ¬ (zsg S 41 ∧ 0 < (S 0 37).toInt) → ∀ c s, zPn Lx xs n 193 (47, [(0, .ref (e 0))], [], zHS e zDM S hp, c, s) (fun rv hp1 => ∃ r S', rv = some (.int r) ∧ hp1 = zHS e zDM S' hp ∧ zOut (zsnO d S).1 (zsnO d S).2 S' m a r) := by
    intro g c s
    refine zt_snK he (fun c s => ?_)
    refine zp0 (by rfl) rfl rfl ?_
    refine zy_if (by rfl) (by rfl) (fun h1 => ?_) (fun h1 => ?_)
    · iterate 2 refine zp0 (by rfl) rfl rfl ?_
      refine zy_s1e (by rfl) (by rfl) (zt_rank) ?_
      refine zp0 (by rfl) rfl rfl ?_
      refine zy_icmpC (by rfl) (by rfl) ⟨by decide, by decide⟩ (fun h2 => ?_) (fun h2 => ?_)
      · refine zp0 (by rfl) rfl rfl ?_
        refine zy_s1e (by rfl) (by rfl) (zt_rank) ?_
        simp only [zcf, zrank_ix, ne_eq, Classical.not_not] at h1 h2
        have hb : zsnB (zsnK S) = zrank (zsnK S).toInt := if_neg h2
        have hO : zsnO d S = zsnE (zsnK S) (zbindA (zrank (zsnK S).toInt) d S) := by
          unfold zsnO
          rw [if_neg g, if_neg h1, hb]
        rw [hO]
        refine zy_v1n (by rfl) (zt_bindI he (b := zrank (zsnK S).toInt) ⟨by have := zrank_rg (zsnK S).toInt; omega, by have := zrank_rg (zsnK S).toInt; omega⟩ hd) ?_
        exact zt_sn178 he (zsnK S) a (hP _) (hs2 _)
      · iterate 2 refine zp0 (by rfl) rfl rfl ?_
        simp only [zcf, zrank_ix, ne_eq, Classical.not_not] at h1 h2
        have hb : zsnB (zsnK S) = 5 := if_pos h2
        have hO : zsnO d S = zsnE (zsnK S) (zbindA (5) d S) := by
          unfold zsnO
          rw [if_neg g, if_neg h1, hb]
        rw [hO]
        refine zy_v1n (by rfl) (zt_bindI he (b := 5) ⟨by decide, by decide⟩ hd) ?_
        exact zt_sn178 he (zsnK S) a (hP _) (hs2 _)
    · iterate 2 refine zp0 (by rfl) rfl rfl ?_
      refine zy_v1e (by rfl) (zt_wrong he _) ?_
      refine zp_retI (by rfl) ?_
      simp only [zcf, ne_eq, Classical.not_not] at h1
      have hO : zsnO d S = (some (Int32.ofInt 1), S) := by
        unfold zsnO
        rw [if_neg g, if_pos h1]
      refine ⟨_, _, rfl, rfl, ?_⟩
      rw [hO]
      exact ⟨rfl, rfl⟩
  refine zp0 (by rfl) rfl rfl ?_
  refine zq_bip (by rfl) (by decide) ?_
  refine zy_v1e (by rfl) (zt_isSign he _) ?_
  refine zy_if (by rfl) (by rfl) (fun h1 => ?_) (fun h1 => ?_)
  · exact h47 (fun q => zite0 h1 q.1) _ _
  · refine zp0 (by rfl) rfl rfl ?_
    refine zy_get (b := 37) he (by rfl) (by rfl) (by rfl) (by rfl) ?_
    refine zy_if (by rfl) (by rfl) (fun h2 => ?_) (fun h2 => ?_)
    · simp only [zcf] at h2
      exact h47 (fun q => by omega) _ _
    · iterate 2 refine zp0 (by rfl) rfl rfl ?_
      refine zy_v1n (by rfl) (zt_bindI he (b := 1) ⟨by decide, by decide⟩ hd) ?_
      iterate 2 refine zp0 (by rfl) rfl rfl ?_
      refine zy_get (b := 35) he (by rfl) (by rfl) (by rfl) (by rfl) ?_
      iterate 2 refine zp0 (by rfl) rfl rfl ?_
      refine zy_put (b := 35) he (by rfl) (by rfl) (by rfl) ?_
      iterate 2 refine zp0 (by rfl) rfl rfl ?_
      refine zy_get (b := 37) he (by rfl) (by rfl) (by rfl) (by rfl) ?_
      iterate 2 refine zp0 (by rfl) rfl rfl ?_
      refine zy_put (b := 37) he (by rfl) (by rfl) (by rfl) ?_
      refine zp0 (by rfl) rfl rfl ?_
      refine zy_v0 (by rfl) (zt_token he n (zsnC d S) a ⟨(hP 1).1, (hP 1).2.1, (hP 1).2.2⟩ (hs2 1)) ?_
      intro rv hp1 hq
      obtain ⟨r1, S2, r2, hT⟩ := hq
      rw [r1, r2]
      refine zp0 (by rfl) rfl rfl ?_
      refine zp_retI (by rfl) ?_
      simp only [zcf] at h2
      have g0 := zite1 h1
      have hO : zsnO d S = (none, zsnC d S) := if_pos ⟨g0, by omega⟩
      refine ⟨_, _, rfl, rfl, ?_⟩
      rw [hO]
      exact ⟨rfl, hT⟩
end ZTK14
