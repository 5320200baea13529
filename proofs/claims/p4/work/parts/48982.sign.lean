/-! a sign between, or a bracket closed -/
theorem zbstep_keep {S : Nat → Nat → Int32} : zbstep S 1 = S 1 ∧ zbstep S 2 = S 2 ∧ zbstep S 0 6 = S 0 6 ∧ zbstep S 0 7 = S 0 7 ∧ zbstep S 0 38 = S 0 38 ∧ zbstep S 0 37 = S 0 37 := by
  unfold zbstep
  split <;> exact ⟨rfl, rfl, rfl, rfl, rfl, rfl⟩
theorem zbindA_keep {l : Int} : ∀ (d : Nat) (S : Nat → Nat → Int32), zbindA l d S 1 = S 1 ∧ zbindA l d S 2 = S 2 ∧ zbindA l d S 0 6 = S 0 6 ∧ zbindA l d S 0 7 = S 0 7 ∧ zbindA l d S 0 38 = S 0 38 ∧ zbindA l d S 0 37 = S 0 37
  | 0, S => ⟨rfl, rfl, rfl, rfl, rfl, rfl⟩
  | d + 1, S => by
    unfold zbindA
    split
    · obtain ⟨h1, h2, h3, h4, h5, h6⟩ := zbindA_keep (l := l) d (zbstep S)
      obtain ⟨g1, g2, g3, g4, g5, g6⟩ := zbstep_keep (S := S)
      exact ⟨h1.trans g1, h2.trans g2, h3.trans g3, h4.trans g4, h5.trans g5, h6.trans g6⟩
    · exact ⟨rfl, rfl, rfl, rfl, rfl, rfl⟩
/-- which sign it is, 0 if none -/
def zsnK (S : Nat → Nat → Int32) : Int32 :=
  if zky S 7 then Int32.ofInt 3 else if zky S 8 then Int32.ofInt 4 else if (S 0 8).toInt = 5 then Int32.ofInt 5 + S 0 9
  else if zsg S 43 then Int32.ofInt 11 else if zsg S 45 then Int32.ofInt 12 else if zsg S 42 then Int32.ofInt 13 else if zsg S 47 then Int32.ofInt 14 else Int32.ofInt 0
section ZTK13
variable {Lx : Nat} {xs : Nat → Int32} {n : Nat} {hp : List zhE} {e : Nat → Nat} {S : Nat → Nat → Int32} {m : Nat} {Q : ZP}
theorem zt_snK (he : zeI e hp zDM.length) {c s : Nat} (hn : ∀ c s, zPn Lx xs n 193 (148, [(1, .int (zsnK S)), (0, .ref (e 0))], [], zHS e zDM S hp, c, s) Q) : zPn Lx xs n 193 (47, [(0, .ref (e 0))], [], zHS e zDM S hp, c, s) Q := by
  refine zp0 (by rfl) rfl rfl ?_
  refine zq_bip (by rfl) (by decide) ?_
  refine zy_v1e (by rfl) (zt_isKey he _) ?_
  refine zy_if (by rfl) (by rfl) (fun h1 => ?_) (fun h1 => ?_)
  · refine zp0 (by rfl) rfl rfl ?_
    refine zq_bip (by rfl) (by decide) ?_
    refine zy_v1e (by rfl) (zt_isKey he _) ?_
    refine zy_if (by rfl) (by rfl) (fun h2 => ?_) (fun h2 => ?_)
    · refine zp0 (by rfl) rfl rfl ?_
      refine zy_get (b := 8) he (by rfl) (by rfl) (by rfl) (by rfl) ?_
      refine zp0 (by rfl) rfl rfl ?_
      refine zy_icmpC (by rfl) (by rfl) ⟨by decide, by decide⟩ (fun h3 => ?_) (fun h3 => ?_)
      · refine zp0 (by rfl) rfl rfl ?_
        refine zq_bip (by rfl) (by decide) ?_
        refine zy_v1e (by rfl) (zt_isSign he _) ?_
        refine zy_if (by rfl) (by rfl) (fun h4 => ?_) (fun h4 => ?_)
        · refine zp0 (by rfl) rfl rfl ?_
          refine zq_bip (by rfl) (by decide) ?_
          refine zy_v1e (by rfl) (zt_isSign he _) ?_
          refine zy_if (by rfl) (by rfl) (fun h5 => ?_) (fun h5 => ?_)
          · refine zp0 (by rfl) rfl rfl ?_
            refine zq_bip (by rfl) (by decide) ?_
            refine zy_v1e (by rfl) (zt_isSign he _) ?_
            refine zy_if (by rfl) (by rfl) (fun h6 => ?_) (fun h6 => ?_)
            · refine zp0 (by rfl) rfl rfl ?_
              refine zq_bip (by rfl) (by decide) ?_
              refine zy_v1e (by rfl) (zt_isSign he _) ?_
              refine zy_if (by rfl) (by rfl) (fun h7 => ?_) (fun h7 => ?_)
              · iterate 2 refine zp0 (by rfl) rfl rfl ?_
                have g0 := zite0 h1
                have g1 := zite0 h2
                simp only [zcf, ne_eq, Classical.not_not] at h3
                have g3 := zite0 h4
                have g4 := zite0 h5
                have g5 := zite0 h6
                have g6 := zite0 h7
                have hk : zsnK S = Int32.ofInt 0 := by
                  unfold zsnK
                  rw [if_neg g0, if_neg g1, if_neg h3, if_neg g3, if_neg g4, if_neg g5, if_neg g6]
                rw [hk] at hn
                exact hn _ _
              · refine zq_bip (by rfl) (by decide) ?_
                iterate 2 refine zp0 (by rfl) rfl rfl ?_
                have g0 := zite0 h1
                have g1 := zite0 h2
                simp only [zcf, ne_eq, Classical.not_not] at h3
                have g3 := zite0 h4
                have g4 := zite0 h5
                have g5 := zite0 h6
                have g6 := zite1 h7
                have hk : zsnK S = Int32.ofInt 14 := by
                  unfold zsnK
                  rw [if_neg g0, if_neg g1, if_neg h3, if_neg g3, if_neg g4, if_neg g5, if_pos g6]
                rw [hk] at hn
                exact hn _ _
            · refine zq_bip (by rfl) (by decide) ?_
              iterate 2 refine zp0 (by rfl) rfl rfl ?_
              have g0 := zite0 h1
              have g1 := zite0 h2
              simp only [zcf, ne_eq, Classical.not_not] at h3
              have g3 := zite0 h4
              have g4 := zite0 h5
              have g5 := zite1 h6
              have hk : zsnK S = Int32.ofInt 13 := by
                unfold zsnK
                rw [if_neg g0, if_neg g1, if_neg h3, if_neg g3, if_neg g4, if_pos g5]
              rw [hk] at hn
              exact hn _ _
          · refine zq_bip (by rfl) (by decide) ?_
            iterate 2 refine zp0 (by rfl) rfl rfl ?_
            have g0 := zite0 h1
            have g1 := zite0 h2
            simp only [zcf, ne_eq, Classical.not_not] at h3
            have g3 := zite0 h4
            have g4 := zite1 h5
            have hk : zsnK S = Int32.ofInt 12 := by
              unfold zsnK
              rw [if_neg g0, if_neg g1, if_neg h3, if_neg g3, if_pos g4]
            rw [hk] at hn
            exact hn _ _
        · refine zq_bip (by rfl) (by decide) ?_
          iterate 2 refine zp0 (by rfl) rfl rfl ?_
          have g0 := zite0 h1
          have g1 := zite0 h2
          simp only [zcf, ne_eq, Classical.not_not] at h3
          have g3 := zite1 h4
          have hk : zsnK S = Int32.ofInt 11 := by
            unfold zsnK
            rw [if_neg g0, if_neg g1, if_neg h3, if_pos g3]
          rw [hk] at hn
          exact hn _ _
      · iterate 2 refine zp0 (by rfl) rfl rfl ?_
        refine zy_get (b := 9) he (by rfl) (by rfl) (by rfl) (by rfl) ?_
        iterate 3 refine zp0 (by rfl) rfl rfl ?_
        have g0 := zite0 h1
        have g1 := zite0 h2
        simp only [zcf, ne_eq, Classical.not_not] at h3
        have hk : zsnK S = Int32.ofInt 5 + S 0 9 := by
          unfold zsnK
          rw [if_neg g0, if_neg g1, if_pos h3]
        rw [hk] at hn
        exact hn _ _
    · iterate 3 refine zp0 (by rfl) rfl rfl ?_
      have g0 := zite0 h1
      have g1 := zite1 h2
      have hk : zsnK S = Int32.ofInt 4 := by
        unfold zsnK
        rw [if_neg g0, if_pos g1]
      rw [hk] at hn
      exact hn _ _
  · iterate 3 refine zp0 (by rfl) rfl rfl ?_
    have g0 := zite1 h1
    have hk : zsnK S = Int32.ofInt 3 := by
      unfold zsnK
      rw [if_pos g0]
    rw [hk] at hn
    exact hn _ _
end ZTK13
