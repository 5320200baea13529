/-! a number, a name, or what may be ahead of one -/
/-- what comes of a step: a fault, or the next token -/
def zOut (o : Option Int32) (S1 S' : Nat → Nat → Int32) (m a : Nat) (r : Int32) : Prop := match o with
  | some f => r = 0 ∧ S' = zwrong S1 f
  | none => r = Int32.ofInt 1 ∧ zTok2 S1 S' m (zend (fun q => zcb1 (S1 1 q)) m a)
def zwt (S : Nat → Nat → Int32) (x : Int32) : Nat → Nat → Int32 := zuS (zuS S 16 (S 0 35).toNatClampNeg x) 0 35 (S 0 35 + Int32.ofInt 1)
def zcntd (S : Nat → Nat → Int32) : Nat → Nat → Int32 := zuS S 0 38 (S 0 38 + Int32.ofInt 1)
def znm (S : Nat → Nat → Int32) : Int32 := if (S 0 8).toInt = 1 ∧ 10 ≤ (S 0 9).toInt then S 0 9 - Int32.ofInt 10 else if (S 0 8).toInt = 1 ∧ (S 0 9).toInt = 6 then Int32.ofInt 7 else Int32.ofInt (-1)
abbrev zsg (S : Nat → Nat → Int32) (x : Int) : Prop := (S 0 8).toInt = 4 ∧ (S 0 9).toInt = (Int32.ofInt x).toInt
abbrev zky (S : Nat → Nat → Int32) (x : Int) : Prop := (S 0 8).toInt = 1 ∧ (S 0 9).toInt = (Int32.ofInt x).toInt
def zlfO (S : Nat → Nat → Int32) : Option Int32 × (Nat → Nat → Int32) :=
  if zsg S 40 then (if (S 0 37).toInt = 8 then (some (Int32.ofInt 2), S) else (none, zuS (zwt (zuS S 0 37 (S 0 37 + Int32.ofInt 1)) (Int32.ofInt 0)) 0 40 (Int32.ofInt 1)))
  else if zky S 9 ∧ (S 0 40).toInt ≠ 0 then (if (S 0 38).toInt = 64 then (some (Int32.ofInt 2), S) else (none, zwt (zcntd S) (Int32.ofInt 2)))
  else if (znm S).toInt < 0 ∧ (S 0 8).toInt ≠ 3 then (some (Int32.ofInt 1), S)
  else if (znm S).toInt < 0 ∧ 9999 < (S 0 9).toInt then (some (Int32.ofInt 2), S)
  else if (S 0 38).toInt = 64 then (some (Int32.ofInt 2), S)
  else (none, zuS (zgrown (zcntd S) (if 0 ≤ (znm S).toInt then Int32.ofInt 1 else Int32.ofInt 0) (if 0 ≤ (znm S).toInt then znm S else S 0 9) (Int32.ofInt 0)) 0 39 (Int32.ofInt 0))
section ZTK12
variable {Lx : Nat} {xs : Nat → Int32} {n : Nat} {hp : List zhE} {e : Nat → Nat} {S : Nat → Nat → Int32} {m : Nat}
theorem zt_cnt0 (he : zeI e hp zDM.length) (h : (S 0 38).toInt = 64) : zPn Lx xs n 189 (0, lv_args 0 [.ref (e 0)], [], zHS e zDM S hp, 0, 0) (fun rv hp1 => rv = some (.int 0) ∧ hp1 = zHS e zDM (zwrong S (Int32.ofInt 2)) hp) := by
  have := zt_isCounted (Lx := Lx) (xs := xs) (n := n) (S := S) he
  rw [if_pos h, if_pos h] at this
  exact this
theorem zt_cnt1 (he : zeI e hp zDM.length) (h : ¬ (S 0 38).toInt = 64) : zPn Lx xs n 189 (0, lv_args 0 [.ref (e 0)], [], zHS e zDM S hp, 0, 0) (fun rv hp1 => rv = some (.int 1) ∧ hp1 = zHS e zDM (zcntd S) hp) := by
  have := zt_isCounted (Lx := Lx) (xs := xs) (n := n) (S := S) he
  rw [if_neg h, if_neg h] at this
  exact this
theorem zt_wt (he : zeI e hp zDM.length) (x : Int32) : zPn Lx xs n 190 (0, lv_args 0 [.ref (e 0), .int x], [], zHS e zDM S hp, 0, 0) (fun rv hp1 => rv = none ∧ hp1 = zHS e zDM (zwt S x) hp) := (zt_waitsFor he x).post (fun _ _ h => ⟨h.1, h.2.1⟩)
theorem zt_leafRead (he : zeI e hp zDM.length) (a : Nat) (hS : zPos m a S) (hs : zspell (S 2) 0 zWds) : zPn Lx xs n 192 (0, lv_args 0 [.ref (e 0)], [], zHS e zDM S hp, 0, 0) (fun rv hp1 => ∃ r S', rv = some (.int r) ∧ hp1 = zHS e zDM S' hp ∧ zOut (zlfO S).1 (zlfO S).2 S' m a r) := by
  have hrest : ¬ zsg S 40 → ¬ (zky S 9 ∧ (S 0 40).toInt ≠ 0) → ∀ c s, zPn Lx xs n 192 (86, [(0, .ref (e 0))], [], zHS e zDM S hp, c, s) (fun rv hp1 => ∃ r S', rv = some (.int r) ∧ hp1 = zHS e zDM S' hp ∧ zOut (zlfO S).1 (zlfO S).2 S' m a r) := by
    intro g0 g1 c s
    have hO : zlfO S = (if (znm S).toInt < 0 ∧ (S 0 8).toInt ≠ 3 then (some (Int32.ofInt 1), S) else if (znm S).toInt < 0 ∧ 9999 < (S 0 9).toInt then (some (Int32.ofInt 2), S) else if (S 0 38).toInt = 64 then (some (Int32.ofInt 2), S) else (none, zuS (zgrown (zcntd S) (if 0 ≤ (znm S).toInt then Int32.ofInt 1 else Int32.ofInt 0) (if 0 ≤ (znm S).toInt then znm S else S 0 9) (Int32.ofInt 0)) 0 39 (Int32.ofInt 0))) := by
      unfold zlfO
      rw [if_neg g0, if_neg g1]
    have hnm := zt_nameMet (Lx := Lx) (xs := xs) (n := n) (hp := hp) (S := S) he
    have hnm : zPn Lx xs n 191 (0, lv_args 0 [.ref (e 0)], [], zHS e zDM S hp, 0, 0) (fun rv hp1 => rv = some (.int (znm S)) ∧ hp1 = zHS e zDM S hp) := hnm
    rw [hO]
    refine zp0 (by rfl) rfl rfl ?_
    refine zy_v0e (by rfl) (hnm) ?_
    iterate 2 refine zp0 (by rfl) rfl rfl ?_
    refine zy_if (by rfl) (by rfl) (fun h1 => ?_) (fun h1 => ?_)
    · refine zp0 (by rfl) rfl rfl ?_
      refine zy_if (by rfl) (by rfl) (fun h2 => ?_) (fun h2 => ?_)
      · simp only [zcf] at h1 h2
        rw [if_neg (by omega), if_neg (by omega)]
        by_cases hc : (S 0 38).toInt = 64
        · refine zp0 (by rfl) rfl rfl ?_
          refine zy_v0e (by rfl) (zt_cnt0 he hc) ?_
          refine zy_if (by rfl) (by rfl) (fun h51 => ?_) (fun h51 => ?_)
          · exact absurd rfl h51
          · refine zp0 (by rfl) rfl rfl ?_
            refine zp_retI (by rfl) ?_
            refine ⟨_, _, rfl, rfl, ?_⟩
            rw [if_pos hc]
            exact ⟨rfl, rfl⟩
        · refine zp0 (by rfl) rfl rfl ?_
          refine zy_v0e (by rfl) (zt_cnt1 he hc) ?_
          refine zy_if (by rfl) (by rfl) (fun h61 => ?_) (fun h61 => ?_)
          · iterate 2 refine zp0 (by rfl) rfl rfl ?_
            refine zy_if (by rfl) (by rfl) (fun h62 => ?_) (fun h62 => ?_)
            · iterate 2 refine zp0 (by rfl) rfl rfl ?_
              refine zy_if (by rfl) (by rfl) (fun h63 => ?_) (fun h63 => ?_)
              · refine zp0 (by rfl) rfl rfl ?_
                refine zy_get (b := 9) he (by rfl) (by rfl) (by rfl) (by rfl) ?_
                refine zp0 (by rfl) rfl rfl ?_
                refine zy_v3n (by rfl) (zt_grown he _ _ _) ?_
                iterate 2 refine zp0 (by rfl) rfl rfl ?_
                refine zy_put (b := 39) he (by rfl) (by rfl) (by rfl) ?_
                refine zp0 (by rfl) rfl rfl ?_
                refine zy_v0 (by rfl) (zt_token he n _ a ⟨hS.1, hS.2.1, hS.2.2⟩ hs) ?_
                intro rv hp1 hq
                obtain ⟨r1, S2, r2, hT⟩ := hq
                rw [r1, r2]
                refine zp0 (by rfl) rfl rfl ?_
                refine zp_retI (by rfl) ?_
                simp only [zcf] at h62 h63
                refine ⟨_, _, rfl, rfl, ?_⟩
                rw [if_neg hc]
                first | rw [if_pos (show 0 ≤ (znm S).toInt by omega), if_pos (show 0 ≤ (znm S).toInt by omega)] | rw [if_neg (show ¬ 0 ≤ (znm S).toInt by omega), if_neg (show ¬ 0 ≤ (znm S).toInt by omega)]
                first | exact ⟨rfl, hT⟩ | (exfalso; omega)
              · iterate 3 refine zp0 (by rfl) rfl rfl ?_
                refine zy_v3n (by rfl) (zt_grown he _ _ _) ?_
                iterate 2 refine zp0 (by rfl) rfl rfl ?_
                refine zy_put (b := 39) he (by rfl) (by rfl) (by rfl) ?_
                refine zp0 (by rfl) rfl rfl ?_
                refine zy_v0 (by rfl) (zt_token he n _ a ⟨hS.1, hS.2.1, hS.2.2⟩ hs) ?_
                intro rv hp1 hq
                obtain ⟨r1, S2, r2, hT⟩ := hq
                rw [r1, r2]
                refine zp0 (by rfl) rfl rfl ?_
                refine zp_retI (by rfl) ?_
                simp only [zcf] at h62 h63
                refine ⟨_, _, rfl, rfl, ?_⟩
                rw [if_neg hc]
                first | rw [if_pos (show 0 ≤ (znm S).toInt by omega), if_pos (show 0 ≤ (znm S).toInt by omega)] | rw [if_neg (show ¬ 0 ≤ (znm S).toInt by omega), if_neg (show ¬ 0 ≤ (znm S).toInt by omega)]
                first | exact ⟨rfl, hT⟩ | (exfalso; omega)
            · iterate 3 refine zp0 (by rfl) rfl rfl ?_
              refine zy_if (by rfl) (by rfl) (fun h64 => ?_) (fun h64 => ?_)
              · refine zp0 (by rfl) rfl rfl ?_
                refine zy_get (b := 9) he (by rfl) (by rfl) (by rfl) (by rfl) ?_
                refine zp0 (by rfl) rfl rfl ?_
                refine zy_v3n (by rfl) (zt_grown he _ _ _) ?_
                iterate 2 refine zp0 (by rfl) rfl rfl ?_
                refine zy_put (b := 39) he (by rfl) (by rfl) (by rfl) ?_
                refine zp0 (by rfl) rfl rfl ?_
                refine zy_v0 (by rfl) (zt_token he n _ a ⟨hS.1, hS.2.1, hS.2.2⟩ hs) ?_
                intro rv hp1 hq
                obtain ⟨r1, S2, r2, hT⟩ := hq
                rw [r1, r2]
                refine zp0 (by rfl) rfl rfl ?_
                refine zp_retI (by rfl) ?_
                simp only [zcf] at h62 h64
                refine ⟨_, _, rfl, rfl, ?_⟩
                rw [if_neg hc]
                first | rw [if_pos (show 0 ≤ (znm S).toInt by omega), if_pos (show 0 ≤ (znm S).toInt by omega)] | rw [if_neg (show ¬ 0 ≤ (znm S).toInt by omega), if_neg (show ¬ 0 ≤ (znm S).toInt by omega)]
                first | exact ⟨rfl, hT⟩ | (exfalso; omega)
              · iterate 3 refine zp0 (by rfl) rfl rfl ?_
                refine zy_v3n (by rfl) (zt_grown he _ _ _) ?_
                iterate 2 refine zp0 (by rfl) rfl rfl ?_
                refine zy_put (b := 39) he (by rfl) (by rfl) (by rfl) ?_
                refine zp0 (by rfl) rfl rfl ?_
                refine zy_v0 (by rfl) (zt_token he n _ a ⟨hS.1, hS.2.1, hS.2.2⟩ hs) ?_
                intro rv hp1 hq
                obtain ⟨r1, S2, r2, hT⟩ := hq
                rw [r1, r2]
                refine zp0 (by rfl) rfl rfl ?_
                refine zp_retI (by rfl) ?_
                simp only [zcf] at h62 h64
                refine ⟨_, _, rfl, rfl, ?_⟩
                rw [if_neg hc]
                first | rw [if_pos (show 0 ≤ (znm S).toInt by omega), if_pos (show 0 ≤ (znm S).toInt by omega)] | rw [if_neg (show ¬ 0 ≤ (znm S).toInt by omega), if_neg (show ¬ 0 ≤ (znm S).toInt by omega)]
                first | exact ⟨rfl, hT⟩ | (exfalso; omega)
          · refine zp0 (by rfl) rfl rfl ?_
            refine zp_retI (by rfl) ?_
            exact absurd (show (1 : Int32).toInt ≠ 0 by decide) h61
      · refine zp0 (by rfl) rfl rfl ?_
        refine zy_get (b := 9) he (by rfl) (by rfl) (by rfl) (by rfl) ?_
        refine zq_sip (by rfl) (by decide) ?_
        refine zy_icmpC (by rfl) (by rfl) ⟨by decide, by decide⟩ (fun h3 => ?_) (fun h3 => ?_)
        · simp only [zcf] at h1 h2 h3
          rw [if_neg (by omega), if_neg (by omega)]
          by_cases hc : (S 0 38).toInt = 64
          · refine zp0 (by rfl) rfl rfl ?_
            refine zy_v0e (by rfl) (zt_cnt0 he hc) ?_
            refine zy_if (by rfl) (by rfl) (fun h51 => ?_) (fun h51 => ?_)
            · exact absurd rfl h51
            · refine zp0 (by rfl) rfl rfl ?_
              refine zp_retI (by rfl) ?_
              refine ⟨_, _, rfl, rfl, ?_⟩
              rw [if_pos hc]
              exact ⟨rfl, rfl⟩
          · refine zp0 (by rfl) rfl rfl ?_
            refine zy_v0e (by rfl) (zt_cnt1 he hc) ?_
            refine zy_if (by rfl) (by rfl) (fun h61 => ?_) (fun h61 => ?_)
            · iterate 2 refine zp0 (by rfl) rfl rfl ?_
              refine zy_if (by rfl) (by rfl) (fun h62 => ?_) (fun h62 => ?_)
              · iterate 2 refine zp0 (by rfl) rfl rfl ?_
                refine zy_if (by rfl) (by rfl) (fun h63 => ?_) (fun h63 => ?_)
                · refine zp0 (by rfl) rfl rfl ?_
                  refine zy_get (b := 9) he (by rfl) (by rfl) (by rfl) (by rfl) ?_
                  refine zp0 (by rfl) rfl rfl ?_
                  refine zy_v3n (by rfl) (zt_grown he _ _ _) ?_
                  iterate 2 refine zp0 (by rfl) rfl rfl ?_
                  refine zy_put (b := 39) he (by rfl) (by rfl) (by rfl) ?_
                  refine zp0 (by rfl) rfl rfl ?_
                  refine zy_v0 (by rfl) (zt_token he n _ a ⟨hS.1, hS.2.1, hS.2.2⟩ hs) ?_
                  intro rv hp1 hq
                  obtain ⟨r1, S2, r2, hT⟩ := hq
                  rw [r1, r2]
                  refine zp0 (by rfl) rfl rfl ?_
                  refine zp_retI (by rfl) ?_
                  simp only [zcf] at h62 h63
                  refine ⟨_, _, rfl, rfl, ?_⟩
                  rw [if_neg hc]
                  first | rw [if_pos (show 0 ≤ (znm S).toInt by omega), if_pos (show 0 ≤ (znm S).toInt by omega)] | rw [if_neg (show ¬ 0 ≤ (znm S).toInt by omega), if_neg (show ¬ 0 ≤ (znm S).toInt by omega)]
                  first | exact ⟨rfl, hT⟩ | (exfalso; omega)
                · iterate 3 refine zp0 (by rfl) rfl rfl ?_
                  refine zy_v3n (by rfl) (zt_grown he _ _ _) ?_
                  iterate 2 refine zp0 (by rfl) rfl rfl ?_
                  refine zy_put (b := 39) he (by rfl) (by rfl) (by rfl) ?_
                  refine zp0 (by rfl) rfl rfl ?_
                  refine zy_v0 (by rfl) (zt_token he n _ a ⟨hS.1, hS.2.1, hS.2.2⟩ hs) ?_
                  intro rv hp1 hq
                  obtain ⟨r1, S2, r2, hT⟩ := hq
                  rw [r1, r2]
                  refine zp0 (by rfl) rfl rfl ?_
                  refine zp_retI (by rfl) ?_
                  simp only [zcf] at h62 h63
                  refine ⟨_, _, rfl, rfl, ?_⟩
                  rw [if_neg hc]
                  first | rw [if_pos (show 0 ≤ (znm S).toInt by omega), if_pos (show 0 ≤ (znm S).toInt by omega)] | rw [if_neg (show ¬ 0 ≤ (znm S).toInt by omega), if_neg (show ¬ 0 ≤ (znm S).toInt by omega)]
                  first | exact ⟨rfl, hT⟩ | (exfalso; omega)
              · iterate 3 refine zp0 (by rfl) rfl rfl ?_
                refine zy_if (by rfl) (by rfl) (fun h64 => ?_) (fun h64 => ?_)
                · refine zp0 (by rfl) rfl rfl ?_
                  refine zy_get (b := 9) he (by rfl) (by rfl) (by rfl) (by rfl) ?_
                  refine zp0 (by rfl) rfl rfl ?_
                  refine zy_v3n (by rfl) (zt_grown he _ _ _) ?_
                  iterate 2 refine zp0 (by rfl) rfl rfl ?_
                  refine zy_put (b := 39) he (by rfl) (by rfl) (by rfl) ?_
                  refine zp0 (by rfl) rfl rfl ?_
                  refine zy_v0 (by rfl) (zt_token he n _ a ⟨hS.1, hS.2.1, hS.2.2⟩ hs) ?_
                  intro rv hp1 hq
                  obtain ⟨r1, S2, r2, hT⟩ := hq
                  rw [r1, r2]
                  refine zp0 (by rfl) rfl rfl ?_
                  refine zp_retI (by rfl) ?_
                  simp only [zcf] at h62 h64
                  refine ⟨_, _, rfl, rfl, ?_⟩
                  rw [if_neg hc]
                  first | rw [if_pos (show 0 ≤ (znm S).toInt by omega), if_pos (show 0 ≤ (znm S).toInt by omega)] | rw [if_neg (show ¬ 0 ≤ (znm S).toInt by omega), if_neg (show ¬ 0 ≤ (znm S).toInt by omega)]
                  first | exact ⟨rfl, hT⟩ | (exfalso; omega)
                · iterate 3 refine zp0 (by rfl) rfl rfl ?_
                  refine zy_v3n (by rfl) (zt_grown he _ _ _) ?_
                  iterate 2 refine zp0 (by rfl) rfl rfl ?_
                  refine zy_put (b := 39) he (by rfl) (by rfl) (by rfl) ?_
                  refine zp0 (by rfl) rfl rfl ?_
                  refine zy_v0 (by rfl) (zt_token he n _ a ⟨hS.1, hS.2.1, hS.2.2⟩ hs) ?_
                  intro rv hp1 hq
                  obtain ⟨r1, S2, r2, hT⟩ := hq
                  rw [r1, r2]
                  refine zp0 (by rfl) rfl rfl ?_
                  refine zp_retI (by rfl) ?_
                  simp only [zcf] at h62 h64
                  refine ⟨_, _, rfl, rfl, ?_⟩
                  rw [if_neg hc]
                  first | rw [if_pos (show 0 ≤ (znm S).toInt by omega), if_pos (show 0 ≤ (znm S).toInt by omega)] | rw [if_neg (show ¬ 0 ≤ (znm S).toInt by omega), if_neg (show ¬ 0 ≤ (znm S).toInt by omega)]
                  first | exact ⟨rfl, hT⟩ | (exfalso; omega)
            · refine zp0 (by rfl) rfl rfl ?_
              refine zp_retI (by rfl) ?_
              exact absurd (show (1 : Int32).toInt ≠ 0 by decide) h61
        · iterate 2 refine zp0 (by rfl) rfl rfl ?_
          refine zy_v1e (by rfl) (zt_wrong he _) ?_
          refine zp_retI (by rfl) ?_
          simp only [zcf] at h1 h2 h3
          refine ⟨_, _, rfl, rfl, ?_⟩
          rw [if_neg (by omega), if_pos ⟨by omega, by omega⟩]
          exact ⟨rfl, rfl⟩
    · refine zp0 (by rfl) rfl rfl ?_
      refine zy_get (b := 8) he (by rfl) (by rfl) (by rfl) (by rfl) ?_
      refine zp0 (by rfl) rfl rfl ?_
      refine zy_icmpC (by rfl) (by rfl) ⟨by decide, by decide⟩ (fun h4 => ?_) (fun h4 => ?_)
      · refine zp0 (by rfl) rfl rfl ?_
        refine zy_if (by rfl) (by rfl) (fun h5 => ?_) (fun h5 => ?_)
        · simp only [zcf] at h1 h4 h5
          rw [if_neg (by omega), if_neg (by omega)]
          by_cases hc : (S 0 38).toInt = 64
          · refine zp0 (by rfl) rfl rfl ?_
            refine zy_v0e (by rfl) (zt_cnt0 he hc) ?_
            refine zy_if (by rfl) (by rfl) (fun h51 => ?_) (fun h51 => ?_)
            · exact absurd rfl h51
            · refine zp0 (by rfl) rfl rfl ?_
              refine zp_retI (by rfl) ?_
              refine ⟨_, _, rfl, rfl, ?_⟩
              rw [if_pos hc]
              exact ⟨rfl, rfl⟩
          · refine zp0 (by rfl) rfl rfl ?_
            refine zy_v0e (by rfl) (zt_cnt1 he hc) ?_
            refine zy_if (by rfl) (by rfl) (fun h61 => ?_) (fun h61 => ?_)
            · iterate 2 refine zp0 (by rfl) rfl rfl ?_
              refine zy_if (by rfl) (by rfl) (fun h62 => ?_) (fun h62 => ?_)
              · iterate 2 refine zp0 (by rfl) rfl rfl ?_
                refine zy_if (by rfl) (by rfl) (fun h63 => ?_) (fun h63 => ?_)
                · refine zp0 (by rfl) rfl rfl ?_
                  refine zy_get (b := 9) he (by rfl) (by rfl) (by rfl) (by rfl) ?_
                  refine zp0 (by rfl) rfl rfl ?_
                  refine zy_v3n (by rfl) (zt_grown he _ _ _) ?_
                  iterate 2 refine zp0 (by rfl) rfl rfl ?_
                  refine zy_put (b := 39) he (by rfl) (by rfl) (by rfl) ?_
                  refine zp0 (by rfl) rfl rfl ?_
                  refine zy_v0 (by rfl) (zt_token he n _ a ⟨hS.1, hS.2.1, hS.2.2⟩ hs) ?_
                  intro rv hp1 hq
                  obtain ⟨r1, S2, r2, hT⟩ := hq
                  rw [r1, r2]
                  refine zp0 (by rfl) rfl rfl ?_
                  refine zp_retI (by rfl) ?_
                  simp only [zcf] at h62 h63
                  refine ⟨_, _, rfl, rfl, ?_⟩
                  rw [if_neg hc]
                  first | rw [if_pos (show 0 ≤ (znm S).toInt by omega), if_pos (show 0 ≤ (znm S).toInt by omega)] | rw [if_neg (show ¬ 0 ≤ (znm S).toInt by omega), if_neg (show ¬ 0 ≤ (znm S).toInt by omega)]
                  first | exact ⟨rfl, hT⟩ | (exfalso; omega)
                · iterate 3 refine zp0 (by rfl) rfl rfl ?_
                  refine zy_v3n (by rfl) (zt_grown he _ _ _) ?_
                  iterate 2 refine zp0 (by rfl) rfl rfl ?_
                  refine zy_put (b := 39) he (by rfl) (by rfl) (by rfl) ?_
                  refine zp0 (by rfl) rfl rfl ?_
                  refine zy_v0 (by rfl) (zt_token he n _ a ⟨hS.1, hS.2.1, hS.2.2⟩ hs) ?_
                  intro rv hp1 hq
                  obtain ⟨r1, S2, r2, hT⟩ := hq
                  rw [r1, r2]
                  refine zp0 (by rfl) rfl rfl ?_
                  refine zp_retI (by rfl) ?_
                  simp only [zcf] at h62 h63
                  refine ⟨_, _, rfl, rfl, ?_⟩
                  rw [if_neg hc]
                  first | rw [if_pos (show 0 ≤ (znm S).toInt by omega), if_pos (show 0 ≤ (znm S).toInt by omega)] | rw [if_neg (show ¬ 0 ≤ (znm S).toInt by omega), if_neg (show ¬ 0 ≤ (znm S).toInt by omega)]
                  first | exact ⟨rfl, hT⟩ | (exfalso; omega)
              · iterate 3 refine zp0 (by rfl) rfl rfl ?_
                refine zy_if (by rfl) (by rfl) (fun h64 => ?_) (fun h64 => ?_)
                · refine zp0 (by rfl) rfl rfl ?_
                  refine zy_get (b := 9) he (by rfl) (by rfl) (by rfl) (by rfl) ?_
                  refine zp0 (by rfl) rfl rfl ?_
                  refine zy_v3n (by rfl) (zt_grown he _ _ _) ?_
                  iterate 2 refine zp0 (by rfl) rfl rfl ?_
                  refine zy_put (b := 39) he (by rfl) (by rfl) (by rfl) ?_
                  refine zp0 (by rfl) rfl rfl ?_
                  refine zy_v0 (by rfl) (zt_token he n _ a ⟨hS.1, hS.2.1, hS.2.2⟩ hs) ?_
                  intro rv hp1 hq
                  obtain ⟨r1, S2, r2, hT⟩ := hq
                  rw [r1, r2]
                  refine zp0 (by rfl) rfl rfl ?_
                  refine zp_retI (by rfl) ?_
                  simp only [zcf] at h62 h64
                  refine ⟨_, _, rfl, rfl, ?_⟩
                  rw [if_neg hc]
                  first | rw [if_pos (show 0 ≤ (znm S).toInt by omega), if_pos (show 0 ≤ (znm S).toInt by omega)] | rw [if_neg (show ¬ 0 ≤ (znm S).toInt by omega), if_neg (show ¬ 0 ≤ (znm S).toInt by omega)]
                  first | exact ⟨rfl, hT⟩ | (exfalso; omega)
                · iterate 3 refine zp0 (by rfl) rfl rfl ?_
                  refine zy_v3n (by rfl) (zt_grown he _ _ _) ?_
                  iterate 2 refine zp0 (by rfl) rfl rfl ?_
                  refine zy_put (b := 39) he (by rfl) (by rfl) (by rfl) ?_
                  refine zp0 (by rfl) rfl rfl ?_
                  refine zy_v0 (by rfl) (zt_token he n _ a ⟨hS.1, hS.2.1, hS.2.2⟩ hs) ?_
                  intro rv hp1 hq
                  obtain ⟨r1, S2, r2, hT⟩ := hq
                  rw [r1, r2]
                  refine zp0 (by rfl) rfl rfl ?_
                  refine zp_retI (by rfl) ?_
                  simp only [zcf] at h62 h64
                  refine ⟨_, _, rfl, rfl, ?_⟩
                  rw [if_neg hc]
                  first | rw [if_pos (show 0 ≤ (znm S).toInt by omega), if_pos (show 0 ≤ (znm S).toInt by omega)] | rw [if_neg (show ¬ 0 ≤ (znm S).toInt by omega), if_neg (show ¬ 0 ≤ (znm S).toInt by omega)]
                  first | exact ⟨rfl, hT⟩ | (exfalso; omega)
            · refine zp0 (by rfl) rfl rfl ?_
              refine zp_retI (by rfl) ?_
              exact absurd (show (1 : Int32).toInt ≠ 0 by decide) h61
        · refine zp0 (by rfl) rfl rfl ?_
          refine zy_get (b := 9) he (by rfl) (by rfl) (by rfl) (by rfl) ?_
          refine zq_sip (by rfl) (by decide) ?_
          refine zy_icmpC (by rfl) (by rfl) ⟨by decide, by decide⟩ (fun h6 => ?_) (fun h6 => ?_)
          · simp only [zcf] at h1 h4 h5 h6
            rw [if_neg (by omega), if_neg (by omega)]
            by_cases hc : (S 0 38).toInt = 64
            · refine zp0 (by rfl) rfl rfl ?_
              refine zy_v0e (by rfl) (zt_cnt0 he hc) ?_
              refine zy_if (by rfl) (by rfl) (fun h51 => ?_) (fun h51 => ?_)
              · exact absurd rfl h51
              · refine zp0 (by rfl) rfl rfl ?_
                refine zp_retI (by rfl) ?_
                refine ⟨_, _, rfl, rfl, ?_⟩
                rw [if_pos hc]
                exact ⟨rfl, rfl⟩
            · refine zp0 (by rfl) rfl rfl ?_
              refine zy_v0e (by rfl) (zt_cnt1 he hc) ?_
              refine zy_if (by rfl) (by rfl) (fun h61 => ?_) (fun h61 => ?_)
              · iterate 2 refine zp0 (by rfl) rfl rfl ?_
                refine zy_if (by rfl) (by rfl) (fun h62 => ?_) (fun h62 => ?_)
                · iterate 2 refine zp0 (by rfl) rfl rfl ?_
                  refine zy_if (by rfl) (by rfl) (fun h63 => ?_) (fun h63 => ?_)
                  · refine zp0 (by rfl) rfl rfl ?_
                    refine zy_get (b := 9) he (by rfl) (by rfl) (by rfl) (by rfl) ?_
                    refine zp0 (by rfl) rfl rfl ?_
                    refine zy_v3n (by rfl) (zt_grown he _ _ _) ?_
                    iterate 2 refine zp0 (by rfl) rfl rfl ?_
                    refine zy_put (b := 39) he (by rfl) (by rfl) (by rfl) ?_
                    refine zp0 (by rfl) rfl rfl ?_
                    refine zy_v0 (by rfl) (zt_token he n _ a ⟨hS.1, hS.2.1, hS.2.2⟩ hs) ?_
                    intro rv hp1 hq
                    obtain ⟨r1, S2, r2, hT⟩ := hq
                    rw [r1, r2]
                    refine zp0 (by rfl) rfl rfl ?_
                    refine zp_retI (by rfl) ?_
                    simp only [zcf] at h62 h63
                    refine ⟨_, _, rfl, rfl, ?_⟩
                    rw [if_neg hc]
                    first | rw [if_pos (show 0 ≤ (znm S).toInt by omega), if_pos (show 0 ≤ (znm S).toInt by omega)] | rw [if_neg (show ¬ 0 ≤ (znm S).toInt by omega), if_neg (show ¬ 0 ≤ (znm S).toInt by omega)]
                    first | exact ⟨rfl, hT⟩ | (exfalso; omega)
                  · iterate 3 refine zp0 (by rfl) rfl rfl ?_
                    refine zy_v3n (by rfl) (zt_grown he _ _ _) ?_
                    iterate 2 refine zp0 (by rfl) rfl rfl ?_
                    refine zy_put (b := 39) he (by rfl) (by rfl) (by rfl) ?_
                    refine zp0 (by rfl) rfl rfl ?_
                    refine zy_v0 (by rfl) (zt_token he n _ a ⟨hS.1, hS.2.1, hS.2.2⟩ hs) ?_
                    intro rv hp1 hq
                    obtain ⟨r1, S2, r2, hT⟩ := hq
                    rw [r1, r2]
                    refine zp0 (by rfl) rfl rfl ?_
                    refine zp_retI (by rfl) ?_
                    simp only [zcf] at h62 h63
                    refine ⟨_, _, rfl, rfl, ?_⟩
                    rw [if_neg hc]
                    first | rw [if_pos (show 0 ≤ (znm S).toInt by omega), if_pos (show 0 ≤ (znm S).toInt by omega)] | rw [if_neg (show ¬ 0 ≤ (znm S).toInt by omega), if_neg (show ¬ 0 ≤ (znm S).toInt by omega)]
                    first | exact ⟨rfl, hT⟩ | (exfalso; omega)
                · iterate 3 refine zp0 (by rfl) rfl rfl ?_
                  refine zy_if (by rfl) (by rfl) (fun h64 => ?_) (fun h64 => ?_)
                  · refine zp0 (by rfl) rfl rfl ?_
                    refine zy_get (b := 9) he (by rfl) (by rfl) (by rfl) (by rfl) ?_
                    refine zp0 (by rfl) rfl rfl ?_
                    refine zy_v3n (by rfl) (zt_grown he _ _ _) ?_
                    iterate 2 refine zp0 (by rfl) rfl rfl ?_
                    refine zy_put (b := 39) he (by rfl) (by rfl) (by rfl) ?_
                    refine zp0 (by rfl) rfl rfl ?_
                    refine zy_v0 (by rfl) (zt_token he n _ a ⟨hS.1, hS.2.1, hS.2.2⟩ hs) ?_
                    intro rv hp1 hq
                    obtain ⟨r1, S2, r2, hT⟩ := hq
                    rw [r1, r2]
                    refine zp0 (by rfl) rfl rfl ?_
                    refine zp_retI (by rfl) ?_
                    simp only [zcf] at h62 h64
                    refine ⟨_, _, rfl, rfl, ?_⟩
                    rw [if_neg hc]
                    first | rw [if_pos (show 0 ≤ (znm S).toInt by omega), if_pos (show 0 ≤ (znm S).toInt by omega)] | rw [if_neg (show ¬ 0 ≤ (znm S).toInt by omega), if_neg (show ¬ 0 ≤ (znm S).toInt by omega)]
                    first | exact ⟨rfl, hT⟩ | (exfalso; omega)
                  · iterate 3 refine zp0 (by rfl) rfl rfl ?_
                    refine zy_v3n (by rfl) (zt_grown he _ _ _) ?_
                    iterate 2 refine zp0 (by rfl) rfl rfl ?_
                    refine zy_put (b := 39) he (by rfl) (by rfl) (by rfl) ?_
                    refine zp0 (by rfl) rfl rfl ?_
                    refine zy_v0 (by rfl) (zt_token he n _ a ⟨hS.1, hS.2.1, hS.2.2⟩ hs) ?_
                    intro rv hp1 hq
                    obtain ⟨r1, S2, r2, hT⟩ := hq
                    rw [r1, r2]
                    refine zp0 (by rfl) rfl rfl ?_
                    refine zp_retI (by rfl) ?_
                    simp only [zcf] at h62 h64
                    refine ⟨_, _, rfl, rfl, ?_⟩
                    rw [if_neg hc]
                    first | rw [if_pos (show 0 ≤ (znm S).toInt by omega), if_pos (show 0 ≤ (znm S).toInt by omega)] | rw [if_neg (show ¬ 0 ≤ (znm S).toInt by omega), if_neg (show ¬ 0 ≤ (znm S).toInt by omega)]
                    first | exact ⟨rfl, hT⟩ | (exfalso; omega)
              · refine zp0 (by rfl) rfl rfl ?_
                refine zp_retI (by rfl) ?_
                exact absurd (show (1 : Int32).toInt ≠ 0 by decide) h61
          · iterate 2 refine zp0 (by rfl) rfl rfl ?_
            refine zy_v1e (by rfl) (zt_wrong he _) ?_
            refine zp_retI (by rfl) ?_
            simp only [zcf] at h1 h4 h5 h6
            refine ⟨_, _, rfl, rfl, ?_⟩
            rw [if_neg (by omega), if_pos ⟨by omega, by omega⟩]
            exact ⟨rfl, rfl⟩
      · iterate 2 refine zp0 (by rfl) rfl rfl ?_
        refine zy_v1e (by rfl) (zt_wrong he _) ?_
        refine zp_retI (by rfl) ?_
        simp only [zcf] at h1 h4
        refine ⟨_, _, rfl, rfl, ?_⟩
        rw [if_pos ⟨by omega, by omega⟩]
        exact ⟨rfl, rfl⟩
  refine zp0 (by rfl) rfl rfl ?_
  refine zq_bip (by rfl) (by decide) ?_
  refine zy_v1e (by rfl) (zt_isSign he _) ?_
  refine zy_if (by rfl) (by rfl) (fun h1 => ?_) (fun h1 => ?_)
  · refine zp0 (by rfl) rfl rfl ?_
    refine zq_bip (by rfl) (by decide) ?_
    refine zy_v1e (by rfl) (zt_isKey he _) ?_
    refine zy_if (by rfl) (by rfl) (fun h2 => ?_) (fun h2 => ?_)
    · have g0 := zite0 h1
      have g1 : ¬ (zky S 9 ∧ (S 0 40).toInt ≠ 0) := fun q => zite0 h2 q.1
      exact hrest g0 g1 _ _
    · refine zp0 (by rfl) rfl rfl ?_
      refine zy_get (b := 40) he (by rfl) (by rfl) (by rfl) (by rfl) ?_
      refine zy_if (by rfl) (by rfl) (fun h3 => ?_) (fun h3 => ?_)
      · have g0 := zite0 h1
        have g1 : ¬ (zky S 9 ∧ (S 0 40).toInt ≠ 0) := fun q => q.2 h3
        exact hrest g0 g1 _ _
      · have g0 := zite0 h1
        have g1 : zky S 9 ∧ (S 0 40).toInt ≠ 0 := ⟨zite1 h2, h3⟩
        by_cases hc : (S 0 38).toInt = 64
        · refine zp0 (by rfl) rfl rfl ?_
          refine zy_v0e (by rfl) (zt_cnt0 he hc) ?_
          refine zy_if (by rfl) (by rfl) (fun h51 => ?_) (fun h51 => ?_)
          · exact absurd rfl h51
          · refine zp0 (by rfl) rfl rfl ?_
            refine zp_retI (by rfl) ?_
            have hO : zlfO S = (some (Int32.ofInt 2), S) := by
              unfold zlfO
              rw [if_neg g0, if_pos g1, if_pos hc]
            refine ⟨_, _, rfl, rfl, ?_⟩
            rw [hO]
            exact ⟨rfl, rfl⟩
        · refine zp0 (by rfl) rfl rfl ?_
          refine zy_v0e (by rfl) (zt_cnt1 he hc) ?_
          refine zy_if (by rfl) (by rfl) (fun h61 => ?_) (fun h61 => ?_)
          · iterate 2 refine zp0 (by rfl) rfl rfl ?_
            refine zy_v1n (by rfl) (zt_wt he _) ?_
            refine zp0 (by rfl) rfl rfl ?_
            refine zy_v0 (by rfl) (zt_token he n _ a ⟨hS.1, hS.2.1, hS.2.2⟩ hs) ?_
            intro rv hp1 hq
            obtain ⟨r1, S2, r2, hT⟩ := hq
            rw [r1, r2]
            refine zp0 (by rfl) rfl rfl ?_
            refine zp_retI (by rfl) ?_
            have hO : zlfO S = (none, zwt (zcntd S) (Int32.ofInt 2)) := by
              unfold zlfO
              rw [if_neg g0, if_pos g1, if_neg hc]
            refine ⟨_, _, rfl, rfl, ?_⟩
            rw [hO]
            exact ⟨rfl, hT⟩
          · refine zp0 (by rfl) rfl rfl ?_
            refine zp_retI (by rfl) ?_
            exact absurd (show (1 : Int32).toInt ≠ 0 by decide) h61
  · refine zp0 (by rfl) rfl rfl ?_
    refine zy_get (b := 37) he (by rfl) (by rfl) (by rfl) (by rfl) ?_
    refine zq_bip (by rfl) (by decide) ?_
    refine zy_icmpC (by rfl) (by rfl) ⟨by decide, by decide⟩ (fun h4 => ?_) (fun h4 => ?_)
    · iterate 2 refine zp0 (by rfl) rfl rfl ?_
      refine zy_get (b := 37) he (by rfl) (by rfl) (by rfl) (by rfl) ?_
      iterate 2 refine zp0 (by rfl) rfl rfl ?_
      refine zy_put (b := 37) he (by rfl) (by rfl) (by rfl) ?_
      iterate 2 refine zp0 (by rfl) rfl rfl ?_
      refine zy_v1n (by rfl) (zt_wt he _) ?_
      iterate 2 refine zp0 (by rfl) rfl rfl ?_
      refine zy_put (b := 40) he (by rfl) (by rfl) (by rfl) ?_
      refine zp0 (by rfl) rfl rfl ?_
      refine zy_v0 (by rfl) (zt_token he n _ a ⟨hS.1, hS.2.1, hS.2.2⟩ hs) ?_
      intro rv hp1 hq
      obtain ⟨r1, S2, r2, hT⟩ := hq
      rw [r1, r2]
      refine zp0 (by rfl) rfl rfl ?_
      refine zp_retI (by rfl) ?_
      have g0 := zite1 h1
      simp only [zcf] at h4
      have hO : zlfO S = (none, zuS (zwt (zuS S 0 37 (S 0 37 + Int32.ofInt 1)) (Int32.ofInt 0)) 0 40 (Int32.ofInt 1)) := by
        unfold zlfO
        rw [if_pos g0, if_neg h4]
      refine ⟨_, _, rfl, rfl, ?_⟩
      rw [hO]
      exact ⟨rfl, hT⟩
    · iterate 2 refine zp0 (by rfl) rfl rfl ?_
      refine zy_v1e (by rfl) (zt_wrong he _) ?_
      refine zp_retI (by rfl) ?_
      have g0 := zite1 h1
      simp only [zcf, ne_eq, Classical.not_not] at h4
      have hO : zlfO S = (some (Int32.ofInt 2), S) := by
        unfold zlfO
        rw [if_pos g0, if_pos h4]
      refine ⟨_, _, rfl, rfl, ?_⟩
      rw [hO]
      exact ⟨rfl, rfl⟩
end ZTK12
