/-! signs that wait, bound -/
theorem zrank_rg (x : Int) : 0 ≤ zrank x ∧ zrank x ≤ 6 := by
  unfold zrank
  (repeat' split) <;> omega
theorem zrank_ix (x : Int) : (Int32.ofInt (zrank x)).toInt = zrank x := zRt ⟨by have := zrank_rg x; omega, by have := zrank_rg x; omega⟩
/-- a knot grown out of the last sign that waits -/
def zbst1 (S : Nat → Nat → Int32) : Nat → Nat → Int32 := zuS S 0 35 (S 0 35 - Int32.ofInt 1)
def zbst2 (S : Nat → Nat → Int32) : Nat → Nat → Int32 := zuS S 0 36 (S 0 36 - Int32.ofInt 1)
def zbstK (S : Nat → Nat → Int32) : Int32 := zbst1 S 16 (zbst1 S 0 35).toNatClampNeg
def zbstP (S : Nat → Nat → Int32) : Int32 := S 17 (S 0 36 - Int32.ofInt 1).toNatClampNeg
def zbstep (S : Nat → Nat → Int32) : Nat → Nat → Int32 :=
  if (zbstK S).toInt = 2 then zgrown (zbst2 (zbst1 S)) (zbstK S) (zbstP (zbst1 S)) (Int32.ofInt (-1))
  else zgrown (zbst2 (zbst2 (zbst1 S))) (zbstK S) (zbstP (zbst2 (zbst1 S))) (zbstP (zbst1 S))
def zbindA (least : Int) : Nat → (Nat → Nat → Int32) → Nat → Nat → Int32
  | 0, S => S
  | d + 1, S => if least ≤ zrank (S 16 (S 0 35 - Int32.ofInt 1).toNatClampNeg).toInt then zbindA least d (zbstep S) else S
theorem zbstep_w {S : Nat → Nat → Int32} : zbstep S 0 35 = S 0 35 - Int32.ofInt 1 := by
  unfold zbstep
  split <;> rfl
section ZTK11
variable {Lx : Nat} {xs : Nat → Int32} {hp : List zhE} {e : Nat → Nat} {m : Nat}
theorem zt_bindB (he : zeI e hp zDM.length) (n : Nat) (least : Int32) : ∀ (d : Nat) (S : Nat → Nat → Int32) (c s : Nat) (u2 u3 u4 : Int32), S 0 35 = Int32.ofInt (d : Int) → d < 1000 → zPn Lx xs n 188 (0, [(4, .int u4), (3, .int u3), (2, .int u2), (0, .ref (e 0)), (1, .int least)], [], zHS e zDM S hp, c, s) (fun rv hp1 => rv = none ∧ hp1 = zHS e zDM (zbindA least.toInt d S) hp) := by
  intro d
  induction d with
  | zero =>
    intro S c s u2 u3 u4 hS hd
    have e0 : (S 0 35).toInt = 0 := by rw [hS]; decide
    refine zp0 (by rfl) rfl rfl ?_
    refine zy_get (b := 35) he (by rfl) (by rfl) (by rfl) (by rfl) ?_
    refine zy_if (by rfl) (by rfl) (fun h1 => ?_) (fun h1 => ?_)
    · refine zp_retV (by rfl) ?_
      exact ⟨rfl, rfl⟩
    · exfalso
      simp only [zcf, e0] at h1
      omega
  | succ d ih =>
    intro S c s u2 u3 u4 hS hd
    have e0 : (S 0 35).toInt = (d : Int) + 1 := by rw [hS]; exact zRt ⟨by omega, by omega⟩
    have hw : zbstep S 0 35 = Int32.ofInt (d : Int) := by
      rw [zbstep_w, hS, ← Int32.ofInt_sub]
      congr 1
      omega
    refine zp0 (by rfl) rfl rfl ?_
    refine zy_get (b := 35) he (by rfl) (by rfl) (by rfl) (by rfl) ?_
    refine zy_if (by rfl) (by rfl) (fun h1 => ?_) (fun h1 => ?_)
    · refine zp_retV (by rfl) ?_
      exfalso
      simp only [zcf, e0] at h1
      omega
    · refine zp0 (by rfl) rfl rfl ?_
      refine zy_ref (r := 16) he (by rfl) (by rfl) (by rfl) (by rfl) ?_
      refine zp0 (by rfl) rfl rfl ?_
      refine zy_get (b := 35) he (by rfl) (by rfl) (by rfl) (by rfl) ?_
      iterate 2 refine zp0 (by rfl) rfl rfl ?_
      refine zy_ald he (by rfl) (by rfl) (fun u2 w2 => ?_)
      refine zy_s1e (by rfl) (by rfl) (zt_rank) ?_
      refine zp0 (by rfl) rfl rfl ?_
      refine zy_icmp (by rfl) (by rfl) (fun h3 => ?_) (fun h3 => ?_)
      · refine zp_retV (by rfl) ?_
        refine ⟨rfl, ?_⟩
        simp only [zcf, zrank_ix] at h3
        have hz : zbindA least.toInt (d + 1) S = S := if_neg (by omega)
        rw [hz]
      · iterate 2 refine zp0 (by rfl) rfl rfl ?_
        refine zy_get (b := 35) he (by rfl) (by rfl) (by rfl) (by rfl) ?_
        iterate 2 refine zp0 (by rfl) rfl rfl ?_
        refine zy_put (b := 35) he (by rfl) (by rfl) (by rfl) ?_
        refine zp0 (by rfl) rfl rfl ?_
        refine zy_ref (r := 16) he (by rfl) (by rfl) (by rfl) (by rfl) ?_
        refine zp0 (by rfl) rfl rfl ?_
        refine zy_get (b := 35) he (by rfl) (by rfl) (by rfl) (by rfl) ?_
        refine zy_ald he (by rfl) (by rfl) (fun u4 w4 => ?_)
        iterate 3 refine zp0 (by rfl) rfl rfl ?_
        refine zy_icmpC (by rfl) (by rfl) ⟨by decide, by decide⟩ (fun h5 => ?_) (fun h5 => ?_)
        · refine zp0 (by rfl) rfl rfl ?_
          refine zy_v0e (by rfl) (zt_dropHeld he) ?_
          iterate 2 refine zp0 (by rfl) rfl rfl ?_
          refine zy_v0e (by rfl) (zt_dropHeld he) ?_
          iterate 5 refine zp0 (by rfl) rfl rfl ?_
          refine zy_v3n (by rfl) (zt_grown he _ _ _) ?_
          refine zp0 (by rfl) rfl rfl ?_
          have hk : zbstep S = zgrown (zbst2 (zbst2 (zbst1 S))) (zbstK S) (zbstP (zbst2 (zbst1 S))) (zbstP (zbst1 S)) := if_neg h5
          simp only [zcf, zrank_ix] at h3
          have hz : zbindA least.toInt (d + 1) S = zbindA least.toInt d (zbstep S) := if_pos (by omega)
          rw [hz]
          have h9 := fun c s u2 u3 u4 => ih (zbstep S) c s u2 u3 u4 hw (by omega)
          rw [hk] at h9 ⊢
          exact h9 _ _ _ _ _
        · iterate 4 refine zp0 (by rfl) rfl rfl ?_
          refine zy_v0e (by rfl) (zt_dropHeld he) ?_
          iterate 5 refine zp0 (by rfl) rfl rfl ?_
          refine zy_v3n (by rfl) (zt_grown he _ _ _) ?_
          refine zp0 (by rfl) rfl rfl ?_
          have hk : zbstep S = zgrown (zbst2 (zbst1 S)) (zbstK S) (zbstP (zbst1 S)) (Int32.ofInt (-1)) := if_pos (Classical.not_not.mp h5)
          simp only [zcf, zrank_ix] at h3
          have hz : zbindA least.toInt (d + 1) S = zbindA least.toInt d (zbstep S) := if_pos (by omega)
          rw [hz]
          have h9 := fun c s u2 u3 u4 => ih (zbstep S) c s u2 u3 u4 hw (by omega)
          rw [hk] at h9 ⊢
          exact h9 _ _ _ _ _
theorem zt_bind (he : zeI e hp zDM.length) (n : Nat) (least : Int32) : ∀ (d : Nat) (S : Nat → Nat → Int32), S 0 35 = Int32.ofInt (d : Int) → d < 1000 → zPn Lx xs n 188 (0, lv_args 0 [.ref (e 0), .int least], [], zHS e zDM S hp, 0, 0) (fun rv hp1 => rv = none ∧ hp1 = zHS e zDM (zbindA least.toInt d S) hp) := by
  intro d
  cases d with
  | zero =>
    intro S hS hd
    have e0 : (S 0 35).toInt = 0 := by rw [hS]; decide
    refine zp0 (by rfl) rfl rfl ?_
    refine zy_get (b := 35) he (by rfl) (by rfl) (by rfl) (by rfl) ?_
    refine zy_if (by rfl) (by rfl) (fun h1 => ?_) (fun h1 => ?_)
    · refine zp_retV (by rfl) ?_
      exact ⟨rfl, rfl⟩
    · exfalso
      simp only [zcf, e0] at h1
      omega
  | succ d =>
    intro S hS hd
    have e0 : (S 0 35).toInt = (d : Int) + 1 := by rw [hS]; exact zRt ⟨by omega, by omega⟩
    have hw : zbstep S 0 35 = Int32.ofInt (d : Int) := by
      rw [zbstep_w, hS, ← Int32.ofInt_sub]
      congr 1
      omega
    refine zp0 (by rfl) rfl rfl ?_
    refine zy_get (b := 35) he (by rfl) (by rfl) (by rfl) (by rfl) ?_
    refine zy_if (by rfl) (by rfl) (fun h1 => ?_) (fun h1 => ?_)
    · refine zp_retV (by rfl) ?_
      exfalso
      simp only [zcf, e0] at h1
      omega
    · refine zp0 (by rfl) rfl rfl ?_
      refine zy_ref (r := 16) he (by rfl) (by rfl) (by rfl) (by rfl) ?_
      refine zp0 (by rfl) rfl rfl ?_
      refine zy_get (b := 35) he (by rfl) (by rfl) (by rfl) (by rfl) ?_
      iterate 2 refine zp0 (by rfl) rfl rfl ?_
      refine zy_ald he (by rfl) (by rfl) (fun u2 w2 => ?_)
      refine zy_s1e (by rfl) (by rfl) (zt_rank) ?_
      refine zp0 (by rfl) rfl rfl ?_
      refine zy_icmp (by rfl) (by rfl) (fun h3 => ?_) (fun h3 => ?_)
      · refine zp_retV (by rfl) ?_
        refine ⟨rfl, ?_⟩
        simp only [zcf, zrank_ix] at h3
        have hz : zbindA least.toInt (d + 1) S = S := if_neg (by omega)
        rw [hz]
      · iterate 2 refine zp0 (by rfl) rfl rfl ?_
        refine zy_get (b := 35) he (by rfl) (by rfl) (by rfl) (by rfl) ?_
        iterate 2 refine zp0 (by rfl) rfl rfl ?_
        refine zy_put (b := 35) he (by rfl) (by rfl) (by rfl) ?_
        refine zp0 (by rfl) rfl rfl ?_
        refine zy_ref (r := 16) he (by rfl) (by rfl) (by rfl) (by rfl) ?_
        refine zp0 (by rfl) rfl rfl ?_
        refine zy_get (b := 35) he (by rfl) (by rfl) (by rfl) (by rfl) ?_
        refine zy_ald he (by rfl) (by rfl) (fun u4 w4 => ?_)
        iterate 3 refine zp0 (by rfl) rfl rfl ?_
        refine zy_icmpC (by rfl) (by rfl) ⟨by decide, by decide⟩ (fun h5 => ?_) (fun h5 => ?_)
        · refine zp0 (by rfl) rfl rfl ?_
          refine zy_v0e (by rfl) (zt_dropHeld he) ?_
          iterate 2 refine zp0 (by rfl) rfl rfl ?_
          refine zy_v0e (by rfl) (zt_dropHeld he) ?_
          iterate 5 refine zp0 (by rfl) rfl rfl ?_
          refine zy_v3n (by rfl) (zt_grown he _ _ _) ?_
          refine zp0 (by rfl) rfl rfl ?_
          have hk : zbstep S = zgrown (zbst2 (zbst2 (zbst1 S))) (zbstK S) (zbstP (zbst2 (zbst1 S))) (zbstP (zbst1 S)) := if_neg h5
          simp only [zcf, zrank_ix] at h3
          have hz : zbindA least.toInt (d + 1) S = zbindA least.toInt d (zbstep S) := if_pos (by omega)
          rw [hz]
          have h9 := fun c s u2 u3 u4 => zt_bindB (Lx := Lx) (xs := xs) (hp := hp) he n least d (zbstep S) c s u2 u3 u4 hw (by omega)
          rw [hk] at h9 ⊢
          exact h9 _ _ _ _ _
        · iterate 4 refine zp0 (by rfl) rfl rfl ?_
          refine zy_v0e (by rfl) (zt_dropHeld he) ?_
          iterate 5 refine zp0 (by rfl) rfl rfl ?_
          refine zy_v3n (by rfl) (zt_grown he _ _ _) ?_
          refine zp0 (by rfl) rfl rfl ?_
          have hk : zbstep S = zgrown (zbst2 (zbst1 S)) (zbstK S) (zbstP (zbst1 S)) (Int32.ofInt (-1)) := if_pos (Classical.not_not.mp h5)
          simp only [zcf, zrank_ix] at h3
          have hz : zbindA least.toInt (d + 1) S = zbindA least.toInt d (zbstep S) := if_pos (by omega)
          rw [hz]
          have h9 := fun c s u2 u3 u4 => zt_bindB (Lx := Lx) (xs := xs) (hp := hp) he n least d (zbstep S) c s u2 u3 u4 hw (by omega)
          rw [hk] at h9 ⊢
          exact h9 _ _ _ _ _
end ZTK11
