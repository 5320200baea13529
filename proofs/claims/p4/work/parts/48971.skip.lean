/-! the model's token, loop by loop -/
def zcb1 (x : Int32) : Bool := decide (x.toInt = 10) || decide (x.toInt = 32)
def zcs1 (x : Int32) : Bool := decide (97 ≤ x.toInt) && decide (x.toInt ≤ 122)
def zcd1 (x : Int32) : Bool := decide (48 ≤ x.toInt) && decide (x.toInt ≤ 57)
section ZTK2
variable {Lx : Nat} {xs : Nat → Int32} {hp : List zhE} {e : Nat → Nat} {Q : ZP} {m : Nat} {c s : Nat}
/-- the model at a place of a text -/
def zPos (m a : Nat) (S : Nat → Nat → Int32) : Prop := S 0 6 = Int32.ofInt (m : Int) ∧ S 0 7 = Int32.ofInt (a : Int) ∧ a ≤ m ∧ m ≤ 600
theorem zPos_x {m a : Nat} {S : Nat → Nat → Int32} (h : zPos m a S) : (S 0 6).toInt = m ∧ (S 0 7).toInt = a ∧ (S 0 7).toNatClampNeg = a := by
  obtain ⟨h1, h2, h3, h4⟩ := h
  rw [h1, h2]
  exact ⟨zof_ix (by omega), zof_ix (by omega), zof_cl (by omega)⟩
theorem zPos_up {m a : Nat} {S : Nat → Nat → Int32} (h : zPos m a S) (ha : a < m) : zPos m (a + 1) (zuS S 0 7 (S 0 7 + Int32.ofInt 1)) := by
  obtain ⟨h1, h2, h3, h4⟩ := h
  refine ⟨?_, ?_, ha, h4⟩
  · rw [zuS_off (Or.inr (by decide))]
    exact h1
  · rw [zuS_at, h2, zof_up]
theorem zt_skip (he : zeI e hp zDM.length) : ∀ (n : Nat) (S : Nat → Nat → Int32) (a : Nat), zPos m a S → zPn Lx xs n 167 (52, [(0, .ref (e 0))], [], zHS e zDM (zuS S 0 7 (Int32.ofInt (zend (fun q => zcb1 (S 1 q)) m a : Nat))) hp, c, s) Q → zPn Lx xs n 167 (0, [(0, .ref (e 0))], [], zHS e zDM S hp, c, s) Q := by
  intro n
  induction n using Nat.strongRecOn with
  | _ n ih =>
  intro S a hS hn
  obtain ⟨x1, x2, x3⟩ := zPos_x hS
  refine zp0 (by rfl) rfl rfl ?_
  refine zy_get (b := 7) he (by rfl) (by rfl) (by rfl) (by rfl) ?_
  refine zp0 (by rfl) rfl rfl ?_
  refine zy_get (b := 6) he (by rfl) (by rfl) (by rfl) (by rfl) ?_
  refine zy_icmp (by rfl) (by rfl) (fun h1 => ?_) (fun h1 => ?_)
  · have hz : zend (fun q => zcb1 (S 1 q)) m a = a := zend_no (by
      simp only [zcb1, Bool.or_eq_false_iff, decide_eq_false_iff_not]
      simp only [zcf, x3] at h1
      omega)
    rw [hz, ← hS.2.1, zuS_id rfl] at hn
    exact hn
  · refine zp0 (by rfl) rfl rfl ?_
    refine zy_ref (r := 1) he (by rfl) (by rfl) (by rfl) (by rfl) ?_
    refine zp0 (by rfl) rfl rfl ?_
    refine zy_get (b := 7) he (by rfl) (by rfl) (by rfl) (by rfl) ?_
    refine zy_ald he (by rfl) (by rfl) (fun u2 w2 => ?_)
    refine zq_bip (by rfl) (by decide) ?_
    refine zy_icmpC (by rfl) (by rfl) ⟨by decide, by decide⟩ (fun h3 => ?_) (fun h3 => ?_)
    · iterate 2 refine zp0 (by rfl) rfl rfl ?_
      refine zy_get (b := 7) he (by rfl) (by rfl) (by rfl) (by rfl) ?_
      iterate 2 refine zp0 (by rfl) rfl rfl ?_
      refine zy_put (b := 7) he (by rfl) (by rfl) (by rfl) ?_
      refine zp0l (by rfl) rfl rfl (fun m1 hm1 => ?_)
      refine ih m1 hm1 _ (a + 1) (zPos_up hS (by simp only [zcf] at h1 h3; omega)) (zPn.le ?_ (Nat.le_of_lt hm1))
      rw [zuS_same]
      have hz : zend (fun q => zcb1 (zuS S 0 7 (S 0 7 + Int32.ofInt 1) 1 q)) m (a + 1) = zend (fun q => zcb1 (S 1 q)) m a := by
        rw [zend_up (a := a) (by simp only [zcf] at h1 h3; omega) (by simp only [zcb1, Bool.or_eq_true, decide_eq_true_eq]; simp only [zcf, x3] at h1 h3; omega)]
        rfl
      rw [hz]
      exact hn
    · refine zp0 (by rfl) rfl rfl ?_
      refine zy_ref (r := 1) he (by rfl) (by rfl) (by rfl) (by rfl) ?_
      refine zp0 (by rfl) rfl rfl ?_
      refine zy_get (b := 7) he (by rfl) (by rfl) (by rfl) (by rfl) ?_
      refine zy_ald he (by rfl) (by rfl) (fun u4 w4 => ?_)
      refine zq_bip (by rfl) (by decide) ?_
      refine zy_icmpC (by rfl) (by rfl) ⟨by decide, by decide⟩ (fun h5 => ?_) (fun h5 => ?_)
      · have hz : zend (fun q => zcb1 (S 1 q)) m a = a := zend_no (by
          simp only [zcb1, Bool.or_eq_false_iff, decide_eq_false_iff_not]
          simp only [zcf, x3] at h1 h3 h5
          omega)
        rw [hz, ← hS.2.1, zuS_id rfl] at hn
        exact hn
      · iterate 2 refine zp0 (by rfl) rfl rfl ?_
        refine zy_get (b := 7) he (by rfl) (by rfl) (by rfl) (by rfl) ?_
        iterate 2 refine zp0 (by rfl) rfl rfl ?_
        refine zy_put (b := 7) he (by rfl) (by rfl) (by rfl) ?_
        refine zp0l (by rfl) rfl rfl (fun m1 hm1 => ?_)
        refine ih m1 hm1 _ (a + 1) (zPos_up hS (by simp only [zcf] at h1 h3 h5; omega)) (zPn.le ?_ (Nat.le_of_lt hm1))
        rw [zuS_same]
        have hz : zend (fun q => zcb1 (zuS S 0 7 (S 0 7 + Int32.ofInt 1) 1 q)) m (a + 1) = zend (fun q => zcb1 (S 1 q)) m a := by
          rw [zend_up (a := a) (by simp only [zcf] at h1 h3 h5; omega) (by simp only [zcb1, Bool.or_eq_true, decide_eq_true_eq]; simp only [zcf, x3] at h1 h3 h5; omega)]
          rfl
        rw [hz]
        exact hn
end ZTK2
