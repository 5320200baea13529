/-! the model's token: letters, digits -/
theorem zite0 {p : Prop} [Decidable p] (h : zcf .eq (ite p (1 : Int32) 0).toInt 0) : ¬ p := by
  intro hp
  rw [if_pos hp] at h
  exact absurd (show (1 : Int32).toInt = 0 from h) (by decide)
theorem zite1 {p : Prop} [Decidable p] (h : ¬ zcf .eq (ite p (1 : Int32) 0).toInt 0) : p := by
  apply Classical.byContradiction
  intro hp
  rw [if_neg hp] at h
  exact h rfl
theorem zite2 {p : Prop} [Decidable p] (h : zcf .ne (ite p (1 : Int32) 0).toInt 0) : p := by
  apply Classical.byContradiction
  intro hp
  rw [if_neg hp] at h
  exact h rfl
theorem zite3 {p : Prop} [Decidable p] (h : ¬ zcf .ne (ite p (1 : Int32) 0).toInt 0) : ¬ p := by
  intro hp
  rw [if_pos hp] at h
  exact h (show (1 : Int32).toInt ≠ 0 by decide)
def zdigA (T : Nat → Int32) : Nat → Nat → Int → Int
  | 0, _, w => w
  | d + 1, a, w => zdigA T d (a + 1) (if 9999 < w then w else 10 * w + (T a).toInt - 48)
section ZTK3
variable {Lx : Nat} {xs : Nat → Int32} {hp : List zhE} {e : Nat → Nat} {Q : ZP} {m : Nat}
theorem zt_letters (he : zeI e hp zDM.length) : ∀ (n : Nat) (S : Nat → Nat → Int32) (a c s : Nat), zPos m a S → (∀ c s, zPn Lx xs n 167 (114, [(0, .ref (e 0))], [], zHS e zDM (zuS S 0 7 (Int32.ofInt (zend (fun q => zcs1 (S 1 q)) m a : Nat))) hp, c, s) Q) → zPn Lx xs n 167 (90, [(0, .ref (e 0))], [], zHS e zDM S hp, c, s) Q := by
  intro n
  induction n using Nat.strongRecOn with
  | _ n ih =>
  intro S a c s hS hn
  obtain ⟨x1, x2, x3⟩ := zPos_x hS
  iterate 2 refine zp0 (by rfl) rfl rfl ?_
  refine zy_get (b := 7) he (by rfl) (by rfl) (by rfl) (by rfl) ?_
  refine zy_v1e (by rfl) (zt_isSmall he _) ?_
  refine zy_if (by rfl) (by rfl) (fun h1 => ?_) (fun h1 => ?_)
  · have hb := zite0 h1
    simp only [zisS, x1, x2, x3] at hb
    have hz : zend (fun q => zcs1 (S 1 q)) m a = a := zend_no (by
      simp only [zcs1, Bool.and_eq_false_iff, decide_eq_false_iff_not]
      omega)
    rw [hz, ← hS.2.1, zuS_id rfl] at hn
    exact hn _ _
  · iterate 2 refine zp0 (by rfl) rfl rfl ?_
    refine zy_get (b := 7) he (by rfl) (by rfl) (by rfl) (by rfl) ?_
    iterate 2 refine zp0 (by rfl) rfl rfl ?_
    refine zy_put (b := 7) he (by rfl) (by rfl) (by rfl) ?_
    refine zp0l (by rfl) rfl rfl (fun m1 hm1 => ?_)
    obtain ⟨b1, b2, b3⟩ := zite1 h1
    rw [x1, x2] at b1
    rw [x3] at b2 b3
    refine ih m1 hm1 _ (a + 1) _ _ (zPos_up hS (by omega)) (fun c s => zPn.le ?_ (Nat.le_of_lt hm1))
    rw [zuS_same]
    have hz : zend (fun q => zcs1 (zuS S 0 7 (S 0 7 + Int32.ofInt 1) 1 q)) m (a + 1) = zend (fun q => zcs1 (S 1 q)) m a := by
      rw [zend_up (a := a) (by omega) (by simp only [zcs1, Bool.and_eq_true, decide_eq_true_eq]; omega)]
      rfl
    rw [hz]
    exact hn c s
theorem zt_digits (he : zeI e hp zDM.length) : ∀ (n : Nat) (S : Nat → Nat → Int32) (a c s : Nat) (w : Int), zPos m a S → S 0 9 = Int32.ofInt w → 0 ≤ w → w < 100009 → (∀ c s, zPn Lx xs n 167 (282, [(0, .ref (e 0))], [], zHS e zDM (zuS (zuS S 0 9 (Int32.ofInt (zdigA (S 1) (zend (fun q => zcd1 (S 1 q)) m a - a) a w))) 0 7 (Int32.ofInt (zend (fun q => zcd1 (S 1 q)) m a : Nat))) hp, c, s) Q) → zPn Lx xs n 167 (213, [(0, .ref (e 0))], [], zHS e zDM S hp, c, s) Q := by
  intro n
  induction n using Nat.strongRecOn with
  | _ n ih =>
  intro S a c s w hS hw w0 w1 hn
  obtain ⟨x1, x2, x3⟩ := zPos_x hS
  iterate 2 refine zp0 (by rfl) rfl rfl ?_
  refine zy_get (b := 7) he (by rfl) (by rfl) (by rfl) (by rfl) ?_
  refine zy_v1e (by rfl) (zt_isDigit he _) ?_
  refine zy_if (by rfl) (by rfl) (fun h1 => ?_) (fun h1 => ?_)
  · have hb := zite0 h1
    simp only [zisD, x1, x2, x3] at hb
    have hz : zend (fun q => zcd1 (S 1 q)) m a = a := zend_no (by
      simp only [zcd1, Bool.and_eq_false_iff, decide_eq_false_iff_not]
      omega)
    rw [hz, Nat.sub_self] at hn
    have h1 := hn (c + (zrm 166).cells) (s + (zrm 166).slots)
    rw [show zdigA (S 1) 0 a w = w from rfl, ← hS.2.1, ← hw, zuS_id (S := S) (i := 0) (b := 9) rfl, zuS_id rfl] at h1
    exact h1
  · iterate 2 refine zp0 (by rfl) rfl rfl ?_
    refine zy_get (b := 9) he (by rfl) (by rfl) (by rfl) (by rfl) ?_
    refine zq_sip (by rfl) (by decide) ?_
    refine zy_icmpC (by rfl) (by rfl) ⟨by decide, by decide⟩ (fun h2 => ?_) (fun h2 => ?_)
    · refine zq_bip (by rfl) (by decide) ?_
      refine zp0 (by rfl) rfl rfl ?_
      refine zy_get (b := 9) he (by rfl) (by rfl) (by rfl) (by rfl) ?_
      iterate 2 refine zp0 (by rfl) rfl rfl ?_
      refine zy_ref (r := 1) he (by rfl) (by rfl) (by rfl) (by rfl) ?_
      refine zp0 (by rfl) rfl rfl ?_
      refine zy_get (b := 7) he (by rfl) (by rfl) (by rfl) (by rfl) ?_
      refine zy_ald he (by rfl) (by rfl) (fun u3 w3 => ?_)
      refine zp0 (by rfl) rfl rfl ?_
      refine zq_bip (by rfl) (by decide) ?_
      refine zp0 (by rfl) rfl rfl ?_
      refine zy_put (b := 9) he (by rfl) (by rfl) (by rfl) ?_
      iterate 2 refine zp0 (by rfl) rfl rfl ?_
      refine zy_get (b := 7) he (by rfl) (by rfl) (by rfl) (by rfl) ?_
      iterate 2 refine zp0 (by rfl) rfl rfl ?_
      refine zy_put (b := 7) he (by rfl) (by rfl) (by rfl) ?_
      refine zp0l (by rfl) rfl rfl (fun m1 hm1 => ?_)
      obtain ⟨b1, b2, b3⟩ := zite1 h1
      rw [x1, x2] at b1
      rw [x3] at b2 b3
      have wx : (S 0 9).toInt = w := by rw [hw]; exact zRt ⟨by omega, by omega⟩
      simp only [zcf, wx] at h2
      have hv : (Int32.ofInt 10 * S 0 9 + S 1 (S 0 7).toNatClampNeg - Int32.ofInt 48) = Int32.ofInt (if 9999 < w then w else 10 * w + (S 1 a).toInt - 48) := by
        rw [if_neg (by omega), x3, hw, ← Int32.ofInt_mul, ← Int32.ofInt_toInt (S 1 a), ← Int32.ofInt_add, ← Int32.ofInt_sub, Int32.ofInt_toInt]
      show zPn Lx xs m1 167 (213, [(0, .ref (e 0))], [], zHS e zDM (zuS (zuS S 0 9 ((Int32.ofInt 10 * S 0 9 + S 1 (S 0 7).toNatClampNeg - Int32.ofInt 48))) 0 7 (zuS S 0 9 ((Int32.ofInt 10 * S 0 9 + S 1 (S 0 7).toNatClampNeg - Int32.ofInt 48)) 0 7 + Int32.ofInt 1)) hp, c + (zrm 166).cells, s + (zrm 166).slots) Q
      rw [hv]
      have hP : zPos m a (zuS S 0 9 (Int32.ofInt (if 9999 < w then w else 10 * w + (S 1 a).toInt - 48))) := ⟨hS.1, hS.2.1, hS.2.2⟩
      have ht := zend_up (p := fun q => zcd1 (S 1 q)) (m := m) (a := a) (by omega) (by simp only [zcd1, Bool.and_eq_true, decide_eq_true_eq]; omega)
      have hle := (zend_le (p := fun q => zcd1 (S 1 q)) (m := m) (m - (a + 1)) (a + 1) (by omega)).1
      refine ih m1 hm1 _ (a + 1) _ _ (if 9999 < w then w else 10 * w + (S 1 a).toInt - 48) (zPos_up hP (by omega)) (by rw [zuS_off (Or.inr (by decide)), zuS_at]) (by split <;> omega) (by split <;> omega) (fun c s => zPn.le ?_ (Nat.le_of_lt hm1))
      have h1 := hn c s
      rw [ht, show zend (fun q => zcd1 (S 1 q)) m (a + 1) - a = (zend (fun q => zcd1 (S 1 q)) m (a + 1) - (a + 1)) + 1 by omega] at h1
      have hfin : ∀ (u v w x : Int32), zuS (zuS (zuS (zuS S 0 9 u) 0 7 v) 0 9 w) 0 7 x = zuS (zuS S 0 9 w) 0 7 x := by
        intro u v w x
        funext q p
        unfold zuS va_up
        by_cases hq : q = 0
        · subst hq
          by_cases h7 : p = 7
          · simp [h7]
          · by_cases h9 : p = 9
            · simp [h9]
            · simp [h7, h9]
        · simp [hq]
      rw [hfin]
      exact h1
    · refine zp0 (by rfl) rfl rfl ?_
      refine zy_get (b := 9) he (by rfl) (by rfl) (by rfl) (by rfl) ?_
      refine zp0 (by rfl) rfl rfl ?_
      refine zy_put (b := 9) he (by rfl) (by rfl) (by rfl) ?_
      iterate 2 refine zp0 (by rfl) rfl rfl ?_
      refine zy_get (b := 7) he (by rfl) (by rfl) (by rfl) (by rfl) ?_
      iterate 2 refine zp0 (by rfl) rfl rfl ?_
      refine zy_put (b := 7) he (by rfl) (by rfl) (by rfl) ?_
      refine zp0l (by rfl) rfl rfl (fun m1 hm1 => ?_)
      obtain ⟨b1, b2, b3⟩ := zite1 h1
      rw [x1, x2] at b1
      rw [x3] at b2 b3
      have wx : (S 0 9).toInt = w := by rw [hw]; exact zRt ⟨by omega, by omega⟩
      simp only [zcf, wx] at h2
      have hv : S 0 9 = Int32.ofInt (if 9999 < w then w else 10 * w + (S 1 a).toInt - 48) := by
        rw [if_pos (by omega), hw]
      show zPn Lx xs m1 167 (213, [(0, .ref (e 0))], [], zHS e zDM (zuS (zuS S 0 9 (S 0 9)) 0 7 (zuS S 0 9 (S 0 9) 0 7 + Int32.ofInt 1)) hp, c + (zrm 166).cells, s + (zrm 166).slots) Q
      rw [hv]
      have hP : zPos m a (zuS S 0 9 (Int32.ofInt (if 9999 < w then w else 10 * w + (S 1 a).toInt - 48))) := ⟨hS.1, hS.2.1, hS.2.2⟩
      have ht := zend_up (p := fun q => zcd1 (S 1 q)) (m := m) (a := a) (by omega) (by simp only [zcd1, Bool.and_eq_true, decide_eq_true_eq]; omega)
      have hle := (zend_le (p := fun q => zcd1 (S 1 q)) (m := m) (m - (a + 1)) (a + 1) (by omega)).1
      refine ih m1 hm1 _ (a + 1) _ _ (if 9999 < w then w else 10 * w + (S 1 a).toInt - 48) (zPos_up hP (by omega)) (by rw [zuS_off (Or.inr (by decide)), zuS_at]) (by split <;> omega) (by split <;> omega) (fun c s => zPn.le ?_ (Nat.le_of_lt hm1))
      have h1 := hn c s
      rw [ht, show zend (fun q => zcd1 (S 1 q)) m (a + 1) - a = (zend (fun q => zcd1 (S 1 q)) m (a + 1) - (a + 1)) + 1 by omega] at h1
      have hfin : ∀ (u v w x : Int32), zuS (zuS (zuS (zuS S 0 9 u) 0 7 v) 0 9 w) 0 7 x = zuS (zuS S 0 9 w) 0 7 x := by
        intro u v w x
        funext q p
        unfold zuS va_up
        by_cases hq : q = 0
        · subst hq
          by_cases h7 : p = 7
          · simp [h7]
          · by_cases h9 : p = 9
            · simp [h9]
            · simp [h7, h9]
        · simp [hq]
      rw [hfin]
      exact h1
end ZTK3
