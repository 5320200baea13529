/-! push (231): an edge, or none, as a function of the rows -/
theorem zls_same {α : Type} {l : List α} {i : Nat} {x : α} (h : l[i]? = some x) : l.set i x = l := by
  apply List.ext_getElem?
  intro y
  by_cases e : i = y
  · subst e
    rw [List.getElem?_set_self (List.getElem?_eq_some_iff.mp h).1, h]
  · rw [List.getElem?_set_ne e]
/-- the rows that edges rest on -/
def zRX (j iL iF iW iH iR : Nat) (ev fl : Int32) (lf ff wf hf rf : Nat → Int32) (vs : List Value) (hp : List zhE) : Prop := hp[j]? = some (.inr (12, vs)) ∧ vs[13]? = some (.int ev) ∧ vs[21]? = some (.ref iL) ∧ vs[22]? = some (.ref iF) ∧ vs[23]? = some (.ref iW) ∧ vs[24]? = some (.ref iH) ∧ vs[26]? = some (.ref iR) ∧ vs[42]? = some (.int fl) ∧ (∃ y, vs[43]? = some (.int y)) ∧ (∃ y, vs[44]? = some (.int y)) ∧ hp[iL]? = some (.inl (0, 20, .inl lf)) ∧ hp[iF]? = some (.inl (0, 20, .inl ff)) ∧ hp[iW]? = some (.inl (0, 20, .inl wf)) ∧ hp[iH]? = some (.inl (0, 20, .inl hf)) ∧ hp[iR]? = some (.inl (0, 20, .inl rf))
section ZPX
variable {lk : ZLP} {Lx : Nat} {xs : Nat → Int32} {Q : ZP} {j iL iF iW iH iR : Nat} {ev fl : Int32} {lf ff wf hf rf : Nat → Int32} {vs : List Value} {hp : List zhE}
theorem zRX.rw (H : zRX j iL iF iW iH iR ev fl lf ff wf hf rf vs hp) : zRW j iL iF iW iH ev lf ff wf hf hp := by
  obtain ⟨h1, h2, h3, h4, h5, h6, h7, h8, h9, h10, h11, h12, h13, h14, h15⟩ := H
  exact ⟨vs, h1, h2, h3, h4, h5, h6, h11, h12, h13, h14⟩
theorem zRX.put (H : zRX j iL iF iW iH iR ev fl lf ff wf hf rf vs hp) {b : Nat} (hb : b = 43 ∨ b = 44 ∨ b = 48) (x : Int32) : zRX j iL iF iW iH iR ev fl lf ff wf hf rf (vs.set b (.int x)) (hp.set j (.inr (12, vs.set b (.int x)))) := by
  obtain ⟨h1, h2, h3, h4, h5, h6, h7, h8, ⟨y, h9⟩, ⟨z, h10⟩, h11, h12, h13, h14, h15⟩ := H
  have ne : ∀ {i f}, hp[i]? = some (.inl f) → j ≠ i := fun h e => by rw [← e, h1] at h; cases h
  have hl := (List.getElem?_eq_some_iff.mp h1).1
  have g : ∀ c w, vs[c]? = some w → c ≠ b → (vs.set b (.int x))[c]? = some w := fun c w h n => by rw [List.getElem?_set_ne (Ne.symm n)]; exact h
  have q : ∀ c, (∃ y : Int32, vs[c]? = some (Value.int y)) → ∃ y : Int32, (vs.set b (Value.int x))[c]? = some (Value.int y) := fun c hc => by
    obtain ⟨y, h⟩ := hc
    by_cases e : b = c
    · subst e
      exact ⟨x, List.getElem?_set_self (List.getElem?_eq_some_iff.mp h).1⟩
    · exact ⟨y, by rw [List.getElem?_set_ne e]; exact h⟩
  exact ⟨List.getElem?_set_self hl, g _ _ h2 (by omega), g _ _ h3 (by omega), g _ _ h4 (by omega), g _ _ h5 (by omega), g _ _ h6 (by omega), g _ _ h7 (by omega), g _ _ h8 (by omega), q _ ⟨y, h9⟩, q _ ⟨z, h10⟩, by rw [List.getElem?_set_ne (ne h11)]; exact h11, by rw [List.getElem?_set_ne (ne h12)]; exact h12, by rw [List.getElem?_set_ne (ne h13)]; exact h13, by rw [List.getElem?_set_ne (ne h14)]; exact h14, by rw [List.getElem?_set_ne (ne h15)]; exact h15⟩
/-- twice the middle -/
def zCt (lf wf : Nat → Int32) (t : Nat) : Int32 := Int32.ofInt 2 * lf t + wf t
theorem zctr (H : zRW j iL iF iW iH ev lf ff wf hf hp) {t : Nat} (ht : t < 20) : zWP lk Lx xs 197 (0, lv_args 0 [.ref j, .int (Int32.ofInt (t : Int))], [], hp, 0, 0) (zPu (zCt lf wf t) hp) := by
  obtain ⟨vs, h1, h2, h3, h4, h5, h6, h7, h8, h9, h10⟩ := H
  iterate 2 refine zs0 (by rfl) rfl rfl ?_
  refine zs_get (by rfl) h1 h3 ?_
  refine zs0 (by rfl) rfl rfl ?_
  refine zs_aldN (by rfl) h7 ht (by decide) ?_
  refine zs_mul (by rfl) ?_
  refine zs0 (by rfl) rfl rfl ?_
  refine zs_get (by rfl) h1 h5 ?_
  refine zs0 (by rfl) rfl rfl ?_
  refine zs_aldN (by rfl) h9 ht (by decide) ?_
  refine zs_add (by rfl) ?_
  exact zs_retI (by rfl) ⟨rfl, rfl⟩
/-- the answer, and the two ends set anew -/
def zPe (j : Nat) (vs : List Value) (hp : List zhE) (x : Int32) : ZP := fun rv hp' => rv = some (.int x) ∧ ∃ y z : Int32, hp' = hp.set j (.inr (12, (vs.set 43 (.int y)).set 44 (.int z)))
theorem zPe_0 (H : zRX j iL iF iW iH iR ev fl lf ff wf hf rf vs hp) (x : Int32) : zPe j vs hp x (some (.int x)) hp := by
  obtain ⟨h1, -, -, -, -, -, -, -, ⟨y, h9⟩, ⟨z, h10⟩, -⟩ := H
  exact ⟨rfl, y, z, by rw [zls_same h9, zls_same h10, zls_same h1]⟩
/-- on the shelf -/
def zfA (lf : Nat → Int32) (fl : Int32) (t : Nat) : Int32 := cond (zcb .ne fl 0) (zFr lf t) (cond (zcb .le (zFr lf t) 0) (Int32.ofInt 0) (zFr lf t))
def zfB (lf wf : Nat → Int32) (t : Nat) (r : Int32) : Int32 := cond (zcb .ge (zTo lf wf t) r) r (zTo lf wf t)
def zSh (lf wf rf : Nat → Int32) (fl : Int32) (t : Nat) (r : Int32) : Int32 :=
  cond (zcb .ne (rf t) (Int32.ofInt 1)) (cond (zcb .ge (zfA lf fl t) (zfB lf wf t r)) (Int32.ofInt 0) (Int32.ofInt 1))
    (cond (zcb .ne fl 0) (cond (zcb .gt (zCt lf wf t) r) (Int32.ofInt 0) (Int32.ofInt 1)) (cond (zcb .lt (zCt lf wf t) 0) (Int32.ofInt 0) (cond (zcb .gt (zCt lf wf t) r) (Int32.ofInt 0) (Int32.ofInt 1))))
def zE1 (lf ff wf rf : Nat → Int32) (ev fl : Int32) (t : Nat) : Int32 := cond (zcb .eq (ff t) 0) (zSh lf wf rf fl t (cond (zcb .eq fl 0) (Int32.ofInt 2 * ev) (Int32.ofInt 0))) (Int32.ofInt 0)
set_option maxHeartbeats 4000000 in
theorem zon_t (H : zRX j iL iF iW iH iR ev fl lf ff wf hf rf vs hp) {t : Nat} (ht : t < 9) (r : Int32) : zWP lk Lx xs 199 (29, [(2, .int r), (0, .ref j), (1, .int (Int32.ofInt (t : Int)))], [], hp, 0, 0) (zPe j vs hp (zSh lf wf rf fl t r)) := by
  obtain ⟨h1, h2, h3, h4, h5, h6, h7, h8, ⟨y0, h9⟩, ⟨z0, h10⟩, h11, h12, h13, h14, h15⟩ := id H
  have l43 := (List.getElem?_eq_some_iff.mp h9).1
  have l44 := (List.getElem?_eq_some_iff.mp h10).1
  refine zs0 (by rfl) rfl rfl ?_
  refine zs_get (by rfl) h1 h7 ?_
  refine zs0 (by rfl) rfl rfl ?_
  refine zs_aldN (by rfl) h15 (by omega) (by decide) ?_
  refine zs0 (by rfl) rfl rfl ?_
  refine zs_icmp (by rfl) (t := 84) (by rfl) (fun q1 => ?_) (fun q1 => ?_)
  · -- not round: from
    have e1 : zSh lf wf rf fl t r = cond (zcb .ge (zfA lf fl t) (zfB lf wf t r)) (Int32.ofInt 0) (Int32.ofInt 1) := by simp only [zSh, q1, cond_true]
    rw [e1]
    have on : zWP lk Lx xs 199 (109, [(2, .int r), (0, .ref j), (1, .int (Int32.ofInt (t : Int)))], [.int (zfA lf fl t), .ref j], hp, 0, 0) (zPe j vs hp (cond (zcb .ge (zfA lf fl t) (zfB lf wf t r)) (Int32.ofInt 0) (Int32.ofInt 1))) := by
      refine zs_put (by rfl) h1 (by omega) (by rfl) ?_
      have H1 := H.put (Or.inl rfl) (zfA lf fl t)
      have h43 : (vs.set 43 (.int (zfA lf fl t)))[43]? = some (.int (zfA lf fl t)) := List.getElem?_set_self l43
      obtain ⟨k1, k2, k3, k4, k5, k6, k7, k8, k9, k10, k11, k12, k13, k14, k15⟩ := id H1
      generalize hg1 : hp.set j (.inr (12, vs.set 43 (.int (zfA lf fl t)))) = hp1 at H1 k1 k11 k12 k13 k14 k15
      have onB : zWP lk Lx xs 199 (131, [(2, .int r), (0, .ref j), (1, .int (Int32.ofInt (t : Int)))], [.int (zfB lf wf t r), .ref j], hp1, 0, 0) (zPe j vs hp (cond (zcb .ge (zfA lf fl t) (zfB lf wf t r)) (Int32.ofInt 0) (Int32.ofInt 1))) := by
        refine zs_put (by rfl) k1 (by rw [List.length_set]; omega) (by rfl) ?_
        have hs : hp1.set j (.inr (12, (vs.set 43 (.int (zfA lf fl t))).set 44 (.int (zfB lf wf t r)))) = hp.set j (.inr (12, (vs.set 43 (.int (zfA lf fl t))).set 44 (.int (zfB lf wf t r)))) := by rw [← hg1, List.set_set]
        rw [hs]
        have m1 : (hp.set j (.inr (12, (vs.set 43 (.int (zfA lf fl t))).set 44 (.int (zfB lf wf t r)))))[j]? = some (.inr (12, (vs.set 43 (.int (zfA lf fl t))).set 44 (.int (zfB lf wf t r)))) := List.getElem?_set_self (List.getElem?_eq_some_iff.mp h1).1
        have m43 : ((vs.set 43 (.int (zfA lf fl t))).set 44 (.int (zfB lf wf t r)))[43]? = some (.int (zfA lf fl t)) := by rw [List.getElem?_set_ne (by decide)]; exact h43
        have m44 : ((vs.set 43 (.int (zfA lf fl t))).set 44 (.int (zfB lf wf t r)))[44]? = some (.int (zfB lf wf t r)) := List.getElem?_set_self (by rw [List.length_set]; omega)
        refine zs0 (by rfl) rfl rfl ?_
        refine zs_get (by rfl) m1 m43 ?_
        refine zs0 (by rfl) rfl rfl ?_
        refine zs_get (by rfl) m1 m44 ?_
        refine zs_icmp (by rfl) (t := 149) (by rfl) (fun q => ?_) (fun q => ?_)
        · rw [q]
          refine zs0 (by rfl) rfl rfl ?_
          exact zs_ret (by rfl) (Or.inr (Or.inl (by decide))) ⟨rfl, _, _, rfl⟩
        · rw [q]
          iterate 2 refine zs0 (by rfl) rfl rfl ?_
          exact zs_ret (by rfl) (Or.inr (Or.inr (by decide))) ⟨rfl, _, _, rfl⟩
      iterate 3 refine zs0 (by rfl) rfl rfl ?_
      refine zs_virt (vs := [.int (Int32.ofInt (t : Int))]) (by rfl) rfl k1 (by rfl) (Nat.le_of_ble_eq_true (by rfl)) (Nat.le_of_ble_eq_true (by rfl)) (by decide +kernel) (by decide +kernel) (zto H1.rw (by omega)) ?_
      rintro rv hq ⟨rfl, rfl⟩
      refine zs0 (by rfl) rfl rfl ?_
      refine zs_icmp (by rfl) (t := 130) (by rfl) (fun q => ?_) (fun q => ?_)
      · refine zs0 (by rfl) rfl rfl ?_
        have e : zfB lf wf t r = r := by simp only [zfB, q, cond_true]
        rw [e] at onB ⊢
        exact onB
      · iterate 2 refine zs0 (by rfl) rfl rfl ?_
        refine zs_virt (vs := [.int (Int32.ofInt (t : Int))]) (by rfl) rfl k1 (by rfl) (Nat.le_of_ble_eq_true (by rfl)) (Nat.le_of_ble_eq_true (by rfl)) (by decide +kernel) (by decide +kernel) (zto H1.rw (by omega)) ?_
        rintro rv hq ⟨rfl, rfl⟩
        refine zs0 (by rfl) rfl rfl ?_
        have e : zfB lf wf t r = zTo lf wf t := by simp only [zfB, q, cond_false]
        rw [e] at onB ⊢
        exact onB
    have fr : zfA lf fl t = zFr lf t → zWP lk Lx xs 199 (100, [(2, .int r), (0, .ref j), (1, .int (Int32.ofInt (t : Int)))], [.ref j], hp, 0, 0) (zPe j vs hp (cond (zcb .ge (zfA lf fl t) (zfB lf wf t r)) (Int32.ofInt 0) (Int32.ofInt 1))) := by
      intro e
      iterate 2 refine zs0 (by rfl) rfl rfl ?_
      refine zs_virt (vs := [.int (Int32.ofInt (t : Int))]) (by rfl) rfl h1 (by rfl) (Nat.le_of_ble_eq_true (by rfl)) (Nat.le_of_ble_eq_true (by rfl)) (by decide +kernel) (by decide +kernel) (zfrm H.rw (by omega)) ?_
      rintro rv hq ⟨rfl, rfl⟩
      refine zs0 (by rfl) rfl rfl ?_
      rw [e] at on ⊢
      exact on
    iterate 2 refine zs0 (by rfl) rfl rfl ?_
    refine zs_get (by rfl) h1 h8 ?_
    refine zs_if (by rfl) (t := 100) (by rfl) (fun q2 => fr (by simp only [zfA, q2, cond_true])) (fun q2 => ?_)
    iterate 2 refine zs0 (by rfl) rfl rfl ?_
    refine zs_virt (vs := [.int (Int32.ofInt (t : Int))]) (by rfl) rfl h1 (by rfl) (Nat.le_of_ble_eq_true (by rfl)) (Nat.le_of_ble_eq_true (by rfl)) (by decide +kernel) (by decide +kernel) (zfrm H.rw (by omega)) ?_
    rintro rv hq ⟨rfl, rfl⟩
    refine zs_if (by rfl) (t := 108) (by rfl) (fun q3 => ?_) (fun q3 => fr (by simp only [zfA, q2, q3, cond_false]))
    refine zs0 (by rfl) rfl rfl ?_
    have e : zfA lf fl t = Int32.ofInt 0 := by simp only [zfA, q2, q3, cond_false, cond_true]
    rw [e] at on ⊢
    exact on
  · -- round
    iterate 3 refine zs0 (by rfl) rfl rfl ?_
    refine zs_virt (vs := [.int (Int32.ofInt (t : Int))]) (by rfl) rfl h1 (by rfl) (Nat.le_of_ble_eq_true (by rfl)) (Nat.le_of_ble_eq_true (by rfl)) (by decide +kernel) (by decide +kernel) (zctr H.rw (by omega)) ?_
    rintro rv hq ⟨rfl, rfl⟩
    refine zs_put (by rfl) h1 (by omega) (by rfl) ?_
    have e1 : zSh lf wf rf fl t r = (cond (zcb .ne fl 0) (cond (zcb .gt (zCt lf wf t) r) (Int32.ofInt 0) (Int32.ofInt 1)) (cond (zcb .lt (zCt lf wf t) 0) (Int32.ofInt 0) (cond (zcb .gt (zCt lf wf t) r) (Int32.ofInt 0) (Int32.ofInt 1)))) := by simp only [zSh, q1, cond_false]
    rw [e1]
    have H1 := H.put (Or.inl rfl) (zCt lf wf t)
    have h43 : (vs.set 43 (.int (zCt lf wf t)))[43]? = some (.int (zCt lf wf t)) := List.getElem?_set_self l43
    obtain ⟨k1, k2, k3, k4, k5, k6, k7, k8, k9, k10, k11, k12, k13, k14, k15⟩ := id H1
    iterate 2 refine zs0 (by rfl) rfl rfl ?_
    refine zs_get (by rfl) k1 h43 ?_
    refine zs_put (by rfl) k1 (by rw [List.length_set]; omega) (by rfl) ?_
    rw [List.set_set]
    have m1 : (hq.set j (.inr (12, (vs.set 43 (.int (zCt lf wf t))).set 44 (.int (zCt lf wf t)))))[j]? = some (.inr (12, (vs.set 43 (.int (zCt lf wf t))).set 44 (.int (zCt lf wf t)))) := List.getElem?_set_self (List.getElem?_eq_some_iff.mp h1).1
    have m43 : ((vs.set 43 (.int (zCt lf wf t))).set 44 (.int (zCt lf wf t)))[43]? = some (.int (zCt lf wf t)) := by rw [List.getElem?_set_ne (by decide)]; exact h43
    have m42 : ((vs.set 43 (.int (zCt lf wf t))).set 44 (.int (zCt lf wf t)))[42]? = some (.int fl) := by rw [List.getElem?_set_ne (by decide), List.getElem?_set_ne (by decide)]; exact h8
    have last : zWP lk Lx xs 199 (70, [(2, .int r), (0, .ref j), (1, .int (Int32.ofInt (t : Int)))], [], hq.set j (.inr (12, (vs.set 43 (.int (zCt lf wf t))).set 44 (.int (zCt lf wf t)))), 0, 0) (zPe j vs hq (cond (zcb .gt (zCt lf wf t) r) (Int32.ofInt 0) (Int32.ofInt 1))) := by
      refine zs0 (by rfl) rfl rfl ?_
      refine zs_get (by rfl) m1 m43 ?_
      refine zs0 (by rfl) rfl rfl ?_
      refine zs_icmp (by rfl) (t := 82) (by rfl) (fun q => ?_) (fun q => ?_)
      · rw [q]
        refine zs0 (by rfl) rfl rfl ?_
        exact zs_ret (by rfl) (Or.inr (Or.inl (by decide))) ⟨rfl, _, _, rfl⟩
      · rw [q]
        iterate 2 refine zs0 (by rfl) rfl rfl ?_
        exact zs_ret (by rfl) (Or.inr (Or.inr (by decide))) ⟨rfl, _, _, rfl⟩
    refine zs0 (by rfl) rfl rfl ?_
    refine zs_get (by rfl) m1 m42 ?_
    refine zs_if (by rfl) (t := 70) (by rfl) (fun q2 => ?_) (fun q2 => ?_)
    · rw [q2]
      exact last
    · rw [q2]
      refine zs0 (by rfl) rfl rfl ?_
      refine zs_get (by rfl) m1 m43 ?_
      refine zs_if (by rfl) (t := 82) (by rfl) (fun q3 => ?_) (fun q3 => ?_)
      · rw [q3]
        refine zs0 (by rfl) rfl rfl ?_
        exact zs_ret (by rfl) (Or.inr (Or.inl (by decide))) ⟨rfl, _, _, rfl⟩
      · rw [q3]
        exact last
theorem zon (H : zRX j iL iF iW iH iR ev fl lf ff wf hf rf vs hp) {t : Nat} (ht : t < 9) : zWP lk Lx xs 199 (0, lv_args 0 [.ref j, .int (Int32.ofInt (t : Int))], [], hp, 0, 0) (zPe j vs hp (zE1 lf ff wf rf ev fl t)) := by
  obtain ⟨h1, h2, h3, h4, h5, h6, h7, h8, h9, h10, h11, h12, h13, h14, h15⟩ := id H
  refine zs0 (by rfl) rfl rfl ?_
  refine zs_get (by rfl) h1 h4 ?_
  refine zs0 (by rfl) rfl rfl ?_
  refine zs_aldN (by rfl) h12 (by omega) (by decide) ?_
  refine zs_if (by rfl) (t := 11) (by rfl) (fun q1 => ?_) (fun q1 => ?_)
  · have e : zE1 lf ff wf rf ev fl t = zSh lf wf rf fl t (cond (zcb .eq fl 0) (Int32.ofInt 2 * ev) (Int32.ofInt 0)) := by simp only [zE1, q1, cond_true]
    rw [e]
    refine zs0 (by rfl) rfl rfl ?_
    refine zs_get (by rfl) h1 h8 ?_
    refine zs_if (by rfl) (t := 22) (by rfl) (fun q2 => ?_) (fun q2 => ?_)
    · rw [q2]
      iterate 2 refine zs0 (by rfl) rfl rfl ?_
      refine zs_get (by rfl) h1 h2 ?_
      refine zs_mul (by rfl) ?_
      refine zs0 (by rfl) rfl rfl ?_
      exact zon_t H ht _
    · rw [q2]
      iterate 3 refine zs0 (by rfl) rfl rfl ?_
      exact zon_t H ht _
  · have e : zE1 lf ff wf rf ev fl t = Int32.ofInt 0 := by simp only [zE1, q1, cond_false]
    rw [e]
    refine zs0 (by rfl) rfl rfl ?_
    exact zs_ret (by rfl) (Or.inr (Or.inl (by decide))) (zPe_0 H _)
/-- on another -/
def zmxE (a b : Int32) : Int32 := cond (zcb .le a b) b a
def zmnE (a b : Int32) : Int32 := cond (zcb .ge a b) b a
def zE2 (lf ff wf hf rf : Nat → Int32) (a b : Nat) : Int32 :=
  cond (zcb .eq (Int32.ofInt (a : Int)) (Int32.ofInt (b : Int))) (Int32.ofInt 0) (cond (zcb .eq (ff a) (ff b + hf b))
    (cond (zcb .ne (rf a) (Int32.ofInt 1))
      (cond (zcb .ne (rf b) (Int32.ofInt 1)) (cond (zcb .ge (zmxE (zFr lf a) (zFr lf b)) (zmnE (zTo lf wf a) (zTo lf wf b))) (Int32.ofInt 0) (Int32.ofInt 1))
        (cond (zcb .lt (zCt lf wf b) (zFr lf a)) (Int32.ofInt 0) (cond (zcb .gt (zCt lf wf b) (zTo lf wf a)) (Int32.ofInt 0) (Int32.ofInt 1))))
      (cond (zcb .ne (rf b) (Int32.ofInt 1)) (cond (zcb .lt (zCt lf wf a) (zFr lf b)) (Int32.ofInt 0) (cond (zcb .gt (zCt lf wf a) (zTo lf wf b)) (Int32.ofInt 0) (Int32.ofInt 1)))
        (cond (zcb .ne (zCt lf wf a) (zCt lf wf b)) (Int32.ofInt 0) (Int32.ofInt 1)))) (Int32.ofInt 0))
set_option maxHeartbeats 8000000 in
theorem zed (H : zRX j iL iF iW iH iR ev fl lf ff wf hf rf vs hp) {a b : Nat} (ha : a < 9) (hb : b < 9) : zWP lk Lx xs 200 (0, lv_args 0 [.ref j, .int (Int32.ofInt (a : Int)), .int (Int32.ofInt (b : Int))], [], hp, 0, 0) (zPe j vs hp (zE2 lf ff wf hf rf a b)) := by
  obtain ⟨h1, h2, h3, h4, h5, h6, h7, h8, ⟨y0, h9⟩, ⟨z0, h10⟩, h11, h12, h13, h14, h15⟩ := id H
  have l43 := (List.getElem?_eq_some_iff.mp h9).1
  have l44 := (List.getElem?_eq_some_iff.mp h10).1
  have no : zE2 lf ff wf hf rf a b = Int32.ofInt 0 → zWP lk Lx xs 200 (27, [(0, .ref j), (1, .int (Int32.ofInt (a : Int))), (2, .int (Int32.ofInt (b : Int)))], [], hp, 0, 0) (zPe j vs hp (zE2 lf ff wf hf rf a b)) := by
    intro e
    rw [e]
    refine zs0 (by rfl) rfl rfl ?_
    exact zs_ret (by rfl) (Or.inr (Or.inl (by decide))) (zPe_0 H _)
  iterate 2 refine zs0 (by rfl) rfl rfl ?_
  refine zs_icmp (by rfl) (t := 27) (by rfl) (fun q1 => no (by simp only [zE2, q1, cond_true])) (fun q1 => ?_)
  refine zs0 (by rfl) rfl rfl ?_
  refine zs_get (by rfl) h1 h4 ?_
  refine zs0 (by rfl) rfl rfl ?_
  refine zs_aldN (by rfl) h12 (by omega) (by decide) ?_
  refine zs0 (by rfl) rfl rfl ?_
  refine zs_get (by rfl) h1 h4 ?_
  refine zs0 (by rfl) rfl rfl ?_
  refine zs_aldN (by rfl) h12 (by omega) (by decide) ?_
  refine zs0 (by rfl) rfl rfl ?_
  refine zs_get (by rfl) h1 h6 ?_
  refine zs0 (by rfl) rfl rfl ?_
  refine zs_aldN (by rfl) h14 (by omega) (by decide) ?_
  refine zs_add (by rfl) ?_
  refine zs_icmp (by rfl) (t := 29) (by rfl) (fun q2 => ?_) (fun q2 => no (by simp only [zE2, q1, q2, cond_false]))
  refine zs0 (by rfl) rfl rfl ?_
  refine zs_get (by rfl) h1 h7 ?_
  refine zs0 (by rfl) rfl rfl ?_
  refine zs_aldN (by rfl) h15 (by omega) (by decide) ?_
  refine zs0 (by rfl) rfl rfl ?_
  refine zs_icmp (by rfl) (t := 106) (by rfl) (fun q3 => ?_) (fun q3 => ?_)
  · refine zs0 (by rfl) rfl rfl ?_
    refine zs_get (by rfl) h1 h7 ?_
    refine zs0 (by rfl) rfl rfl ?_
    refine zs_aldN (by rfl) h15 (by omega) (by decide) ?_
    refine zs0 (by rfl) rfl rfl ?_
    refine zs_icmp (by rfl) (t := 156) (by rfl) (fun q6 => ?_) (fun q6 => ?_)
    · have e : zE2 lf ff wf hf rf a b = (cond (zcb .ge (zmxE (zFr lf a) (zFr lf b)) (zmnE (zTo lf wf a) (zTo lf wf b))) (Int32.ofInt 0) (Int32.ofInt 1)) := by simp only [zE2, q1, q2, q3, q6, cond_true, cond_false]
      rw [e]
      have on : zWP lk Lx xs 200 (183, [(0, .ref j), (1, .int (Int32.ofInt (a : Int))), (2, .int (Int32.ofInt (b : Int)))], [.int (zmxE (zFr lf a) (zFr lf b)), .ref j], hp, 0, 0) (zPe j vs hp (cond (zcb .ge (zmxE (zFr lf a) (zFr lf b)) (zmnE (zTo lf wf a) (zTo lf wf b))) (Int32.ofInt 0) (Int32.ofInt 1))) := by
        refine zs_put (by rfl) h1 (by omega) (by rfl) ?_
        have H1 := H.put (Or.inl rfl) (zmxE (zFr lf a) (zFr lf b))
        have h43 : (vs.set 43 (.int (zmxE (zFr lf a) (zFr lf b))))[43]? = some (.int (zmxE (zFr lf a) (zFr lf b))) := List.getElem?_set_self l43
        have k1 := H1.1
        generalize hg1 : hp.set j (.inr (12, vs.set 43 (.int (zmxE (zFr lf a) (zFr lf b))))) = hp1 at H1 k1 ⊢
        have onB : zWP lk Lx xs 200 (213, [(0, .ref j), (1, .int (Int32.ofInt (a : Int))), (2, .int (Int32.ofInt (b : Int)))], [.int (zmnE (zTo lf wf a) (zTo lf wf b)), .ref j], hp1, 0, 0) (zPe j vs hp (cond (zcb .ge (zmxE (zFr lf a) (zFr lf b)) (zmnE (zTo lf wf a) (zTo lf wf b))) (Int32.ofInt 0) (Int32.ofInt 1))) := by
          refine zs_put (by rfl) k1 (by rw [List.length_set]; omega) (by rfl) ?_
          have hs : hp1.set j (.inr (12, ((vs.set 43 (.int (zmxE (zFr lf a) (zFr lf b)))).set 44 (.int (zmnE (zTo lf wf a) (zTo lf wf b)))))) = hp.set j (.inr (12, ((vs.set 43 (.int (zmxE (zFr lf a) (zFr lf b)))).set 44 (.int (zmnE (zTo lf wf a) (zTo lf wf b)))))) := by rw [← hg1, List.set_set]
          rw [hs]
          have m1 : (hp.set j (.inr (12, ((vs.set 43 (.int (zmxE (zFr lf a) (zFr lf b)))).set 44 (.int (zmnE (zTo lf wf a) (zTo lf wf b)))))))[j]? = some (.inr (12, ((vs.set 43 (.int (zmxE (zFr lf a) (zFr lf b)))).set 44 (.int (zmnE (zTo lf wf a) (zTo lf wf b)))))) := List.getElem?_set_self (List.getElem?_eq_some_iff.mp h1).1
          have m43 : ((vs.set 43 (.int (zmxE (zFr lf a) (zFr lf b)))).set 44 (.int (zmnE (zTo lf wf a) (zTo lf wf b))))[43]? = some (.int (zmxE (zFr lf a) (zFr lf b))) := by rw [List.getElem?_set_ne (by decide)]; exact h43
          have m44 : ((vs.set 43 (.int (zmxE (zFr lf a) (zFr lf b)))).set 44 (.int (zmnE (zTo lf wf a) (zTo lf wf b))))[44]? = some (.int (zmnE (zTo lf wf a) (zTo lf wf b))) := List.getElem?_set_self (by rw [List.length_set]; omega)
          refine zs0 (by rfl) rfl rfl ?_
          refine zs_get (by rfl) m1 m43 ?_
          refine zs0 (by rfl) rfl rfl ?_
          refine zs_get (by rfl) m1 m44 ?_
          refine zs_icmp (by rfl) (t := 231) (by rfl) (fun q => ?_) (fun q => ?_)
          · rw [q]
            refine zs0 (by rfl) rfl rfl ?_
            exact zs_ret (by rfl) (Or.inr (Or.inl (by decide))) ⟨rfl, _, _, rfl⟩
          · rw [q]
            iterate 2 refine zs0 (by rfl) rfl rfl ?_
            exact zs_ret (by rfl) (Or.inr (Or.inr (by decide))) ⟨rfl, _, _, rfl⟩
        iterate 3 refine zs0 (by rfl) rfl rfl ?_
        refine zs_virt (vs := [.int (Int32.ofInt (a : Int))]) (by rfl) rfl k1 (by rfl) (Nat.le_of_ble_eq_true (by rfl)) (Nat.le_of_ble_eq_true (by rfl)) (by decide +kernel) (by decide +kernel) (zto H1.rw (by omega)) ?_
        rintro rv hq ⟨rfl, rfl⟩
        iterate 2 refine zs0 (by rfl) rfl rfl ?_
        refine zs_virt (vs := [.int (Int32.ofInt (b : Int))]) (by rfl) rfl k1 (by rfl) (Nat.le_of_ble_eq_true (by rfl)) (Nat.le_of_ble_eq_true (by rfl)) (by decide +kernel) (by decide +kernel) (zto H1.rw (by omega)) ?_
        rintro rv hq ⟨rfl, rfl⟩
        refine zs_icmp (by rfl) (t := 208) (by rfl) (fun q => ?_) (fun q => ?_)
        · have e : (zmnE (zTo lf wf a) (zTo lf wf b)) = zTo lf wf b := by simp only [zmnE, q, cond_true]
          iterate 2 refine zs0 (by rfl) rfl rfl ?_
          refine zs_virt (vs := [.int (Int32.ofInt (b : Int))]) (by rfl) rfl k1 (by rfl) (Nat.le_of_ble_eq_true (by rfl)) (Nat.le_of_ble_eq_true (by rfl)) (by decide +kernel) (by decide +kernel) (zto H1.rw (by omega)) ?_
          rintro rv hq ⟨rfl, rfl⟩
          rw [e] at onB ⊢
          exact onB
        · have e : (zmnE (zTo lf wf a) (zTo lf wf b)) = zTo lf wf a := by simp only [zmnE, q, cond_false]
          iterate 2 refine zs0 (by rfl) rfl rfl ?_
          refine zs_virt (vs := [.int (Int32.ofInt (a : Int))]) (by rfl) rfl k1 (by rfl) (Nat.le_of_ble_eq_true (by rfl)) (Nat.le_of_ble_eq_true (by rfl)) (by decide +kernel) (by decide +kernel) (zto H1.rw (by omega)) ?_
          rintro rv hq ⟨rfl, rfl⟩
          refine zs0 (by rfl) rfl rfl ?_
          rw [e] at onB ⊢
          exact onB
      iterate 3 refine zs0 (by rfl) rfl rfl ?_
      refine zs_virt (vs := [.int (Int32.ofInt (a : Int))]) (by rfl) rfl h1 (by rfl) (Nat.le_of_ble_eq_true (by rfl)) (Nat.le_of_ble_eq_true (by rfl)) (by decide +kernel) (by decide +kernel) (zfrm H.rw (by omega)) ?_
      rintro rv hq ⟨rfl, rfl⟩
      iterate 2 refine zs0 (by rfl) rfl rfl ?_
      refine zs_virt (vs := [.int (Int32.ofInt (b : Int))]) (by rfl) rfl h1 (by rfl) (Nat.le_of_ble_eq_true (by rfl)) (Nat.le_of_ble_eq_true (by rfl)) (by decide +kernel) (by decide +kernel) (zfrm H.rw (by omega)) ?_
      rintro rv hq ⟨rfl, rfl⟩
      refine zs_icmp (by rfl) (t := 178) (by rfl) (fun q => ?_) (fun q => ?_)
      · have e : (zmxE (zFr lf a) (zFr lf b)) = zFr lf b := by simp only [zmxE, q, cond_true]
        iterate 2 refine zs0 (by rfl) rfl rfl ?_
        refine zs_virt (vs := [.int (Int32.ofInt (b : Int))]) (by rfl) rfl h1 (by rfl) (Nat.le_of_ble_eq_true (by rfl)) (Nat.le_of_ble_eq_true (by rfl)) (by decide +kernel) (by decide +kernel) (zfrm H.rw (by omega)) ?_
        rintro rv hq ⟨rfl, rfl⟩
        rw [e] at on ⊢
        exact on
      · have e : (zmxE (zFr lf a) (zFr lf b)) = zFr lf a := by simp only [zmxE, q, cond_false]
        iterate 2 refine zs0 (by rfl) rfl rfl ?_
        refine zs_virt (vs := [.int (Int32.ofInt (a : Int))]) (by rfl) rfl h1 (by rfl) (Nat.le_of_ble_eq_true (by rfl)) (Nat.le_of_ble_eq_true (by rfl)) (by decide +kernel) (by decide +kernel) (zfrm H.rw (by omega)) ?_
        rintro rv hq ⟨rfl, rfl⟩
        refine zs0 (by rfl) rfl rfl ?_
        rw [e] at on ⊢
        exact on
    · have e : zE2 lf ff wf hf rf a b = (cond (zcb .lt (zCt lf wf b) (zFr lf a)) (Int32.ofInt 0) (cond (zcb .gt (zCt lf wf b) (zTo lf wf a)) (Int32.ofInt 0) (Int32.ofInt 1))) := by simp only [zE2, q1, q2, q3, q6, cond_true, cond_false]
      rw [e]
      iterate 2 refine zs0 (by rfl) rfl rfl ?_
      refine zs_virt (vs := [.int (Int32.ofInt (b : Int))]) (by rfl) rfl h1 (by rfl) (Nat.le_of_ble_eq_true (by rfl)) (Nat.le_of_ble_eq_true (by rfl)) (by decide +kernel) (by decide +kernel) (zctr H.rw (by omega)) ?_
      rintro rv hq ⟨rfl, rfl⟩
      iterate 3 refine zs0 (by rfl) rfl rfl ?_
      refine zs_put (by rfl) h1 (by omega) (by rfl) ?_
      have H2 := (H.put (Or.inl rfl) (zCt lf wf b)).put (Or.inr (Or.inl rfl)) (zCt lf wf b)
      have k1 := (H.put (Or.inl rfl) (zCt lf wf b)).1
      iterate 2 refine zs0 (by rfl) rfl rfl ?_
      refine zs_put (by rfl) k1 (by rw [List.length_set]; omega) (by rfl) ?_
      rw [List.set_set] at H2 ⊢
      obtain ⟨m1, -, -, -, -, -, m7, -, -, -, -, -, -, -, m15⟩ := id H2
      iterate 3 refine zs0 (by rfl) rfl rfl ?_
      refine zs_virt (vs := [.int (Int32.ofInt (a : Int))]) (by rfl) rfl m1 (by rfl) (Nat.le_of_ble_eq_true (by rfl)) (Nat.le_of_ble_eq_true (by rfl)) (by decide +kernel) (by decide +kernel) (zfrm H2.rw (by omega)) ?_
      rintro rv hq ⟨rfl, rfl⟩
      refine zs_icmp (by rfl) (t := 154) (by rfl) (fun q4 => ?_) (fun q4 => ?_)
      · rw [q4]
        refine zs0 (by rfl) rfl rfl ?_
        exact zs_ret (by rfl) (Or.inr (Or.inl (by decide))) ⟨rfl, _, _, rfl⟩
      · rw [q4]
        iterate 3 refine zs0 (by rfl) rfl rfl ?_
        refine zs_virt (vs := [.int (Int32.ofInt (a : Int))]) (by rfl) rfl m1 (by rfl) (Nat.le_of_ble_eq_true (by rfl)) (Nat.le_of_ble_eq_true (by rfl)) (by decide +kernel) (by decide +kernel) (zto H2.rw (by omega)) ?_
        rintro rv hq ⟨rfl, rfl⟩
        refine zs_icmp (by rfl) (t := 154) (by rfl) (fun q5 => ?_) (fun q5 => ?_)
        · rw [q5]
          refine zs0 (by rfl) rfl rfl ?_
          exact zs_ret (by rfl) (Or.inr (Or.inl (by decide))) ⟨rfl, _, _, rfl⟩
        · rw [q5]
          iterate 2 refine zs0 (by rfl) rfl rfl ?_
          exact zs_ret (by rfl) (Or.inr (Or.inr (by decide))) ⟨rfl, _, _, rfl⟩
  · iterate 2 refine zs0 (by rfl) rfl rfl ?_
    refine zs_virt (vs := [.int (Int32.ofInt (a : Int))]) (by rfl) rfl h1 (by rfl) (Nat.le_of_ble_eq_true (by rfl)) (Nat.le_of_ble_eq_true (by rfl)) (by decide +kernel) (by decide +kernel) (zctr H.rw (by omega)) ?_
    rintro rv hq ⟨rfl, rfl⟩
    iterate 3 refine zs0 (by rfl) rfl rfl ?_
    refine zs_put (by rfl) h1 (by omega) (by rfl) ?_
    have H2 := (H.put (Or.inl rfl) (zCt lf wf a)).put (Or.inr (Or.inl rfl)) (zCt lf wf a)
    have k1 := (H.put (Or.inl rfl) (zCt lf wf a)).1
    iterate 2 refine zs0 (by rfl) rfl rfl ?_
    refine zs_put (by rfl) k1 (by rw [List.length_set]; omega) (by rfl) ?_
    rw [List.set_set] at H2 ⊢
    obtain ⟨m1, -, -, -, -, -, m7, -, -, -, -, -, -, -, m15⟩ := id H2
    refine zs0 (by rfl) rfl rfl ?_
    refine zs_get (by rfl) m1 m7 ?_
    refine zs0 (by rfl) rfl rfl ?_
    refine zs_aldN (by rfl) m15 (by omega) (by decide) ?_
    refine zs0 (by rfl) rfl rfl ?_
    refine zs_icmp (by rfl) (t := 82) (by rfl) (fun q6 => ?_) (fun q6 => ?_)
    · have e : zE2 lf ff wf hf rf a b = (cond (zcb .lt (zCt lf wf a) (zFr lf b)) (Int32.ofInt 0) (cond (zcb .gt (zCt lf wf a) (zTo lf wf b)) (Int32.ofInt 0) (Int32.ofInt 1))) := by simp only [zE2, q1, q2, q3, q6, cond_true, cond_false]
      rw [e]
      iterate 3 refine zs0 (by rfl) rfl rfl ?_
      refine zs_virt (vs := [.int (Int32.ofInt (b : Int))]) (by rfl) rfl m1 (by rfl) (Nat.le_of_ble_eq_true (by rfl)) (Nat.le_of_ble_eq_true (by rfl)) (by decide +kernel) (by decide +kernel) (zfrm H2.rw (by omega)) ?_
      rintro rv hq ⟨rfl, rfl⟩
      refine zs_icmp (by rfl) (t := 104) (by rfl) (fun q4 => ?_) (fun q4 => ?_)
      · rw [q4]
        refine zs0 (by rfl) rfl rfl ?_
        exact zs_ret (by rfl) (Or.inr (Or.inl (by decide))) ⟨rfl, _, _, rfl⟩
      · rw [q4]
        iterate 3 refine zs0 (by rfl) rfl rfl ?_
        refine zs_virt (vs := [.int (Int32.ofInt (b : Int))]) (by rfl) rfl m1 (by rfl) (Nat.le_of_ble_eq_true (by rfl)) (Nat.le_of_ble_eq_true (by rfl)) (by decide +kernel) (by decide +kernel) (zto H2.rw (by omega)) ?_
        rintro rv hq ⟨rfl, rfl⟩
        refine zs_icmp (by rfl) (t := 104) (by rfl) (fun q5 => ?_) (fun q5 => ?_)
        · rw [q5]
          refine zs0 (by rfl) rfl rfl ?_
          exact zs_ret (by rfl) (Or.inr (Or.inl (by decide))) ⟨rfl, _, _, rfl⟩
        · rw [q5]
          iterate 2 refine zs0 (by rfl) rfl rfl ?_
          exact zs_ret (by rfl) (Or.inr (Or.inr (by decide))) ⟨rfl, _, _, rfl⟩
    · have e : zE2 lf ff wf hf rf a b = (cond (zcb .ne (zCt lf wf a) (zCt lf wf b)) (Int32.ofInt 0) (Int32.ofInt 1)) := by simp only [zE2, q1, q2, q3, q6, cond_true, cond_false]
      rw [e]
      iterate 3 refine zs0 (by rfl) rfl rfl ?_
      refine zs_virt (vs := [.int (Int32.ofInt (b : Int))]) (by rfl) rfl m1 (by rfl) (Nat.le_of_ble_eq_true (by rfl)) (Nat.le_of_ble_eq_true (by rfl)) (by decide +kernel) (by decide +kernel) (zctr H2.rw (by omega)) ?_
      rintro rv hq ⟨rfl, rfl⟩
      refine zs_icmp (by rfl) (t := 78) (by rfl) (fun q7 => ?_) (fun q7 => ?_)
      · rw [q7]
        iterate 2 refine zs0 (by rfl) rfl rfl ?_
        exact zs_ret (by rfl) (Or.inr (Or.inl (by decide))) ⟨rfl, _, _, rfl⟩
      · rw [q7]
        iterate 2 refine zs0 (by rfl) rfl rfl ?_
        exact zs_ret (by rfl) (Or.inr (Or.inr (by decide))) ⟨rfl, _, _, rfl⟩
end ZPX
/-! a call by contract from the model's shape, its symbols within narrower bounds, what they are afterwards -/
theorem zxr_sc {ρ l : List Int} {c x : Int} {i : Nat} (h : zxr (ρ ++ l) (c, [(i, 1)]) x) (hi : i < ρ.length) : ρ[i]? = some (x - c) := by
  obtain ⟨y, ⟨a, b, b1, b2, b3⟩, h2⟩ := h
  have b2 : b = 0 := b2
  have b1 : (ρ ++ l)[i]? = some a := b1
  have b3 : y = 1 * a + b := b3
  have h2 : x = c + y := h2
  rw [List.getElem?_append_left hi] at b1
  have e : a = x - c := by omega
  rw [b1, e]
def zkpX (θ : List LX) : List (Nat × Int × Nat) → Bool
  | [] => true
  | p :: l => zlg θ p.1 (fun e => zxeq e (p.2.1, [(p.2.2, 1)])) && zkpX θ l
theorem zkpX_ok {θ : List LX} : ∀ {l : List (Nat × Int × Nat)}, zkpX θ l = true → ∀ p ∈ l, θ[p.1]? = some (p.2.1, [(p.2.2, 1)])
  | [], _, p, hp => absurd hp List.not_mem_nil
  | q :: l, h, p, hp => by
    simp only [zkpX, Bool.and_eq_true] at h
    rcases List.mem_cons.mp hp with rfl | hp
    · obtain ⟨e, h1, h2⟩ := zlg_ok h.1
      rw [h1, zxeq_ok h2]
    · exact zkpX_ok h.2 p hp
def zcMg (C : CT) (E aE : List (Int × Int)) (W : List Nat) (kp : List (Nat × Int × Nat)) (rc : List AV → AG → Bool) : Bool :=
  zmkP zPM.2.2.1 (0, []) (fun A0 => Nat.beq A0.1 35 && zct W 35 C ((2, (0, [])) :: zAs 37 aE) A0 (37 + aE.length, E ++ aE, [], [], [0, 2000]) (fun r h G => rc r G && zmt zPM [] [(2, (0, []))] h G [] [] (fun θ μ => Nat.beq μ.length 35 && (zkpX θ kp && zkpM 0 μ))))
section ZSG
variable {lk : ZLP} {Lx : Nat} {xs : Nat → Int32}
theorem zcMg_ok {C : CT} {E aE : List (Int × Int)} {W : List Nat} {kp : List (Nat × Int × Nat)} {rc : List AV → AG → Bool} (hC : zHolds lk Lx xs C) (h : zcMg C E aE W kp rc = true) {η : List Nat} {j : Nat} {ρ : List Int} {hp : List zhE} (hM : zMO η j ρ hp) (hE : zaE ρ E) (hk : ∀ p ∈ kp, p.2.2 < 37) {vals : List Int32} (hv : zwi aE vals) :
    zWP lk Lx xs C.1 (0, lv_args 0 (.ref j :: vals.map Value.int), [], hp, 0, 0) (fun rv hp' => ∃ ρ2, zMO η j ρ2 hp' ∧ (∀ p ∈ kp, ∃ x, ρ2[p.1]? = some x ∧ ρ[p.2.2]? = some (x - p.2.1)) ∧ hp.length ≤ hp'.length ∧ (∀ i, i < hp.length → (∀ w ∈ W, η[w]? ≠ some i) → hp'[i]? = hp[i]?) ∧ ∃ (r : List AV) (G : AG) (ρ3 : List Int), rc r G = true ∧ zaG ρ3 G ∧ zaS η ρ3 r rv.toList) := by
  obtain ⟨hl, hi, p1, p2, p3, p4, p5, p6⟩ := hM
  unfold zcMg at h
  obtain ⟨A0, h1, h2, h3⟩ := zmkP_ok h (fun j d hj => by simp [zhg] at hj)
  rw [Bool.and_eq_true] at h1
  have h4 := Nat.eq_of_beq_eq_true h1.1
  have hρl : ρ.length = 37 := p4.1.symm
  have hE2 := zwi_E hE hv
  have hlen : (ρ ++ vals.map (fun x => x.toInt)).length = 37 + aE.length := by
    rw [List.length_append, List.length_map, zwi_len hv, hρl]
  have hH : zaH η (ρ ++ vals.map (fun x => x.toInt)) A0 hp := by
    refine ⟨by rw [h4, hl], fun i d hd => ?_, hi.1, hi.2⟩
    rcases h3 i d hd with e | e
    · obtain ⟨x, y, g1, g2, g3⟩ := p3 _ e
      exact ⟨x, y, g1, g2, zac_mono1 g3⟩
    · simp [zhg] at e
  obtain ⟨j', hj', e⟩ := p2.1
  cases e
  have hS : zSt (η, η) (ρ ++ vals.map (fun x => x.toInt)) hp W A0 (37 + aE.length, E ++ aE, [], [], [0, 2000]) η (ρ ++ vals.map (fun x => x.toInt)) hp := by
    refine ⟨⟨[], by simp⟩, ⟨[], by simp⟩, ⟨hlen.symm, hE2, fun f hf => absurd hf List.not_mem_nil, fun f hf => absurd hf List.not_mem_nil⟩, hH, p6, Nat.le_refl _, fun i x hi2 hx => ?_, fun i _ _ => rfl, [], by simp⟩
    have := (List.getElem?_eq_some_iff.mp hx).1
    have hi2 : η.length ≤ i := hi2
    omega
  have ha : zaS η (ρ ++ vals.map (fun x => x.toInt)) ((2, (0, [])) :: zAs 37 aE) (.ref j :: vals.map Value.int) := ⟨⟨j, hj', rfl⟩, zwi_S hρl rfl hv⟩
  refine (zct_ok hC hl.symm h1.2 hS ha).post ?_
  rintro rv hp' ⟨r, h', G', l, q1, q2, q3⟩
  rw [Bool.and_eq_true] at q1
  obtain ⟨-, -, s3, s4, s5, s6⟩ := q2
  have ht0 : zth ((ρ ++ vals.map (fun x => x.toInt)) ++ l) [] [] := ⟨rfl, fun i e he => by simp at he⟩
  have hm0 : zmu η [] [] := ⟨rfl, fun i m hm => by simp at hm⟩
  have ha0 : zap [] := fun i j m hi => by simp at hi
  obtain ⟨θ, μ, l2, m2, z1, z2, z3, z4, z5⟩ := zmt_ok (L := []) (st := [.ref j]) ht0 hm0 ha0 q1.2 (fun q hq => absurd hq List.not_mem_nil) ⟨⟨j, hj', rfl⟩, trivial⟩ s4 s3 s5
  rw [List.nil_append] at z2 z3 z5
  rw [List.nil_append] at z5
  simp only [Bool.and_eq_true] at z1
  have z6 := Nat.eq_of_beq_eq_true z1.1
  have hm2 : m2 = η := by
    apply List.ext_getElem?
    intro i
    by_cases hlt : i < 35
    · have hlt2 : i < μ.length := by omega
      obtain ⟨x, x1, x2⟩ := z3.2 i _ (List.getElem?_eq_getElem hlt2)
      have e := zkpM_ok z1.2.2 i _ (List.getElem?_eq_getElem hlt2)
      rw [e, Nat.zero_add] at x2
      rw [x1, x2]
    · rw [List.getElem?_eq_none (by rw [← z3.1]; omega), List.getElem?_eq_none (by omega)]
  subst hm2
  refine ⟨l2, ⟨hl, ⟨s4.2.2.1, s4.2.2.2⟩, z5⟩, fun p hp2 => ?_, s6.1, s6.2.2.1, r, G', _, q1.1, s3, q3⟩
  obtain ⟨x, x1, x2⟩ := z2.2 _ _ (zkpX_ok z1.2.1 p hp2)
  refine ⟨x, x1, ?_⟩
  rw [List.append_assoc] at x2
  exact zxr_sc x2 (by rw [hρl]; exact hk p hp2)
end ZSG
theorem zaE_nar {ρ : List Int} {E : LE} (hE : zaE ρ E) {i : Nat} {lo hi x : Int} (hx : ρ[i]? = some x) (h1 : lo ≤ x) (h2 : x ≤ hi) : zaE ρ (E.set i (lo, hi)) := by
  refine ⟨by rw [List.length_set]; exact hE.1, fun k q y hq hy => ?_⟩
  by_cases e : i = k
  · subst e
    rw [List.getElem?_set_self (by rw [hE.1]; exact (List.getElem?_eq_some_iff.mp hx).1)] at hq
    cases hq
    cases hx.symm.trans hy
    exact ⟨h1, h2⟩
  · rw [List.getElem?_set_ne e] at hq
    exact hE.2 k q y hq hy
theorem zaE_set {ρ : List Int} {E : LE} (hE : zaE ρ E) {i : Nat} {lo hi x : Int} (hq : E[i]? = some (lo, hi)) (h1 : lo ≤ x) (h2 : x ≤ hi) : zaE (ρ.set i x) E := by
  refine ⟨by rw [List.length_set]; exact hE.1, fun k q y hk hy => ?_⟩
  by_cases e : i = k
  · subst e
    rw [List.getElem?_set_self (by rw [← hE.1]; exact (List.getElem?_eq_some_iff.mp hq).1)] at hy
    cases hy
    cases hq.symm.trans hk
    exact ⟨h1, h2⟩
  · rw [List.getElem?_set_ne e] at hy
    exact hE.2 k q y hk hy
/-- an int field with a symbol of its own, written anew -/
def zrne (M m m' : Nat) : Bool := Nat.beq m m' && !(Nat.beq m M)
def zrput (M : Nat) : Nat → List AV → Bool
  | 0, [] => false
  | _ + 1, [] => false
  | 0, a :: as => decide (a = (0, (0, [(M, 1)]))) && zren (zrne M) as as
  | b + 1, a :: as => zrab (zrne M) a a && zrput M b as
theorem zrput_ok {M : Nat} {η : List Nat} {ρ ρ' : List Int} {x : Int32} (h1 : ∀ m y, m ≠ M → ρ[m]? = some y → ρ'[m]? = some y) (h2 : ρ'[M]? = some x.toInt) : ∀ {b : Nat} {fs : List AV} {vs : List Value}, zrput M b fs = true → zaS η ρ fs vs → zaS η ρ' fs (vs.set b (.int x))
  | 0, [], _, h, _ => by cases h
  | _ + 1, [], _, h, _ => by cases h
  | 0, a :: as, [], _, h => h.elim
  | _ + 1, a :: as, [], _, h => h.elim
  | 0, a :: as, v :: vs, h, hs => by
    simp only [zrput, Bool.and_eq_true, decide_eq_true_eq] at h
    refine ⟨?_, zren_ok (ρ := ρ) (fun m m' hm y hy => ?_) h.2 hs.2⟩
    · rw [h.1]
      exact ⟨x, rfl, zxr_s h2⟩
    · simp only [zrne, Bool.and_eq_true, Bool.not_eq_true'] at hm
      rw [← Nat.eq_of_beq_eq_true hm.1]
      exact h1 m y (fun e => by rw [e, Nat.beq_refl] at hm; exact absurd hm.2 (by decide)) hy
  | b + 1, a :: as, v :: vs, h, hs => by
    simp only [zrput, Bool.and_eq_true] at h
    refine ⟨zrab_ok h.1 (ρ := ρ) (fun m m' hm y hy => ?_) hs.1, zrput_ok h1 h2 h.2 hs.2⟩
    simp only [zrne, Bool.and_eq_true, Bool.not_eq_true'] at hm
    rw [← Nat.eq_of_beq_eq_true hm.1]
    exact h1 m y (fun e => by rw [e, Nat.beq_refl] at hm; exact absurd hm.2 (by decide)) hy
def zcn0 (C : PC) : Bool := C.all (fun q => Nat.ble 1 q.1)
theorem zcn0M : zcn0 (zPM.2.2.1.drop 1) = true := by decide +kernel
theorem zofi_set {hp : List zhE} {j b c : Nat} {vs : List Value} {w : Value} (h : hp[j]? = some (.inr (12, vs))) (hn : b ≠ c) : zofi (hp.set j (.inr (12, vs.set b w))) j c = zofi hp j c := by
  unfold zofi
  rw [List.getElem?_set_self (List.getElem?_eq_some_iff.mp h).1, h]
  simp only [List.getElem?_set_ne hn]
theorem zMO_put {η : List Nat} {j : Nat} {ρ : List Int} {hp : List zhE} {vs : List Value} (h : zMO η j ρ hp) (hv : hp[j]? = some (.inr (12, vs))) {b M : Nat} {lo hi : Int} {x : Int32} (hb : zrput M b (zobF zPM.2.2.1) = true) (hM : zPM.2.2.2.1[M]? = some (lo, hi)) (x1 : lo ≤ x.toInt) (x2 : x.toInt ≤ hi) (hn : b ≠ 12 ∧ b ≠ 14 ∧ b ≠ 24 ∧ b ≠ 30 ∧ b ≠ 31 ∧ b ≠ 32) : zMO η j (ρ.set M x.toInt) (hp.set j (.inr (12, vs.set b (.int x)))) := by
  obtain ⟨g1, g2, p1, p2, p3, p4, p5, p6⟩ := id h
  have e : zPM.2.2.1 = (0, .inl (12, zobF zPM.2.2.1)) :: zPM.2.2.1.drop 1 := rfl
  have hj0 := (zMO_obj h).1
  have hjl := (List.getElem?_eq_some_iff.mp hv).1
  refine ⟨g1, ⟨g2.1, fun i x hx => by rw [List.length_set]; exact g2.2 i x hx⟩, fun q hq => absurd hq List.not_mem_nil, p2, ?_, zaE_set p4 hM x1 x2, fun f hf => absurd hf List.not_mem_nil, fun o ho => ?_⟩
  · rw [e] at p3 ⊢
    refine zcl2_cons ?_ ?_
    · obtain ⟨j', y, b1, b2, vs', rfl, b3⟩ := p3 _ List.mem_cons_self
      have b1 : η[0]? = some j' := b1
      cases hj0.symm.trans b1
      cases hv.symm.trans b2
      exact ⟨j, _, hj0, List.getElem?_set_self hjl, _, rfl, zrput_ok (ρ := ρ) (fun m y hm hy => by rw [List.getElem?_set_ne (Ne.symm hm)]; exact hy) (List.getElem?_set_self (by rw [← p4.1]; exact (List.getElem?_eq_some_iff.mp hM).1)) hb b3⟩
    · refine zrow0_ok (ρ := ρ) zrowM (fun q hq => ?_)
      obtain ⟨i, y, b1, b2, b3⟩ := p3 q (List.mem_cons_of_mem _ hq)
      have q0 := Nat.le_of_ble_eq_true (List.all_eq_true.mp zcn0M q hq)
      exact ⟨i, y, b1, by rw [List.getElem?_set_ne (fun e => absurd (g2.1 q.1 0 i b1 (by rw [← e]; exact hj0)) (by omega))]; exact b2, b3⟩
  · obtain ⟨jo, o1, o2⟩ := p6 o ho
    refine ⟨jo, o1, ?_⟩
    have ho : o ∈ [0, 2000] := ho
    have hjo : jo = j := by
      rcases List.mem_cons.mp ho with rfl | ho
      · exact Option.some.inj (o1.symm.trans hj0)
      · rw [List.mem_singleton.mp ho] at o1
        exact Option.some.inj (o1.symm.trans hj0)
    subst hjo
    have arr : ∀ c d, c ≠ 0 → b ≠ d → ∀ a, η[c]? = some a → vs[d]? = some (.ref a) → zofa (hp.set jo (.inr (12, vs.set b (.int x)))) jo d = zofa hp jo d := fun c d n1 n2 a hc hd => by
      rw [zofa_at hv hd, zofa_at (List.getElem?_set_self hjl) (by rw [List.getElem?_set_ne n2]; exact hd), zofr_same (List.getElem?_set_ne (fun e => n1 (g2.1 c 0 a hc (by rw [← e]; exact hj0))))]
    rcases List.mem_cons.mp ho with rfl | ho
    · refine zOP_dep (fun c hc => ?_) (fun c hc => ?_) o2
      · have hc : c ∈ [12] := hc
        rw [List.mem_singleton.mp hc]
        exact zofi_set hv hn.1
      · have hc : c ∈ [24] := hc
        rw [List.mem_singleton.mp hc]
        obtain ⟨ih, fh, r1, r2, r3, r4⟩ := zMO_row h 7 24 (by rfl) (zfs0 (c := 0) (by rfl) (by rfl))
        exact arr 7 24 (by decide) hn.2.2.1 ih r1 (r4 _ hv)
    · rw [List.mem_singleton.mp ho] at o2 ⊢
      refine zOP_dep (fun c hc => ?_) (fun c hc => ?_) o2
      · have hc : c ∈ [14] := hc
        rw [List.mem_singleton.mp hc]
        exact zofi_set hv hn.2.1
      · have hc : c ∈ [30, 31, 32] := hc
        rcases List.mem_cons.mp hc with rfl | hc
        · obtain ⟨ih, fh, r1, r2, r3, r4⟩ := zMO_row h 13 30 (by rfl) (zfs0 (c := 0) (by rfl) (by rfl))
          exact arr 13 30 (by decide) hn.2.2.2.1 ih r1 (r4 _ hv)
        · rcases List.mem_cons.mp hc with rfl | hc
          · obtain ⟨ih, fh, r1, r2, r3, r4⟩ := zMO_row h 14 31 (by rfl) (zfs0 (c := 0) (by rfl) (by rfl))
            exact arr 14 31 (by decide) hn.2.2.2.2.1 ih r1 (r4 _ hv)
          · rw [List.mem_singleton.mp hc]
            obtain ⟨ih, fh, r1, r2, r3, r4⟩ := zMO_row h 15 32 (by rfl) (zfs0 (c := 0) (by rfl) (by rfl))
            exact arr 15 32 (by decide) hn.2.2.2.2.2 ih r1 (r4 _ hv)
/-- the shape with the rows that edges rest on -/
def zRXM (η : List Nat) (j iL iF iW iH iR : Nat) (ρ : List Int) (ev fl : Int32) (lf ff wf hf rf : Nat → Int32) (hp : List zhE) : Prop := zMO η j ρ hp ∧ η[4]? = some iL ∧ η[5]? = some iF ∧ η[6]? = some iW ∧ η[7]? = some iH ∧ η[9]? = some iR ∧ ρ[11]? = some ev.toInt ∧ ρ[25]? = some fl.toInt ∧ ∃ vs, zRX j iL iF iW iH iR ev fl lf ff wf hf rf vs hp
theorem zRXM_mk {η : List Nat} {j : Nat} {ρ : List Int} {hp : List zhE} (h : zMO η j ρ hp) : ∃ iL iF iW iH iR ev fl lf ff wf hf rf, zRXM η j iL iF iW iH iR ρ ev fl lf ff wf hf rf hp := by
  obtain ⟨-, fs, vs, h1, h2, h3⟩ := zMO_obj h
  obtain ⟨iL, lf, a1, a2, -, a4⟩ := zMO_row h 4 21 (by rfl) (zfs0 (c := 0) (by rfl) (by rfl))
  obtain ⟨iF, ff, b1, b2, -, b4⟩ := zMO_row h 5 22 (by rfl) (zfs0 (c := 0) (by rfl) (by rfl))
  obtain ⟨iW, wf, c1, c2, -, c4⟩ := zMO_row h 6 23 (by rfl) (zfs0 (c := 0) (by rfl) (by rfl))
  obtain ⟨iH, hf, d1, d2, -, d4⟩ := zMO_row h 7 24 (by rfl) (zfs0 (c := 0) (by rfl) (by rfl))
  obtain ⟨iR, rf, r1, r2, -, r4⟩ := zMO_row h 9 26 (by rfl) (zfs0 (c := 0) (by rfl) (by rfl))
  obtain ⟨ev, e1, -, -, e4⟩ := zMO_int h 13 11 (by rfl) (zfs0 (c := 0) (by rfl) (by rfl))
  obtain ⟨fl, f1, -, -, f4⟩ := zMO_int h 42 25 (by rfl) (zfs0 (c := 0) (by rfl) (by rfl))
  obtain ⟨y, y1, -, -, y4⟩ := zMO_int h 43 26 (by rfl) (zfs0 (c := 0) (by rfl) (by rfl))
  obtain ⟨z, z1, -, -, z4⟩ := zMO_int h 44 27 (by rfl) (zfs0 (c := 0) (by rfl) (by rfl))
  exact ⟨iL, iF, iW, iH, iR, ev, fl, lf, ff, wf, hf, rf, h, a1, b1, c1, d1, r1, e1, f1, vs, h2, e4 vs h2, a4 vs h2, b4 vs h2, c4 vs h2, d4 vs h2, r4 vs h2, f4 vs h2, ⟨y, y4 vs h2⟩, ⟨z, z4 vs h2⟩, a2, b2, c2, d2, r2⟩
theorem zRXM_keep {η : List Nat} {j iL iF iW iH iR : Nat} {ρ ρ2 : List Int} {ev fl : Int32} {lf ff wf hf rf : Nat → Int32} {hp hp' : List zhE} (h : zRXM η j iL iF iW iH iR ρ ev fl lf ff wf hf rf hp) (h2 : zMO η j ρ2 hp') (he : ρ2[11]? = ρ[11]?) (hf2 : ρ2[25]? = ρ[25]?) (hL : hp'[iL]? = hp[iL]?) (hF : hp'[iF]? = hp[iF]?) (hW : hp'[iW]? = hp[iW]?) (hH : hp'[iH]? = hp[iH]?) (hR : hp'[iR]? = hp[iR]?) : zRXM η j iL iF iW iH iR ρ2 ev fl lf ff wf hf rf hp' := by
  obtain ⟨-, a1, b1, c1, d1, r1, e1, f1, vs, -, -, -, -, -, -, -, -, -, -, a2, b2, c2, d2, r2⟩ := h
  obtain ⟨iL', iF', iW', iH', iR', ev', fl', lf', ff', wf', hf', rf', q0, q1, q2, q3, q4, q5, q6, q7, us, u1, u2, u3, u4, u5, u6, u7, u8, u9, u10, u11, u12, u13, u14, u15⟩ := zRXM_mk h2
  cases a1.symm.trans q1
  cases b1.symm.trans q2
  cases c1.symm.trans q3
  cases d1.symm.trans q4
  cases r1.symm.trans q5
  have e : ev' = ev := by
    rw [he, e1] at q6
    exact Int32.toInt_inj.1 (Option.some.inj q6).symm
  have f : fl' = fl := by
    rw [hf2, f1] at q7
    exact Int32.toInt_inj.1 (Option.some.inj q7).symm
  subst e
  subst f
  exact ⟨h2, a1, b1, c1, d1, r1, by rw [he]; exact e1, by rw [hf2]; exact f1, us, u1, u2, u3, u4, u5, u6, u7, u8, u9, u10, by rw [hL]; exact a2, by rw [hF]; exact b2, by rw [hW]; exact c2, by rw [hH]; exact d2, by rw [hR]; exact r2⟩
