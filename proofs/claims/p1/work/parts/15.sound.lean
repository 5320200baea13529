/-! a run that says true shows what it says -/
section ZKD
variable {i : Instr} {a b : Nat} {v : Int}
theorem zkind_1 (h : zkind i a b v = 1) : ∃ x, i = .invokevirtual x := by
  unfold zkind at h
  split at h
  · exact ⟨_, rfl⟩
  all_goals repeat' split at h
  all_goals cases h
theorem zkind_2 (h : zkind i a b v = 2) : ∃ x, i = .invokestatic x ∧ b ≠ 99 ∧ a ≠ 9999 := by
  unfold zkind at h
  split at h
  · cases h
  · split at h
    · cases h
    · rename_i h1
      split at h
      · cases h
      · rename_i h2
        exact ⟨_, rfl, fun e => by subst e; simp at h1, fun e => by subst e; simp at h2⟩
  all_goals repeat' split at h
  all_goals cases h
theorem zkind_3 (h : zkind i a b v = 3) : ∃ x, i = .invokespecial x ∧ v ≠ 0 := by
  unfold zkind at h
  split at h
  · cases h
  · repeat' split at h
    all_goals cases h
  · split at h
    · cases h
    · rename_i h1
      exact ⟨_, rfl, h1⟩
  all_goals cases h
theorem zkind_4 (h : zkind i a b v = 4) : i = .ireturn := by
  unfold zkind at h
  split at h
  all_goals try rfl
  all_goals repeat' split at h
  all_goals cases h
theorem zkind_5 (h : zkind i a b v = 5) : i = .lreturn := by
  unfold zkind at h
  split at h
  all_goals try rfl
  all_goals repeat' split at h
  all_goals cases h
theorem zkind_6 (h : zkind i a b v = 6) : i = .return_ := by
  unfold zkind at h
  split at h
  all_goals try rfl
  all_goals repeat' split at h
  all_goals cases h
theorem zkind_7 (h : ∀ n, n < 7 → zkind i a b v ≠ n) : ∃ x, i = .invokestatic x ∧ b ≠ 99 ∧ a = 9999 := by
  have h9 : zkind i a b v = zkind i a b v := rfl
  generalize hk : zkind i a b v = k at h
  unfold zkind at hk
  split at hk
  · exact absurd hk.symm (by intro e; exact h 1 (by decide) e)
  · split at hk
    · exact absurd hk.symm (by intro e; exact h 0 (by decide) e)
    · rename_i h1
      split at hk
      · rename_i h2
        exact ⟨_, rfl, fun e => by subst e; simp at h1, Nat.eq_of_beq_eq_true h2⟩
      · exact absurd hk.symm (by intro e; exact h 2 (by decide) e)
  · split at hk
    · exact absurd hk.symm (by intro e; exact h 0 (by decide) e)
    · exact absurd hk.symm (by intro e; exact h 3 (by decide) e)
  · exact absurd hk.symm (by intro e; exact h 4 (by decide) e)
  · exact absurd hk.symm (by intro e; exact h 5 (by decide) e)
  · exact absurd hk.symm (by intro e; exact h 6 (by decide) e)
  · exact absurd hk.symm (by intro e; exact h 0 (by decide) e)
end ZKD
section ZF2
variable {me : zMe} {pc a b x : Nat} {v : Int}
theorem zf_virt (h : zOK me (pc, .invokevirtual x, a, b, v)) : ∃ m' q, zM a = some m' ∧ zcal a b = true ∧ zcl[v.toNat]? = some q ∧ q.1 = m'.1.cls ∧ Cond.methodLink me.1.cls x m'.1 ∈ ztab ∧ Cond.instanceMethod m'.1 ∈ ztab ∧ Cond.selects m'.1.cls m'.1 m'.1 ∈ ztab ∧ Cond.initialized m'.1.cls ∈ ztab := by
  have h2 := h.2.1
  simp only [zsd, Bool.and_eq_true] at h2
  obtain ⟨h3, h4⟩ := h2
  split at h4
  · rename_i m' q hm hq
    exact ⟨m', q, hm, h3, hq, of_decide_eq_true h4, zOK_tab h (by simp [zwds, hm]) rfl, zOK_tab h (by simp [zwds, hm]) rfl, zOK_tab h (by simp [zwds, hm]) rfl, zOK_tab h (by simp [zwds, hm]) rfl⟩
  · cases h4
theorem zf_stat (h : zOK me (pc, .invokestatic x, a, b, v)) (hb : b ≠ 99) : ∃ m', zM a = some m' ∧ zcal a b = true ∧ Cond.methodLink me.1.cls x m'.1 ∈ ztab ∧ Cond.static m'.1 ∈ ztab ∧ Cond.initialized m'.1.cls ∈ ztab := by
  have h2 : zcal a b = true := by
    have h2 := h.2.1
    simp only [zsd] at h2
    first
      | exact h2
      | (split at h2
         · exact absurd rfl hb
         · exact h2)
  have hm : ∃ m', zM a = some m' := by
    unfold zcal at h2
    split at h2
    · rename_i m' hm; exact ⟨m', hm⟩
    · cases h2
  obtain ⟨m', hm⟩ := hm
  have hw : zwds me.1.cls (.invokestatic x) a b v = [Cond.methodLink me.1.cls x m'.1, Cond.static m'.1, Cond.initialized m'.1.cls] := by
    simp only [zwds]
    first
      | rw [hm]
      | (split
         · exact absurd rfl hb
         · rw [hm])
  exact ⟨m', hm, h2, zOK_tab h (by simp only; rw [hw]; simp) rfl, zOK_tab h (by simp only; rw [hw]; simp) rfl, zOK_tab h (by simp only; rw [hw]; simp) rfl⟩
theorem zf_spec (h : zOK me (pc, .invokespecial x, a, b, v)) (hv : v ≠ 0) : ∃ m', zM a = some m' ∧ zcal a b = true ∧ m'.1.name = "<init>" ∧ m'.2.2.2 = none ∧ (Cond.methodLink me.1.cls x m'.1 ∈ ztab ∨ Cond.methodLinkNest me.1.cls x m'.1 "TinTower" ∈ lw_tbl) ∧ Cond.instanceMethod m'.1 ∈ ztab ∧ Cond.initialized m'.1.cls ∈ ztab := by
  have h2 := h.2.1
  simp only [zsd, Bool.and_eq_true] at h2
  obtain ⟨h3, h4⟩ := h2
  split at h4
  · rename_i m' hm
    simp only [Bool.and_eq_true, decide_eq_true_eq] at h4
    have hw : zwds me.1.cls (.invokespecial x) a b v = [Cond.methodLink me.1.cls x m'.1, Cond.instanceMethod m'.1, Cond.initialized m'.1.cls] ∨ zwds me.1.cls (.invokespecial x) a b v = [Cond.methodLinkNest me.1.cls x m'.1 "TinTower", Cond.instanceMethod m'.1, Cond.initialized m'.1.cls] := by
      by_cases hv1 : v = 1
      · subst hv1
        exact Or.inl (by simp only [zwds, hm])
      · refine Or.inr ?_
        simp only [zwds]
        first
          | rw [hm]
          | (split
             · exact absurd rfl hv
             · exact absurd rfl hv1
             · rw [hm])
    rcases hw with hw | hw
    · exact ⟨m', hm, h3, h4.1, h4.2, Or.inl (zOK_tab h (by simp only; rw [hw]; simp) rfl), zOK_tab h (by simp only; rw [hw]; simp) rfl, zOK_tab h (by simp only; rw [hw]; simp) rfl⟩
    · exact ⟨m', hm, h3, h4.1, h4.2, Or.inr (h.2.2 _ (by simp only; rw [hw]; simp)), zOK_tab h (by simp only; rw [hw]; simp) rfl, zOK_tab h (by simp only; rw [hw]; simp) rfl⟩
  · cases h4
theorem zM_9999 : zM 9999 = none := by decide +kernel
end ZF2
section ZSO
variable {l : Launch} {Lx : Nat} {xs : Nat → Int32} {ρ : Nat → Int} {lk : ZLK} {rec : ZRC}
theorem zent_ok (hrec : zRunOK l Lx xs ρ rec) (hTB : zTBok) {k : Nat} {as S : List AV} {P : List zPE} {nL rf rl rc rs : Nat} {Kr : ZKR} {sfx : List zPE} {pc : Nat} {A : AL} {h : AH} {E : AE} {c s : Nat} (hz : zent rec k as S P nL rf rl rc rs Kr sfx pc A h E c s = true) (hE : zaE ρ E) {av : List Value} {hp : List zhE} (hS : zaS ρ as av) (hH : zaH ρ h hp) {m' : zMe} (hm : zM k = some m') :
    (zrm k).frames + 1 ≤ rf ∧ 8 + (m'.2.2.1 + 11) + (zrm k).locals ≤ rl ∧ c + (zrm k).cells ≤ rc ∧ s + (zrm k).slots ≤ rs ∧ S.length ≤ 4 ∧ zMet l Lx xs m' (zrm k) av hp (fun rv hp' => ∃ r h' E', rec P nL rf rl rc rs Kr sfx (pc + 3) A (zpush r S) h' E' (c + (zrm k).cells) (s + (zrm k).slots) = true ∧ zaE ρ E' ∧ zaR ρ r rv ∧ zaH ρ h' hp') := by
  unfold zent at hz
  split at hz
  rename_i P' nL' rf' rl' rc' rs' hrw
  split at hz
  · rename_i hc
    simp only [Bool.and_eq_true] at hc
    obtain ⟨c1, c2, c3, c4, c5, c6, c7⟩ := hc
    have c1 := Nat.le_of_ble_eq_true c1
    have c2 := Nat.le_of_ble_eq_true c2
    have c3 := Nat.le_of_ble_eq_true c3
    have c4 := Nat.le_of_ble_eq_true c4
    have c5 := Nat.le_of_ble_eq_true c5
    have c6 := Nat.le_of_ble_eq_true c6
    have c7 := Nat.le_of_ble_eq_true c7
    obtain ⟨m2, hm2, hOK, hnL, hpl⟩ := hTB k (by omega)
    cases hm.symm.trans hm2
    obtain ⟨A', g1, g2⟩ := zargs_ok hz hS
    have e1 : zrm k = { frames := rf', locals := rl', cells := rc', slots := rs' } := by simp only [zrm, hrw]
    rw [hrw] at hnL
    simp only at hnL
    have e2 : (zrm k).cells = rc' := by rw [e1]
    have e3 : (zrm k).slots = rs' := by rw [e1]
    have e4 : (zrm k).frames = rf' := by rw [e1]
    have e5 : (zrm k).locals = rl' := by rw [e1]
    rw [e2, e3, e4, e5]
    refine ⟨c1, by rw [hnL]; exact c2, c3, c4, c5, ?_⟩
    refine zmet_of_run hrec hTB (by omega) hm ?_ hE g2 hS ?_ hH (Kr := fun r h E => rec P nL rf rl rc rs Kr sfx (pc + 3) A (zpush r S) h E (c + rc') (s + rs'))
    · rw [hrw]
      simp only [zfn_eq] at g1
      exact g1
    · rw [hrw]; exact c6
  · cases hz
theorem zrest_le {B : zB} {S : List AV} {st : List Value} (hS : zaS ρ S st) (h : S.length ≤ 4) : ((st.map (zvm B)).map fun v => v.category).sum ≤ 8 := by
  have h1 := zcat_le B st
  have h2 := zAll_len hS
  omega
set_option maxHeartbeats 4000000 in
theorem zrun_ok (hTB : zTBok) (hX : zX ρ Lx xs) (hlk : zLKok l Lx xs ρ lk) : ∀ n, zRunOK l Lx xs ρ (zrun lk n) := by
  intro n
  induction n with
  | zero =>
    intro P nL rf rl rc rs Kr sfx pc A S h E c s hz
    cases hz
  | succ n ih =>
    intro P nL rf rl rc rs Kr sfx pc A S h E c s hz me hP hsfx hnL p e R s0 m args below meth c0 Q D B tA H0 hC hK h1 h2 h3 h4 hLaw hret
    subst h1; subst h2; subst h3; subst h4
    obtain ⟨⟨pc', i, a, b, v⟩, sfx', hin, hpc, hsfx', hz⟩ := zfetch_ok hsfx hz
    simp only at hpc hz
    subst hpc
    have next : ∀ pc A S h E c s, zrun lk n P nL R.frames R.locals R.cells R.slots Kr sfx' pc A S h E c s = true → zS (zW p l e R s0 m args below meth c0 Q) D B tA H0 nL ρ pc A S h E c s := fun pc A S h E c s hk =>
      ih _ _ _ _ _ _ _ _ _ _ _ _ _ _ _ hk me hP hsfx' hnL p e R s0 m args below meth c0 Q D B tA H0 hC hK rfl rfl rfl rfl hLaw hret
    have hOKs : zkind i a b v ≠ 7 → zOK me (pc', i, a, b, v) := fun hk => by
      rcases hP _ hin with h | ⟨h1, h2, h3, h4, h5⟩
      · exact h
      · simp only at h1 h2 h3
        subst h1; subst h2; subst h3
        exact absurd rfl hk
    split at hz
    · rename_i hk
      exact zdo_ok hz next (hOKs (by rw [hk]; decide)) hC hK hX hnL
    · rename_i hk
      obtain ⟨x, rfl⟩ := zkind_1 hk
      have hOK := hOKs (by rw [hk]; decide)
      obtain ⟨m', q, hm, hcal, hq, hq1, w1, w2, w3, w4⟩ := zf_virt hOK
      have hd := zf_dec hOK rfl
      intro hE L st hp hL hS hH H locs ls k1 k2 k3
      obtain ⟨as, S', vs, st', g1, g2, g3, g4, g5⟩ := zspl_ok (va := []) hz hS trivial
      split at g1
      · match st', g3 with
        | w :: st', g3 =>
          obtain ⟨j, rfl, g6⟩ := zref_ok g1 g3.1
          obtain ⟨fs, vv, -, g7, g8, -⟩ := zobj_ok g6 hH
          obtain ⟨e1, e2, e3, e4, e5, hM⟩ := zent_ok ih hTB g7 hE (av := .ref j :: vs) ⟨g3.1, g2⟩ hH hm
          have es : st = vs.reverse ++ .ref j :: st' := g5
          have est : st.map (zvm B) = (vs.map (zvm B)).reverse ++ .ref (B.1 + j) :: st'.map (zvm B) := by
            rw [es, List.map_append, List.map_reverse]; rfl
          show W p l e R s0 m args below meth c0 H locs c s Q (F0 m pc' ls (st.map (zvm B)))
          rw [est]
          refine zr_virt hC hK k1 k2 (k3.1.trans hnL) hm hcal w1 w2 w3 w4 g8 hq hq1 hM ⟨e1, e2⟩ ⟨e3, e4⟩ (by simpa using g4) (zrest_le g3.2 e5) hd (fun rv hp' hQ H1 locs1 n1 n2 => ?_)
          obtain ⟨r, h', E', f1, f2, f3, f4⟩ := hQ
          have f5 := next _ _ _ _ _ _ _ f1 f2 L (rv.toList ++ st') hp' hL (by
            unfold zaR at f3
            split at f3
            · exact ⟨f3, g3.2⟩
            · exact g3.2
            · exact f3.elim) f4 H1 locs1 ls n1 n2 k3
          have f6 : (rv.toList ++ st').map (zvm B) = (rv.map (zvm B)).toList ++ st'.map (zvm B) := by
            cases rv <;> rfl
          rw [f6] at f5
          exact f5
        | [], g3 => exact g3.elim
      · cases g1
    · rename_i hk
      obtain ⟨x, rfl, hb, ha⟩ := zkind_2 hk
      have hOK := hOKs (by rw [hk]; decide)
      obtain ⟨m', hm, hcal, w1, w2, w4⟩ := zf_stat hOK hb
      have hd := zf_dec hOK rfl
      intro hE L st hp hL hS hH H locs ls k1 k2 k3
      obtain ⟨as, S', vs, st', g1, g2, g3, g4, g5⟩ := zspl_ok (va := []) hz hS trivial
      obtain ⟨e1, e2, e3, e4, e5, hM⟩ := zent_ok ih hTB g1 hE g2 hH hm
      have es : st = vs.reverse ++ st' := g5
      have est : st.map (zvm B) = (vs.map (zvm B)).reverse ++ st'.map (zvm B) := by
        rw [es, List.map_append, List.map_reverse]
      show W p l e R s0 m args below meth c0 H locs c s Q (F0 m pc' ls (st.map (zvm B)))
      rw [est]
      refine zr_stat hC hK k1 k2 (k3.1.trans hnL) hm hcal w1 w2 w4 hM ⟨e1, e2⟩ ⟨e3, e4⟩ (by simpa using g4) (zrest_le g3 e5) hd (fun rv hp' hQ H1 locs1 n1 n2 => ?_)
      obtain ⟨r, h', E', f1, f2, f3, f4⟩ := hQ
      have f5 := next _ _ _ _ _ _ _ f1 f2 L (rv.toList ++ st') hp' hL (by
        unfold zaR at f3
        split at f3
        · exact ⟨f3, g3⟩
        · exact g3
        · exact f3.elim) f4 H1 locs1 ls n1 n2 k3
      have f6 : (rv.toList ++ st').map (zvm B) = (rv.map (zvm B)).toList ++ st'.map (zvm B) := by
        cases rv <;> rfl
      rw [f6] at f5
      exact f5
    · rename_i hk
      obtain ⟨x, rfl, hv⟩ := zkind_3 hk
      have hOK := hOKs (by rw [hk]; decide)
      obtain ⟨m', hm, hcal, hn1, hn2, w1, w2, w4⟩ := zf_spec hOK hv
      have hd := zf_dec hOK rfl
      intro hE L st hp hL hS hH H locs ls k1 k2 k3
      obtain ⟨as, S', vs, st', g1, g2, g3, g4, g5⟩ := zspl_ok (va := []) hz hS trivial
      split at g1
      · match st', g3 with
        | w :: st', g3 =>
          obtain ⟨j, rfl, g7⟩ := zref_ok g1 g3.1
          obtain ⟨e1, e2, e3, e4, e5, hM⟩ := zent_ok ih hTB g7 hE (av := .ref j :: vs) ⟨g3.1, g2⟩ hH hm
          have es : st = vs.reverse ++ .ref j :: st' := g5
          have est : st.map (zvm B) = (vs.map (zvm B)).reverse ++ .ref (B.1 + j) :: st'.map (zvm B) := by
            rw [es, List.map_append, List.map_reverse]; rfl
          show W p l e R s0 m args below meth c0 H locs c s Q (F0 m pc' ls (st.map (zvm B)))
          rw [est]
          refine zr_spec hC hK k1 k2 (k3.1.trans hnL) hm hcal hn1 hn2 w1 w2 w4 hM ⟨e1, e2⟩ ⟨e3, e4⟩ (by simpa using g4) (zrest_le g3.2 e5) hd (fun rv hp' hQ H1 locs1 n1 n2 => ?_)
          obtain ⟨r, h', E', f1, f2, f3, f4⟩ := hQ
          have f5 := next _ _ _ _ _ _ _ f1 f2 L (rv.toList ++ st') hp' hL (by
            unfold zaR at f3
            split at f3
            · exact ⟨f3, g3.2⟩
            · exact g3.2
            · exact f3.elim) f4 H1 locs1 ls n1 n2 k3
          have f6 : (rv.toList ++ st').map (zvm B) = (rv.map (zvm B)).toList ++ st'.map (zvm B) := by
            cases rv <;> rfl
          rw [f6] at f5
          exact f5
        | [], g3 => exact g3.elim
      · cases g1
    · rename_i hk
      obtain rfl := zkind_4 hk
      have hOK := hOKs (by rw [hk]; decide)
      have hd := zf_dec hOK rfl
      intro hE L st hp hL hS hH H locs ls k1 k2 k3
      simp only [Bool.and_eq_true] at hz
      obtain ⟨z1, z2, z3⟩ := hz
      split at z3
      · match st, hS with
        | [w], hS =>
          rw [Bool.and_eq_true] at z3
          obtain ⟨z3, z4⟩ := z3
          have hside := hOK.2.1
          simp only [zsd] at hside
          have hRI : zRI me pc' (some w) := by
            refine Or.inl ⟨hd, ?_⟩
            split at z3
            · obtain ⟨x, rfl⟩ := zint_of (zint_ok z3) hS.1
              exact ⟨x, .int, rfl, of_decide_eq_true hside, rfl⟩
            · rename_i hn0
              obtain ⟨x, l', u, rfl, b1, b2, b3⟩ := ziv_ok z3 hE hS.1
              simp only [Bool.and_eq_true, zle_iff] at b1
              split at hside
              · exact absurd rfl hn0
              · refine ⟨x, .boolean, rfl, of_decide_eq_true hside, ?_⟩
                rcases zb_01 (x := x) (by omega) (by omega) with rfl | rfl <;> decide
          exact hret _ _ _ z4 hE (some w) hp hS.1 hH H locs ls pc' c s k1 k2 (Nat.le_of_ble_eq_true z1) (Nat.le_of_ble_eq_true z2) hRI
        | [], hS => exact hS.elim
        | _ :: _ :: _, hS => exact hS.2.elim
      · cases z3
    · rename_i hk
      obtain rfl := zkind_5 hk
      have hOK := hOKs (by rw [hk]; decide)
      have hd := zf_dec hOK rfl
      intro hE L st hp hL hS hH H locs ls k1 k2 k3
      simp only [Bool.and_eq_true] at hz
      obtain ⟨z1, z2, z3⟩ := hz
      split at z3
      · match st, hS with
        | [w], hS =>
          rw [Bool.and_eq_true] at z3
          obtain ⟨z3, z4⟩ := z3
          have hside := hOK.2.1
          simp only [zsd] at hside
          obtain ⟨x, rfl⟩ := zlng_ok z3 hS.1
          exact hret _ _ _ z4 hE (some (.long x)) hp hS.1 hH H locs ls pc' c s k1 k2 (Nat.le_of_ble_eq_true z1) (Nat.le_of_ble_eq_true z2) (Or.inr (Or.inl ⟨hd, x, rfl, of_decide_eq_true hside⟩))
        | [], hS => exact hS.elim
        | _ :: _ :: _, hS => exact hS.2.elim
      · cases z3
    · rename_i hk
      obtain rfl := zkind_6 hk
      have hOK := hOKs (by rw [hk]; decide)
      have hd := zf_dec hOK rfl
      intro hE L st hp hL hS hH H locs ls k1 k2 k3
      simp only [Bool.and_eq_true] at hz
      obtain ⟨z1, z2, z3⟩ := hz
      split at z3
      · match st, hS with
        | [], hS =>
          have hside := hOK.2.1
          simp only [zsd] at hside
          exact hret _ _ _ z3 hE none hp trivial hH H locs ls pc' c s k1 k2 (Nat.le_of_ble_eq_true z1) (Nat.le_of_ble_eq_true z2) (Or.inr (Or.inr ⟨hd, rfl, of_decide_eq_true hside⟩))
        | _ :: _, hS => exact hS.elim
      · cases z3
    · rename_i n0 n1 n2 n3 n4 n5 n6
      obtain ⟨x, rfl, hb, rfl⟩ := zkind_7 (i := i) (a := a) (b := b) (v := v) (fun j hj e => by
        rcases (show j = 0 ∨ j = 1 ∨ j = 2 ∨ j = 3 ∨ j = 4 ∨ j = 5 ∨ j = 6 by omega) with rfl | rfl | rfl | rfl | rfl | rfl | rfl
        · exact n0 e
        · exact n1 e
        · exact n2 e
        · exact n3 e
        · exact n4 e
        · exact n5 e
        · exact n6 e)
      have hsp : zSp me (pc', .invokestatic x, 9999, b, v) := by
        rcases hP _ hin with h | h
        · obtain ⟨m', hm, -⟩ := zf_stat h hb
          rw [zM_9999] at hm
          cases hm
        · exact h
      obtain ⟨s1, s2, s3, s4, s5⟩ := hsp
      simp only at s1 s3 s4
      subst s3
      intro hE L st hp hL hS hH H locs ls k1 k2 k3
      obtain ⟨as, S', vs, st', g1, g2, g3, g4, g5⟩ := zspl_ok (va := []) hz hS trivial
      split at g1
      · rename_i hle
        have hle := Nat.le_of_ble_eq_true hle
        have es : st = vs.reverse ++ st' := g5
        have est : st.map (zvm B) = (vs.map (zvm B)).reverse ++ st'.map (zvm B) := by
          rw [es, List.map_append, List.map_reverse]
        show W p l e R s0 m args below meth c0 H locs c s Q (F0 m pc' ls (st.map (zvm B)))
        rw [est]
        refine hlk as h E c s _ g1 hE vs hp g2 hH p e R s0 m args below meth c0 Q D B tA H0 me pc' (st'.map (zvm B)) hC hK s5 s4 (zrest_le g3 hle) (hLaw s5) H locs ls k1 k2 (k3.1.trans hnL) (fun r h' c' s' hk rv hp' q1 q2 H1 locs1 q3 q4 => ?_)
        rw [zfn_eq] at hk
        exact next _ _ _ _ _ _ _ hk hE L (rv :: st') hp' hL ⟨q1, g3⟩ q2 H1 locs1 ls q3 q4 k3
      · cases g1
end ZSO
