/-! comesDown and layPulled, from the model's shape -/
theorem zMO_obj {η : List Nat} {j : Nat} {ρ : List Int} {hp : List zhE} (h : zMO η j ρ hp) : η[0]? = some j ∧ ∃ fs vs, zPM.2.2.1[0]? = some (0, .inl (12, fs)) ∧ hp[j]? = some (.inr (12, vs)) ∧ zaS η ρ fs vs := by
  obtain ⟨-, -, -, p2, p3, -⟩ := h
  obtain ⟨j', hj', e⟩ := p2.1
  cases e
  have hj' : η[0]? = some j := hj'
  obtain ⟨a, vs, a1, a2, a3⟩ := zcelO (i := 0) p3 (by rfl)
  cases hj'.symm.trans a1
  exact ⟨hj', _, vs, rfl, a2, a3⟩
theorem zMO_row {η : List Nat} {j : Nat} {ρ : List Int} {hp : List zhE} (h : zMO η j ρ hp) (c b : Nat) {n : Nat} {lo hi : Int} (hc : zPM.2.2.1[c]? = some (c, .inr (.inl (0, n, 1, [(lo, hi)], [])))) (hb : ∀ fs, zPM.2.2.1[0]? = some (0, .inl (12, fs)) → fs[b]? = some (2, ((c : Int), []))) : ∃ i f, η[c]? = some i ∧ hp[i]? = some (.inl (0, n, .inl f)) ∧ (∀ k, k < n → lo ≤ (f k).toInt ∧ (f k).toInt ≤ hi) ∧ ∀ vs, hp[j]? = some (.inr (12, vs)) → vs[b]? = some (.ref i) := by
  obtain ⟨-, fs, vs, h1, h2, h3⟩ := zMO_obj h
  obtain ⟨i, x, b1, b2, ⟨f, rfl⟩, b4⟩ := zcell h.2.2.2.2.1 hc
  refine ⟨i, f, b1, b2, fun k hk => zrow1 b4 hk, fun vs' hv => ?_⟩
  rw [h2] at hv
  cases hv
  exact zfldR h3 (hb fs h1) b1
theorem zMO_int {η : List Nat} {j : Nat} {ρ : List Int} {hp : List zhE} (h : zMO η j ρ hp) (b m : Nat) {lo hi : Int} (hm : zPM.2.2.2.1[m]? = some (lo, hi)) (hb : ∀ fs, zPM.2.2.1[0]? = some (0, .inl (12, fs)) → fs[b]? = some (0, (0, [(m, 1)]))) : ∃ y : Int32, ρ[m]? = some y.toInt ∧ lo ≤ y.toInt ∧ y.toInt ≤ hi ∧ ∀ vs, hp[j]? = some (.inr (12, vs)) → vs[b]? = some (.int y) := by
  obtain ⟨-, fs, vs, h1, h2, h3⟩ := zMO_obj h
  obtain ⟨y, y1, y2, y3, y4⟩ := zfldI h3 (hb fs h1) h.2.2.2.2.2.1 hm
  refine ⟨y, y2, y3, y4, fun vs' hv => ?_⟩
  rw [h2] at hv
  cases hv
  exact y1
/-- the rows of a shape -/
def zRM (η : List Nat) (j iL iF iW iH : Nat) (ρ : List Int) (ev : Int32) (lf ff wf hf : Nat → Int32) (hp : List zhE) : Prop := zMO η j ρ hp ∧ η[4]? = some iL ∧ η[5]? = some iF ∧ η[6]? = some iW ∧ η[7]? = some iH ∧ ρ[11]? = some ev.toInt ∧ zRW j iL iF iW iH ev lf ff wf hf hp
theorem zfs0 {c b : Nat} {x : AV} {fs0 : List AV} (h0 : zPM.2.2.1[0]? = some (0, .inl (12, fs0))) (hb : fs0[b]? = some x) : ∀ fs, zPM.2.2.1[0]? = some (0, .inl (12, fs)) → fs[b]? = some x := fun fs h => by
  rw [h0] at h
  cases h
  exact hb
theorem zRM_mk {η : List Nat} {j : Nat} {ρ : List Int} {hp : List zhE} (h : zMO η j ρ hp) : ∃ iL iF iW iH ev lf ff wf hf, zRM η j iL iF iW iH ρ ev lf ff wf hf hp := by
  obtain ⟨-, fs, vs, h1, h2, h3⟩ := zMO_obj h
  obtain ⟨iL, lf, a1, a2, -, a4⟩ := zMO_row h 4 21 (by rfl) (zfs0 (c := 0) (by rfl) (by rfl))
  obtain ⟨iF, ff, b1, b2, -, b4⟩ := zMO_row h 5 22 (by rfl) (zfs0 (c := 0) (by rfl) (by rfl))
  obtain ⟨iW, wf, c1, c2, -, c4⟩ := zMO_row h 6 23 (by rfl) (zfs0 (c := 0) (by rfl) (by rfl))
  obtain ⟨iH, hf, d1, d2, -, d4⟩ := zMO_row h 7 24 (by rfl) (zfs0 (c := 0) (by rfl) (by rfl))
  obtain ⟨ev, e1, -, -, e4⟩ := zMO_int h 13 11 (by rfl) (zfs0 (c := 0) (by rfl) (by rfl))
  exact ⟨iL, iF, iW, iH, ev, lf, ff, wf, hf, h, a1, b1, c1, d1, e1, vs, h2, e4 vs h2, a4 vs h2, b4 vs h2, c4 vs h2, d4 vs h2, a2, b2, c2, d2⟩
theorem zRM_keep {η : List Nat} {j iL iF iW iH : Nat} {ρ ρ2 : List Int} {ev : Int32} {lf ff wf hf : Nat → Int32} {hp hp' : List zhE} (h : zRM η j iL iF iW iH ρ ev lf ff wf hf hp) (h2 : zMO η j ρ2 hp') (he : ρ2[11]? = ρ[11]?) (hL : hp'[iL]? = hp[iL]?) (hF : hp'[iF]? = hp[iF]?) (hW : hp'[iW]? = hp[iW]?) (hH : hp'[iH]? = hp[iH]?) : zRM η j iL iF iW iH ρ2 ev lf ff wf hf hp' := by
  obtain ⟨-, a1, b1, c1, d1, e1, vs, -, -, -, -, -, -, a2, b2, c2, d2⟩ := h
  obtain ⟨iL', iF', iW', iH', ev', lf', ff', wf', hf', q0, q1, q2, q3, q4, q5, us, r1, r2, r3, r4, r5, r6, r7, r8, r9, r10⟩ := zRM_mk h2
  cases a1.symm.trans q1
  cases b1.symm.trans q2
  cases c1.symm.trans q3
  cases d1.symm.trans q4
  have e : ev' = ev := by
    rw [he, e1] at q5
    exact Int32.toInt_inj.1 (Option.some.inj q5).symm
  subst e
  exact ⟨h2, a1, b1, c1, d1, by rw [he]; exact e1, us, r1, r2, r3, r4, r5, r6, by rw [hL]; exact a2, by rw [hF]; exact b2, by rw [hW]; exact c2, by rw [hH]; exact d2⟩
/-- the symbols that layEdges leaves as they are -/
def zKP : List Nat := [0, 1, 2, 3, 4, 5, 6, 7, 8, 9, 10, 11, 12, 13, 14, 15, 16, 17, 18, 19, 20, 21, 22, 23, 24, 25, 29, 30, 31, 32, 33, 34, 35, 36]
def zI32 : Int × Int := (-2147483648, 2147483647)
/-- frame, with what may change -/
def zFm (η : List Nat) (W : List Nat) (hp hp' : List zhE) : Prop := hp.length ≤ hp'.length ∧ ∀ i, i < hp.length → (∀ w ∈ W, η[w]? ≠ some i) → hp'[i]? = hp[i]?
theorem zFm.refl {η W : List Nat} {hp : List zhE} : zFm η W hp hp := ⟨Nat.le_refl _, fun _ _ _ => rfl⟩
theorem zFm.trans {η W : List Nat} {hp h1 h2 : List zhE} (a : zFm η W hp h1) (b : zFm η W h1 h2) : zFm η W hp h2 := ⟨Nat.le_trans a.1 b.1, fun i hi hw => (b.2 i (Nat.lt_of_lt_of_le hi a.1) hw).trans (a.2 i hi hw)⟩
theorem zFm.mono {η W V : List Nat} {hp h1 : List zhE} (a : zFm η W hp h1) (h : ∀ w ∈ W, w ∈ V) : zFm η V hp h1 := ⟨a.1, fun i hi hw => a.2 i hi (fun w hw2 => hw w (h w hw2))⟩
theorem zFm.at {η W : List Nat} {j c i : Nat} {ρ : List Int} {hp hp' : List zhE} (a : zFm η W hp hp') (hM : zMO η j ρ hp) (hc : η[c]? = some i) (hn : ¬ c ∈ W) : hp'[i]? = hp[i]? := a.2 i (hM.2.1.2 c i hc) (fun w hw e => hn (by rw [hM.2.1.1 c w i hc e]; exact hw))
section ZLP2
variable {lk : ZLP} {Lx : Nat} {xs : Nat → Int32} {Q : ZP} {η : List Nat} {j iL iF iW iH : Nat} {ρ : List Int} {ev : Int32} {lf ff wf hf : Nat → Int32} {hp : List zhE}
def zLE (lk : ZLP) (Lx : Nat) (xs : Nat → Int32) : Prop := ∃ C : CT, C.1 = 202 ∧ zHolds lk Lx xs C ∧ zcM C [(0, 8), zI32] [0, 18, 19, 20] zKP (fun r _ => r.isEmpty) = true
theorem zlayE (hE : zLE lk Lx xs) (H : zRM η j iL iF iW iH ρ ev lf ff wf hf hp) {t : Nat} (ht : t < 9) {set : Int32} : zWP lk Lx xs 202 (0, lv_args 0 [.ref j, .int (Int32.ofInt (t : Int)), .int set], [], hp, 0, 0) (fun rv hp' => rv = none ∧ ∃ ρ2, zRM η j iL iF iW iH ρ2 ev lf ff wf hf hp' ∧ (∀ i ∈ zKP, ρ2[i]? = ρ[i]?) ∧ zFm η [0, 18, 19, 20] hp hp') := by
  obtain ⟨C, c1, c2, c3⟩ := hE
  have h := zcM_ok c2 c3 H.1 (by decide) (vals := [Int32.ofInt (t : Int), set]) ⟨by rw [zof_ix (by omega)]; simp only; omega, by rw [zof_ix (by omega)]; simp only; omega, (zb_rng set).1, (zb_rng set).2, trivial⟩
  rw [c1] at h
  refine h.post ?_
  rintro rv hp' ⟨ρ2, q1, q2, q3, q4, r, G, ρ3, q5, -, q7⟩
  have hF : zFm η [0, 18, 19, 20] hp hp' := ⟨q3, q4⟩
  obtain ⟨hM, a1, b1, d1, e1, -⟩ := id H
  refine ⟨?_, ρ2, zRM_keep H q1 (q2 11 (by decide)) (hF.at hM a1 (by decide)) (hF.at hM b1 (by decide)) (hF.at hM d1 (by decide)) (hF.at hM e1 (by decide)), q2, hF⟩
  have hr : r = [] := by
    cases r with
    | nil => rfl
    | cons a l => cases q5
  subst hr
  cases rv with
  | none => rfl
  | some v => exact q7.elim
theorem zcomes (hE : zLE lk Lx xs) (H : zRM η j iL iF iW iH ρ ev lf ff wf hf hp) {t : Nat} (ht : t < 9) {set : Int32} : zWP lk Lx xs 236 (0, lv_args 0 [.ref j, .int (Int32.ofInt (t : Int)), .int set], [], hp, 0, 0) (fun rv hp' => ∃ ρ2, zRM η j iL iF iW iH ρ2 ev lf ff wf hf hp' ∧ (∀ i ∈ zKP, ρ2[i]? = ρ[i]?) ∧ zFm η [0, 18, 19, 20] hp hp' ∧ (rv = some (.int (Int32.ofInt 0)) ∨ (rv = some (.int (Int32.ofInt 1)) ∧ (zdownV lf ff wf hf ev t set).toInt < (ff t).toInt))) := by
  obtain ⟨vs, h1, -⟩ := id H.2.2.2.2.2.2
  iterate 3 refine zs0 (by rfl) rfl rfl ?_
  refine zs_virt (vs := [.int (Int32.ofInt (t : Int)), .int set]) (by rfl) rfl h1 (by rfl) (Nat.le_of_ble_eq_true (by rfl)) (Nat.le_of_ble_eq_true (by rfl)) (by decide +kernel) (by decide +kernel) (zlayE hE H ht) ?_
  rintro rv hp' ⟨rfl, ρ2, H2, k2, F2⟩
  obtain ⟨us, r1, r2, r3, r4, r5, r6, r7, r8, r9, r10⟩ := id H2.2.2.2.2.2.2
  obtain ⟨ed, -, -, -, e4⟩ := zMO_int H2.1 48 28 (by rfl) (zfs0 (c := 0) (by rfl) (by rfl))
  refine zs0 (by rfl) rfl rfl ?_
  refine zs_get (by rfl) r1 (e4 us r1) ?_
  refine zs_if (by rfl) (t := 32) (by rfl) (fun _ => ?_) (fun _ => ?_)
  · refine zs0 (by rfl) rfl rfl ?_
    exact zs_ret (by rfl) (Or.inr (Or.inl (by decide))) ⟨ρ2, H2, k2, F2, Or.inl rfl⟩
  · iterate 3 refine zs0 (by rfl) rfl rfl ?_
    refine zs_virt (vs := [.int (Int32.ofInt (t : Int)), .int set]) (by rfl) rfl r1 (by rfl) (Nat.le_of_ble_eq_true (by rfl)) (Nat.le_of_ble_eq_true (by rfl)) (by decide +kernel) (by decide +kernel) (zdown H2.2.2.2.2.2.2 ht) ?_
    rintro rv hq ⟨rfl, rfl⟩
    refine zs0 (by rfl) rfl rfl ?_
    refine zs_get (by rfl) r1 r4 ?_
    refine zs0 (by rfl) rfl rfl ?_
    refine zs_aldN (by rfl) r8 (by omega) (by decide) ?_
    refine zs_icmp (by rfl) (t := 32) (by rfl) (fun _ => ?_) (fun q => ?_)
    · refine zs0 (by rfl) rfl rfl ?_
      exact zs_ret (by rfl) (Or.inr (Or.inl (by decide))) ⟨ρ2, H2, k2, F2, Or.inl rfl⟩
    · have q : decide (ff t ≤ zdownV lf ff wf hf ev t set) = false := q
      rw [decide_eq_false_iff_not, Int32.le_iff_toInt_le] at q
      iterate 2 refine zs0 (by rfl) rfl rfl ?_
      exact zs_ret (by rfl) (Or.inr (Or.inr (by decide))) ⟨ρ2, H2, k2, F2, Or.inr ⟨rfl, by omega⟩⟩
/-- what is known of the lowest -/
def zLow (lf ff wf hf : Nat → Int32) (ev set : Int32) (low : Int32) : Prop := low = Int32.ofInt (-1) ∨ ∃ o : Nat, o < 9 ∧ low = Int32.ofInt (o : Int) ∧ zIs set (Int32.ofInt (o : Int)) = 1 ∧ (zdownV lf ff wf hf ev o set).toInt < (ff o).toInt
def zRs (j t : Nat) (set m : Int32) (R : zL) : Prop := R = [(3, .int m), (2, .int set), (0, .ref j), (1, .int (Int32.ofInt (t : Int)))] ∨ R = [(2, .int set), (3, .int m), (0, .ref j), (1, .int (Int32.ofInt (t : Int)))]
set_option maxHeartbeats 4000000 in
theorem zpull_in (hE : zLE lk Lx xs) {t : Nat} {set m : Int32} {ρ0 : List Int} {hp0 : List zhE} (hnext : ∀ (ρ : List Int) (hp : List zhE) (low : Int32), zRM η j iL iF iW iH ρ ev lf ff wf hf hp → (∀ i ∈ zKP, ρ[i]? = ρ0[i]?) → zFm η [0, 18, 19, 20] hp0 hp → zLow lf ff wf hf ev set low → zWP lk Lx xs 237 (92, [(3, .int (match zcb .lt low 0 with | true => Int32.ofInt 0 | false => Int32.ofInt 1)), (5, .int (Int32.ofInt ((9 : Nat) : Int))), (4, .int low), (2, .int set), (0, .ref j), (1, .int (Int32.ofInt (t : Int)))], [], hp, 0, 0) Q) : ∀ (d k : Nat) (ρ : List Int) (hp : List zhE) (low : Int32) (R : zL), k + d = 9 → zRs j t set m R → zRM η j iL iF iW iH ρ ev lf ff wf hf hp → (∀ i ∈ zKP, ρ[i]? = ρ0[i]?) → zFm η [0, 18, 19, 20] hp0 hp → zLow lf ff wf hf ev set low → zWP lk Lx xs 237 (23, (5, .int (Int32.ofInt (k : Int))) :: (4, .int low) :: R, [], hp, 0, 0) Q := by
  intro d
  induction d with
  | zero =>
    intro k ρ hp low R hk hR H hkp hF hlow
    have hk : k = 9 := by omega
    subst hk
    have tail : zWP lk Lx xs 237 (81, (5, .int (Int32.ofInt ((9 : Nat) : Int))) :: (4, .int low) :: R, [], hp, 0, 0) Q := by
      have hn := hnext ρ hp low H hkp hF hlow
      rcases hR with rfl | rfl
      all_goals
        refine zs0 (by rfl) rfl rfl ?_
        refine zs_if (by rfl) (t := 90) (by rfl) (fun q => ?_) (fun q => ?_)
        · rw [q] at hn
          iterate 2 refine zs0 (by rfl) rfl rfl ?_
          exact hn
        · rw [q] at hn
          iterate 3 refine zs0 (by rfl) rfl rfl ?_
          exact hn
    rcases hR with rfl | rfl
    all_goals
      iterate 2 refine zs0 (by rfl) rfl rfl ?_
      refine zs_icmp (by rfl) (t := 81) (by rfl) (fun _ => tail) (fun hb => absurd hb (by decide))
  | succ d ih =>
    intro k ρ hp low R hk hR H hkp hF hlow
    obtain ⟨us, r1, r2, r3, r4, r5, r6, r7, r8, r9, r10⟩ := id H.2.2.2.2.2.2
    have hlt : ¬ zcb .ge (Int32.ofInt (k : Int)) (Int8.ofInt 9).toInt32 = true := fun q => by
      have q : decide ((Int8.ofInt 9).toInt32 ≤ Int32.ofInt (k : Int)) = true := q
      rw [decide_eq_true_eq, Int32.le_iff_toInt_le, zof_ix (by omega)] at q
      have e : ((Int8.ofInt 9).toInt32).toInt = 9 := by decide
      omega
    -- on, whatever the lowest is now
    have go : ∀ (ρ : List Int) (hp : List zhE) (low : Int32), zRM η j iL iF iW iH ρ ev lf ff wf hf hp → (∀ i ∈ zKP, ρ[i]? = ρ0[i]?) → zFm η [0, 18, 19, 20] hp0 hp → zLow lf ff wf hf ev set low → zWP lk Lx xs 237 (75, (5, .int (Int32.ofInt (k : Int))) :: (4, .int low) :: R, [], hp, 0, 0) Q := by
      intro ρ hp low H hkp hF hlow
      have hn := ih (k + 1) ρ hp low R (by omega) hR H hkp hF hlow
      rw [← zof_up] at hn
      rcases hR with rfl | rfl
      all_goals
        refine zs0 (by rfl) rfl rfl ?_
        refine zs0 (by rfl) rfl rfl ?_
        exact hn
    have go2 : ∀ (ρ : List Int) (hp : List zhE), zRM η j iL iF iW iH ρ ev lf ff wf hf hp → (∀ i ∈ zKP, ρ[i]? = ρ0[i]?) → zFm η [0, 18, 19, 20] hp0 hp → zLow lf ff wf hf ev set (Int32.ofInt (k : Int)) → zWP lk Lx xs 237 (75, (4, .int (Int32.ofInt (k : Int))) :: (5, .int (Int32.ofInt (k : Int))) :: R, [], hp, 0, 0) Q := by
      intro ρ hp H hkp hF hlow
      have hn := ih (k + 1) ρ hp _ R (by omega) hR H hkp hF hlow
      rw [← zof_up] at hn
      rcases hR with rfl | rfl
      all_goals
        refine zs0 (by rfl) rfl rfl ?_
        refine zs0 (by rfl) rfl rfl ?_
        exact hn
    rcases id hR with rfl | rfl
    all_goals
      iterate 2 refine zs0 (by rfl) rfl rfl ?_
      refine zs_icmp (by rfl) (t := 81) (by rfl) (fun hb => absurd hb hlt) (fun _ => ?_)
      iterate 2 refine zs0 (by rfl) rfl rfl ?_
      refine zs_stat (vs := [.int set, .int (Int32.ofInt (k : Int))]) (by rfl) (by rfl) rfl (Nat.le_of_ble_eq_true (by rfl)) (Nat.le_of_ble_eq_true (by rfl)) (by decide +kernel) (by decide +kernel) (zisOf _ _) ?_
      rintro rv hq ⟨rfl, rfl⟩
      refine zs_if (by rfl) (t := 75) (by rfl) (fun _ => go ρ hq low H hkp hF hlow) (fun q1 => ?_)
      iterate 3 refine zs0 (by rfl) rfl rfl ?_
      refine zs_virt (vs := [.int (Int32.ofInt (k : Int)), .int set]) (by rfl) rfl r1 (by rfl) (Nat.le_of_ble_eq_true (by rfl)) (Nat.le_of_ble_eq_true (by rfl)) (by decide +kernel) (by decide +kernel) (zcomes hE H (by omega)) ?_
      rintro rv h2 ⟨ρ2, H2, k2, F2, hrv⟩
      have hkp2 : ∀ i ∈ zKP, ρ2[i]? = ρ0[i]? := fun i hi => (k2 i hi).trans (hkp i hi)
      have hF2 := hF.trans F2
      rcases hrv with rfl | ⟨rfl, hd⟩
      · refine zs_if (by rfl) (t := 75) (by rfl) (fun _ => go ρ2 h2 low H2 hkp2 hF2 hlow) (fun hb => absurd hb (by decide))
      · refine zs_if (by rfl) (t := 75) (by rfl) (fun hb => absurd hb (by decide)) (fun _ => ?_)
        have hk1 : zLow lf ff wf hf ev set (Int32.ofInt (k : Int)) := Or.inr ⟨k, by omega, rfl, by
          have q1 : decide (zIs set (Int32.ofInt (k : Int)) = 0) = false := q1
          rw [decide_eq_false_iff_not] at q1
          unfold zIs at q1 ⊢
          split
          · rfl
          · rename_i hz
            rw [hz] at q1
            exact absurd rfl q1, hd⟩
        obtain ⟨us2, s1, s2, s3, s4, s5, s6, s7, s8, s9, s10⟩ := id H2.2.2.2.2.2.2
        refine zs0 (by rfl) rfl rfl ?_
        refine zs_if (by rfl) (t := 71) (by rfl) (fun q2 => ?_) (fun q2 => ?_)
        · refine zs0 (by rfl) rfl rfl ?_
          refine zs0 (by rfl) rfl rfl ?_
          exact go2 ρ2 h2 H2 hkp2 hF2 hk1
        · rcases id hlow with rfl | ⟨o, o1, rfl, -, -⟩
          · exact absurd q2 (by decide)
          · refine zs0 (by rfl) rfl rfl ?_
            refine zs_get (by rfl) s1 s4 ?_
            refine zs0 (by rfl) rfl rfl ?_
            refine zs_aldN (by rfl) s8 (by omega) (by decide) ?_
            refine zs0 (by rfl) rfl rfl ?_
            refine zs_get (by rfl) s1 s4 ?_
            refine zs0 (by rfl) rfl rfl ?_
            refine zs_aldN (by rfl) s8 (by omega) (by decide) ?_
            refine zs_icmp (by rfl) (t := 75) (by rfl) (fun _ => go ρ2 h2 _ H2 hkp2 hF2 hlow) (fun _ => ?_)
            refine zs0 (by rfl) rfl rfl ?_
            refine zs0 (by rfl) rfl rfl ?_
            exact go2 ρ2 h2 H2 hkp2 hF2 hk1
end ZLP2
