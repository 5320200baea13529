/-! downTo as a function of the rows; comesDown; layPulled -/
section ZPU
variable {lk : ZLP} {Lx : Nat} {xs : Nat → Int32} {k : Nat} {pc : Nat} {L : zL} {st : List Value} {hp : List zhE} {c s : Nat} {Q : ZP}
def zIs (x k : Int32) : Int32 := match decide ((x >>> (k &&& 31)) &&& 1 = 1) with
  | true => 1
  | false => 0
def zTo (lf wf : Nat → Int32) (t : Nat) : Int32 := Int32.ofInt 2 * (lf t + wf t)
def zFr (lf : Nat → Int32) (t : Nat) : Int32 := Int32.ofInt 2 * lf t
/-- what a method that only reads gives -/
def zPu (x : Int32) (hp : List zhE) : ZP := fun rv hp' => rv = some (.int x) ∧ hp' = hp
theorem zisOf (x y : Int32) : zWP lk Lx xs 161 (0, lv_args 0 [.int x, .int y], [], hp, 0, 0) (zPu (zIs x y) hp) := by
  iterate 6 refine zs0 (by rfl) rfl rfl ?_
  refine zs_icmp (by rfl) (t := 13) (by rfl) (fun hb => ?_) (fun hb => ?_)
  · have hb : (!decide ((x >>> (y &&& 31)) &&& Int32.ofInt 1 = Int32.ofInt 1)) = true := hb
    rw [Bool.not_eq_true'] at hb
    have e : zIs x y = Int32.ofInt 0 := by
      unfold zIs
      have hb : decide ((x >>> (y &&& 31)) &&& 1 = 1) = false := hb
      rw [hb]
      rfl
    refine zs0 (by rfl) rfl rfl ?_
    exact zs_ret (by rfl) (Or.inr (Or.inl rfl)) ⟨by rw [e], rfl⟩
  · have hb : (!decide ((x >>> (y &&& 31)) &&& Int32.ofInt 1 = Int32.ofInt 1)) = false := hb
    rw [Bool.not_eq_false'] at hb
    have e : zIs x y = Int32.ofInt 1 := by
      unfold zIs
      have hb : decide ((x >>> (y &&& 31)) &&& 1 = 1) = true := hb
      rw [hb]
      rfl
    iterate 2 refine zs0 (by rfl) rfl rfl ?_
    exact zs_ret (by rfl) (Or.inr (Or.inr rfl)) ⟨by rw [e], rfl⟩
/-- the rows that downTo reads -/
def zRW (j iL iF iW iH : Nat) (ev : Int32) (lf ff wf hf : Nat → Int32) (hp : List zhE) : Prop := ∃ vs, hp[j]? = some (.inr (12, vs)) ∧ vs[13]? = some (.int ev) ∧ vs[21]? = some (.ref iL) ∧ vs[22]? = some (.ref iF) ∧ vs[23]? = some (.ref iW) ∧ vs[24]? = some (.ref iH) ∧ hp[iL]? = some (.inl (0, 20, .inl lf)) ∧ hp[iF]? = some (.inl (0, 20, .inl ff)) ∧ hp[iW]? = some (.inl (0, 20, .inl wf)) ∧ hp[iH]? = some (.inl (0, 20, .inl hf))
variable {j iL iF iW iH : Nat} {ev : Int32} {lf ff wf hf : Nat → Int32}
theorem zto (H : zRW j iL iF iW iH ev lf ff wf hf hp) {t : Nat} (ht : t < 20) : zWP lk Lx xs 196 (0, lv_args 0 [.ref j, .int (Int32.ofInt (t : Int))], [], hp, 0, 0) (zPu (zTo lf wf t) hp) := by
  obtain ⟨vs, h1, h2, h3, h4, h5, h6, h7, h8, h9, h10⟩ := H
  iterate 2 refine zs0 (by rfl) rfl rfl ?_
  refine zs_get (by rfl) h1 h3 ?_
  refine zs0 (by rfl) rfl rfl ?_
  refine zs_aldN (by rfl) h7 ht (by decide) ?_
  refine zs0 (by rfl) rfl rfl ?_
  refine zs_get (by rfl) h1 h5 ?_
  refine zs0 (by rfl) rfl rfl ?_
  refine zs_aldN (by rfl) h9 ht (by decide) ?_
  refine zs_add (by rfl) ?_
  refine zs_mul (by rfl) ?_
  exact zs_retI (by rfl) ⟨rfl, rfl⟩
theorem zfrm (H : zRW j iL iF iW iH ev lf ff wf hf hp) {t : Nat} (ht : t < 20) : zWP lk Lx xs 195 (0, lv_args 0 [.ref j, .int (Int32.ofInt (t : Int))], [], hp, 0, 0) (zPu (zFr lf t) hp) := by
  obtain ⟨vs, h1, h2, h3, h4, h5, h6, h7, h8, h9, h10⟩ := H
  iterate 2 refine zs0 (by rfl) rfl rfl ?_
  refine zs_get (by rfl) h1 h3 ?_
  refine zs0 (by rfl) rfl rfl ?_
  refine zs_aldN (by rfl) h7 ht (by decide) ?_
  refine zs_mul (by rfl) ?_
  exact zs_retI (by rfl) ⟨rfl, rfl⟩
/-- one THING below, or none -/
def zdB (lf ff wf hf : Nat → Int32) (t : Nat) (set : Int32) (o : Nat) (b : Int32) : Int32 :=
  cond (zcb .eq (zIs set (Int32.ofInt (o : Int))) 0) b (cond (zcb .eq (Int32.ofInt (o : Int)) (Int32.ofInt (t : Int))) b (cond (zcb .le (zTo lf wf t) (zFr lf o)) b (cond (zcb .gt (zTo lf wf o) (zFr lf t)) (cond (zcb .gt (ff o + hf o) (ff t)) b (cond (zcb .le (ff o + hf o) b) b (ff o + hf o))) b)))
def zdl (F : Nat → Int32 → Int32) : Nat → Nat → Int32 → Int32
  | 0, _, b => b
  | d + 1, o, b => zdl F d (o + 1) (F o b)
def zd0 (lf wf : Nat → Int32) (ev : Int32) (t : Nat) : Int32 := cond (zcb .le (zTo lf wf t) 0) (Int32.ofInt (-1)) (cond (zcb .ge (zFr lf t) (Int32.ofInt 2 * ev)) (Int32.ofInt (-1)) (Int32.ofInt 0))
def zdownV (lf ff wf hf : Nat → Int32) (ev : Int32) (t : Nat) (set : Int32) : Int32 := zdl (zdB lf ff wf hf t set) 9 0 (zd0 lf wf ev t)
def zdL (j t o : Nat) (set b : Int32) (L : zL) : Prop := L = [(4, .int (Int32.ofInt (o : Int))), (3, .int b), (0, .ref j), (1, .int (Int32.ofInt (t : Int))), (2, .int set)] ∨ (∃ x, L = [(4, .int (Int32.ofInt (o : Int))), (5, x), (3, .int b), (0, .ref j), (1, .int (Int32.ofInt (t : Int))), (2, .int set)]) ∨ ∃ x, L = [(4, .int (Int32.ofInt (o : Int))), (3, .int b), (5, x), (0, .ref j), (1, .int (Int32.ofInt (t : Int))), (2, .int set)]
def zdL2 (j t o : Nat) (set b : Int32) (L : zL) : Prop := zdL j t o set b L ∨ (∃ x, L = [(5, x), (4, .int (Int32.ofInt (o : Int))), (3, .int b), (0, .ref j), (1, .int (Int32.ofInt (t : Int))), (2, .int set)]) ∨ ∃ x, L = [(3, .int b), (5, x), (4, .int (Int32.ofInt (o : Int))), (0, .ref j), (1, .int (Int32.ofInt (t : Int))), (2, .int set)]
set_option maxHeartbeats 4000000 in
theorem zdown_k (H : zRW j iL iF iW iH ev lf ff wf hf hp) {t : Nat} (ht : t < 9) {set : Int32} : ∀ (d o : Nat) (b : Int32) (L : zL), o + d = 9 → zdL j t o set b L → zWP lk Lx xs 235 (31, L, [], hp, 0, 0) (zPu (zdl (zdB lf ff wf hf t set) d o b) hp) := by
  obtain ⟨vs, h1, h2, h3, h4, h5, h6, h7, h8, h9, h10⟩ := id H
  intro d
  induction d with
  | zero =>
    intro o b L ho hL
    have ho : o = 9 := by omega
    subst ho
    rcases hL with rfl | ⟨x, rfl⟩ | ⟨x, rfl⟩
    all_goals
      iterate 2 refine zs0 (by rfl) rfl rfl ?_
      refine zs_icmp (by rfl) (t := 127) (by rfl) (fun _ => ?_) (fun hb => absurd hb (by decide))
      refine zs0 (by rfl) rfl rfl ?_
      exact zs_retI (by rfl) ⟨rfl, rfl⟩
  | succ d ih =>
    intro o b L ho hL
    have hlt : ¬ zcb .ge (Int32.ofInt (o : Int)) (Int8.ofInt 9).toInt32 = true := fun q => by
      have q : decide ((Int8.ofInt 9).toInt32 ≤ Int32.ofInt (o : Int)) = true := q
      rw [decide_eq_true_eq, Int32.le_iff_toInt_le, zof_ix (by omega)] at q
      have e : ((Int8.ofInt 9).toInt32).toInt = 9 := by decide
      omega
    -- on with the next one
    have go : ∀ (b' : Int32) (L' : zL), zdB lf ff wf hf t set o b = b' → zdL2 j t o set b' L' → zWP lk Lx xs 235 (121, L', [], hp, 0, 0) (zPu (zdl (zdB lf ff wf hf t set) (d + 1) o b) hp) := by
      intro b' L' hb' hL'
      have hn := fun L hL => ih (o + 1) b' L (by omega) hL
      have e : zdl (zdB lf ff wf hf t set) (d + 1) o b = zdl (zdB lf ff wf hf t set) d (o + 1) b' := by
        show zdl _ d (o + 1) (zdB lf ff wf hf t set o b) = _
        rw [hb']
      rw [e]
      unfold zdL at hn
      rw [← zof_up] at hn
      rcases hL' with (rfl | ⟨x, rfl⟩ | ⟨x, rfl⟩) | ⟨x, rfl⟩ | ⟨x, rfl⟩
      · refine zs0 (by rfl) rfl rfl ?_
        refine zs0 (by rfl) rfl rfl ?_
        exact hn _ (Or.inl rfl)
      · refine zs0 (by rfl) rfl rfl ?_
        refine zs0 (by rfl) rfl rfl ?_
        exact hn _ (Or.inr (Or.inl ⟨x, rfl⟩))
      · refine zs0 (by rfl) rfl rfl ?_
        refine zs0 (by rfl) rfl rfl ?_
        exact hn _ (Or.inr (Or.inr ⟨x, rfl⟩))
      · refine zs0 (by rfl) rfl rfl ?_
        refine zs0 (by rfl) rfl rfl ?_
        exact hn _ (Or.inr (Or.inl ⟨x, rfl⟩))
      · refine zs0 (by rfl) rfl rfl ?_
        refine zs0 (by rfl) rfl rfl ?_
        exact hn _ (Or.inr (Or.inr ⟨x, rfl⟩))
    rcases id hL with rfl | ⟨x, rfl⟩ | ⟨x, rfl⟩
    all_goals
      iterate 2 refine zs0 (by rfl) rfl rfl ?_
      refine zs_icmp (by rfl) (t := 127) (by rfl) (fun hb => absurd hb hlt) (fun _ => ?_)
      iterate 2 refine zs0 (by rfl) rfl rfl ?_
      refine zs_stat (vs := [.int set, .int (Int32.ofInt (o : Int))]) (by rfl) (by rfl) rfl (Nat.le_of_ble_eq_true (by rfl)) (Nat.le_of_ble_eq_true (by rfl)) (by decide +kernel) (by decide +kernel) (zisOf _ _) ?_
      rintro rv hq ⟨rfl, rfl⟩
      refine zs_if (by rfl) (t := 121) (by rfl) (fun q1 => go b _ (by simp only [zdB, q1, cond_true]) (Or.inl hL)) (fun q1 => ?_)
      iterate 2 refine zs0 (by rfl) rfl rfl ?_
      refine zs_icmp (by rfl) (t := 121) (by rfl) (fun q2 => go b _ (by simp only [zdB, q1, q2, cond_true, cond_false]) (Or.inl hL)) (fun q2 => ?_)
      iterate 2 refine zs0 (by rfl) rfl rfl ?_
      refine zs_virt (vs := [.int (Int32.ofInt (t : Int))]) (by rfl) rfl h1 (by rfl) (Nat.le_of_ble_eq_true (by rfl)) (Nat.le_of_ble_eq_true (by rfl)) (by decide +kernel) (by decide +kernel) (zto H (by omega)) ?_
      rintro rv hq ⟨rfl, rfl⟩
      iterate 2 refine zs0 (by rfl) rfl rfl ?_
      refine zs_virt (vs := [.int (Int32.ofInt (o : Int))]) (by rfl) rfl h1 (by rfl) (Nat.le_of_ble_eq_true (by rfl)) (Nat.le_of_ble_eq_true (by rfl)) (by decide +kernel) (by decide +kernel) (zfrm H (by omega)) ?_
      rintro rv hq ⟨rfl, rfl⟩
      refine zs_icmp (by rfl) (t := 121) (by rfl) (fun q3 => go b _ (by simp only [zdB, q1, q2, q3, cond_true, cond_false]) (Or.inl hL)) (fun q3 => ?_)
      iterate 2 refine zs0 (by rfl) rfl rfl ?_
      refine zs_virt (vs := [.int (Int32.ofInt (o : Int))]) (by rfl) rfl h1 (by rfl) (Nat.le_of_ble_eq_true (by rfl)) (Nat.le_of_ble_eq_true (by rfl)) (by decide +kernel) (by decide +kernel) (zto H (by omega)) ?_
      rintro rv hq ⟨rfl, rfl⟩
      iterate 2 refine zs0 (by rfl) rfl rfl ?_
      refine zs_virt (vs := [.int (Int32.ofInt (t : Int))]) (by rfl) rfl h1 (by rfl) (Nat.le_of_ble_eq_true (by rfl)) (Nat.le_of_ble_eq_true (by rfl)) (by decide +kernel) (by decide +kernel) (zfrm H (by omega)) ?_
      rintro rv hq ⟨rfl, rfl⟩
      refine zs_icmp (by rfl) (t := 84) (by rfl) (fun q4 => ?_) (fun q4 => ?_)
      · refine zs0 (by rfl) rfl rfl ?_
        refine zs_get (by rfl) h1 h4 ?_
        refine zs0 (by rfl) rfl rfl ?_
        refine zs_aldN (by rfl) h8 (by omega) (by decide) ?_
        refine zs0 (by rfl) rfl rfl ?_
        refine zs_get (by rfl) h1 h6 ?_
        refine zs0 (by rfl) rfl rfl ?_
        refine zs_aldN (by rfl) h10 (by omega) (by decide) ?_
        refine zs_add (by rfl) ?_
        iterate 3 refine zs0 (by rfl) rfl rfl ?_
        refine zs_get (by rfl) h1 h4 ?_
        refine zs0 (by rfl) rfl rfl ?_
        refine zs_aldN (by rfl) h8 (by omega) (by decide) ?_
        refine zs_icmp (by rfl) (t := 121) (by rfl) (fun q5 => go b _ (by simp only [zdB, q1, q2, q3, q4, q5, cond_true, cond_false]) (Or.inr (Or.inl ⟨_, rfl⟩))) (fun q5 => ?_)
        iterate 2 refine zs0 (by rfl) rfl rfl ?_
        refine zs_icmp (by rfl) (t := 121) (by rfl) (fun q6 => go b _ (by simp only [zdB, q1, q2, q3, q4, q5, q6, cond_true, cond_false]) (Or.inr (Or.inl ⟨_, rfl⟩))) (fun q6 => ?_)
        iterate 2 refine zs0 (by rfl) rfl rfl ?_
        exact go _ _ (by simp only [zdB, q1, q2, q3, q4, q5, q6, cond_true, cond_false]) (Or.inr (Or.inr ⟨_, rfl⟩))
      · refine zs0 (by rfl) rfl rfl ?_
        exact go b _ (by simp only [zdB, q1, q2, q3, q4, cond_true, cond_false]) (Or.inl hL)
theorem zdown (H : zRW j iL iF iW iH ev lf ff wf hf hp) {t : Nat} (ht : t < 9) {set : Int32} : zWP lk Lx xs 235 (0, lv_args 0 [.ref j, .int (Int32.ofInt (t : Int)), .int set], [], hp, 0, 0) (zPu (zdownV lf ff wf hf ev t set) hp) := by
  obtain ⟨vs, h1, h2, h3, h4, h5, h6, h7, h8, h9, h10⟩ := id H
  have fin : ∀ b, zd0 lf wf ev t = b → zWP lk Lx xs 235 (27, [(0, .ref j), (1, .int (Int32.ofInt (t : Int))), (2, .int set)], [.int b], hp, 0, 0) (zPu (zdownV lf ff wf hf ev t set) hp) := by
    intro b hb
    iterate 3 refine zs0 (by rfl) rfl rfl ?_
    have hn := zdown_k (lk := lk) (Lx := Lx) (xs := xs) H ht (set := set) 9 0 b _ (by omega) (Or.inl rfl)
    unfold zdownV
    rw [hb]
    exact hn
  iterate 2 refine zs0 (by rfl) rfl rfl ?_
  refine zs_virt (vs := [.int (Int32.ofInt (t : Int))]) (by rfl) rfl h1 (by rfl) (Nat.le_of_ble_eq_true (by rfl)) (Nat.le_of_ble_eq_true (by rfl)) (by decide +kernel) (by decide +kernel) (zto H (by omega)) ?_
  rintro rv hq ⟨rfl, rfl⟩
  refine zs_if (by rfl) (t := 26) (by rfl) (fun q1 => ?_) (fun q1 => ?_)
  · refine zs0 (by rfl) rfl rfl ?_
    exact fin _ (by simp only [zd0, q1, cond_true])
  · iterate 2 refine zs0 (by rfl) rfl rfl ?_
    refine zs_virt (vs := [.int (Int32.ofInt (t : Int))]) (by rfl) rfl h1 (by rfl) (Nat.le_of_ble_eq_true (by rfl)) (Nat.le_of_ble_eq_true (by rfl)) (by decide +kernel) (by decide +kernel) (zfrm H (by omega)) ?_
    rintro rv hq ⟨rfl, rfl⟩
    iterate 2 refine zs0 (by rfl) rfl rfl ?_
    refine zs_get (by rfl) h1 h2 ?_
    refine zs_mul (by rfl) ?_
    refine zs_icmp (by rfl) (t := 26) (by rfl) (fun q2 => ?_) (fun q2 => ?_)
    · refine zs0 (by rfl) rfl rfl ?_
      exact fin _ (by simp only [zd0, q1, q2, cond_true, cond_false])
    · iterate 2 refine zs0 (by rfl) rfl rfl ?_
      exact fin _ (by simp only [zd0, q1, q2, cond_false])
end ZPU
