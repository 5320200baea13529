/-! what else may be known of the model's cells: kinds of knowledge, what they rest on, what keeps them -/
def zofi (hp : List zhE) (j b : Nat) : Option Int32 := match hp[j]? with
  | some (.inr (ci, fs)) => (match Nat.beq ci 12, fs[b]? with | true, some (.int x) => some x | _, _ => none)
  | _ => none
def zofr (hp : List zhE) (i : Nat) : Option (Nat × (Nat → Int32)) := match hp[i]? with
  | some (.inl (_, n, .inl f)) => some (n, f)
  | _ => none
def zofa (hp : List zhE) (j b : Nat) : Option (Nat × (Nat → Int32)) := match hp[j]? with
  | some (.inr (ci, fs)) => (match Nat.beq ci 12, fs[b]? with
    | true, some (.ref i) => zofr hp i
    | _, _ => none)
  | _ => none
/-- 0: HIGH of the THINGS, 1: of those read, 2: the knots of the E -/
def zOP (kind j : Nat) (hp : List zhE) : Prop := match kind with
  | 0 => ∀ m n f, zofi hp j 12 = some m → zofa hp j 24 = some (n, f) → ∀ k : Nat, (k : Int) < m.toInt → 1 ≤ (f k).toInt
  | 1 => ∀ m n f, zofi hp j 15 = some m → zofa hp j 24 = some (n, f) → ∀ k : Nat, (k : Int) < m.toInt → 1 ≤ (f (10 + k)).toInt
  | 2 => ∀ n f n1 g n2 h, zofa hp j 30 = some (n, f) → zofa hp j 31 = some (n1, g) → zofa hp j 32 = some (n2, h) → ∀ k : Nat, k < n → ((f k).toInt = 1 → 0 ≤ (g k).toInt ∧ (g k).toInt ≤ 7) ∧ (2 ≤ (f k).toInt → 0 ≤ (g k).toInt ∧ (g k).toInt ≤ 63) ∧ (3 ≤ (f k).toInt → 0 ≤ (h k).toInt ∧ (h k).toInt ≤ 63)
  | _ => True
/-- the fields it rests on: ints, arrays -/
def zfp (kind : Nat) : List Nat × List Nat := match kind with
  | 0 => ([12], [24])
  | 1 => ([15], [24])
  | 2 => ([], [30, 31, 32])
  | _ => ([], [])
theorem zOP_dep {kind j : Nat} {hp hp' : List zhE} (h1 : ∀ b ∈ (zfp kind).1, zofi hp' j b = zofi hp j b) (h2 : ∀ b ∈ (zfp kind).2, zofa hp' j b = zofa hp j b) (h : zOP kind j hp) : zOP kind j hp' := by
  match kind, h, h1, h2 with
  | 0, h, h1, h2 =>
    intro m n f a1 a2
    rw [h1 12 (by simp [zfp])] at a1
    rw [h2 24 (by simp [zfp])] at a2
    exact h m n f a1 a2
  | 1, h, h1, h2 =>
    intro m n f a1 a2
    rw [h1 15 (by simp [zfp])] at a1
    rw [h2 24 (by simp [zfp])] at a2
    exact h m n f a1 a2
  | 2, h, h1, h2 =>
    intro n f n1 g n2 z a1 a2 a3
    rw [h2 30 (by simp [zfp])] at a1
    rw [h2 31 (by simp [zfp])] at a2
    rw [h2 32 (by simp [zfp])] at a3
    exact h n f n1 g n2 z a1 a2 a3
  | n + 3, _, _, _ => exact trivial
def zaO (η : List Nat) (O : List Nat) (hp : List zhE) : Prop := ∀ o ∈ O, ∃ j, η[o % 1000]? = some j ∧ zOP (o / 1000) j hp
/-- the array in a field of the model's object m -/
def zofld (A : AH) (m b : Nat) (k : Nat → Bool) : Bool := zhget A m (fun c => match c with
  | .inl (ci, fs) => Nat.beq ci 12 && zlg fs b (fun a => match a.1 with | 2 => k a.2.1.toNat | _ => false)
  | _ => false)
theorem zofld_ok {η : List Nat} {ρ : List Int} {A : AH} {hp : List zhE} {m b : Nat} {k : Nat → Bool} (h : zofld A m b k = true) (hA : zaH η ρ A hp) : ∃ j vs H i, η[m]? = some j ∧ hp[j]? = some (.inr (12, vs)) ∧ vs[b]? = some (.ref i) ∧ η[H]? = some i ∧ k H = true := by
  obtain ⟨c, h1, h2⟩ := zhget_ok h
  split at h2
  · rename_i ci fs
    rw [Bool.and_eq_true] at h2
    have hci := Nat.eq_of_beq_eq_true h2.1
    subst hci
    obtain ⟨a, h3, h4⟩ := zlg_ok h2.2
    obtain ⟨j, x, g1, g2, vs, rfl, g3⟩ := hA.2.1 _ _ h1
    obtain ⟨v, g4, g5⟩ := zAll_get g3 h3
    obtain ⟨t, e⟩ := a
    split at h4
    · rename_i q
      simp only at q
      subst q
      obtain ⟨i, g6, rfl⟩ := g5
      exact ⟨j, vs, _, i, g1, g2, g4, g6, h4⟩
    · cases h4
  · cases h2
def zmemN (x : Nat) : List Nat → Bool
  | [] => false
  | y :: l => match Nat.beq x y with | true => true | false => zmemN x l
theorem zmemN_iff {x : Nat} : ∀ {l : List Nat}, zmemN x l = true ↔ x ∈ l
  | [] => by simp [zmemN]
  | y :: l => by
    unfold zmemN
    split
    · rename_i h
      have h := Nat.eq_of_beq_eq_true h
      simp [h]
    · rename_i h
      have h : ¬ x = y := fun e => by rw [e, Nat.beq_refl] at h; cases h
      simp [h, zmemN_iff]
def zmap2 (f : Nat → Bool) : List Nat → Bool
  | [] => true
  | b :: l => f b && zmap2 f l
theorem zmap2_ok {f : Nat → Bool} : ∀ {l : List Nat}, zmap2 f l = true → ∀ b ∈ l, f b = true
  | [], _, b, hb => absurd hb List.not_mem_nil
  | c :: l, h, b, hb => by
    simp only [zmap2, Bool.and_eq_true] at h
    rcases List.mem_cons.mp hb with rfl | hb
    · exact h.1
    · exact zmap2_ok h.2 b hb
theorem zofi_obj {hp : List zhE} {x j b ci : Nat} {vs vs' : List Value} (hx : hp[x]? = some (.inr (ci, vs))) (hs : x = j → vs'[b]? = vs[b]?) : zofi (hp.set x (.inr (ci, vs'))) j b = zofi hp j b := by
  have hlt := (List.getElem?_eq_some_iff.mp hx).1
  unfold zofi
  by_cases e : x = j
  · subst e
    rw [List.getElem?_set_self hlt, hx]
    simp only [hs rfl]
  · rw [List.getElem?_set_ne e]
theorem zofr_obj {hp : List zhE} {x ci : Nat} {vs vs' : List Value} (hx : hp[x]? = some (.inr (ci, vs))) (i : Nat) : zofr (hp.set x (.inr (ci, vs'))) i = zofr hp i := by
  have hlt := (List.getElem?_eq_some_iff.mp hx).1
  unfold zofr
  by_cases e : x = i
  · subst e
    rw [List.getElem?_set_self hlt, hx]
  · rw [List.getElem?_set_ne e]
theorem zofa_obj {hp : List zhE} {x j b ci : Nat} {vs vs' : List Value} (hx : hp[x]? = some (.inr (ci, vs))) (hs : x = j → vs'[b]? = vs[b]?) : zofa (hp.set x (.inr (ci, vs'))) j b = zofa hp j b := by
  have hlt := (List.getElem?_eq_some_iff.mp hx).1
  unfold zofa
  simp only [zofr_obj hx]
  by_cases e : x = j
  · subst e
    rw [List.getElem?_set_self hlt, hx]
    simp only [hs rfl]
  · rw [List.getElem?_set_ne e]
/-- cells that stay -/
theorem zofi_same {hp hp' : List zhE} {j b : Nat} (h : hp'[j]? = hp[j]?) : zofi hp' j b = zofi hp j b := by
  unfold zofi
  rw [h]
theorem zofr_same {hp hp' : List zhE} {i : Nat} (h : hp'[i]? = hp[i]?) : zofr hp' i = zofr hp i := by
  unfold zofr
  rw [h]
theorem zofa_at {hp : List zhE} {j b i : Nat} {vs : List Value} (hj : hp[j]? = some (.inr (12, vs))) (hi : vs[b]? = some (.ref i)) : zofa hp j b = zofr hp i := by
  unfold zofa
  rw [hj]
  simp only [hi]
theorem zofi_at {hp : List zhE} {j b : Nat} {x : Int32} {vs : List Value} (hj : hp[j]? = some (.inr (12, vs))) (hi : vs[b]? = some (.int x)) : zofi hp j b = some x := by
  unfold zofi
  rw [hj]
  simp only [hi]
theorem zofr_arr {hp : List zhE} {i t n : Nat} {f : Nat → Int32} (h : hp[i]? = some (.inl (t, n, .inl f))) : zofr hp i = some (n, f) := by
  unfold zofr
  rw [h]
theorem zofr_inv {hp : List zhE} {i t n n' : Nat} {f : zhA} {f' : Nat → Int32} (h : hp[i]? = some (.inl (t, n, f))) (hz : zofr hp i = some (n', f')) : n' = n ∧ f = .inl f' := by
  unfold zofr at hz
  rw [h] at hz
  split at hz
  · rename_i e
    cases e
    cases hz
    exact ⟨rfl, rfl⟩
  · cases hz
theorem zofa_same {hp hp' : List zhE} {j b i : Nat} {vs : List Value} (h : hp'[j]? = hp[j]?) (hj : hp[j]? = some (.inr (12, vs))) (hi : vs[b]? = some (.ref i)) (h2 : hp'[i]? = hp[i]?) : zofa hp' j b = zofa hp j b := by
  rw [zofa_at hj hi, zofa_at (h.trans hj) hi, zofr_same h2]
/-- whether a write into a field keeps it -/
def zHKf (kind m : Nat) (A : AH) (G : AG) (id b : Nat) (val : AV) : Bool := !(Nat.beq id m) || (!(zmemN b (zfp kind).1) && !(zmemN b (zfp kind).2)) ||
  (Nat.beq kind 1 && (Nat.beq b 15 && zgI val (fun e => zhget A m (fun c => match c with
    | .inl (ci, fs) => Nat.beq ci 12 && zlg fs 15 (fun a => zgI a (fun e0 => zxsub e e0 (fun d => zbd G.2.1 d (fun lo hi => zeq lo 1 && zeq hi 1)) && zofld A m 24 (fun H => zhget A H (fun c => match c with
      | .inr (.inl (_, _, _, _, es)) => es.any (fun q => zxsub q.1 e0 (fun d => zbd G.2.1 d (fun lo hi => zeq lo 10 && zeq hi 10)) && zbd G.2.1 q.2 (fun lo _ => zle 1 lo))
      | _ => false))))
    | _ => false))))
theorem zHKf_ok {η : List Nat} {ρ : List Int} {A : AH} {G : AG} {hp : List zhE} {kind m id b x j ci : Nat} {val : AV} {vs : List Value} {w : Value} (h : zHKf kind m A G id b val = true) (hG : zaG ρ G) (hA : zaH η ρ A hp) (hm : η[m]? = some j) (hid : η[id]? = some x) (hx : hp[x]? = some (.inr (ci, vs))) (hv : zav η ρ val w) (hb : b < vs.length) (hO : zOP kind j hp) : zOP kind j (hp.set x (.inr (ci, vs.set b w))) := by
  unfold zHKf at h
  simp only [Bool.or_eq_true, Bool.and_eq_true, Bool.not_eq_true'] at h
  rcases h with (h | ⟨h1, h2⟩) | ⟨hk, hb15, h⟩
  · have hne : ¬ x = j := fun e => by
      have := hA.2.2.1 id m x hid (by rw [e]; exact hm)
      rw [this, Nat.beq_refl] at h
      cases h
    exact zOP_dep (fun b' _ => zofi_obj hx (fun e => absurd e hne)) (fun b' _ => zofa_obj hx (fun e => absurd e hne)) hO
  · have n1 : ¬ b ∈ (zfp kind).1 := fun q => by rw [zmemN_iff.mpr q] at h1; cases h1
    have n2 : ¬ b ∈ (zfp kind).2 := fun q => by rw [zmemN_iff.mpr q] at h2; cases h2
    refine zOP_dep (fun b' hb' => zofi_obj hx (fun _ => ?_)) (fun b' hb' => zofa_obj hx (fun _ => ?_)) hO
    · exact List.getElem?_set_ne (fun e => n1 (by rw [e]; exact hb'))
    · exact List.getElem?_set_ne (fun e => n2 (by rw [e]; exact hb'))
  · have hk := Nat.eq_of_beq_eq_true hk
    have hb15 := Nat.eq_of_beq_eq_true hb15
    subst hk; subst hb15
    by_cases hxj : x = j
    · subst hxj
      obtain ⟨y, rfl, h, hy⟩ := zgI_ok h hv
      obtain ⟨c, h1, h2⟩ := zhget_ok h
      split at h2
      · rename_i ci' fs
        rw [Bool.and_eq_true] at h2
        have hci := Nat.eq_of_beq_eq_true h2.1
        subst hci
        obtain ⟨j', g, g1, g2, vs', rfl, g3⟩ := hA.2.1 _ _ h1
        cases hm.symm.trans g1
        cases hx.symm.trans g2
        obtain ⟨a, h3, h4⟩ := zlg_ok h2.2
        obtain ⟨v0, g4, g5⟩ := zAll_get g3 h3
        obtain ⟨y0, rfl, h5, hy0⟩ := zgI_ok h4 g5
        rw [Bool.and_eq_true] at h5
        obtain ⟨d, d1, d2⟩ := zxsub_ok h5.1 hy hy0
        obtain ⟨lo, hi, d3, d4, d5⟩ := zbd_at hG.2.1 d1 d2
        simp only [Bool.and_eq_true, zeq_iff] at d3
        have e1 : y.toInt = y0.toInt + 1 := by omega
        obtain ⟨j2, vs2, H, i, q1, q2, q3, q4, q5⟩ := zofld_ok h5.2 hA
        cases hm.symm.trans q1
        cases hx.symm.trans q2
        obtain ⟨c2, q6, q7⟩ := zhget_ok q5
        split at q7
        · rename_i t n p rs es
          obtain ⟨i2, hh, r1, r2, f, rfl, r3, r4⟩ := hA.2.1 _ _ q6
          cases q4.symm.trans r1
          obtain ⟨q, hq, hq2⟩ := List.any_eq_true.mp q7
          rw [Bool.and_eq_true] at hq2
          obtain ⟨jj, s1, s2, s3⟩ := r4.2.2.2 q hq
          obtain ⟨d', d6, d7⟩ := zxsub_ok hq2.1 s1 hy0
          obtain ⟨lo', hi', d8, d9, d10⟩ := zbd_at hG.2.1 d6 d7
          simp only [Bool.and_eq_true, zeq_iff] at d8
          obtain ⟨lo2, hi2, d11, d12, d13⟩ := zbd_at hG.2.1 hq2.2 s3
          rw [zle_iff] at d11
          have hlt : x < hp.length := (List.getElem?_eq_some_iff.mp hx).1
          intro m' n' f' a1 a2 k hk
          have z1 : zofi (hp.set x (.inr (12, vs.set 15 (.int y)))) x 15 = some y := zofi_at (List.getElem?_set_self hlt) (List.getElem?_set_self hb)
          rw [z1] at a1
          cases a1
          rw [zofa_obj hx (fun _ => List.getElem?_set_ne (by decide))] at a2
          have a3 : zofi hp x 15 = some y0 := zofi_at hx g4
          by_cases hk0 : (k : Int) < y0.toInt
          · exact hO y0 n' f' a3 a2 k hk0
          · rw [zofa_at hx q3] at a2
            obtain ⟨-, rfl⟩ := zofr_inv r2 a2
            have hkk : jj = 10 + k := by omega
            rw [← hkk]
            have : zei (.inl f') jj = (f' jj).toInt := rfl
            omega
        · cases q7
      · cases h2
    · exact zOP_dep (fun b' _ => zofi_obj hx (fun e => absurd e hxj)) (fun b' _ => zofa_obj hx (fun e => absurd e hxj)) hO
/-- whether a write into an array keeps it -/
def zHKa (kind m : Nat) (A : AH) (G : AG) (id : Nat) (val : LX) : Bool := zmap2 (fun b => zofld A m b (fun H => !(Nat.beq H id))) (zfp kind).2 || (Nat.ble kind 1 && (zofld A m 24 (fun _ => true) && zbd G.2.1 val (fun lo _ => zle 1 lo)))
theorem zHKa_ok {η : List Nat} {ρ : List Int} {A : AH} {G : AG} {hp : List zhE} {kind m id x j t n q : Nat} {val : LX} {f g : zhA} (h : zHKa kind m A G id val = true) (hG : zaG ρ G) (hA : zaH η ρ A hp) (hm : η[m]? = some j) (hid : η[id]? = some x) (hx : hp[x]? = some (.inl (t, n, f))) (hv : zxr ρ val (zei g q)) (hg : ∀ i, i ≠ q → zei g i = zei f i) (hs : ∀ g0, g = .inl g0 → ∃ f0, f = .inl f0) (hO : zOP kind j hp) : zOP kind j (hp.set x (.inl (t, n, g))) := by
  have hlt : x < hp.length := (List.getElem?_eq_some_iff.mp hx).1
  have hxj : ∀ vs, hp[j]? = some (.inr (12, vs)) → ¬ x = j := fun vs hj e => by
    rw [e, hj] at hx
    cases hx
  unfold zHKa at h
  simp only [Bool.or_eq_true, Bool.and_eq_true] at h
  rcases h with h | ⟨hk, h1, h2⟩
  · have hz : ∀ b, zofi (hp.set x (.inl (t, n, g))) j b = zofi hp j b := fun b => by
      by_cases e : x = j
      · subst e
        unfold zofi
        rw [List.getElem?_set_self hlt, hx]
      · exact zofi_same (List.getElem?_set_ne e)
    refine zOP_dep (fun b _ => hz b) (fun b hb => ?_) hO
    obtain ⟨j2, vs, H, i, g1, g2, g3, g4, g5⟩ := zofld_ok (zmap2_ok h b hb) hA
    cases hm.symm.trans g1
    have hxi : ¬ x = i := fun e => by
      have := hA.2.2.1 id H x hid (by rw [e]; exact g4)
      rw [this, Nat.beq_refl] at g5
      cases g5
    exact zofa_same (List.getElem?_set_ne (hxj vs g2)) g2 g3 (List.getElem?_set_ne hxi)
  · obtain ⟨j2, vs, H, i, g1, g2, g3, g4, -⟩ := zofld_ok h1 hA
    cases hm.symm.trans g1
    obtain ⟨lo, hi, d1, d2, d3⟩ := zbd_at hG.2.1 h2 hv
    rw [zle_iff] at d1
    have hne := hxj vs g2
    have hzi : ∀ b, zofi (hp.set x (.inl (t, n, g))) j b = zofi hp j b := fun b => zofi_same (List.getElem?_set_ne hne)
    have hza : ∀ n' f', zofa (hp.set x (.inl (t, n, g))) j 24 = some (n', f') → ∃ n0 f0, zofa hp j 24 = some (n0, f0) ∧ ∀ k, (f' k).toInt = (f0 k).toInt ∨ 1 ≤ (f' k).toInt := by
      intro n' f' ha
      by_cases e : x = i
      · subst e
        rw [zofa_at ((List.getElem?_set_ne hne).trans g2) g3] at ha
        obtain ⟨-, rfl⟩ := zofr_inv (List.getElem?_set_self hlt) ha
        obtain ⟨f0, rfl⟩ := hs f' rfl
        refine ⟨_, f0, by rw [zofa_at g2 g3, zofr_arr hx], fun k => ?_⟩
        by_cases e5 : k = q
        · subst e5
          have : zei (.inl f') k = (f' k).toInt := rfl
          exact Or.inr (by omega)
        · exact Or.inl (hg k e5)
      · rw [zofa_same (List.getElem?_set_ne hne) g2 g3 (List.getElem?_set_ne e)] at ha
        exact ⟨n', f', ha, fun k => Or.inl rfl⟩
    have hk := Nat.le_of_ble_eq_true hk
    match kind, hk, hO with
    | 0, _, hO =>
      intro m' n' f' a1 a2 k hk
      rw [hzi] at a1
      obtain ⟨n0, f0, b1, b2⟩ := hza n' f' a2
      rcases b2 k with b3 | b3
      · rw [b3]; exact hO m' n0 f0 a1 b1 k hk
      · exact b3
    | 1, _, hO =>
      intro m' n' f' a1 a2 k hk
      rw [hzi] at a1
      obtain ⟨n0, f0, b1, b2⟩ := hza n' f' a2
      rcases b2 (10 + k) with b3 | b3
      · rw [b3]; exact hO m' n0 f0 a1 b1 k hk
      · exact b3
    | n + 2, hk, _ => omega
/-- whether it stays where only cells of a list change -/
def zHKw (kind m : Nat) (A : AH) (W : List Nat) : Bool := !(zmemN m W) && (zofld A m 0 (fun _ => true) && zmap2 (fun b => zofld A m b (fun H => !(zmemN H W))) (zfp kind).2)
theorem zHKw_ok {η : List Nat} {ρ : List Int} {A : AH} {hp hp' : List zhE} {kind m j : Nat} {W : List Nat} (h : zHKw kind m A W = true) (hA : zaH η ρ A hp) (hm : η[m]? = some j) (hf : ∀ i, i < hp.length → (∀ w ∈ W, η[w]? ≠ some i) → hp'[i]? = hp[i]?) (hO : zOP kind j hp) : zOP kind j hp' := by
  unfold zHKw at h
  simp only [Bool.and_eq_true, Bool.not_eq_true'] at h
  obtain ⟨h1, h0, h2⟩ := h
  have hj : hp'[j]? = hp[j]? := hf j (hA.2.2.2 m j hm) (fun w hw e => by
    have := hA.2.2.1 m w j hm e
    rw [this, zmemN_iff.mpr hw] at h1
    cases h1)
  refine zOP_dep (fun b _ => zofi_same hj) (fun b hb => ?_) hO
  obtain ⟨j2, vs, H, i, g1, g2, g3, g4, g5⟩ := zofld_ok (zmap2_ok h2 b hb) hA
  cases hm.symm.trans g1
  refine zofa_same hj g2 g3 (hf i (hA.2.2.2 H i g4) (fun w hw e => ?_))
  have := hA.2.2.1 H w i g4 e
  rw [this, zmemN_iff.mpr hw] at g5
  cases g5
/-- where it is plain -/
def zOI (kind m : Nat) (A : AH) (G : AG) : Bool := match kind with
  | 0 => zhget A m (fun c => match c with | .inl (ci, fs) => Nat.beq ci 12 && zlg fs 12 (fun a => zgI a (fun e => zbd G.2.1 e (fun _ hi => zle hi 0))) | _ => false)
  | 1 => zhget A m (fun c => match c with | .inl (ci, fs) => Nat.beq ci 12 && zlg fs 15 (fun a => zgI a (fun e => zbd G.2.1 e (fun _ hi => zle hi 0))) | _ => false)
  | 2 => zofld A m 30 (fun H => zhget A H (fun c => match c with | .inr (.inl (_, _, p, rs, _)) => Nat.beq p 1 && zlg rs 0 (fun q => zle q.2 0) | _ => false))
  | _ => false
theorem zOI_ok {η : List Nat} {ρ : List Int} {A : AH} {G : AG} {hp : List zhE} {kind m : Nat} (h : zOI kind m A G = true) (hG : zaG ρ G) (hA : zaH η ρ A hp) : ∃ j, η[m]? = some j ∧ zOP kind j hp := by
  have fld : ∀ b, zhget A m (fun c => match c with | .inl (ci, fs) => Nat.beq ci 12 && zlg fs b (fun a => zgI a (fun e => zbd G.2.1 e (fun _ hi => zle hi 0))) | _ => false) = true → ∃ j, η[m]? = some j ∧ ∀ x, zofi hp j b = some x → x.toInt ≤ 0 := by
    intro b h
    obtain ⟨c, h1, h2⟩ := zhget_ok h
    split at h2
    · rename_i ci fs
      rw [Bool.and_eq_true] at h2
      have hci := Nat.eq_of_beq_eq_true h2.1
      subst hci
      obtain ⟨a, h3, h4⟩ := zlg_ok h2.2
      obtain ⟨j, x, g1, g2, vs, rfl, g3⟩ := hA.2.1 _ _ h1
      obtain ⟨v, g4, g5⟩ := zAll_get g3 h3
      obtain ⟨y, rfl, h5, hy⟩ := zgI_ok h4 g5
      obtain ⟨lo, hi, d1, d2, d3⟩ := zbd_at hG.2.1 h5 hy
      rw [zle_iff] at d1
      refine ⟨j, g1, fun x hx => ?_⟩
      rw [zofi_at g2 g4] at hx
      cases hx
      omega
    · cases h2
  match kind, h with
  | 0, h =>
    obtain ⟨j, h1, h2⟩ := fld 12 h
    exact ⟨j, h1, fun m' n f a1 _ k hk => by have := h2 m' a1; omega⟩
  | 1, h =>
    obtain ⟨j, h1, h2⟩ := fld 15 h
    exact ⟨j, h1, fun m' n f a1 _ k hk => by have := h2 m' a1; omega⟩
  | 2, h =>
    obtain ⟨j, vs, H, i, g1, g2, g3, g4, g5⟩ := zofld_ok (k := fun H => zhget A H (fun c => match c with | .inr (.inl (_, _, p, rs, _)) => Nat.beq p 1 && zlg rs 0 (fun q => zle q.2 0) | _ => false)) h hA
    obtain ⟨c, h1, h2⟩ := zhget_ok g5
    split at h2
    · rename_i t n p rs es
      rw [Bool.and_eq_true] at h2
      have hp1 := Nat.eq_of_beq_eq_true h2.1
      subst hp1
      obtain ⟨q, q1, q2⟩ := zlg_ok h2.2
      rw [zle_iff] at q2
      obtain ⟨i2, hh, r1, r2, f, rfl, r3, r4⟩ := hA.2.1 _ _ h1
      cases g4.symm.trans r1
      refine ⟨j, g1, fun n' f' n1 g n2 z a1 a2 a3 k hk => ?_⟩
      have hf : (f' k).toInt ≤ 0 := by
        rw [zofa_at g2 g3] at a1
        obtain ⟨rfl, rfl⟩ := zofr_inv r2 a1
        have := (r4.2.2.1 k hk q (by rw [Nat.mod_one]; exact q1)).2
        have e : zei (.inl f') k = (f' k).toInt := rfl
        omega
      exact ⟨fun e => by omega, fun e => by omega, fun e => by omega⟩
    · cases h2
  | n + 3, h => cases h
/-- what is kept of a list -/
def zOf (f : Nat → Nat → Bool) : List Nat → (List Nat → Bool) → Bool
  | [], k => k []
  | o :: O, k => match f (o / 1000) (o % 1000) with
    | true => zOf f O (fun O => k (o :: O))
    | false => zOf f O k
theorem zOf_ok {f : Nat → Nat → Bool} {η : List Nat} {hp hp' : List zhE} (hf : ∀ kind m j, f kind m = true → η[m]? = some j → zOP kind j hp → zOP kind j hp') : ∀ {O : List Nat} {k : List Nat → Bool}, zOf f O k = true → zaO η O hp → ∃ O', k O' = true ∧ zaO η O' hp'
  | [], k, h, _ => ⟨[], h, fun o ho => absurd ho List.not_mem_nil⟩
  | o :: O, k, h, hO => by
    unfold zOf at h
    have hO2 : zaO η O hp := fun q hq => hO q (List.mem_cons_of_mem _ hq)
    split at h
    · rename_i hc
      obtain ⟨O', h1, h2⟩ := zOf_ok hf h hO2
      refine ⟨_, h1, fun q hq => ?_⟩
      rcases List.mem_cons.mp hq with rfl | hq
      · obtain ⟨j, g1, g2⟩ := hO q List.mem_cons_self
        exact ⟨j, g1, hf _ _ j hc g1 g2⟩
      · exact h2 q hq
    · exact zOf_ok hf h hO2
