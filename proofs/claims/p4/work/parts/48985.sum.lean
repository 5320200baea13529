/-! E, read -/
def zstO (S : Nat → Nat → Int32) : Option Int32 × (Nat → Nat → Int32) := if (S 0 39).toInt ≠ 0 then zlfO S else zsnO (S 0 35).toNatClampNeg S
abbrev zEnd (S : Nat → Nat → Int32) : Prop := zsg S 59 ∧ (S 0 39).toInt = 0 ∧ (S 0 37).toInt ≤ 0
def zSum (m : Nat) : Nat → (Nat → Nat → Int32) → (Nat → Nat → Int32) → Int32 → Prop
  | 0, _, _, _ => False
  | k + 1, S, S', r => (zEnd S ∧ r = Int32.ofInt 1 ∧ S' = zbindA 1 (S 0 35).toNatClampNeg S) ∨ (¬ zEnd S ∧ ∃ r1 S1, zOut (zstO S).1 (zstO S).2 S1 m (S 0 7).toNatClampNeg r1 ∧ ((r1.toInt = 0 ∧ r = Int32.ofInt 0 ∧ S' = S1) ∨ (r1.toInt ≠ 0 ∧ zSum m k S1 S' r)))
def zKp (S S2 : Nat → Nat → Int32) : Prop := S2 1 = S 1 ∧ S2 2 = S 2 ∧ S2 0 6 = S 0 6 ∧ S2 0 7 = S 0 7
theorem zlfO_keep {S : Nat → Nat → Int32} : zKp S (zlfO S).2 := by
  unfold zlfO
  (repeat' split) <;> exact ⟨rfl, rfl, rfl, rfl⟩
theorem zsnO_keep {S : Nat → Nat → Int32} {d : Nat} : zKp S (zsnO d S).2 := by
  have hk := fun (b : Int) => zbindA_keep (l := b) d S
  unfold zsnO zsnE
  (repeat' split) <;> first | exact ⟨rfl, rfl, rfl, rfl⟩ | exact ⟨(hk _).1, (hk _).2.1, (hk _).2.2.1, (hk _).2.2.2.1⟩
theorem zstO_pos {S S1 : Nat → Nat → Int32} {m a : Nat} {r : Int32} (hS : zPos m a S) (h : zOut (zstO S).1 (zstO S).2 S1 m a r) (hr : r.toInt ≠ 0) : ∃ a', zPos m a' S1 ∧ S1 1 = S 1 ∧ S1 2 = S 2 := by
  have hk : zKp S (zstO S).2 := by
    unfold zstO
    split
    · exact zlfO_keep
    · exact zsnO_keep
  unfold zOut at h
  split at h
  · exact absurd (by rw [h.1]; decide) hr
  · obtain ⟨a', h1, h2, h3⟩ := zTok2_pos h.2 (zend_le (p := fun q => zcb1 ((zstO S).2 1 q)) (m := m) (m - a) a (by have := hS.2.2; omega)).2 hS.2.2.2 (hk.2.2.1.trans hS.1)
    exact ⟨a', h1, h2.trans hk.1, h3.trans hk.2.1⟩
section ZTK15
variable {Lx : Nat} {xs : Nat → Int32} {hp : List zhE} {e : Nat → Nat} {m : Nat}
theorem zt_sum (he : zeI e hp zDM.length) : ∀ (n : Nat) (S : Nat → Nat → Int32) (a c s : Nat), zPos m a S → zspell (S 2) 0 zWds → zPn Lx xs n 194 (30, [(0, .ref (e 0))], [], zHS e zDM S hp, c, s) (fun rv hp1 => ∃ r S', rv = some (.int r) ∧ hp1 = zHS e zDM S' hp ∧ ∃ k, zSum m k S S' r) := by
  intro n
  induction n using Nat.strongRecOn with
  | _ n ih =>
  intro S a c s hS hs
  obtain ⟨x1, x2, x3⟩ := zPos_x hS
  refine zp0l (by rfl) rfl rfl (fun m1 hm1 => ?_)
  have hback : ¬ zEnd S → ∀ (r1 : Int32) (S1 : Nat → Nat → Int32), zOut (zstO S).1 (zstO S).2 S1 m a r1 → r1.toInt ≠ 0 → ∀ c s, zPn Lx xs m1 194 (30, [(0, .ref (e 0))], [], zHS e zDM S1 hp, c, s) (fun rv hp1 => ∃ r S', rv = some (.int r) ∧ hp1 = zHS e zDM S' hp ∧ ∃ k, zSum m k S S' r) := by
    intro g r1 S1 h1 h2 c s
    obtain ⟨a', p1, p2, p3⟩ := zstO_pos hS h1 h2
    refine (ih m1 hm1 S1 a' c s p1 (by rw [p3]; exact hs)).post ?_
    intro rv hp1 hq
    obtain ⟨r, S', q1, q2, k, q3⟩ := hq
    exact ⟨r, S', q1, q2, k + 1, Or.inr ⟨g, r1, S1, by rw [x3]; exact h1, Or.inr ⟨h2, q3⟩⟩⟩
  have h53 : ¬ zEnd S → ∀ c s, zPn Lx xs m1 194 (53, [(0, .ref (e 0))], [], zHS e zDM S hp, c, s) (fun rv hp1 => ∃ r S', rv = some (.int r) ∧ hp1 = zHS e zDM S' hp ∧ ∃ k, zSum m k S S' r) := by
    intro g c s
    refine zp0 (by rfl) rfl rfl ?_
    refine zy_get (b := 39) he (by rfl) (by rfl) (by rfl) (by rfl) ?_
    refine zy_if (by rfl) (by rfl) (fun h1 => ?_) (fun h1 => ?_)
    · refine zp0 (by rfl) rfl rfl ?_
      refine zy_v0 (by rfl) (zt_signs he a _ hS hs rfl) ?_
      intro rv hp1 hq
      obtain ⟨r1, S1, q1, q2, q3⟩ := hq
      rw [q1, q2]
      refine zy_if (by rfl) (by rfl) (fun h2 => ?_) (fun h2 => ?_)
      · have hO : zstO S = zsnO (S 0 35).toNatClampNeg S := if_neg (fun q => q h1)
        rw [← hO] at q3
        exact hback g r1 S1 q3 h2 _ _
      · refine zp0 (by rfl) rfl rfl ?_
        refine zp_retI (by rfl) ?_
        have hO : zstO S = zsnO (S 0 35).toNatClampNeg S := if_neg (fun q => q h1)
        rw [← hO] at q3
        exact ⟨_, _, rfl, rfl, 1, Or.inr ⟨g, r1, S1, by rw [x3]; exact q3, Or.inl ⟨Classical.not_not.mp h2, rfl, rfl⟩⟩⟩
    · refine zp0 (by rfl) rfl rfl ?_
      refine zy_v0 (by rfl) (zt_leafRead he a hS hs) ?_
      intro rv hp1 hq
      obtain ⟨r1, S1, q1, q2, q3⟩ := hq
      rw [q1, q2]
      refine zy_if (by rfl) (by rfl) (fun h3 => ?_) (fun h3 => ?_)
      · refine zp0 (by rfl) rfl rfl ?_
        refine zp_retI (by rfl) ?_
        have hO : zstO S = zlfO S := if_pos h1
        rw [← hO] at q3
        exact ⟨_, _, rfl, rfl, 1, Or.inr ⟨g, r1, S1, by rw [x3]; exact q3, Or.inl ⟨h3, rfl, rfl⟩⟩⟩
      · refine zp0 (by rfl) rfl rfl ?_
        have hO : zstO S = zlfO S := if_pos h1
        rw [← hO] at q3
        exact hback g r1 S1 q3 h3 _ _
  refine zq_bip (by rfl) (by decide) ?_
  refine zy_v1e (by rfl) (zt_isSign he _) ?_
  refine zy_if (by rfl) (by rfl) (fun h1 => ?_) (fun h1 => ?_)
  · exact h53 (fun q => zite0 h1 q.1) _ _
  · refine zp0 (by rfl) rfl rfl ?_
    refine zy_get (b := 39) he (by rfl) (by rfl) (by rfl) (by rfl) ?_
    refine zy_if (by rfl) (by rfl) (fun h2 => ?_) (fun h2 => ?_)
    · exact h53 (fun q => h2 q.2.1) _ _
    · refine zp0 (by rfl) rfl rfl ?_
      refine zy_get (b := 37) he (by rfl) (by rfl) (by rfl) (by rfl) ?_
      refine zy_if (by rfl) (by rfl) (fun h3 => ?_) (fun h3 => ?_)
      · iterate 2 refine zp0 (by rfl) rfl rfl ?_
        refine zy_v1n (by rfl) (zt_bindI he (b := 1) ⟨by decide, by decide⟩ rfl) ?_
        refine zp0 (by rfl) rfl rfl ?_
        refine zp_retI (by rfl) ?_
        exact ⟨_, _, rfl, rfl, 1, Or.inl ⟨⟨zite1 h1, Classical.not_not.mp h2, h3⟩, rfl, rfl⟩⟩
      · exact h53 (fun q => h3 q.2.2) _ _
end ZTK15
