/-! the model that reads: find, isOver, hasRead -/
def zfindA (T : Nat → Int32) (f : Nat) (x : Int32) : Nat → Nat → Int
  | 0, _ => -1
  | d + 1, k => if (T (f + k)).toInt = x.toInt then (k : Int) else zfindA T f x d (k + 1)
abbrev zover (S : Nat → Nat → Int32) (x y : Nat) : Prop := (S 4 x).toInt < (S 4 y + S 6 y).toInt ∧ (S 4 y).toInt < (S 4 x + S 6 x).toInt ∧ (S 5 x).toInt < (S 5 y + S 7 y).toInt ∧ (S 5 y).toInt < (S 5 x + S 7 x).toInt
section ZTK10
variable {Lx : Nat} {xs : Nat → Int32} {n : Nat} {hp : List zhE} {e : Nat → Nat} {S : Nat → Nat → Int32} {m : Nat}
theorem zt_isOver (he : zeI e hp zDM.length) (x y : Int32) : zPn Lx xs n 180 (0, lv_args 0 [.ref (e 0), .int x, .int y], [], zHS e zDM S hp, 0, 0) (fun rv hp1 => rv = some (.int (if zover S x.toNatClampNeg y.toNatClampNeg then 1 else 0)) ∧ hp1 = zHS e zDM S hp) := by
  refine zp0 (by rfl) rfl rfl ?_
  refine zy_ref (r := 4) he (by rfl) (by rfl) (by rfl) (by rfl) ?_
  refine zp0 (by rfl) rfl rfl ?_
  refine zy_ald he (by rfl) (by rfl) (fun u1 w1 => ?_)
  refine zp0 (by rfl) rfl rfl ?_
  refine zy_ref (r := 4) he (by rfl) (by rfl) (by rfl) (by rfl) ?_
  refine zp0 (by rfl) rfl rfl ?_
  refine zy_ald he (by rfl) (by rfl) (fun u2 w2 => ?_)
  refine zp0 (by rfl) rfl rfl ?_
  refine zy_ref (r := 6) he (by rfl) (by rfl) (by rfl) (by rfl) ?_
  refine zp0 (by rfl) rfl rfl ?_
  refine zy_ald he (by rfl) (by rfl) (fun u3 w3 => ?_)
  refine zp0 (by rfl) rfl rfl ?_
  refine zy_icmp (by rfl) (by rfl) (fun h4 => ?_) (fun h4 => ?_)
  · refine zp0 (by rfl) rfl rfl ?_
    refine zp_retI (by rfl) ?_
    refine ⟨?_, rfl⟩
    simp only [zcf] at h4
    simp only [zover]
    split
    all_goals first | rfl | (exfalso; omega)
  · refine zp0 (by rfl) rfl rfl ?_
    refine zy_ref (r := 4) he (by rfl) (by rfl) (by rfl) (by rfl) ?_
    refine zp0 (by rfl) rfl rfl ?_
    refine zy_ald he (by rfl) (by rfl) (fun u5 w5 => ?_)
    refine zp0 (by rfl) rfl rfl ?_
    refine zy_ref (r := 4) he (by rfl) (by rfl) (by rfl) (by rfl) ?_
    refine zp0 (by rfl) rfl rfl ?_
    refine zy_ald he (by rfl) (by rfl) (fun u6 w6 => ?_)
    refine zp0 (by rfl) rfl rfl ?_
    refine zy_ref (r := 6) he (by rfl) (by rfl) (by rfl) (by rfl) ?_
    refine zp0 (by rfl) rfl rfl ?_
    refine zy_ald he (by rfl) (by rfl) (fun u7 w7 => ?_)
    refine zp0 (by rfl) rfl rfl ?_
    refine zy_icmp (by rfl) (by rfl) (fun h8 => ?_) (fun h8 => ?_)
    · refine zp0 (by rfl) rfl rfl ?_
      refine zp_retI (by rfl) ?_
      refine ⟨?_, rfl⟩
      simp only [zcf] at h4 h8
      simp only [zover]
      split
      all_goals first | rfl | (exfalso; omega)
    · refine zp0 (by rfl) rfl rfl ?_
      refine zy_ref (r := 5) he (by rfl) (by rfl) (by rfl) (by rfl) ?_
      refine zp0 (by rfl) rfl rfl ?_
      refine zy_ald he (by rfl) (by rfl) (fun u9 w9 => ?_)
      refine zp0 (by rfl) rfl rfl ?_
      refine zy_ref (r := 5) he (by rfl) (by rfl) (by rfl) (by rfl) ?_
      refine zp0 (by rfl) rfl rfl ?_
      refine zy_ald he (by rfl) (by rfl) (fun u10 w10 => ?_)
      refine zp0 (by rfl) rfl rfl ?_
      refine zy_ref (r := 7) he (by rfl) (by rfl) (by rfl) (by rfl) ?_
      refine zp0 (by rfl) rfl rfl ?_
      refine zy_ald he (by rfl) (by rfl) (fun u11 w11 => ?_)
      refine zp0 (by rfl) rfl rfl ?_
      refine zy_icmp (by rfl) (by rfl) (fun h12 => ?_) (fun h12 => ?_)
      · refine zp0 (by rfl) rfl rfl ?_
        refine zp_retI (by rfl) ?_
        refine ⟨?_, rfl⟩
        simp only [zcf] at h4 h8 h12
        simp only [zover]
        split
        all_goals first | rfl | (exfalso; omega)
      · refine zp0 (by rfl) rfl rfl ?_
        refine zy_ref (r := 5) he (by rfl) (by rfl) (by rfl) (by rfl) ?_
        refine zp0 (by rfl) rfl rfl ?_
        refine zy_ald he (by rfl) (by rfl) (fun u13 w13 => ?_)
        refine zp0 (by rfl) rfl rfl ?_
        refine zy_ref (r := 5) he (by rfl) (by rfl) (by rfl) (by rfl) ?_
        refine zp0 (by rfl) rfl rfl ?_
        refine zy_ald he (by rfl) (by rfl) (fun u14 w14 => ?_)
        refine zp0 (by rfl) rfl rfl ?_
        refine zy_ref (r := 7) he (by rfl) (by rfl) (by rfl) (by rfl) ?_
        refine zp0 (by rfl) rfl rfl ?_
        refine zy_ald he (by rfl) (by rfl) (fun u15 w15 => ?_)
        refine zp0 (by rfl) rfl rfl ?_
        refine zy_icmp (by rfl) (by rfl) (fun h16 => ?_) (fun h16 => ?_)
        · refine zp0 (by rfl) rfl rfl ?_
          refine zp_retI (by rfl) ?_
          refine ⟨?_, rfl⟩
          simp only [zcf] at h4 h8 h12 h16
          simp only [zover]
          split
          all_goals first | rfl | (exfalso; omega)
        · iterate 2 refine zp0 (by rfl) rfl rfl ?_
          refine zp_retI (by rfl) ?_
          refine ⟨?_, rfl⟩
          simp only [zcf] at h4 h8 h12 h16
          simp only [zover]
          split
          all_goals first | rfl | (exfalso; omega)
theorem zt_findA (he : zeI e hp zDM.length) {f N : Nat} {x : Int32} (hf : f < 1000) (hN : N < 1000) {c s : Nat} : ∀ (d k : Nat), k + d = N → zPn Lx xs n 176 (3, [(4, .int (Int32.ofInt (k : Int))), (0, .ref (e 0)), (1, .int (Int32.ofInt (f : Int))), (2, .int (Int32.ofInt (N : Int))), (3, .int x)], [], zHS e zDM S hp, c, s) (fun rv hp1 => rv = some (.int (Int32.ofInt (zfindA (S 3) f x d k))) ∧ hp1 = zHS e zDM S hp) := by
  intro d
  induction d with
  | zero =>
    intro k hk
    have ek : (Int32.ofInt (k : Int)).toInt = k := zof_ix (by omega)
    have eN : (Int32.ofInt (N : Int)).toInt = N := zof_ix (by omega)
    iterate 2 refine zp0 (by rfl) rfl rfl ?_
    refine zy_icmp (by rfl) (by rfl) (fun h1 => ?_) (fun h1 => ?_)
    · refine zp0 (by rfl) rfl rfl ?_
      refine zp_retI (by rfl) ?_
      exact ⟨rfl, rfl⟩
    · exfalso
      simp only [zcf, ek, eN] at h1
      omega
  | succ d ih =>
    intro k hk
    have ek : (Int32.ofInt (k : Int)).toInt = k := zof_ix (by omega)
    have eN : (Int32.ofInt (N : Int)).toInt = N := zof_ix (by omega)
    have en : (Int32.ofInt (f : Int) + Int32.ofInt (k : Int)).toNatClampNeg = f + k := by rw [zof_add]; exact zof_cl (by omega)
    have h9 := ih (k + 1) (by omega)
    rw [← zof_up] at h9
    iterate 2 refine zp0 (by rfl) rfl rfl ?_
    refine zy_icmp (by rfl) (by rfl) (fun h1 => ?_) (fun h1 => ?_)
    · refine zp0 (by rfl) rfl rfl ?_
      refine zp_retI (by rfl) ?_
      exfalso
      simp only [zcf, ek, eN] at h1
      omega
    · refine zp0 (by rfl) rfl rfl ?_
      refine zy_ref (r := 3) he (by rfl) (by rfl) (by rfl) (by rfl) ?_
      iterate 3 refine zp0 (by rfl) rfl rfl ?_
      refine zy_ald he (by rfl) (by rfl) (fun u2 w2 => ?_)
      refine zp0 (by rfl) rfl rfl ?_
      refine zy_icmp (by rfl) (by rfl) (fun h3 => ?_) (fun h3 => ?_)
      · iterate 2 refine zp0 (by rfl) rfl rfl ?_
        simp only [zcf, en] at h3
        have hz : zfindA (S 3) f x (d + 1) k = zfindA (S 3) f x d (k + 1) := if_neg h3
        rw [hz]
        exact h9
      · refine zp0 (by rfl) rfl rfl ?_
        refine zp_retI (by rfl) ?_
        simp only [zcf, en, ne_eq, Classical.not_not] at h3
        refine ⟨?_, rfl⟩
        show _ = some (Value.int (Int32.ofInt (if (S 3 (f + k)).toInt = x.toInt then (k : Int) else _)))
        rw [if_pos h3]
theorem zt_find (he : zeI e hp zDM.length) {f N : Nat} (x : Int32) (hf : f < 1000) (hN : N < 1000) : zPn Lx xs n 176 (0, lv_args 0 [.ref (e 0), .int (Int32.ofInt (f : Int)), .int (Int32.ofInt (N : Int)), .int x], [], zHS e zDM S hp, 0, 0) (fun rv hp1 => rv = some (.int (Int32.ofInt (zfindA (S 3) f x N 0))) ∧ hp1 = zHS e zDM S hp) := by
  iterate 2 refine zp0 (by rfl) rfl rfl ?_
  exact zt_findA he hf hN N 0 (Nat.zero_add N)
/-- one of a thing's words, read -/
def zHasR (S S' : Nat → Nat → Int32) (m a : Nat) (t w r : Int32) : Prop := (w.toInt = 0 ∧ r = Int32.ofInt 1 ∧ S' = zuS S 9 t.toNatClampNeg (Int32.ofInt 1)) ∨ (w.toInt ≠ 0 ∧ ∃ r1 S1, zNum S S1 m a (Int32.ofInt 0) (if w.toInt = 1 then Int32.ofInt 2 * S 6 t.toNatClampNeg else if w.toInt = 2 then Int32.ofInt 5 else Int32.ofInt 10) r1 ∧ ((r1.toInt = 0 ∧ r = Int32.ofInt 0 ∧ S' = S1) ∨ (r1.toInt ≠ 0 ∧ r = Int32.ofInt 1 ∧ S' = if w.toInt = 1 then zuS S1 12 t.toNatClampNeg (S1 0 11) else if w.toInt = 2 then zuS S1 11 t.toNatClampNeg (S1 0 11) else if w.toInt = 3 then zuS S1 10 t.toNatClampNeg (S1 0 11) else S1)))
theorem zt_hasRead (he : zeI e hp zDM.length) (t w : Int32) (a : Nat) (hS : zPos m a S) (hs : zspell (S 2) 0 zWds) : zPn Lx xs n 179 (0, lv_args 0 [.ref (e 0), .int t, .int w], [], zHS e zDM S hp, 0, 0) (fun rv hp1 => ∃ r S', rv = some (.int r) ∧ hp1 = zHS e zDM S' hp ∧ zHasR S S' m a t w r) := by
  have h45 : w.toInt ≠ 0 → ∀ (r1 : Int32) (S1 : Nat → Nat → Int32) (c s : Nat), zNum S S1 m a (Int32.ofInt 0) (if w.toInt = 1 then Int32.ofInt 2 * S 6 t.toNatClampNeg else if w.toInt = 2 then Int32.ofInt 5 else Int32.ofInt 10) r1 → zPn Lx xs n 179 (45, [(0, .ref (e 0)), (1, .int t), (2, .int w)], [.int r1], zHS e zDM S1 hp, c, s) (fun rv hp1 => ∃ r S', rv = some (.int r) ∧ hp1 = zHS e zDM S' hp ∧ zHasR S S' m a t w r) := by
    intro hw r1 S1 c s hr
    refine zy_if (by rfl) (by rfl) (fun h1 => ?_) (fun h1 => ?_)
    · iterate 2 refine zp0 (by rfl) rfl rfl ?_
      refine zy_icmpC (by rfl) (by rfl) ⟨by decide, by decide⟩ (fun h2 => ?_) (fun h2 => ?_)
      · iterate 2 refine zp0 (by rfl) rfl rfl ?_
        refine zy_icmpC (by rfl) (by rfl) ⟨by decide, by decide⟩ (fun h3 => ?_) (fun h3 => ?_)
        · iterate 2 refine zp0 (by rfl) rfl rfl ?_
          refine zy_icmpC (by rfl) (by rfl) ⟨by decide, by decide⟩ (fun h4 => ?_) (fun h4 => ?_)
          · refine zp0 (by rfl) rfl rfl ?_
            refine zp_retI (by rfl) ?_
            simp only [zcf, ne_eq, Classical.not_not] at h1 h2 h3 h4
            refine ⟨_, _, rfl, rfl, Or.inr ⟨hw, r1, S1, hr, Or.inr ⟨h1, rfl, ?_⟩⟩⟩
            (repeat' split) <;> first | rfl | (exfalso; omega)
          · refine zp0 (by rfl) rfl rfl ?_
            refine zy_ref (r := 10) he (by rfl) (by rfl) (by rfl) (by rfl) ?_
            iterate 2 refine zp0 (by rfl) rfl rfl ?_
            refine zy_get (b := 11) he (by rfl) (by rfl) (by rfl) (by rfl) ?_
            refine zy_ast he (by rfl) (by rfl) (fun u5 w5 => ?_)
            refine zp0 (by rfl) rfl rfl ?_
            refine zp_retI (by rfl) ?_
            simp only [zcf, ne_eq, Classical.not_not] at h1 h2 h3 h4
            refine ⟨_, _, rfl, rfl, Or.inr ⟨hw, r1, S1, hr, Or.inr ⟨h1, rfl, ?_⟩⟩⟩
            (repeat' split) <;> first | rfl | (exfalso; omega)
        · refine zp0 (by rfl) rfl rfl ?_
          refine zy_ref (r := 11) he (by rfl) (by rfl) (by rfl) (by rfl) ?_
          iterate 2 refine zp0 (by rfl) rfl rfl ?_
          refine zy_get (b := 11) he (by rfl) (by rfl) (by rfl) (by rfl) ?_
          refine zy_ast he (by rfl) (by rfl) (fun u6 w6 => ?_)
          iterate 2 refine zp0 (by rfl) rfl rfl ?_
          refine zy_icmpC (by rfl) (by rfl) ⟨by decide, by decide⟩ (fun h7 => ?_) (fun h7 => ?_)
          · refine zp0 (by rfl) rfl rfl ?_
            refine zp_retI (by rfl) ?_
            simp only [zcf, ne_eq, Classical.not_not] at h1 h2 h3 h7
            refine ⟨_, _, rfl, rfl, Or.inr ⟨hw, r1, S1, hr, Or.inr ⟨h1, rfl, ?_⟩⟩⟩
            (repeat' split) <;> first | rfl | (exfalso; omega)
          · exfalso
            simp only [zcf] at h1 h2 h3 h7
            omega
      · refine zp0 (by rfl) rfl rfl ?_
        refine zy_ref (r := 12) he (by rfl) (by rfl) (by rfl) (by rfl) ?_
        iterate 2 refine zp0 (by rfl) rfl rfl ?_
        refine zy_get (b := 11) he (by rfl) (by rfl) (by rfl) (by rfl) ?_
        refine zy_ast he (by rfl) (by rfl) (fun u8 w8 => ?_)
        iterate 2 refine zp0 (by rfl) rfl rfl ?_
        refine zy_icmpC (by rfl) (by rfl) ⟨by decide, by decide⟩ (fun h9 => ?_) (fun h9 => ?_)
        · iterate 2 refine zp0 (by rfl) rfl rfl ?_
          refine zy_icmpC (by rfl) (by rfl) ⟨by decide, by decide⟩ (fun h10 => ?_) (fun h10 => ?_)
          · refine zp0 (by rfl) rfl rfl ?_
            refine zp_retI (by rfl) ?_
            simp only [zcf, ne_eq, Classical.not_not] at h1 h2 h9 h10
            refine ⟨_, _, rfl, rfl, Or.inr ⟨hw, r1, S1, hr, Or.inr ⟨h1, rfl, ?_⟩⟩⟩
            (repeat' split) <;> first | rfl | (exfalso; omega)
          · exfalso
            simp only [zcf] at h1 h2 h9 h10
            omega
        · exfalso
          simp only [zcf] at h1 h2 h9
          omega
    · refine zp0 (by rfl) rfl rfl ?_
      refine zp_retI (by rfl) ?_
      simp only [zcf, ne_eq, Classical.not_not] at h1
      exact ⟨_, _, rfl, rfl, Or.inr ⟨hw, r1, S1, hr, Or.inl ⟨h1, rfl, rfl⟩⟩⟩
  refine zp0 (by rfl) rfl rfl ?_
  refine zy_if (by rfl) (by rfl) (fun h1 => ?_) (fun h1 => ?_)
  · iterate 4 refine zp0 (by rfl) rfl rfl ?_
    refine zy_icmpC (by rfl) (by rfl) ⟨by decide, by decide⟩ (fun h2 => ?_) (fun h2 => ?_)
    · iterate 2 refine zp0 (by rfl) rfl rfl ?_
      refine zy_icmpC (by rfl) (by rfl) ⟨by decide, by decide⟩ (fun h3 => ?_) (fun h3 => ?_)
      · refine zq_bip (by rfl) (by decide) ?_
        simp only [zcf] at h1 h2 h3
        refine zy_v2 (by rfl) (zt_number he (Int32.ofInt 0) (Int32.ofInt 10) a hS hs) ?_
        intro rv hp1 hq
        obtain ⟨r1, S1, q1, q2, q3⟩ := hq
        rw [q1, q2]
        refine h45 (by omega) r1 S1 _ _ ?_
        have hv : (if w.toInt = 1 then Int32.ofInt 2 * S 6 t.toNatClampNeg else if w.toInt = 2 then Int32.ofInt 5 else Int32.ofInt 10) = Int32.ofInt 10 := by
          (repeat' split) <;> first | rfl | (exfalso; omega)
        rw [hv]
        exact q3
      · iterate 2 refine zp0 (by rfl) rfl rfl ?_
        simp only [zcf] at h1 h2 h3
        refine zy_v2 (by rfl) (zt_number he (Int32.ofInt 0) (Int32.ofInt 5) a hS hs) ?_
        intro rv hp1 hq
        obtain ⟨r1, S1, q1, q2, q3⟩ := hq
        rw [q1, q2]
        refine h45 (by omega) r1 S1 _ _ ?_
        have hv : (if w.toInt = 1 then Int32.ofInt 2 * S 6 t.toNatClampNeg else if w.toInt = 2 then Int32.ofInt 5 else Int32.ofInt 10) = Int32.ofInt 5 := by
          (repeat' split) <;> first | rfl | (exfalso; omega)
        rw [hv]
        exact q3
    · iterate 2 refine zp0 (by rfl) rfl rfl ?_
      refine zy_ref (r := 6) he (by rfl) (by rfl) (by rfl) (by rfl) ?_
      refine zp0 (by rfl) rfl rfl ?_
      refine zy_ald he (by rfl) (by rfl) (fun u4 w4 => ?_)
      iterate 2 refine zp0 (by rfl) rfl rfl ?_
      simp only [zcf] at h1 h2
      refine zy_v2 (by rfl) (zt_number he (Int32.ofInt 0) (Int32.ofInt 2 * S 6 t.toNatClampNeg) a hS hs) ?_
      intro rv hp1 hq
      obtain ⟨r1, S1, q1, q2, q3⟩ := hq
      rw [q1, q2]
      refine h45 (by omega) r1 S1 _ _ ?_
      have hv : (if w.toInt = 1 then Int32.ofInt 2 * S 6 t.toNatClampNeg else if w.toInt = 2 then Int32.ofInt 5 else Int32.ofInt 10) = Int32.ofInt 2 * S 6 t.toNatClampNeg := by
        (repeat' split) <;> first | rfl | (exfalso; omega)
      rw [hv]
      exact q3
  · refine zp0 (by rfl) rfl rfl ?_
    refine zy_ref (r := 9) he (by rfl) (by rfl) (by rfl) (by rfl) ?_
    iterate 2 refine zp0 (by rfl) rfl rfl ?_
    refine zy_ast he (by rfl) (by rfl) (fun u5 w5 => ?_)
    refine zp0 (by rfl) rfl rfl ?_
    refine zp_retI (by rfl) ?_
    simp only [zcf, ne_eq, Classical.not_not] at h1
    exact ⟨_, _, rfl, rfl, Or.inl ⟨h1, rfl, rfl⟩⟩
end ZTK10
