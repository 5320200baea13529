/-! one token on both sides: what is asked of it -/
def zTRi (a b c d : Int) : Prop :=
  (a = 0 ∧ c = 0) ∨ (∃ w : Nat, w < 17 ∧ a = 1 ∧ b = w ∧ c = 1 ∧ d = (zWpk.getD w 0 : Nat)) ∨
  (a = 2 ∧ c = 1 ∧ b = d ∧ 0 ≤ d ∧ d < 1073741824 ∧ ∀ w, w < 17 → d ≠ (zWpk.getD w 0 : Nat)) ∨
  (a = 3 ∧ c = 2 ∧ 0 ≤ b ∧ 0 ≤ d ∧ b < 100009 ∧ d ≤ 100000 ∧ ((b = d ∧ b ≤ 9999) ∨ (9999 < b ∧ 9999 < d))) ∨
  (a = 4 ∧ c = 3 ∧ b = d ∧ (b = 59 ∨ b = 40 ∨ b = 41 ∨ b = 43 ∨ b = 45 ∨ b = 42 ∨ b = 47)) ∨
  (a = 5 ∧ c = 3 ∧ ((b = 0 ∧ d = 60) ∨ (b = 1 ∧ d = 15421) ∨ (b = 2 ∧ d = 61) ∨ (b = 3 ∧ d = 15422) ∨ (b = 4 ∧ d = 15933) ∨ (b = 5 ∧ d = 62))) ∨
  (a = 6 ∧ c = 4)
theorem zWpk_lt : ∀ w : Nat, w < 17 → zWpk.getD w 0 < 1073741824 := by decide
theorem zWpk_inj : ∀ w : Nat, w < 17 → ∀ v : Nat, v < 17 → zWpk.getD w 0 = zWpk.getD v 0 → w = v := by decide
theorem zTR_i {mk mw K V : Int32} (h : zTR mk mw K V) : zTRi mk.toInt mw.toInt K.toInt V.toInt := by
  rcases h with ⟨e1, e2⟩ | ⟨w, hw, e1, e2, e3, e4⟩ | ⟨v, e1, e2, e3, e4, h1, h2⟩ | ⟨x, y, e1, e2, e3, e4, h⟩ | ⟨x, e1, e2, e3, e4, h⟩ | ⟨x, y, e1, e2, e3, e4, h⟩ | ⟨e1, e2⟩
  · rw [e1, e2]
    exact Or.inl ⟨rfl, rfl⟩
  · rw [e1, e2, e3, e4]
    have := zWpk_lt w hw
    exact Or.inr (Or.inl ⟨w, hw, rfl, zRt ⟨by omega, by omega⟩, rfl, zRt ⟨by omega, by omega⟩⟩)
  · rw [e1, e2, e3, e4, zRt (a := (v : Int)) ⟨by omega, by omega⟩]
    refine Or.inr (Or.inr (Or.inl ⟨by decide, by decide, rfl, by omega, by omega, fun w hw => ?_⟩))
    have := h2 w hw
    omega
  · rw [e1, e2, e3, e4, zRt (a := x) ⟨by omega, by omega⟩, zRt (a := y) ⟨by omega, by omega⟩]
    exact Or.inr (Or.inr (Or.inr (Or.inl ⟨by decide, by decide, h⟩)))
  · rw [e1, e2, e3, e4, zRt (a := x) ⟨by omega, by omega⟩]
    exact Or.inr (Or.inr (Or.inr (Or.inr (Or.inl ⟨by decide, by decide, rfl, h⟩))))
  · rw [e1, e2, e3, e4, zRt (a := x) ⟨by omega, by omega⟩, zRt (a := y) ⟨by omega, by omega⟩]
    exact Or.inr (Or.inr (Or.inr (Or.inr (Or.inr (Or.inl ⟨by decide, by decide, h⟩)))))
  · rw [e1, e2]
    exact Or.inr (Or.inr (Or.inr (Or.inr (Or.inr (Or.inr ⟨by decide, by decide⟩)))))
section ZTRX
variable {a b c d : Int}
theorem zTRi_sg (h : zTRi a b c d) {x : Int} (hx : x = 59 ∨ x = 40 ∨ x = 41 ∨ x = 43 ∨ x = 45 ∨ x = 42 ∨ x = 47) : (c = 3 ∧ d = x) ↔ (a = 4 ∧ b = x) := by
  rcases h with h | ⟨w, h⟩ | h | h | h | h | h <;> omega
theorem zTRi_ky (h : zTRi a b c d) {w : Nat} (hw : w < 17) : (c = 1 ∧ d = (zWpk.getD w 0 : Nat)) ↔ (a = 1 ∧ b = w) := by
  rcases h with h | ⟨v, hv, h1, h2, h3, h4⟩ | ⟨h1, h2, h3, h4, h5, h6⟩ | h | h | h | h
  · omega
  · constructor
    · intro q
      have := zWpk_inj v hv w hw (by omega)
      omega
    · intro q
      have e : v = w := by omega
      rw [e] at h4
      exact ⟨h3, h4⟩
  · constructor
    · intro q
      exact absurd q.2 (h6 w hw)
    · intro q
      omega
  · omega
  · omega
  · omega
  · omega
def zcnI (d : Int) : Int := if d = 777297172 then 0 else if d = 781325312 then 1 else if d = 278110208 then 2 else if d = 408113152 then 3 else if d = 217567232 then 4 else if d = 36165792 then 5 else if d = 418418688 then 6 else if d = 620403968 then 7 else -1
theorem zcnI_w : ∀ w : Nat, w < 17 → zcnI (zWpk.getD w 0 : Nat) = if 10 ≤ (w : Int) then (w : Int) - 10 else if (w : Int) = 6 then 7 else -1 := by decide
theorem zcnI_rg (d : Int) : -1 ≤ zcnI d ∧ zcnI d ≤ 7 := by
  unfold zcnI
  (repeat' split) <;> omega
theorem zTRi_nm (h : zTRi a b c d) : (if c = 1 then zcnI d else -1) = if a = 1 ∧ 10 ≤ b then b - 10 else if a = 1 ∧ b = 6 then 7 else -1 := by
  rcases h with h | ⟨w, hw, h1, h2, h3, h4⟩ | ⟨h1, h2, h3, h4, h5, h6⟩ | h | h | h | h
  · rw [if_neg (by omega), if_neg (by omega), if_neg (by omega)]
  · rw [if_pos h3, h4, zcnI_w w hw, h1, h2]
    simp only [true_and]
  · rw [if_pos h2, if_neg (show ¬ (a = 1 ∧ 10 ≤ b) by omega), if_neg (show ¬ (a = 1 ∧ b = 6) by omega)]
    have k := fun w hw => h6 w hw
    unfold zcnI
    rw [if_neg (show d ≠ 777297172 from k 10 (by decide)), if_neg (show d ≠ 781325312 from k 11 (by decide)), if_neg (show d ≠ 278110208 from k 12 (by decide)), if_neg (show d ≠ 408113152 from k 13 (by decide)), if_neg (show d ≠ 217567232 from k 14 (by decide)), if_neg (show d ≠ 36165792 from k 15 (by decide)), if_neg (show d ≠ 418418688 from k 16 (by decide)), if_neg (show d ≠ 620403968 from k 6 (by decide))]
  · rw [if_neg (by omega), if_neg (by omega), if_neg (by omega)]
  · rw [if_neg (by omega), if_neg (by omega), if_neg (by omega)]
  · rw [if_neg (by omega), if_neg (by omega), if_neg (by omega)]
  · rw [if_neg (by omega), if_neg (by omega), if_neg (by omega)]
def zcbS (c d : Int) : Int := if c = 1 then (if d = 48365568 then -2 else if d = 522190848 then -1 else 0) else if c ≠ 3 then 0 else if d = 42 then -12 else if d = 43 then -10 else if d = 45 then -11 else if d = 47 then -13 else if d = 60 then -4 else if d = 61 then -6 else if d = 62 then -9 else if d = 15421 then -5 else if d = 15422 then -7 else if d = 15933 then -8 else 0
/-- a sign's number in the class, by the model's -/
def zcw (k : Int) : Int := if k = 0 then 0 else if k = 2 then -3 else if k = 3 then -2 else if k = 4 then -1 else 1 - k
def zsnI (a b : Int) : Int := if a = 1 ∧ b = 7 then 3 else if a = 1 ∧ b = 8 then 4 else if a = 5 then 5 + b else if a = 4 ∧ b = 43 then 11 else if a = 4 ∧ b = 45 then 12 else if a = 4 ∧ b = 42 then 13 else if a = 4 ∧ b = 47 then 14 else 0
theorem zcbS_w : ∀ w : Nat, w < 17 → zcbS 1 (zWpk.getD w 0 : Nat) = zcw (zsnI 1 (w : Int)) := by decide
theorem zTRi_bs (h : zTRi a b c d) : zcbS c d = zcw (zsnI a b) := by
  rcases h with h | ⟨w, hw, h1, h2, h3, h4⟩ | ⟨h1, h2, h3, h4, h5, h6⟩ | h | h | h | h
  · have e1 : zcbS c d = 0 := by
      unfold zcbS
      rw [if_neg (by omega), if_pos (by omega)]
    have e2 : zsnI a b = 0 := by
      unfold zsnI
      rw [if_neg (by omega), if_neg (by omega), if_neg (by omega), if_neg (by omega), if_neg (by omega), if_neg (by omega), if_neg (by omega)]
    rw [e1, e2]
    rfl
  · rw [h1, h2, h3, h4]
    exact zcbS_w w hw
  · have k7 := h6 7 (by decide)
    have k8 := h6 8 (by decide)
    have k7 : d ≠ 48365568 := k7
    have k8 : d ≠ 522190848 := k8
    unfold zcbS zsnI
    rw [if_pos h2, if_neg k7, if_neg k8, h1]
    rfl
  · have e1 : zcbS c d = 0 := by
      unfold zcbS
      rw [if_neg (by omega), if_pos (by omega)]
    have e2 : zsnI a b = 0 := by
      unfold zsnI
      rw [if_neg (by omega), if_neg (by omega), if_neg (by omega), if_neg (by omega), if_neg (by omega), if_neg (by omega), if_neg (by omega)]
    rw [e1, e2]
    rfl
  · obtain ⟨e1, e2, e3, e4⟩ := h
    rw [e1, e2, ← e3]
    rcases e4 with e | e | e | e | e | e | e <;> rw [e] <;> rfl
  · obtain ⟨e1, e2, e4⟩ := h
    rw [e1, e2]
    rcases e4 with e | e | e | e | e | e <;> rw [e.1, e.2] <;> rfl
  · have e1 : zcbS c d = 0 := by
      unfold zcbS
      rw [if_neg (by omega), if_pos (by omega)]
    have e2 : zsnI a b = 0 := by
      unfold zsnI
      rw [if_neg (by omega), if_neg (by omega), if_neg (by omega), if_neg (by omega), if_neg (by omega), if_neg (by omega), if_neg (by omega)]
    rw [e1, e2]
    rfl
theorem zsnI_rg (h : zTRi a b c d) : zsnI a b = 0 ∨ (3 ≤ zsnI a b ∧ zsnI a b ≤ 14) := by
  unfold zsnI
  rcases h with h | ⟨w, h⟩ | h | h | h | h | h <;> (repeat' split) <;> omega
theorem zcw_str {k : Int} (h : k = 0 ∨ 2 ≤ k) : zstr (zcw k) = zrank k := by
  unfold zcw zstr zrank
  (repeat' split) <;> omega
theorem zcw_0 {k : Int} (h : k = 0 ∨ 2 ≤ k) : zcw k = 0 ↔ k = 0 := by
  unfold zcw
  (repeat' split) <;> omega
theorem zcw_rg {k : Int} (h : k = 0 ∨ 2 ≤ k) (h2 : k ≤ 14) : -13 ≤ zcw k ∧ zcw k ≤ 0 := by
  unfold zcw
  (repeat' split) <;> omega
end ZTRX
theorem zsnK_i {S : Nat → Nat → Int32} {c d : Int} (h : zTRi (S 0 8).toInt (S 0 9).toInt c d) : (zsnK S).toInt = zsnI (S 0 8).toInt (S 0 9).toInt := by
  have k : ∀ x : Int, -100 ≤ x → x ≤ 100 → (Int32.ofInt x).toInt = x := fun x h1 h2 => zRt ⟨by omega, by omega⟩
  unfold zsnK zsnI zky zsg
  rw [k 7 (by decide) (by decide), k 8 (by decide) (by decide), k 43 (by decide) (by decide), k 45 (by decide) (by decide), k 42 (by decide) (by decide), k 47 (by decide) (by decide)]
  by_cases g1 : (S 0 8).toInt = 1 ∧ (S 0 9).toInt = 7
  · rw [if_pos g1, if_pos g1]
    exact k 3 (by decide) (by decide)
  rw [if_neg g1, if_neg g1]
  by_cases g2 : (S 0 8).toInt = 1 ∧ (S 0 9).toInt = 8
  · rw [if_pos g2, if_pos g2]
    exact k 4 (by decide) (by decide)
  rw [if_neg g2, if_neg g2]
  by_cases g3 : (S 0 8).toInt = 5
  · rw [if_pos g3, if_pos g3, ← Int32.ofInt_toInt (S 0 9), ← Int32.ofInt_add, Int32.ofInt_toInt]
    rcases h with h | ⟨w, h⟩ | h | h | h | h | h
    · omega
    · omega
    · omega
    · omega
    · omega
    · exact k _ (by omega) (by omega)
    · omega
  rw [if_neg g3, if_neg g3]
  (repeat' split) <;> first | exact k _ (by decide) (by decide) | rfl
theorem znm_i {S : Nat → Nat → Int32} {c d : Int} (h : zTRi (S 0 8).toInt (S 0 9).toInt c d) : (znm S).toInt = if c = 1 then zcnI d else -1 := by
  rw [zTRi_nm h]
  unfold znm
  by_cases g1 : (S 0 8).toInt = 1 ∧ 10 ≤ (S 0 9).toInt
  · rw [if_pos g1, if_pos g1, ← Int32.ofInt_toInt (S 0 9), ← Int32.ofInt_sub, Int32.ofInt_toInt]
    rcases h with h | ⟨w, h⟩ | h | h | h | h | h
    · omega
    · exact zRt ⟨by omega, by omega⟩
    · omega
    · omega
    · omega
    · omega
    · omega
  · rw [if_neg g1, if_neg g1]
    split
    · rfl
    · rfl
section ZCL6
variable {Lx : Nat} {xs : Nat → Int32} {n : Nat} {hp : List zhE} {e : Nat → Nat} {C : Nat → Nat → Int32} {x1 x2 x3 x4 m : Nat}
theorem zc_nameIndex (x : Int32) {hp : List zhE} : zPn Lx xs n 117 (0, lv_args 0 [.int x], [], hp, 0, 0) (fun rv hp1 => rv = some (.int (Int32.ofInt (zcnI x.toInt))) ∧ hp1 = hp) := by
  refine zp0 (by rfl) rfl rfl ?_
  by_cases g0 : x.toInt = 777297172
  · refine zy_lsw (t := 76) (by rfl) (by rw [g0]; rfl) ?_
    rw [show zcnI x.toInt = 0 by rw [g0]; rfl]
    refine zp0 (by rfl) rfl rfl ?_
    refine zp_retI (by rfl) ?_
    exact ⟨rfl, rfl⟩
  by_cases g1 : x.toInt = 781325312
  · refine zy_lsw (t := 78) (by rfl) (by rw [g1]; rfl) ?_
    rw [show zcnI x.toInt = 1 by rw [g1]; rfl]
    refine zp0 (by rfl) rfl rfl ?_
    refine zp_retI (by rfl) ?_
    exact ⟨rfl, rfl⟩
  by_cases g2 : x.toInt = 278110208
  · refine zy_lsw (t := 80) (by rfl) (by rw [g2]; rfl) ?_
    rw [show zcnI x.toInt = 2 by rw [g2]; rfl]
    refine zp0 (by rfl) rfl rfl ?_
    refine zp_retI (by rfl) ?_
    exact ⟨rfl, rfl⟩
  by_cases g3 : x.toInt = 408113152
  · refine zy_lsw (t := 82) (by rfl) (by rw [g3]; rfl) ?_
    rw [show zcnI x.toInt = 3 by rw [g3]; rfl]
    refine zp0 (by rfl) rfl rfl ?_
    refine zp_retI (by rfl) ?_
    exact ⟨rfl, rfl⟩
  by_cases g4 : x.toInt = 217567232
  · refine zy_lsw (t := 84) (by rfl) (by rw [g4]; rfl) ?_
    rw [show zcnI x.toInt = 4 by rw [g4]; rfl]
    refine zp0 (by rfl) rfl rfl ?_
    refine zp_retI (by rfl) ?_
    exact ⟨rfl, rfl⟩
  by_cases g5 : x.toInt = 36165792
  · refine zy_lsw (t := 86) (by rfl) (by rw [g5]; rfl) ?_
    rw [show zcnI x.toInt = 5 by rw [g5]; rfl]
    refine zp0 (by rfl) rfl rfl ?_
    refine zp_retI (by rfl) ?_
    exact ⟨rfl, rfl⟩
  by_cases g6 : x.toInt = 418418688
  · refine zy_lsw (t := 88) (by rfl) (by rw [g6]; rfl) ?_
    rw [show zcnI x.toInt = 6 by rw [g6]; rfl]
    refine zq_bip (by rfl) (by decide) ?_
    refine zp_retI (by rfl) ?_
    exact ⟨rfl, rfl⟩
  by_cases g7 : x.toInt = 620403968
  · refine zy_lsw (t := 91) (by rfl) (by rw [g7]; rfl) ?_
    rw [show zcnI x.toInt = 7 by rw [g7]; rfl]
    refine zq_bip (by rfl) (by decide) ?_
    refine zp_retI (by rfl) ?_
    exact ⟨rfl, rfl⟩
  have hoff : Op.lookupswitch.offset [(36165792, 85), (217567232, 83), (278110208, 79), (408113152, 81), (418418688, 87), (620403968, 90), (777297172, 75), (781325312, 77)] 93 x.toInt = 93 := by
    rw [Op.lookupswitch.offset_cons, if_neg (fun q => g5 q.symm), Op.lookupswitch.offset_cons, if_neg (fun q => g4 q.symm), Op.lookupswitch.offset_cons, if_neg (fun q => g2 q.symm), Op.lookupswitch.offset_cons, if_neg (fun q => g3 q.symm), Op.lookupswitch.offset_cons, if_neg (fun q => g6 q.symm), Op.lookupswitch.offset_cons, if_neg (fun q => g7 q.symm), Op.lookupswitch.offset_cons, if_neg (fun q => g0 q.symm), Op.lookupswitch.offset_cons, if_neg (fun q => g1 q.symm)]
    rfl
  refine zy_lsw (t := 94) (by rfl) ((congrArg (zJ 1) hoff).trans rfl) ?_
  have hz : zcnI x.toInt = -1 := by
    unfold zcnI
    rw [if_neg g0, if_neg g1, if_neg g2, if_neg g3, if_neg g4, if_neg g5, if_neg g6, if_neg g7]
  rw [hz]
  refine zp0 (by rfl) rfl rfl ?_
  refine zp_retI (by rfl) ?_
  exact ⟨rfl, rfl⟩
theorem zc_between (he : zeI e hp (zDC x1 6 2 x4).length) : zPn Lx xs n 112 (0, lv_args 0 [.ref (e 18)], [], zHS e (zDC x1 6 2 x4) C hp, 0, 0) (fun rv hp1 => rv = some (.int (Int32.ofInt (zcbS (C 1 8).toInt (C 1 10).toInt))) ∧ hp1 = zHS e (zDC x1 6 2 x4) C hp) := by
  have k1 : (Int32.ofInt 48365568).toInt = 48365568 := by decide
  have k2 : (Int32.ofInt 522190848).toInt = 522190848 := by decide
  refine zp0 (by rfl) rfl rfl ?_
  refine zy_ref (r := 1) he (by rfl) (by rfl) (by rfl) (by rfl) ?_
  refine zy_get (b := 8) he (by rfl) (by rfl) (by rfl) (by rfl) ?_
  refine zp0 (by rfl) rfl rfl ?_
  refine zy_icmpC (by rfl) (by rfl) ⟨by decide, by decide⟩ (fun h1 => ?_) (fun h1 => ?_)
  · refine zp0 (by rfl) rfl rfl ?_
    refine zy_ref (r := 1) he (by rfl) (by rfl) (by rfl) (by rfl) ?_
    refine zy_get (b := 8) he (by rfl) (by rfl) (by rfl) (by rfl) ?_
    refine zp0 (by rfl) rfl rfl ?_
    refine zy_icmpC (by rfl) (by rfl) ⟨by decide, by decide⟩ (fun h2 => ?_) (fun h2 => ?_)
    · refine zp0 (by rfl) rfl rfl ?_
      refine zy_ref (r := 1) he (by rfl) (by rfl) (by rfl) (by rfl) ?_
      refine zy_get (b := 10) he (by rfl) (by rfl) (by rfl) (by rfl) ?_
      simp only [zcf, ne_eq, Classical.not_not] at h1 h2
      by_cases g0 : (C 1 10).toInt = 42
      · refine zy_lsw (t := 180) (by rfl) (by rw [g0]; rfl) ?_
        have hz : zcbS (C 1 8).toInt (C 1 10).toInt = -12 := by
          unfold zcbS
          rw [if_neg (by omega), if_neg (by omega), if_pos g0]
        rw [hz]
        refine zq_bip (by rfl) (by decide) ?_
        refine zp_retI (by rfl) ?_
        exact ⟨rfl, rfl⟩
      by_cases g1 : (C 1 10).toInt = 43
      · refine zy_lsw (t := 174) (by rfl) (by rw [g1]; rfl) ?_
        have hz : zcbS (C 1 8).toInt (C 1 10).toInt = -10 := by
          unfold zcbS
          rw [if_neg (by omega), if_neg (by omega), if_neg g0, if_pos g1]
        rw [hz]
        refine zq_bip (by rfl) (by decide) ?_
        refine zp_retI (by rfl) ?_
        exact ⟨rfl, rfl⟩
      by_cases g2 : (C 1 10).toInt = 45
      · refine zy_lsw (t := 177) (by rfl) (by rw [g2]; rfl) ?_
        have hz : zcbS (C 1 8).toInt (C 1 10).toInt = -11 := by
          unfold zcbS
          rw [if_neg (by omega), if_neg (by omega), if_neg g0, if_neg g1, if_pos g2]
        rw [hz]
        refine zq_bip (by rfl) (by decide) ?_
        refine zp_retI (by rfl) ?_
        exact ⟨rfl, rfl⟩
      by_cases g3 : (C 1 10).toInt = 47
      · refine zy_lsw (t := 183) (by rfl) (by rw [g3]; rfl) ?_
        have hz : zcbS (C 1 8).toInt (C 1 10).toInt = -13 := by
          unfold zcbS
          rw [if_neg (by omega), if_neg (by omega), if_neg g0, if_neg g1, if_neg g2, if_pos g3]
        rw [hz]
        refine zq_bip (by rfl) (by decide) ?_
        refine zp_retI (by rfl) ?_
        exact ⟨rfl, rfl⟩
      by_cases g4 : (C 1 10).toInt = 60
      · refine zy_lsw (t := 156) (by rfl) (by rw [g4]; rfl) ?_
        have hz : zcbS (C 1 8).toInt (C 1 10).toInt = -4 := by
          unfold zcbS
          rw [if_neg (by omega), if_neg (by omega), if_neg g0, if_neg g1, if_neg g2, if_neg g3, if_pos g4]
        rw [hz]
        refine zq_bip (by rfl) (by decide) ?_
        refine zp_retI (by rfl) ?_
        exact ⟨rfl, rfl⟩
      by_cases g5 : (C 1 10).toInt = 61
      · refine zy_lsw (t := 162) (by rfl) (by rw [g5]; rfl) ?_
        have hz : zcbS (C 1 8).toInt (C 1 10).toInt = -6 := by
          unfold zcbS
          rw [if_neg (by omega), if_neg (by omega), if_neg g0, if_neg g1, if_neg g2, if_neg g3, if_neg g4, if_pos g5]
        rw [hz]
        refine zq_bip (by rfl) (by decide) ?_
        refine zp_retI (by rfl) ?_
        exact ⟨rfl, rfl⟩
      by_cases g6 : (C 1 10).toInt = 62
      · refine zy_lsw (t := 171) (by rfl) (by rw [g6]; rfl) ?_
        have hz : zcbS (C 1 8).toInt (C 1 10).toInt = -9 := by
          unfold zcbS
          rw [if_neg (by omega), if_neg (by omega), if_neg g0, if_neg g1, if_neg g2, if_neg g3, if_neg g4, if_neg g5, if_pos g6]
        rw [hz]
        refine zq_bip (by rfl) (by decide) ?_
        refine zp_retI (by rfl) ?_
        exact ⟨rfl, rfl⟩
      by_cases g7 : (C 1 10).toInt = 15421
      · refine zy_lsw (t := 159) (by rfl) (by rw [g7]; rfl) ?_
        have hz : zcbS (C 1 8).toInt (C 1 10).toInt = -5 := by
          unfold zcbS
          rw [if_neg (by omega), if_neg (by omega), if_neg g0, if_neg g1, if_neg g2, if_neg g3, if_neg g4, if_neg g5, if_neg g6, if_pos g7]
        rw [hz]
        refine zq_bip (by rfl) (by decide) ?_
        refine zp_retI (by rfl) ?_
        exact ⟨rfl, rfl⟩
      by_cases g8 : (C 1 10).toInt = 15422
      · refine zy_lsw (t := 165) (by rfl) (by rw [g8]; rfl) ?_
        have hz : zcbS (C 1 8).toInt (C 1 10).toInt = -7 := by
          unfold zcbS
          rw [if_neg (by omega), if_neg (by omega), if_neg g0, if_neg g1, if_neg g2, if_neg g3, if_neg g4, if_neg g5, if_neg g6, if_neg g7, if_pos g8]
        rw [hz]
        refine zq_bip (by rfl) (by decide) ?_
        refine zp_retI (by rfl) ?_
        exact ⟨rfl, rfl⟩
      by_cases g9 : (C 1 10).toInt = 15933
      · refine zy_lsw (t := 168) (by rfl) (by rw [g9]; rfl) ?_
        have hz : zcbS (C 1 8).toInt (C 1 10).toInt = -8 := by
          unfold zcbS
          rw [if_neg (by omega), if_neg (by omega), if_neg g0, if_neg g1, if_neg g2, if_neg g3, if_neg g4, if_neg g5, if_neg g6, if_neg g7, if_neg g8, if_pos g9]
        rw [hz]
        refine zq_bip (by rfl) (by decide) ?_
        refine zp_retI (by rfl) ?_
        exact ⟨rfl, rfl⟩
      have hoff : Op.lookupswitch.offset [(42, 116), (43, 110), (45, 113), (47, 119), (60, 92), (61, 98), (62, 107), (15421, 95), (15422, 101), (15933, 104)] 122 (C 1 10).toInt = 122 := by
        rw [Op.lookupswitch.offset_cons, if_neg (fun q => g0 q.symm), Op.lookupswitch.offset_cons, if_neg (fun q => g1 q.symm), Op.lookupswitch.offset_cons, if_neg (fun q => g2 q.symm), Op.lookupswitch.offset_cons, if_neg (fun q => g3 q.symm), Op.lookupswitch.offset_cons, if_neg (fun q => g4 q.symm), Op.lookupswitch.offset_cons, if_neg (fun q => g5 q.symm), Op.lookupswitch.offset_cons, if_neg (fun q => g6 q.symm), Op.lookupswitch.offset_cons, if_neg (fun q => g7 q.symm), Op.lookupswitch.offset_cons, if_neg (fun q => g8 q.symm), Op.lookupswitch.offset_cons, if_neg (fun q => g9 q.symm)]
        rfl
      refine zy_lsw (t := 186) (by rfl) ((congrArg (zJ 64) hoff).trans rfl) ?_
      have hz : zcbS (C 1 8).toInt (C 1 10).toInt = 0 := by
        unfold zcbS
        rw [if_neg (by omega), if_neg (by omega), if_neg g0, if_neg g1, if_neg g2, if_neg g3, if_neg g4, if_neg g5, if_neg g6, if_neg g7, if_neg g8, if_neg g9]
      rw [hz]
      refine zp0 (by rfl) rfl rfl ?_
      refine zp_retI (by rfl) ?_
      exact ⟨rfl, rfl⟩
    · refine zp0 (by rfl) rfl rfl ?_
      refine zp_retI (by rfl) ?_
      simp only [zcf, k1, k2, ne_eq, Classical.not_not] at h1 h2
      have hz : zcbS (C 1 8).toInt (C 1 10).toInt = 0 := by
        unfold zcbS
        rw [if_neg (by omega), if_pos (by omega)]
      rw [hz]
      exact ⟨rfl, rfl⟩
  · refine zp0 (by rfl) rfl rfl ?_
    refine zy_ref (r := 1) he (by rfl) (by rfl) (by rfl) (by rfl) ?_
    refine zy_get (b := 10) he (by rfl) (by rfl) (by rfl) (by rfl) ?_
    refine zp0 (by rfl) rfl rfl ?_
    refine zy_icmp (by rfl) (by rfl) (fun h3 => ?_) (fun h3 => ?_)
    · refine zp0 (by rfl) rfl rfl ?_
      refine zy_ref (r := 1) he (by rfl) (by rfl) (by rfl) (by rfl) ?_
      refine zy_get (b := 10) he (by rfl) (by rfl) (by rfl) (by rfl) ?_
      refine zp0 (by rfl) rfl rfl ?_
      refine zy_icmp (by rfl) (by rfl) (fun h4 => ?_) (fun h4 => ?_)
      · refine zp0 (by rfl) rfl rfl ?_
        refine zp_retI (by rfl) ?_
        simp only [zcf, k1, k2, ne_eq, Classical.not_not] at h1 h3 h4
        have hz : zcbS (C 1 8).toInt (C 1 10).toInt = 0 := by
          unfold zcbS
          rw [if_pos (by omega), if_neg (by omega), if_neg (by omega)]
        rw [hz]
        exact ⟨rfl, rfl⟩
      · iterate 2 refine zp0 (by rfl) rfl rfl ?_
        refine zp_retI (by rfl) ?_
        simp only [zcf, k1, k2, ne_eq, Classical.not_not] at h1 h3 h4
        have hz : zcbS (C 1 8).toInt (C 1 10).toInt = -1 := by
          unfold zcbS
          rw [if_pos (by omega), if_neg (by omega), if_pos (by omega)]
        rw [hz]
        exact ⟨rfl, rfl⟩
    · refine zq_bip (by rfl) (by decide) ?_
      refine zp_retI (by rfl) ?_
      simp only [zcf, k1, k2, ne_eq, Classical.not_not] at h1 h3
      have hz : zcbS (C 1 8).toInt (C 1 10).toInt = -2 := by
        unfold zcbS
        rw [if_pos (by omega), if_pos (by omega)]
      rw [hz]
      exact ⟨rfl, rfl⟩
end ZCL6
