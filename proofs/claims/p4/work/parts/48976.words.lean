/-! the words one by one -/
def zspell (W : Nat → Int32) : Nat → List (List Int) → Prop
  | f, [] => f = 91
  | f, ws :: l => f + ws.length < 91 ∧ (∀ i, i < ws.length → (W (f + i)).toInt = ws.getD i 0 ∧ ws.getD i 0 ≠ 32) ∧ (W (f + ws.length)).toInt = 32 ∧ zspell W (f + ws.length + 1) l
def zwdI (T : Nat → Int32) (a n : Nat) : List (List Int) → Int → Int
  | [], _ => -1
  | ws :: l, k => if ws.length = n ∧ ∀ i, i < ws.length → ws.getD i 0 = (T (a + i)).toInt then k else zwdI T a n l (k + 1)
section ZTK7
variable {Lx : Nat} {xs : Nat → Int32} {hp : List zhE} {e : Nat → Nat} {S : Nat → Nat → Int32} {a b : Nat}
theorem zt_wB (he : zeI e hp zDM.length) (n : Nat) (hab : a ≤ b) (hb : b < 700) {c s : Nat} : ∀ (l : List (List Int)) (f : Nat) (k : Int) (u5 u6 u7 : Value), zspell (S 2) f l → zPn Lx xs n 164 (5, [(3, .int (Int32.ofInt k)), (4, .int (Int32.ofInt (f : Int))), (7, u7), (6, u6), (5, u5), (0, .ref (e 0)), (1, .int (Int32.ofInt (a : Int))), (2, .int (Int32.ofInt (b : Int)))], [], zHS e zDM S hp, c, s) (fun rv hp1 => rv = some (.int (Int32.ofInt (zwdI (S 1) a (b - a) l k))) ∧ hp1 = zHS e zDM S hp) := by
  intro l
  induction l with
  | nil =>
    intro f k u5 u6 u7 hs
    have hs : f = 91 := hs
    have ef : (Int32.ofInt (f : Int)).toInt = f := zof_ix (by omega)
    have e91 : (Int32.ofInt ((91 : Nat) : Int)).toInt = (91 : Nat) := zof_ix (by decide)
    iterate 2 refine zp0 (by rfl) rfl rfl ?_
    refine zy_ref (r := 2) he (by rfl) (by rfl) (by rfl) (by rfl) ?_
    refine zy_len he (by rfl) (by rfl) ?_
    refine zy_icmp (by rfl) (by rfl) (fun h1 => ?_) (fun h1 => ?_)
    · refine zp0 (by rfl) rfl rfl ?_
      refine zp_retI (by rfl) ?_
      exact ⟨rfl, rfl⟩
    · exfalso
      simp only [zcf, ef, e91] at h1
      omega
  | cons ws l ih =>
    intro f k u5 u6 u7 hs
    obtain ⟨q1, q2, q3, q4⟩ := hs
    have ef : (Int32.ofInt (f : Int)).toInt = f := zof_ix (by omega)
    have e91 : (Int32.ofInt ((91 : Nat) : Int)).toInt = (91 : Nat) := zof_ix (by decide)
    have eN : (Int32.ofInt (ws.length : Int)).toInt = ws.length := zof_ix (by omega)
    have eba : (Int32.ofInt (b : Int) - Int32.ofInt (a : Int)).toInt = (b : Int) - a := by
      rw [← Int32.ofInt_sub]
      exact zRt ⟨by omega, by omega⟩
    have hfin : ∀ (t t2 : Bool) (j2 : Nat), (t = true ↔ ws.length = b - a) → (t2 = true ↔ t = true ∧ ∀ i, 0 ≤ i → i < ws.length → (S 2 (f + i)).toInt = (S 1 (a + i)).toInt) → zPn Lx xs n 164 (104, [(7, .int (Int32.ofInt (j2 : Int))), (6, .int (cond t2 (Int32.ofInt 1) (Int32.ofInt 0))), (5, .int (Int32.ofInt (ws.length : Int))), (3, .int (Int32.ofInt k)), (4, .int (Int32.ofInt (f : Int))), (0, .ref (e 0)), (1, .int (Int32.ofInt (a : Int))), (2, .int (Int32.ofInt (b : Int)))], [], zHS e zDM S hp, c, s) (fun rv hp1 => rv = some (.int (Int32.ofInt (zwdI (S 1) a (b - a) (ws :: l) k))) ∧ hp1 = zHS e zDM S hp) := by
      intro t t2 j2 ht ht2
      have hcond : t2 = true ↔ (ws.length = b - a ∧ ∀ i, i < ws.length → ws.getD i 0 = (S 1 (a + i)).toInt) := by
        rw [ht2, ht]
        constructor
        · intro h
          exact ⟨h.1, fun i hi => by rw [← (q2 i hi).1]; exact h.2 i (Nat.zero_le i) hi⟩
        · intro h
          exact ⟨h.1, fun i _ hi => by rw [(q2 i hi).1]; exact h.2 i hi⟩
      cases t2 with
      | true =>
        have hz : zwdI (S 1) a (b - a) (ws :: l) k = k := if_pos (hcond.mp rfl)
        rw [hz]
        refine zp0 (by rfl) rfl rfl ?_
        refine zy_if (by rfl) (by rfl) (fun h1 => ?_) (fun h1 => ?_)
        · exact absurd (show (Int32.ofInt 1).toInt = 0 from h1) (by rw [z1i]; decide)
        · refine zp0 (by rfl) rfl rfl ?_
          refine zp_retI (by rfl) ?_
          exact ⟨rfl, rfl⟩
      | false =>
        have hz : zwdI (S 1) a (b - a) (ws :: l) k = zwdI (S 1) a (b - a) l (k + 1) := if_neg (fun h => by have := hcond.mpr h; cases this)
        rw [hz]
        have h9 := ih (f + ws.length + 1) (k + 1) (.int (Int32.ofInt (ws.length : Int))) (.int (cond false (Int32.ofInt 1) (Int32.ofInt 0))) (.int (Int32.ofInt (j2 : Int))) q4
        rw [show f + ws.length + 1 = f + (ws.length + 1) by omega, ← zof_add, ← zof_up, Int32.ofInt_add k 1] at h9
        refine zp0 (by rfl) rfl rfl ?_
        refine zy_if (by rfl) (by rfl) (fun h1 => ?_) (fun h1 => ?_)
        · iterate 8 refine zp0 (by rfl) rfl rfl ?_
          exact h9
        · refine zp0 (by rfl) rfl rfl ?_
          refine zp_retI (by rfl) ?_
          exact absurd (show (Int32.ofInt 0).toInt = 0 from z0i) h1
    have h39 : zPn Lx xs n 164 (39, [(5, .int (Int32.ofInt (ws.length : Int))), (3, .int (Int32.ofInt k)), (4, .int (Int32.ofInt (f : Int))), (7, u7), (6, u6), (0, .ref (e 0)), (1, .int (Int32.ofInt (a : Int))), (2, .int (Int32.ofInt (b : Int)))], [], zHS e zDM S hp, c, s) (fun rv hp1 => rv = some (.int (Int32.ofInt (zwdI (S 1) a (b - a) (ws :: l) k))) ∧ hp1 = zHS e zDM S hp) := by
      iterate 4 refine zp0 (by rfl) rfl rfl ?_
      refine zy_icmp (by rfl) (by rfl) (fun h1 => ?_) (fun h1 => ?_)
      · iterate 4 refine zp0 (by rfl) rfl rfl ?_
        exact zt_w2B he n (f := f) (N := ws.length) (by omega) (by omega) ws.length 0 false (by omega) (fun j2 t2 h2 => hfin false t2 j2 ⟨fun q => (by cases q), fun q => (by simp only [zcf, eN, eba] at h1; omega)⟩ h2)
      · iterate 5 refine zp0 (by rfl) rfl rfl ?_
        exact zt_w2B he n (f := f) (N := ws.length) (by omega) (by omega) ws.length 0 true (by omega) (fun j2 t2 h2 => hfin true t2 j2 ⟨fun _ => (by simp only [zcf, eN, eba] at h1; omega), fun _ => rfl⟩ h2)
    iterate 2 refine zp0 (by rfl) rfl rfl ?_
    refine zy_ref (r := 2) he (by rfl) (by rfl) (by rfl) (by rfl) ?_
    refine zy_len he (by rfl) (by rfl) ?_
    refine zy_icmp (by rfl) (by rfl) (fun h1 => ?_) (fun h1 => ?_)
    · refine zp0 (by rfl) rfl rfl ?_
      refine zp_retI (by rfl) ?_
      exfalso
      simp only [zcf, ef, e91] at h1
      omega
    · iterate 2 refine zp0 (by rfl) rfl rfl ?_
      exact zt_w1B he n (f := f) (N := ws.length) (by omega) (fun i hi => by rw [(q2 i hi).1]; exact (q2 i hi).2) q3 (h39) ws.length 0 (by omega)
theorem zt_wordAt (he : zeI e hp zDM.length) (n : Nat) (hab : a ≤ b) (hb : b < 700) (ws : List Int) (l : List (List Int)) (hs : zspell (S 2) 0 (ws :: l)) : zPn Lx xs n 164 (0, lv_args 0 [.ref (e 0), .int (Int32.ofInt (a : Int)), .int (Int32.ofInt (b : Int))], [], zHS e zDM S hp, 0, 0) (fun rv hp1 => rv = some (.int (Int32.ofInt (zwdI (S 1) a (b - a) (ws :: l) 0))) ∧ hp1 = zHS e zDM S hp) := by
  iterate 4 refine zp0 (by rfl) rfl rfl ?_
  have key : ∀ (c s f : Nat) (k : Int), f = 0 → k = 0 → zPn Lx xs n 164 (5, [(4, .int (Int32.ofInt (f : Int))), (3, .int (Int32.ofInt k)), (0, .ref (e 0)), (1, .int (Int32.ofInt (a : Int))), (2, .int (Int32.ofInt (b : Int)))], [], zHS e zDM S hp, c, s) (fun rv hp1 => rv = some (.int (Int32.ofInt (zwdI (S 1) a (b - a) (ws :: l) k))) ∧ hp1 = zHS e zDM S hp) := by
    intro c s f k hf hk
    rw [← hf] at hs
    obtain ⟨q1, q2, q3, q4⟩ := hs
    have ef : (Int32.ofInt (f : Int)).toInt = f := zof_ix (by omega)
    have e91 : (Int32.ofInt ((91 : Nat) : Int)).toInt = (91 : Nat) := zof_ix (by decide)
    have eN : (Int32.ofInt (ws.length : Int)).toInt = ws.length := zof_ix (by omega)
    have eba : (Int32.ofInt (b : Int) - Int32.ofInt (a : Int)).toInt = (b : Int) - a := by
      rw [← Int32.ofInt_sub]
      exact zRt ⟨by omega, by omega⟩
    have hfin : ∀ (t t2 : Bool) (j2 : Nat), (t = true ↔ ws.length = b - a) → (t2 = true ↔ t = true ∧ ∀ i, 0 ≤ i → i < ws.length → (S 2 (f + i)).toInt = (S 1 (a + i)).toInt) → zPn Lx xs n 164 (104, [(7, .int (Int32.ofInt (j2 : Int))), (6, .int (cond t2 (Int32.ofInt 1) (Int32.ofInt 0))), (5, .int (Int32.ofInt (ws.length : Int))), (4, .int (Int32.ofInt (f : Int))), (3, .int (Int32.ofInt k)), (0, .ref (e 0)), (1, .int (Int32.ofInt (a : Int))), (2, .int (Int32.ofInt (b : Int)))], [], zHS e zDM S hp, c, s) (fun rv hp1 => rv = some (.int (Int32.ofInt (zwdI (S 1) a (b - a) (ws :: l) k))) ∧ hp1 = zHS e zDM S hp) := by
      intro t t2 j2 ht ht2
      have hcond : t2 = true ↔ (ws.length = b - a ∧ ∀ i, i < ws.length → ws.getD i 0 = (S 1 (a + i)).toInt) := by
        rw [ht2, ht]
        constructor
        · intro h
          exact ⟨h.1, fun i hi => by rw [← (q2 i hi).1]; exact h.2 i (Nat.zero_le i) hi⟩
        · intro h
          exact ⟨h.1, fun i _ hi => by rw [(q2 i hi).1]; exact h.2 i hi⟩
      cases t2 with
      | true =>
        have hz : zwdI (S 1) a (b - a) (ws :: l) k = k := if_pos (hcond.mp rfl)
        rw [hz]
        refine zp0 (by rfl) rfl rfl ?_
        refine zy_if (by rfl) (by rfl) (fun h1 => ?_) (fun h1 => ?_)
        · exact absurd (show (Int32.ofInt 1).toInt = 0 from h1) (by rw [z1i]; decide)
        · refine zp0 (by rfl) rfl rfl ?_
          refine zp_retI (by rfl) ?_
          exact ⟨rfl, rfl⟩
      | false =>
        have hz : zwdI (S 1) a (b - a) (ws :: l) k = zwdI (S 1) a (b - a) l (k + 1) := if_neg (fun h => by have := hcond.mpr h; cases this)
        rw [hz]
        have h9 := zt_wB (Lx := Lx) (xs := xs) (hp := hp) (c := c) (s := s) he n hab hb l (f + ws.length + 1) (k + 1) (.int (Int32.ofInt (ws.length : Int))) (.int (cond false (Int32.ofInt 1) (Int32.ofInt 0))) (.int (Int32.ofInt (j2 : Int))) q4
        rw [show f + ws.length + 1 = f + (ws.length + 1) by omega, ← zof_add, ← zof_up, Int32.ofInt_add k 1] at h9
        refine zp0 (by rfl) rfl rfl ?_
        refine zy_if (by rfl) (by rfl) (fun h1 => ?_) (fun h1 => ?_)
        · iterate 8 refine zp0 (by rfl) rfl rfl ?_
          exact h9
        · refine zp0 (by rfl) rfl rfl ?_
          refine zp_retI (by rfl) ?_
          exact absurd (show (Int32.ofInt 0).toInt = 0 from z0i) h1
    have h39 : zPn Lx xs n 164 (39, [(5, .int (Int32.ofInt (ws.length : Int))), (4, .int (Int32.ofInt (f : Int))), (3, .int (Int32.ofInt k)), (0, .ref (e 0)), (1, .int (Int32.ofInt (a : Int))), (2, .int (Int32.ofInt (b : Int)))], [], zHS e zDM S hp, c, s) (fun rv hp1 => rv = some (.int (Int32.ofInt (zwdI (S 1) a (b - a) (ws :: l) k))) ∧ hp1 = zHS e zDM S hp) := by
      iterate 4 refine zp0 (by rfl) rfl rfl ?_
      refine zy_icmp (by rfl) (by rfl) (fun h1 => ?_) (fun h1 => ?_)
      · iterate 4 refine zp0 (by rfl) rfl rfl ?_
        exact zt_w2A he n (f := f) (N := ws.length) (by omega) (by omega) ws.length 0 false (by omega) (fun j2 t2 h2 => hfin false t2 j2 ⟨fun q => (by cases q), fun q => (by simp only [zcf, eN, eba] at h1; omega)⟩ h2)
      · iterate 5 refine zp0 (by rfl) rfl rfl ?_
        exact zt_w2A he n (f := f) (N := ws.length) (by omega) (by omega) ws.length 0 true (by omega) (fun j2 t2 h2 => hfin true t2 j2 ⟨fun _ => (by simp only [zcf, eN, eba] at h1; omega), fun _ => rfl⟩ h2)
    iterate 2 refine zp0 (by rfl) rfl rfl ?_
    refine zy_ref (r := 2) he (by rfl) (by rfl) (by rfl) (by rfl) ?_
    refine zy_len he (by rfl) (by rfl) ?_
    refine zy_icmp (by rfl) (by rfl) (fun h1 => ?_) (fun h1 => ?_)
    · refine zp0 (by rfl) rfl rfl ?_
      refine zp_retI (by rfl) ?_
      exfalso
      simp only [zcf, ef, e91] at h1
      omega
    · iterate 2 refine zp0 (by rfl) rfl rfl ?_
      exact zt_w1A he n (f := f) (N := ws.length) (by omega) (fun i hi => by rw [(q2 i hi).1]; exact (q2 i hi).2) q3 (h39) ws.length 0 (by omega)
  exact key 0 0 0 0 rfl rfl
end ZTK7
