/-! the pure machine: values, local variables, a list of cells; one instruction, and what it shows of the machine -/
theorem zb_01 {x : Int32} (h1 : 0 ≤ x.toInt) (h2 : x.toInt ≤ 1) : x = 0 ∨ x = 1 := by
  rcases (show x.toInt = 0 ∨ x.toInt = 1 by omega) with e | e
  · exact Or.inl ((by rw [← Int32.ofInt_toInt x, e] : x = Int32.ofInt 0).trans (by decide))
  · exact Or.inr ((by rw [← Int32.ofInt_toInt x, e] : x = Int32.ofInt 1).trans (by decide))
section ZF
variable {me : zMe} {pc a b x : Nat} {v : Int}
theorem zf_dec {i : Instr} (h : zOK me (pc, i, a, b, v)) (hs : zsw i = false) : decode me.2.1 pc = .ok (i, zlen i) := zdk_ok h.1 hs
theorem zf_get (h : zOK me (pc, .getfield x, a, b, v)) : ∃ q, zcl[a]? = some q ∧ b < q.2.2 ∧ Cond.fieldLink me.1.cls x (q.2.1 b).1 (q.2.1 b).2.1 (q.2.1 b).2.2.1 ∈ ztab := by
  have h2 := h.2.1
  simp only [zsd] at h2
  split at h2
  · rename_i q hq
    refine ⟨q, hq, of_decide_eq_true h2, zOK_tab h ?_ rfl⟩
    simp only [zwds, hq, List.mem_singleton]
  · cases h2
theorem zf_put (h : zOK me (pc, .putfield x, a, b, v)) : ∃ q, zcl[a]? = some q ∧ b < q.2.2 ∧ ((q.2.1 b).2.2.2 = true → me.1.name = "<init>" ∧ (q.2.1 b).1 = me.1.cls) ∧ (v = match zFt a b with | .int => 0 | .boolean => 1 | .long => 2 | _ => 3) ∧ Cond.fieldLink me.1.cls x (q.2.1 b).1 (q.2.1 b).2.1 (q.2.1 b).2.2.1 ∈ ztab := by
  have h2 := h.2.1
  simp only [zsd] at h2
  split at h2
  · rename_i q hq
    simp only [Bool.and_eq_true, Bool.or_eq_true, decide_eq_true_eq, Bool.not_eq_true'] at h2
    obtain ⟨⟨h3, h4⟩, h5⟩ := h2
    refine ⟨q, hq, h3, fun hf => ?_, h5, zOK_tab h ?_ rfl⟩
    · rcases h4 with h4 | h4
      · rw [hf] at h4; cases h4
      · exact h4
    · simp only [zwds, hq, List.mem_singleton]
  · cases h2
theorem zf_new (h : zOK me (pc, .new x, a, b, v)) : ∃ q, zcl[a]? = some q ∧ q.2.2 = b ∧ Cond.classLink me.1.cls x q.1 ∈ ztab ∧ Cond.instantiable q.1 q.2.2 ∈ ztab ∧ Cond.initialized q.1 ∈ ztab := by
  have h2 := h.2.1
  simp only [zsd] at h2
  split at h2
  · rename_i q hq
    exact ⟨q, hq, of_decide_eq_true h2, zOK_tab h (by simp [zwds, hq]) rfl, zOK_tab h (by simp [zwds, hq]) rfl, zOK_tab h (by simp [zwds, hq]) rfl⟩
  · cases h2
theorem zf_newa {t : ArrayType} (h : zOK me (pc, .newarray t, a, b, v)) : zat[a]? = some (newarray.typeOf t) ∧ a < 4 ∧ Cond.arrayClass (newarray.typeOf t) ∈ ztab := by
  have h2 := h.2.1
  simp only [zsd, Bool.and_eq_true, decide_eq_true_eq] at h2
  exact ⟨h2.1, h2.2, zOK_tab h (by simp [zwds]) rfl⟩
end ZF
section ZKD
variable {i : Instr} {a b : Nat} {v : Int}
theorem zkind_1 (h : zkind i a b v = 1) : ∃ x, i = .invokevirtual x := by
  unfold zkind at h
  split at h
  · exact ⟨_, rfl⟩
  all_goals repeat' split at h
  all_goals cases h
theorem zkind_2 (h : zkind i a b v = 2) : ∃ x, i = .invokestatic x ∧ b ≠ 99 ∧ a ≠ 9999 := by
  unfold zkind at h
  split at h
  · cases h
  · split at h
    · cases h
    · rename_i h1
      split at h
      · cases h
      · rename_i h2
        exact ⟨_, rfl, fun e => by subst e; simp at h1, fun e => by subst e; simp at h2⟩
  all_goals repeat' split at h
  all_goals cases h
theorem zkind_3 (h : zkind i a b v = 3) : ∃ x, i = .invokespecial x ∧ v ≠ 0 := by
  unfold zkind at h
  split at h
  · cases h
  · repeat' split at h
    all_goals cases h
  · split at h
    · cases h
    · rename_i h1
      exact ⟨_, rfl, h1⟩
  all_goals cases h
theorem zkind_4 (h : zkind i a b v = 4) : i = .ireturn := by
  unfold zkind at h
  split at h
  all_goals try rfl
  all_goals repeat' split at h
  all_goals cases h
theorem zkind_5 (h : zkind i a b v = 5) : i = .lreturn := by
  unfold zkind at h
  split at h
  all_goals try rfl
  all_goals repeat' split at h
  all_goals cases h
theorem zkind_6 (h : zkind i a b v = 6) : i = .return_ := by
  unfold zkind at h
  split at h
  all_goals try rfl
  all_goals repeat' split at h
  all_goals cases h
theorem zkind_7 (h : ∀ n, n < 7 → zkind i a b v ≠ n) : ∃ x, i = .invokestatic x ∧ b ≠ 99 ∧ a = 9999 := by
  have h9 : zkind i a b v = zkind i a b v := rfl
  generalize hk : zkind i a b v = k at h
  unfold zkind at hk
  split at hk
  · exact absurd hk.symm (by intro e; exact h 1 (by decide) e)
  · split at hk
    · exact absurd hk.symm (by intro e; exact h 0 (by decide) e)
    · rename_i h1
      split at hk
      · rename_i h2
        exact ⟨_, rfl, fun e => by subst e; simp at h1, Nat.eq_of_beq_eq_true h2⟩
      · exact absurd hk.symm (by intro e; exact h 2 (by decide) e)
  · split at hk
    · exact absurd hk.symm (by intro e; exact h 0 (by decide) e)
    · exact absurd hk.symm (by intro e; exact h 3 (by decide) e)
  · exact absurd hk.symm (by intro e; exact h 4 (by decide) e)
  · exact absurd hk.symm (by intro e; exact h 5 (by decide) e)
  · exact absurd hk.symm (by intro e; exact h 6 (by decide) e)
  · exact absurd hk.symm (by intro e; exact h 0 (by decide) e)
end ZKD
section ZF2
variable {me : zMe} {pc a b x : Nat} {v : Int}
theorem zf_virt (h : zOK me (pc, .invokevirtual x, a, b, v)) : ∃ m' q, zM a = some m' ∧ zcal a b = true ∧ zcl[v.toNat]? = some q ∧ q.1 = m'.1.cls ∧ Cond.methodLink me.1.cls x m'.1 ∈ ztab ∧ Cond.instanceMethod m'.1 ∈ ztab ∧ Cond.selects m'.1.cls m'.1 m'.1 ∈ ztab ∧ Cond.initialized m'.1.cls ∈ ztab := by
  have h2 := h.2.1
  simp only [zsd, Bool.and_eq_true] at h2
  obtain ⟨h3, h4⟩ := h2
  split at h4
  · rename_i m' q hm hq
    exact ⟨m', q, hm, h3, hq, of_decide_eq_true h4, zOK_tab h (by simp [zwds, hm]) rfl, zOK_tab h (by simp [zwds, hm]) rfl, zOK_tab h (by simp [zwds, hm]) rfl, zOK_tab h (by simp [zwds, hm]) rfl⟩
  · cases h4
theorem zf_stat (h : zOK me (pc, .invokestatic x, a, b, v)) (hb : b ≠ 99) : ∃ m', zM a = some m' ∧ zcal a b = true ∧ Cond.methodLink me.1.cls x m'.1 ∈ ztab ∧ Cond.static m'.1 ∈ ztab ∧ Cond.initialized m'.1.cls ∈ ztab := by
  have h2 : zcal a b = true := by
    have h2 := h.2.1
    simp only [zsd] at h2
    first
      | exact h2
      | (split at h2
         · exact absurd rfl hb
         · exact h2)
  have hm : ∃ m', zM a = some m' := by
    unfold zcal at h2
    split at h2
    · rename_i m' hm; exact ⟨m', hm⟩
    · cases h2
  obtain ⟨m', hm⟩ := hm
  have hw : zwds me.1.cls (.invokestatic x) a b v = [Cond.methodLink me.1.cls x m'.1, Cond.static m'.1, Cond.initialized m'.1.cls] := by
    simp only [zwds]
    first
      | rw [hm]
      | (split
         · exact absurd rfl hb
         · rw [hm])
  exact ⟨m', hm, h2, zOK_tab h (by simp only; rw [hw]; simp) rfl, zOK_tab h (by simp only; rw [hw]; simp) rfl, zOK_tab h (by simp only; rw [hw]; simp) rfl⟩
theorem zf_spec (h : zOK me (pc, .invokespecial x, a, b, v)) (hv : v ≠ 0) : ∃ m', zM a = some m' ∧ zcal a b = true ∧ m'.1.name = "<init>" ∧ m'.2.2.2 = none ∧ (Cond.methodLink me.1.cls x m'.1 ∈ ztab ∨ Cond.methodLinkNest me.1.cls x m'.1 "TinTower" ∈ lw_tbl) ∧ Cond.instanceMethod m'.1 ∈ ztab ∧ Cond.initialized m'.1.cls ∈ ztab := by
  have h2 := h.2.1
  simp only [zsd, Bool.and_eq_true] at h2
  obtain ⟨h3, h4⟩ := h2
  split at h4
  · rename_i m' hm
    simp only [Bool.and_eq_true, decide_eq_true_eq] at h4
    have hw : zwds me.1.cls (.invokespecial x) a b v = [Cond.methodLink me.1.cls x m'.1, Cond.instanceMethod m'.1, Cond.initialized m'.1.cls] ∨ zwds me.1.cls (.invokespecial x) a b v = [Cond.methodLinkNest me.1.cls x m'.1 "TinTower", Cond.instanceMethod m'.1, Cond.initialized m'.1.cls] := by
      by_cases hv1 : v = 1
      · subst hv1
        exact Or.inl (by simp only [zwds, hm])
      · refine Or.inr ?_
        simp only [zwds]
        first
          | rw [hm]
          | (split
             · exact absurd rfl hv
             · exact absurd rfl hv1
             · rw [hm])
    rcases hw with hw | hw
    · exact ⟨m', hm, h3, h4.1, h4.2, Or.inl (zOK_tab h (by simp only; rw [hw]; simp) rfl), zOK_tab h (by simp only; rw [hw]; simp) rfl, zOK_tab h (by simp only; rw [hw]; simp) rfl⟩
    · exact ⟨m', hm, h3, h4.1, h4.2, Or.inr (h.2.2 _ (by simp only; rw [hw]; simp)), zOK_tab h (by simp only; rw [hw]; simp) rfl, zOK_tab h (by simp only; rw [hw]; simp) rfl⟩
  · cases h4
theorem zM_9999 : zM 9999 = none := by decide +kernel
end ZF2
abbrev zCF : Type := Nat × zL × List Value × List zhE × Nat × Nat
def zlk (L : zL) (i : Nat) : Option Value := match L with
  | [] => none
  | q :: L => (match Nat.beq q.1 i with | true => some q.2 | false => zlk L i)
theorem zlk_mem : ∀ {L : zL} {i : Nat} {v : Value}, zlk L i = some v → (i, v) ∈ L
  | [], _, _, h => by cases h
  | q :: L, i, v, h => by
    unfold zlk at h
    split at h
    · rename_i e
      have e := Nat.eq_of_beq_eq_true e
      cases h
      subst e
      exact List.mem_cons_self
    · exact List.mem_cons_of_mem _ (zlk_mem h)
theorem zmL_mem {B : zB} {L : zL} {i : Nat} {v : Value} (h : (i, v) ∈ L) : (i, zvm B v) ∈ zmL B L := List.mem_map.mpr ⟨(i, v), h, rfl⟩
def zJ (pc : Nat) (off : Int) : Option Nat := match (pc : Int) + off with
  | .ofNat t => some t
  | .negSucc _ => none
theorem zJ_ok {pc t : Nat} {off : Int} (h : zJ pc off = some t) : (pc : Int) + off = (t : Int) := by
  unfold zJ at h
  split at h
  · rename_i e
    cases h
    exact e
  · cases h
def zin (j : Int32) (n : Nat) : Bool := decide (0 ≤ j.toInt) && decide (j.toInt < n)
theorem zin_ok {j : Int32} {n : Nat} (h : zin j n = true) : vp_in j n := by
  unfold zin at h
  rw [Bool.and_eq_true, decide_eq_true_eq, decide_eq_true_eq] at h
  exact vp_in_iff.mpr h
def zcb (cd : ClassFile.Cond) (x y : Int32) : Bool := match cd with
  | .eq => decide (x = y)
  | .ne => !decide (x = y)
  | .lt => decide (x < y)
  | .ge => decide (y ≤ x)
  | .gt => decide (y < x)
  | .le => decide (x ≤ y)
def zsum (st : List Value) : Nat := (st.map fun v => v.category).sum
theorem zsum_vm (B : zB) (st : List Value) : ((st.map (zvm B)).map fun v => v.category).sum = zsum st := by
  unfold zsum
  rw [List.map_map]
  congr 2
  funext v
  exact zvm_cat B v
section ZPM
variable (pc : Nat) (L : zL) (st : List Value) (hp : List zhE) (c s : Nat)
def zI2 (f : Int32 → Int32 → Int32) : Option zCF := match st with
  | .int y :: .int x :: st => some (pc + 1, L, .int (f x y) :: st, hp, c, s)
  | _ => none
def zL2 (f : Int64 → Int64 → Int64) : Option zCF := match st with
  | .long y :: .long x :: st => some (pc + 1, L, .long (f x y) :: st, hp, c, s)
  | _ => none
def zLS (f : Int64 → Int32 → Int64) : Option zCF := match st with
  | .int y :: .long x :: st => some (pc + 1, L, .long (f x y) :: st, hp, c, s)
  | _ => none
def zDI (f : Int32 → Int32 → Int32) : Option zCF := match st with
  | .int y :: .int x :: st => (match decide (y = 0) with | true => none | false => some (pc + 1, L, .int (f x y) :: st, hp, c, s))
  | _ => none
def zldI (n i : Nat) : Option zCF := match zlk L i with
  | some (.int x) => some (pc + n, L, .int x :: st, hp, c, s)
  | _ => none
def zldL (n i : Nat) : Option zCF := match zlk L i with
  | some (.long x) => some (pc + n, L, .long x :: st, hp, c, s)
  | _ => none
def zldA (n i : Nat) : Option zCF := match zlk L i with
  | some (.ref x) => some (pc + n, L, .ref x :: st, hp, c, s)
  | some (.float x) => some (pc + n, L, .float x :: st, hp, c, s)
  | _ => none
def zstI (n i nL : Nat) : Option zCF := match st with
  | .int x :: st => (match Nat.ble (i + 1) nL with | true => some (pc + n, zput1 L i (.int x), st, hp, c, s) | false => none)
  | _ => none
def zstL (n i nL : Nat) : Option zCF := match st with
  | .long x :: st => (match Nat.ble (i + 2) nL with | true => some (pc + n, zput2 L i (.long x), st, hp, c, s) | false => none)
  | _ => none
def zstA (n i nL : Nat) : Option zCF := match st with
  | .ref x :: st => (match Nat.ble (i + 1) nL with | true => some (pc + n, zput1 L i (.ref x), st, hp, c, s) | false => none)
  | .float x :: st => (match Nat.ble (i + 1) nL with | true => some (pc + n, zput1 L i (.float x), st, hp, c, s) | false => none)
  | _ => none
def zjmp (off : Int) (st : List Value) : Option zCF := match zJ pc off with
  | some t => some (t, L, st, hp, c, s)
  | none => none
def zbr (off : Int) (b : Bool) (st : List Value) : Option zCF := match zJ pc off with
  | some t => some (cond b t (pc + 3), L, st, hp, c, s)
  | none => none
def zgf (a b : Nat) : Option zCF := match st with
  | .ref i :: st => (match hp[i]? with
    | some (.inr (ci, fs)) => (match Nat.beq ci a, fs[b]? with
      | true, some v => some (pc + 3, L, v :: st, hp, c, s)
      | _, _ => none)
    | _ => none)
  | _ => none
/-- whether a field of a kind takes a value -/
def zvk (fk : Int) (w : Value) : Bool := match fk, w with
  | 0, .int _ => true
  | 1, .int x => decide (x = 0) || decide (x = 1)
  | 2, .long _ => true
  | 3, .ref _ => true
  | 3, .null => true
  | _, _ => false
def zpf (a b : Nat) (v : Int) : Option zCF := match st with
  | w :: .ref i :: st => (match hp[i]? with
    | some (.inr (ci, fs)) => (match Nat.beq ci a && (Nat.ble (b + 1) fs.length && zvk v w) with
      | true => some (pc + 3, L, st, hp.set i (.inr (ci, fs.set b w)), c, s)
      | false => none)
    | _ => none)
  | _ => none
/-- an element of an array: of ints (t its type), of longs, of references -/
def zalI (t : Nat) : Option zCF := match st with
  | .int j :: .ref i :: st => (match hp[i]? with
    | some (.inl (t', n, .inl f)) => (match Nat.beq t' t && zin j n with
      | true => some (pc + 1, L, .int (f j.toNatClampNeg) :: st, hp, c, s)
      | false => none)
    | _ => none)
  | _ => none
def zalL : Option zCF := match st with
  | .int j :: .ref i :: st => (match hp[i]? with
    | some (.inl (t', n, .inr (.inl f))) => (match Nat.beq t' 1 && zin j n with
      | true => some (pc + 1, L, .long (f j.toNatClampNeg) :: st, hp, c, s)
      | false => none)
    | _ => none)
  | _ => none
def zalA : Option zCF := match st with
  | .int j :: .ref i :: st => (match hp[i]? with
    | some (.inl (t', n, .inr (.inr f))) => (match Nat.beq t' 4 && zin j n with
      | true => some (pc + 1, L, va_rf (f j.toNatClampNeg) :: st, hp, c, s)
      | false => none)
    | _ => none)
  | _ => none
def zsl (Lx : Nat) (xs : Nat → Int32) : Option zCF := match st with
  | .int j :: .float _ :: st => (match zin j Lx with
    | true => some (pc + 1, L, .int (xs j.toNatClampNeg) :: st, hp, c, s)
    | false => none)
  | _ => none
def zasI (t : Nat) (g : Int32 → Int32) : Option zCF := match st with
  | .int x :: .int j :: .ref i :: st => (match hp[i]? with
    | some (.inl (t', n, .inl f)) => (match Nat.beq t' t && zin j n with
      | true => some (pc + 1, L, st, hp.set i (.inl (t, n, .inl (va_up f j.toNatClampNeg (g x)))), c, s)
      | false => none)
    | _ => none)
  | _ => none
def zasZ : Option zCF := match st with
  | .int x :: .int j :: .ref i :: st => (match hp[i]? with
    | some (.inl (t', n, .inl f)) => (match Nat.beq t' 3 && (zin j n && (decide (x = 0) || decide (x = 1))) with
      | true => some (pc + 1, L, st, hp.set i (.inl (3, n, .inl (va_up f j.toNatClampNeg x))), c, s)
      | false => none)
    | _ => none)
  | _ => none
def zasL : Option zCF := match st with
  | .long x :: .int j :: .ref i :: st => (match hp[i]? with
    | some (.inl (t', n, .inr (.inl f))) => (match Nat.beq t' 1 && zin j n with
      | true => some (pc + 1, L, st, hp.set i (.inl (1, n, .inr (.inl (va_up f j.toNatClampNeg x)))), c, s)
      | false => none)
    | _ => none)
  | _ => none
def zasA : Option zCF := match st with
  | .ref x :: .int j :: .ref i :: st => (match hp[i]?, hp[x]? with
    | some (.inl (t', n, .inr (.inr f))), some (.inr (6, _)) => (match Nat.beq t' 4 && zin j n with
      | true => some (pc + 1, L, st, hp.set i (.inl (4, n, .inr (.inr (va_up f j.toNatClampNeg (some x))))), c, s)
      | false => none)
    | _, _ => none)
  | _ => none
/-- the type of the array under an index (d 0) or a value and an index (d 1) -/
def zbt (d : Nat) : Nat := match st.drop (d + 1) with
  | .ref i :: _ => (match hp[i]? with
    | some (.inl (t, _)) => t
    | _ => 9)
  | _ => 9
def zlen1 (Lx : Nat) : Option zCF := match st with
  | .float _ :: st => some (pc + 1, L, .int (Int32.ofNat Lx) :: st, hp, c, s)
  | .ref i :: st => (match hp[i]? with
    | some (.inl (t, n, _)) => (match Nat.ble (t + 1) 5 with
      | true => some (pc + 1, L, .int (Int32.ofNat n) :: st, hp, c, s)
      | false => none)
    | _ => none)
  | _ => none
def znw (R : Room) (a b : Nat) : Option zCF := match Nat.ble (c + 1) R.cells && Nat.ble (s + b) R.slots with
  | true => some (pc + 3, L, .ref hp.length :: st, hp ++ [.inr (a, zdf a b)], c + 1, s + b)
  | false => none
def znwa (R : Room) (n t : Nat) : Option zCF := match st with
  | .int x :: st => (match decide (0 ≤ x.toInt) && (Nat.ble x.toNatClampNeg 10000 && (Nat.ble (c + 1) R.cells && Nat.ble (s + x.toNatClampNeg) R.slots)) with
    | true => some (pc + n, L, .ref hp.length :: st, hp ++ [.inl (t, x.toNatClampNeg, zda t)], c + 1, s + x.toNatClampNeg)
    | false => none)
  | _ => none
def zobi (R : Room) : Option zCF := match st with
  | .ref _ :: st => (match Nat.ble 1 R.frames && Nat.ble (zsum st + 12) R.locals with
    | true => some (pc + 3, L, st, hp, c, s)
    | false => none)
  | _ => none
def zcpo (R : Room) : Option zCF := match st with
  | .int n :: .int dp :: .ref j :: .int sp :: .ref i :: st => (match hp[i]?, hp[j]? with
    | some (.inl (0, n0, .inl f)), some (.inl (0, n1, .inl g)) => (match decide (0 ≤ sp.toInt) && (decide (0 ≤ dp.toInt) && (decide (0 ≤ n.toInt) && (Nat.ble (sp.toNatClampNeg + n.toNatClampNeg) n0 && (Nat.ble (dp.toNatClampNeg + n.toNatClampNeg) n1 && (Nat.ble 1 R.frames && Nat.ble (zsum st + 40) R.locals))))) with
      | true => some (pc + 3, L, st, hp.set j (.inl (0, n1, .inl (va_cpy f g sp.toNatClampNeg dp.toNatClampNeg n.toNatClampNeg))), c, s)
      | false => none)
    | _, _ => none)
  | _ => none
/-- whether a switch's numbers go up -/
def zsor (ps : List (Int × Int)) : Bool := (ps.zip (ps.drop 1)).all (fun (a, next) => a.1 < next.1)
def ztsw (d lo hi : Int) (offs : Array Int) : Option zCF := match st with
  | .int x :: st => (match decide (x.toInt < lo) || decide (hi < x.toInt) with
    | true => zjmp pc L hp c s d st
    | false => (match offs[(x.toInt - lo).toNat]? with
      | some off => zjmp pc L hp c s off st
      | none => none))
  | _ => none
def zlsw (d : Int) (ps : Array (Int × Int)) : Option zCF := match st with
  | .int x :: st => (match zsor ps.toList with
    | true => zjmp pc L hp c s (Op.lookupswitch.offset ps.toList d x.toInt) st
    | false => none)
  | _ => none
/-- one instruction that calls nothing -/
def zone (Lx : Nat) (xs : Nat → Int32) (nL : Nat) (R : Room) (i : Instr) (a b : Nat) (v : Int) : Option zCF := match i with
  | .iconst n => some (pc + 1, L, .int (Int32.ofInt n) :: st, hp, c, s)
  | .bipush n => some (pc + 2, L, .int (Int8.ofInt n).toInt32 :: st, hp, c, s)
  | .sipush n => some (pc + 3, L, .int (Int16.ofInt n).toInt32 :: st, hp, c, s)
  | .lconst n => some (pc + 1, L, .long (Int64.ofNat n.val) :: st, hp, c, s)
  | .ldc _ => some (pc + 2, L, .int (Int32.ofInt v) :: st, hp, c, s)
  | .ldc_w _ => some (pc + 3, L, .int (Int32.ofInt v) :: st, hp, c, s)
  | .ldc2_w _ => some (pc + 3, L, .long (Int64.ofInt v) :: st, hp, c, s)
  | .iadd => zI2 pc L st hp c s (fun x y => x + y)
  | .isub => zI2 pc L st hp c s (fun x y => x - y)
  | .imul => zI2 pc L st hp c s (fun x y => x * y)
  | .iand => zI2 pc L st hp c s (fun x y => x &&& y)
  | .ior => zI2 pc L st hp c s (fun x y => x ||| y)
  | .ixor => zI2 pc L st hp c s (fun x y => x ^^^ y)
  | .ishl => zI2 pc L st hp c s (fun x y => x <<< (y &&& 31))
  | .ishr => zI2 pc L st hp c s (fun x y => x >>> (y &&& 31))
  | .iushr => zI2 pc L st hp c s (fun x y => (x.toUInt32 >>> (y.toUInt32 &&& Int32.toUInt32 31)).toInt32)
  | .idiv => zDI pc L st hp c s (fun x y => x / y)
  | .irem => zDI pc L st hp c s (fun x y => x - x / y * y)
  | .ineg => (match st with | .int x :: st => some (pc + 1, L, .int (-x) :: st, hp, c, s) | _ => none)
  | .i2b => (match st with | .int x :: st => some (pc + 1, L, .int x.toInt8.toInt32 :: st, hp, c, s) | _ => none)
  | .i2l => (match st with | .int x :: st => some (pc + 1, L, .long x.toInt64 :: st, hp, c, s) | _ => none)
  | .l2i => (match st with | .long x :: st => some (pc + 1, L, .int x.toInt32 :: st, hp, c, s) | _ => none)
  | .lneg => (match st with | .long x :: st => some (pc + 1, L, .long (-x) :: st, hp, c, s) | _ => none)
  | .ladd => zL2 pc L st hp c s (fun x y => x + y)
  | .lsub => zL2 pc L st hp c s (fun x y => x - y)
  | .lmul => zL2 pc L st hp c s (fun x y => x * y)
  | .land => zL2 pc L st hp c s (fun x y => x &&& y)
  | .lor => zL2 pc L st hp c s (fun x y => x ||| y)
  | .lxor => zL2 pc L st hp c s (fun x y => x ^^^ y)
  | .ldiv => (match st with
    | .long y :: .long x :: st => (match decide (y = 0) with | true => none | false => some (pc + 1, L, .long (x / y) :: st, hp, c, s))
    | _ => none)
  | .lshl => zLS pc L st hp c s (fun x y => x <<< (y.toInt64 &&& 63))
  | .lshr => zLS pc L st hp c s (fun x y => x >>> (y.toInt64 &&& 63))
  | .lcmp => (match st with | .long y :: .long x :: st => some (pc + 1, L, .int (lg_cmp x y) :: st, hp, c, s) | _ => none)
  | .dup => (match st with | v :: st => (match Nat.beq v.category 1 with | true => some (pc + 1, L, v :: v :: st, hp, c, s) | false => none) | _ => none)
  | .dup2 => (match st with | v :: w :: st => (match Nat.beq v.category 1 && Nat.beq w.category 1 with | true => some (pc + 1, L, v :: w :: v :: w :: st, hp, c, s) | false => none) | _ => none)
  | .pop => (match st with | v :: st => (match Nat.beq v.category 1 with | true => some (pc + 1, L, st, hp, c, s) | false => none) | _ => none)
  | .pop2 => (match st with | .long _ :: st => some (pc + 1, L, st, hp, c, s) | _ => none)
  | .iload n => zldI pc L st hp c s 2 n
  | .iload_n n => zldI pc L st hp c s 1 n.val
  | .lload n => zldL pc L st hp c s 2 n
  | .lload_n n => zldL pc L st hp c s 1 n.val
  | .aload n => zldA pc L st hp c s 2 n
  | .aload_n n => zldA pc L st hp c s 1 n.val
  | .istore n => zstI pc L st hp c s 2 n nL
  | .istore_n n => zstI pc L st hp c s 1 n.val nL
  | .lstore n => zstL pc L st hp c s 2 n nL
  | .lstore_n n => zstL pc L st hp c s 1 n.val nL
  | .astore n => zstA pc L st hp c s 2 n nL
  | .astore_n n => zstA pc L st hp c s 1 n.val nL
  | .iinc n d => (match zlk L n, Nat.ble (n + 1) nL with | some (.int x), true => some (pc + 3, zput1 L n (.int (x + Int32.ofInt d)), st, hp, c, s) | _, _ => none)
  | .goto off => zjmp pc L hp c s off st
  | .if_icmp cd off => (match st with | .int y :: .int x :: st => zbr pc L hp c s off (zcb cd x y) st | _ => none)
  | .ifCond cd off => (match st with | .int x :: st => zbr pc L hp c s off (zcb cd x 0) st | _ => none)
  | .ifnull off => (match st with | .null :: st => zjmp pc L hp c s off st | .ref _ :: st => some (pc + 3, L, st, hp, c, s) | _ => none)
  | .ifnonnull off => (match st with | .ref _ :: st => zjmp pc L hp c s off st | .null :: st => some (pc + 3, L, st, hp, c, s) | _ => none)
  | .tableswitch d lo hi offs => ztsw pc L st hp c s d lo hi offs
  | .lookupswitch d ps => zlsw pc L st hp c s d ps
  | .getfield _ => zgf pc L st hp c s a b
  | .putfield _ => zpf pc L st hp c s a b v
  | .iaload => (match zbt st hp 0 with | 0 => zalI pc L st hp c s 0 | _ => zsl pc L st hp c s Lx xs)
  | .laload => zalL pc L st hp c s
  | .baload => (match zbt st hp 0 with | 2 => zalI pc L st hp c s 2 | 3 => zalI pc L st hp c s 3 | _ => none)
  | .aaload => zalA pc L st hp c s
  | .iastore => zasI pc L st hp c s 0 (fun x => x)
  | .lastore => zasL pc L st hp c s
  | .bastore => (match zbt st hp 1 with | 2 => zasI pc L st hp c s 2 (fun x => x.toInt8.toInt32) | 3 => zasZ pc L st hp c s | _ => none)
  | .aastore => zasA pc L st hp c s
  | .arraylength => zlen1 pc L st hp c s Lx
  | .new _ => znw pc L st hp c s R a b
  | .newarray _ => znwa pc L st hp c s R 2 a
  | .anewarray _ => znwa pc L st hp c s R 3 4
  | .invokespecial _ => (match v with | 0 => zobi pc L st hp c s R | _ => none)
  | .invokestatic _ => (match Nat.beq b 99 with | true => zcpo pc L st hp c s R | false => none)
  | _ => none
end ZPM
