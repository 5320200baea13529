/-! what 'new' makes is as the classes say -/
def znewB (k : Nat) : Bool := (zrw k).1.all (fun e => match e.2.1 with
  | .new _ => (match zcl[e.2.2.1]? with | some q => Nat.beq q.2.2 e.2.2.2.1 | none => false)
  | _ => true)
set_option maxRecDepth 20000 in
theorem znewB_all : (List.range 277).all znewB = true := by decide +kernel
theorem znewOK_ok : znewOK := fun k hk e he x hx => by
  have h := List.all_eq_true.mp (List.all_eq_true.mp znewB_all k (List.mem_range.mpr hk)) e he
  rw [hx] at h
  simp only at h
  split at h
  · rename_i q hq
    exact ⟨q, hq, Nat.eq_of_beq_eq_true h⟩
  · cases h
