/-! E from its start -/
def zsm0 (S : Nat → Nat → Int32) : Nat → Nat → Int32 := zuS (zuS (zuS (zuS (zuS (zuS S 0 35 (Int32.ofInt 0)) 0 36 (Int32.ofInt 0)) 0 37 (Int32.ofInt 0)) 0 38 (Int32.ofInt 0)) 0 39 (Int32.ofInt 1)) 0 40 (Int32.ofInt 1)
section ZTK16
variable {Lx : Nat} {xs : Nat → Int32} {hp : List zhE} {e : Nat → Nat} {m : Nat}
theorem zt_sumRead (he : zeI e hp zDM.length) (n : Nat) (S : Nat → Nat → Int32) (a : Nat) (hS : zPos m a S) (hs : zspell (S 2) 0 zWds) : zPn Lx xs n 194 (0, lv_args 0 [.ref (e 0)], [], zHS e zDM S hp, 0, 0) (fun rv hp1 => ∃ r S', rv = some (.int r) ∧ hp1 = zHS e zDM S' hp ∧ ∃ k, zSum m k (zsm0 S) S' r) := by
  iterate 2 refine zp0 (by rfl) rfl rfl ?_
  refine zy_put (b := 35) he (by rfl) (by rfl) (by rfl) ?_
  iterate 2 refine zp0 (by rfl) rfl rfl ?_
  refine zy_put (b := 36) he (by rfl) (by rfl) (by rfl) ?_
  iterate 2 refine zp0 (by rfl) rfl rfl ?_
  refine zy_put (b := 37) he (by rfl) (by rfl) (by rfl) ?_
  iterate 2 refine zp0 (by rfl) rfl rfl ?_
  refine zy_put (b := 38) he (by rfl) (by rfl) (by rfl) ?_
  iterate 2 refine zp0 (by rfl) rfl rfl ?_
  refine zy_put (b := 39) he (by rfl) (by rfl) (by rfl) ?_
  iterate 2 refine zp0 (by rfl) rfl rfl ?_
  refine zy_put (b := 40) he (by rfl) (by rfl) (by rfl) ?_
  exact zt_sum he n (zsm0 S) a _ _ ⟨hS.1, hS.2.1, hS.2.2⟩ hs
end ZTK16
