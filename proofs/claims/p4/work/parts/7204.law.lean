/-! printed by wip/p3/emitlaw3.py -/
set_option maxRecDepth 100000 in
theorem zlt_c16 : zlcW zlW [(806, zlPC, (30785, [(2, (-10))]))] [zu_139] 3 (775, zlPC, (30788, [(2, (-10))])) 100000 = true := by decide +kernel
theorem zlh_c16 {lk : ZLP} {Lx : Nat} {xs : Nat → Int32} : ∀ C ∈ ([zu_139] : List CT), zHolds lk Lx xs C := List.forall_mem_cons.mpr ⟨zuh_139, List.forall_mem_nil _⟩
set_option maxRecDepth 100000 in
theorem zlt_d16 : zlcW zlW [(23, zlP23, (30789, [(2, (-10))]))] [zu_232] 2 (806, zlPC, (30785, [(2, (-10))])) 100000 = true := by decide +kernel
theorem zlh_d16 {lk : ZLP} {Lx : Nat} {xs : Nat → Int32} : ∀ C ∈ ([zu_232] : List CT), zHolds lk Lx xs C := List.forall_mem_cons.mpr ⟨zuh_232, List.forall_mem_nil _⟩
