/-! printed by wip/p2/emitlaw.py: the law's own runs -/
set_option maxRecDepth 100000 in
theorem zlt_c0 : zlc [(23, zlP23, (30789, [(1, (-10))]))] [zu_119, zu_159] 1 (184, zlPC, (30788, [(1, (-10))])) 100000 = true := by decide +kernel
theorem zlh_c0 {lk : ZLP} {Lx : Nat} {xs : Nat → Int32} : ∀ C ∈ ([zu_119, zu_159] : List CT), zHolds lk Lx xs C := List.forall_mem_cons.mpr ⟨zuh_119, List.forall_mem_cons.mpr ⟨zuh_159, List.forall_mem_nil _⟩⟩
set_option maxRecDepth 100000 in
theorem zlt_c2 : zlc [(23, zlP23, (30789, [(1, (-10))]))] [zu_122, zu_183] 1 (282, zlPC, (30788, [(1, (-10))])) 100000 = true := by decide +kernel
theorem zlh_c2 {lk : ZLP} {Lx : Nat} {xs : Nat → Int32} : ∀ C ∈ ([zu_122, zu_183] : List CT), zHolds lk Lx xs C := List.forall_mem_cons.mpr ⟨zuh_122, List.forall_mem_cons.mpr ⟨zuh_183, List.forall_mem_nil _⟩⟩
