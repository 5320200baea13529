/-! printed by wip/p2/emitlaw.py: the law's own runs -/
set_option maxRecDepth 100000 in
theorem zlt_uC : zlc [(23, zlP23, (30789, [(1, (-10))]))] [zu_182] 1 (275, zlPUC, (30784, [(1, (-10))])) 100000 = true := by decide +kernel
theorem zlh_uC {lk : ZLP} {Lx : Nat} {xs : Nat → Int32} : ∀ C ∈ ([zu_182] : List CT), zHolds lk Lx xs C := List.forall_mem_cons.mpr ⟨zuh_182, List.forall_mem_nil _⟩
set_option maxRecDepth 100000 in
theorem zlt_k : zlc [(23, zlP23, (30789, [(1, (-10))]))] [zu_212] 1 (349, zlP349, (30784, [(1, (-10))])) 100000 = true := by decide +kernel
theorem zlh_k {lk : ZLP} {Lx : Nat} {xs : Nat → Int32} : ∀ C ∈ ([zu_212] : List CT), zHolds lk Lx xs C := List.forall_mem_cons.mpr ⟨zuh_212, List.forall_mem_nil _⟩
