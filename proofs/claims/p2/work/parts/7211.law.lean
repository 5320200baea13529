/-! printed by wip/p2/emitlaw.py: the law's own runs -/
set_option maxRecDepth 100000 in
theorem zlt_tp : zlc [(268, zlPVB, (30785, [(1, (-10))])), (268, zlPVC, (30785, [(1, (-10))])), (268, zlPVD, (30785, [(1, (-10))]))] [zu_121] 3 (264, zlPTp, (30787, [(1, (-10))])) 100000 = true := by decide +kernel
theorem zlh_tp {lk : ZLP} {Lx : Nat} {xs : Nat → Int32} : ∀ C ∈ ([zu_121] : List CT), zHolds lk Lx xs C := List.forall_mem_cons.mpr ⟨zuh_121, List.forall_mem_nil _⟩
set_option maxRecDepth 100000 in
theorem zlt_uA : zlc [(23, zlP23, (30789, [(1, (-10))]))] [zu_182] 1 (275, zlPUA, (30784, [(1, (-10))])) 100000 = true := by decide +kernel
theorem zlh_uA {lk : ZLP} {Lx : Nat} {xs : Nat → Int32} : ∀ C ∈ ([zu_182] : List CT), zHolds lk Lx xs C := List.forall_mem_cons.mpr ⟨zuh_182, List.forall_mem_nil _⟩
set_option maxRecDepth 100000 in
theorem zlt_uB : zlc [(23, zlP23, (30789, [(1, (-10))]))] [zu_182] 1 (275, zlPUB, (30784, [(1, (-10))])) 100000 = true := by decide +kernel
theorem zlh_uB {lk : ZLP} {Lx : Nat} {xs : Nat → Int32} : ∀ C ∈ ([zu_182] : List CT), zHolds lk Lx xs C := List.forall_mem_cons.mpr ⟨zuh_182, List.forall_mem_nil _⟩
