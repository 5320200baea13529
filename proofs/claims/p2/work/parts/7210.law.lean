/-! printed by wip/p2/emitlaw.py: the law's own runs -/
set_option maxRecDepth 100000 in
theorem zlt_c29 : zlc [(23, zlP23, (30789, [(1, (-10))]))] [zu_155, zu_265] 1 (1176, zlPC, (30788, [(1, (-10))])) 100000 = true := by decide +kernel
theorem zlh_c29 {lk : ZLP} {Lx : Nat} {xs : Nat → Int32} : ∀ C ∈ ([zu_155, zu_265] : List CT), zHolds lk Lx xs C := List.forall_mem_cons.mpr ⟨zuh_155, List.forall_mem_cons.mpr ⟨zuh_265, List.forall_mem_nil _⟩⟩
set_option maxRecDepth 100000 in
theorem zlt_c30 : zlc [(23, zlP23, (30789, [(1, (-10))]))] [zu_156, zu_266] 1 (1189, zlPC, (30788, [(1, (-10))])) 100000 = true := by decide +kernel
theorem zlh_c30 {lk : ZLP} {Lx : Nat} {xs : Nat → Int32} : ∀ C ∈ ([zu_156, zu_266] : List CT), zHolds lk Lx xs C := List.forall_mem_cons.mpr ⟨zuh_156, List.forall_mem_cons.mpr ⟨zuh_266, List.forall_mem_nil _⟩⟩
set_option maxRecDepth 100000 in
theorem zlt_c31 : zlc [(23, zlP23, (30789, [(1, (-10))]))] [zu_157, zu_267] 1 (1202, zlPC, (30788, [(1, (-10))])) 100000 = true := by decide +kernel
theorem zlh_c31 {lk : ZLP} {Lx : Nat} {xs : Nat → Int32} : ∀ C ∈ ([zu_157, zu_267] : List CT), zHolds lk Lx xs C := List.forall_mem_cons.mpr ⟨zuh_157, List.forall_mem_cons.mpr ⟨zuh_267, List.forall_mem_nil _⟩⟩
set_option maxRecDepth 100000 in
theorem zlt_tn : zlc [(268, zlPVA, (30785, [(1, (-10))]))] [zu_121] 3 (264, zlPTn, (30787, [(1, (-10))])) 100000 = true := by decide +kernel
theorem zlh_tn {lk : ZLP} {Lx : Nat} {xs : Nat → Int32} : ∀ C ∈ ([zu_121] : List CT), zHolds lk Lx xs C := List.forall_mem_cons.mpr ⟨zuh_121, List.forall_mem_nil _⟩
