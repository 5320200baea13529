/-! printed by wip/p2/emitlaw.py: the law's own runs -/
set_option maxRecDepth 100000 in
theorem zlt_c10 : zlc [(23, zlP23, (30789, [(1, (-10))]))] [zu_133, zu_220] 1 (545, zlPC, (30788, [(1, (-10))])) 100000 = true := by decide +kernel
theorem zlh_c10 {lk : ZLP} {Lx : Nat} {xs : Nat → Int32} : ∀ C ∈ ([zu_133, zu_220] : List CT), zHolds lk Lx xs C := List.forall_mem_cons.mpr ⟨zuh_133, List.forall_mem_cons.mpr ⟨zuh_220, List.forall_mem_nil _⟩⟩
set_option maxRecDepth 100000 in
theorem zlt_c11 : zlc [(23, zlP23, (30789, [(1, (-10))]))] [zu_134, zu_221] 1 (582, zlPC, (30788, [(1, (-10))])) 100000 = true := by decide +kernel
theorem zlh_c11 {lk : ZLP} {Lx : Nat} {xs : Nat → Int32} : ∀ C ∈ ([zu_134, zu_221] : List CT), zHolds lk Lx xs C := List.forall_mem_cons.mpr ⟨zuh_134, List.forall_mem_cons.mpr ⟨zuh_221, List.forall_mem_nil _⟩⟩
set_option maxRecDepth 100000 in
theorem zlt_c12 : zlc [(23, zlP23, (30789, [(1, (-10))]))] [zu_135, zu_228] 1 (595, zlPC, (30788, [(1, (-10))])) 100000 = true := by decide +kernel
theorem zlh_c12 {lk : ZLP} {Lx : Nat} {xs : Nat → Int32} : ∀ C ∈ ([zu_135, zu_228] : List CT), zHolds lk Lx xs C := List.forall_mem_cons.mpr ⟨zuh_135, List.forall_mem_cons.mpr ⟨zuh_228, List.forall_mem_nil _⟩⟩
