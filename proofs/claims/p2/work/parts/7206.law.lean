/-! printed by wip/p2/emitlaw.py: the law's own runs -/
set_option maxRecDepth 100000 in
theorem zlt_c17 : zlc [(23, zlP23, (30789, [(1, (-10))]))] [zu_140, zu_238] 1 (840, zlPC, (30788, [(1, (-10))])) 100000 = true := by decide +kernel
theorem zlh_c17 {lk : ZLP} {Lx : Nat} {xs : Nat → Int32} : ∀ C ∈ ([zu_140, zu_238] : List CT), zHolds lk Lx xs C := List.forall_mem_cons.mpr ⟨zuh_140, List.forall_mem_cons.mpr ⟨zuh_238, List.forall_mem_nil _⟩⟩
set_option maxRecDepth 100000 in
theorem zlt_c18 : zlc [(23, zlP23, (30789, [(1, (-10))]))] [zu_142, zu_239] 1 (865, zlPC, (30788, [(1, (-10))])) 100000 = true := by decide +kernel
theorem zlh_c18 {lk : ZLP} {Lx : Nat} {xs : Nat → Int32} : ∀ C ∈ ([zu_142, zu_239] : List CT), zHolds lk Lx xs C := List.forall_mem_cons.mpr ⟨zuh_142, List.forall_mem_cons.mpr ⟨zuh_239, List.forall_mem_nil _⟩⟩
set_option maxRecDepth 100000 in
theorem zlt_c19 : zlc [(23, zlP23, (30789, [(1, (-10))]))] [zu_143, zu_240] 1 (902, zlPC, (30788, [(1, (-10))])) 100000 = true := by decide +kernel
theorem zlh_c19 {lk : ZLP} {Lx : Nat} {xs : Nat → Int32} : ∀ C ∈ ([zu_143, zu_240] : List CT), zHolds lk Lx xs C := List.forall_mem_cons.mpr ⟨zuh_143, List.forall_mem_cons.mpr ⟨zuh_240, List.forall_mem_nil _⟩⟩
