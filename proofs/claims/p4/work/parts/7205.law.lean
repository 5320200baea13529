/-! printed by wip/p3/emitlaw3.py -/
set_option maxRecDepth 100000 in
theorem zlt_c17 : zlcW zlW [(23, zlP23, (30789, [(2, (-10))]))] [zu_140, zu_238k] 2 (840, zlPC, (30788, [(2, (-10))])) 100000 = true := by decide +kernel
theorem zlh_c17 {lk : ZLP} {Lx : Nat} {xs : Nat → Int32} : ∀ C ∈ ([zu_140, zu_238k] : List CT), zHolds lk Lx xs C := List.forall_mem_cons.mpr ⟨zuh_140, List.forall_mem_cons.mpr ⟨zuh_238k, List.forall_mem_nil _⟩⟩
set_option maxRecDepth 100000 in
theorem zlt_c18 : zlcW zlW [(23, zlP23, (30789, [(2, (-10))]))] [zu_142, zu_239k] 2 (865, zlPC, (30788, [(2, (-10))])) 100000 = true := by decide +kernel
theorem zlh_c18 {lk : ZLP} {Lx : Nat} {xs : Nat → Int32} : ∀ C ∈ ([zu_142, zu_239k] : List CT), zHolds lk Lx xs C := List.forall_mem_cons.mpr ⟨zuh_142, List.forall_mem_cons.mpr ⟨zuh_239k, List.forall_mem_nil _⟩⟩
set_option maxRecDepth 100000 in
theorem zlt_c19 : zlcW zlW [(23, zlP23, (30789, [(2, (-10))]))] [zu_143, zu_240] 2 (902, zlPC, (30788, [(2, (-10))])) 100000 = true := by decide +kernel
theorem zlh_c19 {lk : ZLP} {Lx : Nat} {xs : Nat → Int32} : ∀ C ∈ ([zu_143, zu_240] : List CT), zHolds lk Lx xs C := List.forall_mem_cons.mpr ⟨zuh_143, List.forall_mem_cons.mpr ⟨zuh_240, List.forall_mem_nil _⟩⟩
