/-! printed by wip/p3/emitlaw3.py -/
set_option maxRecDepth 100000 in
theorem zlt_c10 : zlcW zlW [(23, zlP23, (30789, [(2, (-10))]))] [zu_133, zu_220] 2 (545, zlPC, (30788, [(2, (-10))])) 100000 = true := by decide +kernel
theorem zlh_c10 {lk : ZLP} {Lx : Nat} {xs : Nat → Int32} : ∀ C ∈ ([zu_133, zu_220] : List CT), zHolds lk Lx xs C := List.forall_mem_cons.mpr ⟨zuh_133, List.forall_mem_cons.mpr ⟨zuh_220, List.forall_mem_nil _⟩⟩
set_option maxRecDepth 100000 in
theorem zlt_c11 : zlcW zlW [(23, zlP23, (30789, [(2, (-10))]))] [zu_134, zu_221] 2 (582, zlPC, (30788, [(2, (-10))])) 100000 = true := by decide +kernel
theorem zlh_c11 {lk : ZLP} {Lx : Nat} {xs : Nat → Int32} : ∀ C ∈ ([zu_134, zu_221] : List CT), zHolds lk Lx xs C := List.forall_mem_cons.mpr ⟨zuh_134, List.forall_mem_cons.mpr ⟨zuh_221, List.forall_mem_nil _⟩⟩
set_option maxRecDepth 100000 in
theorem zlt_c12 : zlcW zlW [(23, zlP23, (30789, [(2, (-10))]))] [zu_135, zu_228] 2 (595, zlPC, (30788, [(2, (-10))])) 100000 = true := by decide +kernel
theorem zlh_c12 {lk : ZLP} {Lx : Nat} {xs : Nat → Int32} : ∀ C ∈ ([zu_135, zu_228] : List CT), zHolds lk Lx xs C := List.forall_mem_cons.mpr ⟨zuh_135, List.forall_mem_cons.mpr ⟨zuh_228, List.forall_mem_nil _⟩⟩
