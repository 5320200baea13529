/-! printed by wip/p3/emitlaw3.py -/
set_option maxRecDepth 100000 in
theorem zlt_c23 : zlcW zlW [(23, zlP23, (30789, [(2, (-10))]))] [zu_147, zu_256] 2 (1026, zlPC, (30788, [(2, (-10))])) 100000 = true := by decide +kernel
theorem zlh_c23 {lk : ZLP} {Lx : Nat} {xs : Nat → Int32} : ∀ C ∈ ([zu_147, zu_256] : List CT), zHolds lk Lx xs C := List.forall_mem_cons.mpr ⟨zuh_147, List.forall_mem_cons.mpr ⟨zuh_256, List.forall_mem_nil _⟩⟩
set_option maxRecDepth 100000 in
theorem zlt_c24 : zlcW zlW [(23, zlP23, (30789, [(2, (-10))]))] [zu_148, zu_260] 2 (1051, zlPC, (30788, [(2, (-10))])) 100000 = true := by decide +kernel
theorem zlh_c24 {lk : ZLP} {Lx : Nat} {xs : Nat → Int32} : ∀ C ∈ ([zu_148, zu_260] : List CT), zHolds lk Lx xs C := List.forall_mem_cons.mpr ⟨zuh_148, List.forall_mem_cons.mpr ⟨zuh_260, List.forall_mem_nil _⟩⟩
set_option maxRecDepth 100000 in
theorem zlt_c25 : zlcW zlW [(23, zlP23, (30789, [(2, (-10))]))] [zu_150, zu_261] 2 (1076, zlPC, (30788, [(2, (-10))])) 100000 = true := by decide +kernel
theorem zlh_c25 {lk : ZLP} {Lx : Nat} {xs : Nat → Int32} : ∀ C ∈ ([zu_150, zu_261] : List CT), zHolds lk Lx xs C := List.forall_mem_cons.mpr ⟨zuh_150, List.forall_mem_cons.mpr ⟨zuh_261, List.forall_mem_nil _⟩⟩
