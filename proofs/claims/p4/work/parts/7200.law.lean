/-! printed by wip/p3/emitlaw3.py -/
set_option maxRecDepth 100000 in
theorem zlt_c3 : zlcW zlW [(23, zlP23, (30789, [(2, (-10))]))] [zu_123, zu_184] 2 (307, zlPC, (30788, [(2, (-10))])) 100000 = true := by decide +kernel
theorem zlh_c3 {lk : ZLP} {Lx : Nat} {xs : Nat → Int32} : ∀ C ∈ ([zu_123, zu_184] : List CT), zHolds lk Lx xs C := List.forall_mem_cons.mpr ⟨zuh_123, List.forall_mem_cons.mpr ⟨zuh_184, List.forall_mem_nil _⟩⟩
set_option maxRecDepth 100000 in
theorem zlt_c5 : zlcW zlW [(23, zlP23, (30789, [(2, (-10))]))] [zu_128, zu_213] 2 (372, zlPC, (30788, [(2, (-10))])) 100000 = true := by decide +kernel
theorem zlh_c5 {lk : ZLP} {Lx : Nat} {xs : Nat → Int32} : ∀ C ∈ ([zu_128, zu_213] : List CT), zHolds lk Lx xs C := List.forall_mem_cons.mpr ⟨zuh_128, List.forall_mem_cons.mpr ⟨zuh_213, List.forall_mem_nil _⟩⟩
set_option maxRecDepth 100000 in
theorem zlt_c6 : zlcW zlW [(23, zlP23, (30789, [(2, (-10))]))] [zu_129, zu_215] 2 (421, zlPC, (30788, [(2, (-10))])) 100000 = true := by decide +kernel
theorem zlh_c6 {lk : ZLP} {Lx : Nat} {xs : Nat → Int32} : ∀ C ∈ ([zu_129, zu_215] : List CT), zHolds lk Lx xs C := List.forall_mem_cons.mpr ⟨zuh_129, List.forall_mem_cons.mpr ⟨zuh_215, List.forall_mem_nil _⟩⟩
