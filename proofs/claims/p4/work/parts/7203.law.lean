/-! printed by wip/p3/emitlaw3.py -/
set_option maxRecDepth 100000 in
theorem zlt_c13 : zlcW zlW [(23, zlP23, (30789, [(2, (-10))]))] [zu_136, zu_229] 2 (632, zlPC, (30788, [(2, (-10))])) 100000 = true := by decide +kernel
theorem zlh_c13 {lk : ZLP} {Lx : Nat} {xs : Nat → Int32} : ∀ C ∈ ([zu_136, zu_229] : List CT), zHolds lk Lx xs C := List.forall_mem_cons.mpr ⟨zuh_136, List.forall_mem_cons.mpr ⟨zuh_229, List.forall_mem_nil _⟩⟩
set_option maxRecDepth 100000 in
theorem zlt_c14 : zlcW zlW [(23, zlP23, (30789, [(2, (-10))]))] [zu_137, zu_230] 2 (701, zlPC, (30788, [(2, (-10))])) 100000 = true := by decide +kernel
theorem zlh_c14 {lk : ZLP} {Lx : Nat} {xs : Nat → Int32} : ∀ C ∈ ([zu_137, zu_230] : List CT), zHolds lk Lx xs C := List.forall_mem_cons.mpr ⟨zuh_137, List.forall_mem_cons.mpr ⟨zuh_230, List.forall_mem_nil _⟩⟩
set_option maxRecDepth 100000 in
theorem zlt_c15 : zlcW zlW [(23, zlP23, (30789, [(2, (-10))]))] [zu_138, zu_231k] 2 (726, zlPC, (30788, [(2, (-10))])) 100000 = true := by decide +kernel
theorem zlh_c15 {lk : ZLP} {Lx : Nat} {xs : Nat → Int32} : ∀ C ∈ ([zu_138, zu_231k] : List CT), zHolds lk Lx xs C := List.forall_mem_cons.mpr ⟨zuh_138, List.forall_mem_cons.mpr ⟨zuh_231k, List.forall_mem_nil _⟩⟩
