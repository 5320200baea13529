/-! printed by wip/p3/emitlaw3.py -/
set_option maxRecDepth 100000 in
theorem zlt_c20 : zlcW zlW [(23, zlP23, (30789, [(2, (-10))]))] [zu_144, zu_244] 2 (927, zlPC, (30788, [(2, (-10))])) 100000 = true := by decide +kernel
theorem zlh_c20 {lk : ZLP} {Lx : Nat} {xs : Nat → Int32} : ∀ C ∈ ([zu_144, zu_244] : List CT), zHolds lk Lx xs C := List.forall_mem_cons.mpr ⟨zuh_144, List.forall_mem_cons.mpr ⟨zuh_244, List.forall_mem_nil _⟩⟩
set_option maxRecDepth 100000 in
theorem zlt_c21 : zlcW zlW [(23, zlP23, (30789, [(2, (-10))]))] [zu_145, zu_248] 2 (964, zlPC, (30788, [(2, (-10))])) 100000 = true := by decide +kernel
theorem zlh_c21 {lk : ZLP} {Lx : Nat} {xs : Nat → Int32} : ∀ C ∈ ([zu_145, zu_248] : List CT), zHolds lk Lx xs C := List.forall_mem_cons.mpr ⟨zuh_145, List.forall_mem_cons.mpr ⟨zuh_248, List.forall_mem_nil _⟩⟩
set_option maxRecDepth 100000 in
theorem zlt_c22 : zlcW zlW [(23, zlP23, (30789, [(2, (-10))]))] [zu_146, zu_255] 2 (1013, zlPC, (30788, [(2, (-10))])) 100000 = true := by decide +kernel
theorem zlh_c22 {lk : ZLP} {Lx : Nat} {xs : Nat → Int32} : ∀ C ∈ ([zu_146, zu_255] : List CT), zHolds lk Lx xs C := List.forall_mem_cons.mpr ⟨zuh_146, List.forall_mem_cons.mpr ⟨zuh_255, List.forall_mem_nil _⟩⟩
