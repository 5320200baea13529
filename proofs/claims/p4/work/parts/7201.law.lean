/-! printed by wip/p3/emitlaw3.py -/
set_option maxRecDepth 100000 in
theorem zlt_c7 : zlcW zlW [(23, zlP23, (30789, [(2, (-10))]))] [zu_130, zu_216] 2 (446, zlPC, (30788, [(2, (-10))])) 100000 = true := by decide +kernel
theorem zlh_c7 {lk : ZLP} {Lx : Nat} {xs : Nat → Int32} : ∀ C ∈ ([zu_130, zu_216] : List CT), zHolds lk Lx xs C := List.forall_mem_cons.mpr ⟨zuh_130, List.forall_mem_cons.mpr ⟨zuh_216, List.forall_mem_nil _⟩⟩
set_option maxRecDepth 100000 in
theorem zlt_c8 : zlcW zlW [(23, zlP23, (30789, [(2, (-10))]))] [zu_131, zu_217] 2 (459, zlPC, (30788, [(2, (-10))])) 100000 = true := by decide +kernel
theorem zlh_c8 {lk : ZLP} {Lx : Nat} {xs : Nat → Int32} : ∀ C ∈ ([zu_131, zu_217] : List CT), zHolds lk Lx xs C := List.forall_mem_cons.mpr ⟨zuh_131, List.forall_mem_cons.mpr ⟨zuh_217, List.forall_mem_nil _⟩⟩
set_option maxRecDepth 100000 in
theorem zlt_c9 : zlcW zlW [(23, zlP23, (30789, [(2, (-10))]))] [zu_132, zu_218] 2 (496, zlPC, (30788, [(2, (-10))])) 100000 = true := by decide +kernel
theorem zlh_c9 {lk : ZLP} {Lx : Nat} {xs : Nat → Int32} : ∀ C ∈ ([zu_132, zu_218] : List CT), zHolds lk Lx xs C := List.forall_mem_cons.mpr ⟨zuh_132, List.forall_mem_cons.mpr ⟨zuh_218, List.forall_mem_nil _⟩⟩
