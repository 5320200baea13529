/-! printed by wip/p3/emitlaw3.py -/
set_option maxRecDepth 100000 in
theorem zlt_c29 : zlcW zlW [(23, zlP23, (30789, [(2, (-10))]))] [zu_155, zu_265] 2 (1176, zlPC, (30788, [(2, (-10))])) 100000 = true := by decide +kernel
theorem zlh_c29 {lk : ZLP} {Lx : Nat} {xs : Nat → Int32} : ∀ C ∈ ([zu_155, zu_265] : List CT), zHolds lk Lx xs C := List.forall_mem_cons.mpr ⟨zuh_155, List.forall_mem_cons.mpr ⟨zuh_265, List.forall_mem_nil _⟩⟩
set_option maxRecDepth 100000 in
theorem zlt_c30 : zlcW zlW [(23, zlP23, (30789, [(2, (-10))]))] [zu_156, zu_266] 2 (1189, zlPC, (30788, [(2, (-10))])) 100000 = true := by decide +kernel
theorem zlh_c30 {lk : ZLP} {Lx : Nat} {xs : Nat → Int32} : ∀ C ∈ ([zu_156, zu_266] : List CT), zHolds lk Lx xs C := List.forall_mem_cons.mpr ⟨zuh_156, List.forall_mem_cons.mpr ⟨zuh_266, List.forall_mem_nil _⟩⟩
set_option maxRecDepth 100000 in
theorem zlt_c31 : zlcW zlW [(23, zlP23, (30789, [(2, (-10))]))] [zu_157, zu_267] 2 (1202, zlPC, (30788, [(2, (-10))])) 100000 = true := by decide +kernel
theorem zlh_c31 {lk : ZLP} {Lx : Nat} {xs : Nat → Int32} : ∀ C ∈ ([zu_157, zu_267] : List CT), zHolds lk Lx xs C := List.forall_mem_cons.mpr ⟨zuh_157, List.forall_mem_cons.mpr ⟨zuh_267, List.forall_mem_nil _⟩⟩
set_option maxRecDepth 100000 in
theorem zlt_k : zlcW zlW [(23, zlP23, (30789, [(2, (-10))]))] [zu_212] 2 (349, zlP349, (30784, [(2, (-10))])) 100000 = true := by decide +kernel
theorem zlh_k {lk : ZLP} {Lx : Nat} {xs : Nat → Int32} : ∀ C ∈ ([zu_212] : List CT), zHolds lk Lx xs C := List.forall_mem_cons.mpr ⟨zuh_212, List.forall_mem_nil _⟩
