/-! printed by wip/p3/emitlaw3.py -/
set_option maxRecDepth 100000 in
theorem zlt_c25 : zlcW zlW [(23, zlP23, (30789, [(2, (-10))]))] [zu_150, zu_261] 2 (1076, zlPC, (30788, [(2, (-10))])) 100000 = true := by decide +kernel
theorem zlh_c25 {lk : ZLP} {Lx : Nat} {xs : Nat → Int32} : ∀ C ∈ ([zu_150, zu_261] : List CT), zHolds lk Lx xs C := List.forall_mem_cons.mpr ⟨zuh_150, List.forall_mem_cons.mpr ⟨zuh_261, List.forall_mem_nil _⟩⟩
set_option maxRecDepth 100000 in
theorem zlt_c26 : zlcW zlW [(23, zlP23, (30789, [(2, (-10))]))] [zu_151, zu_262] 2 (1101, zlPC, (30788, [(2, (-10))])) 100000 = true := by decide +kernel
theorem zlh_c26 {lk : ZLP} {Lx : Nat} {xs : Nat → Int32} : ∀ C ∈ ([zu_151, zu_262] : List CT), zHolds lk Lx xs C := List.forall_mem_cons.mpr ⟨zuh_151, List.forall_mem_cons.mpr ⟨zuh_262, List.forall_mem_nil _⟩⟩
set_option maxRecDepth 100000 in
theorem zlt_c27 : zlcW zlW [(23, zlP23, (30789, [(2, (-10))]))] [zu_153, zu_263] 2 (1126, zlPC, (30788, [(2, (-10))])) 100000 = true := by decide +kernel
theorem zlh_c27 {lk : ZLP} {Lx : Nat} {xs : Nat → Int32} : ∀ C ∈ ([zu_153, zu_263] : List CT), zHolds lk Lx xs C := List.forall_mem_cons.mpr ⟨zuh_153, List.forall_mem_cons.mpr ⟨zuh_263, List.forall_mem_nil _⟩⟩
