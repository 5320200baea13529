/-! printed by wip/p3/emitlaw3.py -/
set_option maxRecDepth 100000 in
theorem zlt_c26 : zlcW zlW [(23, zlP23, (30789, [(2, (-10))]))] [zu_151, zu_262k] 2 (1101, zlPC, (30788, [(2, (-10))])) 100000 = true := by decide +kernel
theorem zlh_c26 {lk : ZLP} {Lx : Nat} {xs : Nat → Int32} : ∀ C ∈ ([zu_151, zu_262k] : List CT), zHolds lk Lx xs C := List.forall_mem_cons.mpr ⟨zuh_151, List.forall_mem_cons.mpr ⟨zuh_262k, List.forall_mem_nil _⟩⟩
set_option maxRecDepth 100000 in
theorem zlt_c27 : zlcW zlW [(23, zlP23, (30789, [(2, (-10))]))] [zu_153, zu_263] 2 (1126, zlPC, (30788, [(2, (-10))])) 100000 = true := by decide +kernel
theorem zlh_c27 {lk : ZLP} {Lx : Nat} {xs : Nat → Int32} : ∀ C ∈ ([zu_153, zu_263] : List CT), zHolds lk Lx xs C := List.forall_mem_cons.mpr ⟨zuh_153, List.forall_mem_cons.mpr ⟨zuh_263, List.forall_mem_nil _⟩⟩
set_option maxRecDepth 100000 in
theorem zlt_c28 : zlcW zlW [(23, zlP23, (30789, [(2, (-10))]))] [zu_154, zu_264] 2 (1163, zlPC, (30788, [(2, (-10))])) 100000 = true := by decide +kernel
theorem zlh_c28 {lk : ZLP} {Lx : Nat} {xs : Nat → Int32} : ∀ C ∈ ([zu_154, zu_264] : List CT), zHolds lk Lx xs C := List.forall_mem_cons.mpr ⟨zuh_154, List.forall_mem_cons.mpr ⟨zuh_264, List.forall_mem_nil _⟩⟩
