/-! printed by wip/p2/emitlaw.py: the law's own runs -/
set_option maxRecDepth 100000 in
theorem zlt_c26 : zlc [(23, zlP23, (30789, [(1, (-10))]))] [zu_151, zu_262] 1 (1101, zlPC, (30788, [(1, (-10))])) 100000 = true := by decide +kernel
theorem zlh_c26 {lk : ZLP} {Lx : Nat} {xs : Nat → Int32} : ∀ C ∈ ([zu_151, zu_262] : List CT), zHolds lk Lx xs C := List.forall_mem_cons.mpr ⟨zuh_151, List.forall_mem_cons.mpr ⟨zuh_262, List.forall_mem_nil _⟩⟩
set_option maxRecDepth 100000 in
theorem zlt_c27 : zlc [(23, zlP23, (30789, [(1, (-10))]))] [zu_153, zu_263] 1 (1126, zlPC, (30788, [(1, (-10))])) 100000 = true := by decide +kernel
theorem zlh_c27 {lk : ZLP} {Lx : Nat} {xs : Nat → Int32} : ∀ C ∈ ([zu_153, zu_263] : List CT), zHolds lk Lx xs C := List.forall_mem_cons.mpr ⟨zuh_153, List.forall_mem_cons.mpr ⟨zuh_263, List.forall_mem_nil _⟩⟩
set_option maxRecDepth 100000 in
theorem zlt_c28 : zlc [(23, zlP23, (30789, [(1, (-10))]))] [zu_154, zu_264] 1 (1163, zlPC, (30788, [(1, (-10))])) 100000 = true := by decide +kernel
theorem zlh_c28 {lk : ZLP} {Lx : Nat} {xs : Nat → Int32} : ∀ C ∈ ([zu_154, zu_264] : List CT), zHolds lk Lx xs C := List.forall_mem_cons.mpr ⟨zuh_154, List.forall_mem_cons.mpr ⟨zuh_264, List.forall_mem_nil _⟩⟩
