/-! printed by wip/p2/emitlaw.py: the law's own runs -/
set_option maxRecDepth 100000 in
theorem zlt_c0 : zlc [(23, zlP23, (30789, [(1, (-10))]))] [zu_119, zu_159] 1 (184, zlPC, (30788, [(1, (-10))])) 100000 = true := sorry
theorem zlh_c0 {lk : ZLP} {Lx : Nat} {xs : Nat → Int32} : ∀ C ∈ ([zu_119, zu_159] : List CT), zHolds lk Lx xs C := List.forall_mem_cons.mpr ⟨zuh_119, List.forall_mem_cons.mpr ⟨zuh_159, List.forall_mem_nil _⟩⟩
set_option maxRecDepth 100000 in
theorem zlt_c2 : zlc [(23, zlP23, (30789, [(1, (-10))]))] [zu_122, zu_183] 1 (282, zlPC, (30788, [(1, (-10))])) 100000 = true := sorry
theorem zlh_c2 {lk : ZLP} {Lx : Nat} {xs : Nat → Int32} : ∀ C ∈ ([zu_122, zu_183] : List CT), zHolds lk Lx xs C := List.forall_mem_cons.mpr ⟨zuh_122, List.forall_mem_cons.mpr ⟨zuh_183, List.forall_mem_nil _⟩⟩
/-! printed by wip/p2/emitlaw.py: the law's own runs -/
set_option maxRecDepth 100000 in
theorem zlt_c3 : zlc [(23, zlP23, (30789, [(1, (-10))]))] [zu_123, zu_184] 1 (307, zlPC, (30788, [(1, (-10))])) 100000 = true := sorry
theorem zlh_c3 {lk : ZLP} {Lx : Nat} {xs : Nat → Int32} : ∀ C ∈ ([zu_123, zu_184] : List CT), zHolds lk Lx xs C := List.forall_mem_cons.mpr ⟨zuh_123, List.forall_mem_cons.mpr ⟨zuh_184, List.forall_mem_nil _⟩⟩
set_option maxRecDepth 100000 in
theorem zlt_c5 : zlc [(23, zlP23, (30789, [(1, (-10))]))] [zu_128, zu_213] 1 (372, zlPC, (30788, [(1, (-10))])) 100000 = true := sorry
theorem zlh_c5 {lk : ZLP} {Lx : Nat} {xs : Nat → Int32} : ∀ C ∈ ([zu_128, zu_213] : List CT), zHolds lk Lx xs C := List.forall_mem_cons.mpr ⟨zuh_128, List.forall_mem_cons.mpr ⟨zuh_213, List.forall_mem_nil _⟩⟩
set_option maxRecDepth 100000 in
theorem zlt_c6 : zlc [(23, zlP23, (30789, [(1, (-10))]))] [zu_129, zu_215] 1 (421, zlPC, (30788, [(1, (-10))])) 100000 = true := sorry
theorem zlh_c6 {lk : ZLP} {Lx : Nat} {xs : Nat → Int32} : ∀ C ∈ ([zu_129, zu_215] : List CT), zHolds lk Lx xs C := List.forall_mem_cons.mpr ⟨zuh_129, List.forall_mem_cons.mpr ⟨zuh_215, List.forall_mem_nil _⟩⟩
/-! printed by wip/p2/emitlaw.py: the law's own runs -/
set_option maxRecDepth 100000 in
theorem zlt_c7 : zlc [(23, zlP23, (30789, [(1, (-10))]))] [zu_130, zu_216] 1 (446, zlPC, (30788, [(1, (-10))])) 100000 = true := sorry
theorem zlh_c7 {lk : ZLP} {Lx : Nat} {xs : Nat → Int32} : ∀ C ∈ ([zu_130, zu_216] : List CT), zHolds lk Lx xs C := List.forall_mem_cons.mpr ⟨zuh_130, List.forall_mem_cons.mpr ⟨zuh_216, List.forall_mem_nil _⟩⟩
set_option maxRecDepth 100000 in
theorem zlt_c8 : zlc [(23, zlP23, (30789, [(1, (-10))]))] [zu_131, zu_217] 1 (459, zlPC, (30788, [(1, (-10))])) 100000 = true := sorry
theorem zlh_c8 {lk : ZLP} {Lx : Nat} {xs : Nat → Int32} : ∀ C ∈ ([zu_131, zu_217] : List CT), zHolds lk Lx xs C := List.forall_mem_cons.mpr ⟨zuh_131, List.forall_mem_cons.mpr ⟨zuh_217, List.forall_mem_nil _⟩⟩
set_option maxRecDepth 100000 in
theorem zlt_c9 : zlc [(23, zlP23, (30789, [(1, (-10))]))] [zu_132, zu_218] 1 (496, zlPC, (30788, [(1, (-10))])) 100000 = true := sorry
theorem zlh_c9 {lk : ZLP} {Lx : Nat} {xs : Nat → Int32} : ∀ C ∈ ([zu_132, zu_218] : List CT), zHolds lk Lx xs C := List.forall_mem_cons.mpr ⟨zuh_132, List.forall_mem_cons.mpr ⟨zuh_218, List.forall_mem_nil _⟩⟩
/-! printed by wip/p2/emitlaw.py: the law's own runs -/
set_option maxRecDepth 100000 in
theorem zlt_c10 : zlc [(23, zlP23, (30789, [(1, (-10))]))] [zu_133, zu_220] 1 (545, zlPC, (30788, [(1, (-10))])) 100000 = true := sorry
theorem zlh_c10 {lk : ZLP} {Lx : Nat} {xs : Nat → Int32} : ∀ C ∈ ([zu_133, zu_220] : List CT), zHolds lk Lx xs C := List.forall_mem_cons.mpr ⟨zuh_133, List.forall_mem_cons.mpr ⟨zuh_220, List.forall_mem_nil _⟩⟩
set_option maxRecDepth 100000 in
theorem zlt_c11 : zlc [(23, zlP23, (30789, [(1, (-10))]))] [zu_134, zu_221] 1 (582, zlPC, (30788, [(1, (-10))])) 100000 = true := sorry
theorem zlh_c11 {lk : ZLP} {Lx : Nat} {xs : Nat → Int32} : ∀ C ∈ ([zu_134, zu_221] : List CT), zHolds lk Lx xs C := List.forall_mem_cons.mpr ⟨zuh_134, List.forall_mem_cons.mpr ⟨zuh_221, List.forall_mem_nil _⟩⟩
set_option maxRecDepth 100000 in
theorem zlt_c12 : zlc [(23, zlP23, (30789, [(1, (-10))]))] [zu_135, zu_228] 1 (595, zlPC, (30788, [(1, (-10))])) 100000 = true := sorry
theorem zlh_c12 {lk : ZLP} {Lx : Nat} {xs : Nat → Int32} : ∀ C ∈ ([zu_135, zu_228] : List CT), zHolds lk Lx xs C := List.forall_mem_cons.mpr ⟨zuh_135, List.forall_mem_cons.mpr ⟨zuh_228, List.forall_mem_nil _⟩⟩
/-! printed by wip/p2/emitlaw.py: the law's own runs -/
set_option maxRecDepth 100000 in
theorem zlt_c13 : zlc [(23, zlP23, (30789, [(1, (-10))]))] [zu_136, zu_229] 1 (632, zlPC, (30788, [(1, (-10))])) 100000 = true := sorry
theorem zlh_c13 {lk : ZLP} {Lx : Nat} {xs : Nat → Int32} : ∀ C ∈ ([zu_136, zu_229] : List CT), zHolds lk Lx xs C := List.forall_mem_cons.mpr ⟨zuh_136, List.forall_mem_cons.mpr ⟨zuh_229, List.forall_mem_nil _⟩⟩
set_option maxRecDepth 100000 in
theorem zlt_c14 : zlc [(23, zlP23, (30789, [(1, (-10))]))] [zu_137, zu_230] 1 (701, zlPC, (30788, [(1, (-10))])) 100000 = true := sorry
theorem zlh_c14 {lk : ZLP} {Lx : Nat} {xs : Nat → Int32} : ∀ C ∈ ([zu_137, zu_230] : List CT), zHolds lk Lx xs C := List.forall_mem_cons.mpr ⟨zuh_137, List.forall_mem_cons.mpr ⟨zuh_230, List.forall_mem_nil _⟩⟩
set_option maxRecDepth 100000 in
theorem zlt_c15 : zlc [(23, zlP23, (30789, [(1, (-10))]))] [zu_138, zu_231] 1 (726, zlPC, (30788, [(1, (-10))])) 100000 = true := sorry
theorem zlh_c15 {lk : ZLP} {Lx : Nat} {xs : Nat → Int32} : ∀ C ∈ ([zu_138, zu_231] : List CT), zHolds lk Lx xs C := List.forall_mem_cons.mpr ⟨zuh_138, List.forall_mem_cons.mpr ⟨zuh_231, List.forall_mem_nil _⟩⟩
/-! printed by wip/p2/emitlaw.py: the law's own runs -/
set_option maxRecDepth 100000 in
theorem zlt_c16 : zlc [(806, zlPC, (30785, [(1, (-10))]))] [zu_139] 1 (775, zlPC, (30788, [(1, (-10))])) 100000 = true := sorry
theorem zlh_c16 {lk : ZLP} {Lx : Nat} {xs : Nat → Int32} : ∀ C ∈ ([zu_139] : List CT), zHolds lk Lx xs C := List.forall_mem_cons.mpr ⟨zuh_139, List.forall_mem_nil _⟩
set_option maxRecDepth 100000 in
theorem zlt_d16 : zlc [(23, zlP23, (30789, [(1, (-10))]))] [zu_232] 1 (806, zlPC, (30785, [(1, (-10))])) 100000 = true := sorry
theorem zlh_d16 {lk : ZLP} {Lx : Nat} {xs : Nat → Int32} : ∀ C ∈ ([zu_232] : List CT), zHolds lk Lx xs C := List.forall_mem_cons.mpr ⟨zuh_232, List.forall_mem_nil _⟩
/-! printed by wip/p2/emitlaw.py: the law's own runs -/
set_option maxRecDepth 100000 in
theorem zlt_c17 : zlc [(23, zlP23, (30789, [(1, (-10))]))] [zu_140, zu_238] 1 (840, zlPC, (30788, [(1, (-10))])) 100000 = true := sorry
theorem zlh_c17 {lk : ZLP} {Lx : Nat} {xs : Nat → Int32} : ∀ C ∈ ([zu_140, zu_238] : List CT), zHolds lk Lx xs C := List.forall_mem_cons.mpr ⟨zuh_140, List.forall_mem_cons.mpr ⟨zuh_238, List.forall_mem_nil _⟩⟩
set_option maxRecDepth 100000 in
theorem zlt_c18 : zlc [(23, zlP23, (30789, [(1, (-10))]))] [zu_142, zu_239] 1 (865, zlPC, (30788, [(1, (-10))])) 100000 = true := sorry
theorem zlh_c18 {lk : ZLP} {Lx : Nat} {xs : Nat → Int32} : ∀ C ∈ ([zu_142, zu_239] : List CT), zHolds lk Lx xs C := List.forall_mem_cons.mpr ⟨zuh_142, List.forall_mem_cons.mpr ⟨zuh_239, List.forall_mem_nil _⟩⟩
set_option maxRecDepth 100000 in
theorem zlt_c19 : zlc [(23, zlP23, (30789, [(1, (-10))]))] [zu_143, zu_240] 1 (902, zlPC, (30788, [(1, (-10))])) 100000 = true := sorry
theorem zlh_c19 {lk : ZLP} {Lx : Nat} {xs : Nat → Int32} : ∀ C ∈ ([zu_143, zu_240] : List CT), zHolds lk Lx xs C := List.forall_mem_cons.mpr ⟨zuh_143, List.forall_mem_cons.mpr ⟨zuh_240, List.forall_mem_nil _⟩⟩
/-! printed by wip/p2/emitlaw.py: the law's own runs -/
set_option maxRecDepth 100000 in
theorem zlt_c20 : zlc [(23, zlP23, (30789, [(1, (-10))]))] [zu_144, zu_244] 1 (927, zlPC, (30788, [(1, (-10))])) 100000 = true := sorry
theorem zlh_c20 {lk : ZLP} {Lx : Nat} {xs : Nat → Int32} : ∀ C ∈ ([zu_144, zu_244] : List CT), zHolds lk Lx xs C := List.forall_mem_cons.mpr ⟨zuh_144, List.forall_mem_cons.mpr ⟨zuh_244, List.forall_mem_nil _⟩⟩
set_option maxRecDepth 100000 in
theorem zlt_c21 : zlc [(23, zlP23, (30789, [(1, (-10))]))] [zu_145, zu_248] 1 (964, zlPC, (30788, [(1, (-10))])) 100000 = true := sorry
theorem zlh_c21 {lk : ZLP} {Lx : Nat} {xs : Nat → Int32} : ∀ C ∈ ([zu_145, zu_248] : List CT), zHolds lk Lx xs C := List.forall_mem_cons.mpr ⟨zuh_145, List.forall_mem_cons.mpr ⟨zuh_248, List.forall_mem_nil _⟩⟩
set_option maxRecDepth 100000 in
theorem zlt_c22 : zlc [(23, zlP23, (30789, [(1, (-10))]))] [zu_146, zu_255] 1 (1013, zlPC, (30788, [(1, (-10))])) 100000 = true := sorry
theorem zlh_c22 {lk : ZLP} {Lx : Nat} {xs : Nat → Int32} : ∀ C ∈ ([zu_146, zu_255] : List CT), zHolds lk Lx xs C := List.forall_mem_cons.mpr ⟨zuh_146, List.forall_mem_cons.mpr ⟨zuh_255, List.forall_mem_nil _⟩⟩
/-! printed by wip/p2/emitlaw.py: the law's own runs -/
set_option maxRecDepth 100000 in
theorem zlt_c23 : zlc [(23, zlP23, (30789, [(1, (-10))]))] [zu_147, zu_256] 1 (1026, zlPC, (30788, [(1, (-10))])) 100000 = true := sorry
theorem zlh_c23 {lk : ZLP} {Lx : Nat} {xs : Nat → Int32} : ∀ C ∈ ([zu_147, zu_256] : List CT), zHolds lk Lx xs C := List.forall_mem_cons.mpr ⟨zuh_147, List.forall_mem_cons.mpr ⟨zuh_256, List.forall_mem_nil _⟩⟩
set_option maxRecDepth 100000 in
theorem zlt_c24 : zlc [(23, zlP23, (30789, [(1, (-10))]))] [zu_148, zu_260] 1 (1051, zlPC, (30788, [(1, (-10))])) 100000 = true := sorry
theorem zlh_c24 {lk : ZLP} {Lx : Nat} {xs : Nat → Int32} : ∀ C ∈ ([zu_148, zu_260] : List CT), zHolds lk Lx xs C := List.forall_mem_cons.mpr ⟨zuh_148, List.forall_mem_cons.mpr ⟨zuh_260, List.forall_mem_nil _⟩⟩
set_option maxRecDepth 100000 in
theorem zlt_c25 : zlc [(23, zlP23, (30789, [(1, (-10))]))] [zu_150, zu_261] 1 (1076, zlPC, (30788, [(1, (-10))])) 100000 = true := sorry
theorem zlh_c25 {lk : ZLP} {Lx : Nat} {xs : Nat → Int32} : ∀ C ∈ ([zu_150, zu_261] : List CT), zHolds lk Lx xs C := List.forall_mem_cons.mpr ⟨zuh_150, List.forall_mem_cons.mpr ⟨zuh_261, List.forall_mem_nil _⟩⟩
/-! printed by wip/p2/emitlaw.py: the law's own runs -/
set_option maxRecDepth 100000 in
theorem zlt_c26 : zlc [(23, zlP23, (30789, [(1, (-10))]))] [zu_151, zu_262] 1 (1101, zlPC, (30788, [(1, (-10))])) 100000 = true := sorry
theorem zlh_c26 {lk : ZLP} {Lx : Nat} {xs : Nat → Int32} : ∀ C ∈ ([zu_151, zu_262] : List CT), zHolds lk Lx xs C := List.forall_mem_cons.mpr ⟨zuh_151, List.forall_mem_cons.mpr ⟨zuh_262, List.forall_mem_nil _⟩⟩
set_option maxRecDepth 100000 in
theorem zlt_c27 : zlc [(23, zlP23, (30789, [(1, (-10))]))] [zu_153, zu_263] 1 (1126, zlPC, (30788, [(1, (-10))])) 100000 = true := sorry
theorem zlh_c27 {lk : ZLP} {Lx : Nat} {xs : Nat → Int32} : ∀ C ∈ ([zu_153, zu_263] : List CT), zHolds lk Lx xs C := List.forall_mem_cons.mpr ⟨zuh_153, List.forall_mem_cons.mpr ⟨zuh_263, List.forall_mem_nil _⟩⟩
set_option maxRecDepth 100000 in
theorem zlt_c28 : zlc [(23, zlP23, (30789, [(1, (-10))]))] [zu_154, zu_264] 1 (1163, zlPC, (30788, [(1, (-10))])) 100000 = true := sorry
theorem zlh_c28 {lk : ZLP} {Lx : Nat} {xs : Nat → Int32} : ∀ C ∈ ([zu_154, zu_264] : List CT), zHolds lk Lx xs C := List.forall_mem_cons.mpr ⟨zuh_154, List.forall_mem_cons.mpr ⟨zuh_264, List.forall_mem_nil _⟩⟩
/-! printed by wip/p2/emitlaw.py: the law's own runs -/
set_option maxRecDepth 100000 in
theorem zlt_c29 : zlc [(23, zlP23, (30789, [(1, (-10))]))] [zu_155, zu_265] 1 (1176, zlPC, (30788, [(1, (-10))])) 100000 = true := sorry
theorem zlh_c29 {lk : ZLP} {Lx : Nat} {xs : Nat → Int32} : ∀ C ∈ ([zu_155, zu_265] : List CT), zHolds lk Lx xs C := List.forall_mem_cons.mpr ⟨zuh_155, List.forall_mem_cons.mpr ⟨zuh_265, List.forall_mem_nil _⟩⟩
set_option maxRecDepth 100000 in
theorem zlt_c30 : zlc [(23, zlP23, (30789, [(1, (-10))]))] [zu_156, zu_266] 1 (1189, zlPC, (30788, [(1, (-10))])) 100000 = true := sorry
theorem zlh_c30 {lk : ZLP} {Lx : Nat} {xs : Nat → Int32} : ∀ C ∈ ([zu_156, zu_266] : List CT), zHolds lk Lx xs C := List.forall_mem_cons.mpr ⟨zuh_156, List.forall_mem_cons.mpr ⟨zuh_266, List.forall_mem_nil _⟩⟩
set_option maxRecDepth 100000 in
theorem zlt_c31 : zlc [(23, zlP23, (30789, [(1, (-10))]))] [zu_157, zu_267] 1 (1202, zlPC, (30788, [(1, (-10))])) 100000 = true := sorry
theorem zlh_c31 {lk : ZLP} {Lx : Nat} {xs : Nat → Int32} : ∀ C ∈ ([zu_157, zu_267] : List CT), zHolds lk Lx xs C := List.forall_mem_cons.mpr ⟨zuh_157, List.forall_mem_cons.mpr ⟨zuh_267, List.forall_mem_nil _⟩⟩
set_option maxRecDepth 100000 in
theorem zlt_tn : zlc [(268, zlPVA, (30785, [(1, (-10))]))] [zu_121] 3 (264, zlPTn, (30787, [(1, (-10))])) 100000 = true := sorry
theorem zlh_tn {lk : ZLP} {Lx : Nat} {xs : Nat → Int32} : ∀ C ∈ ([zu_121] : List CT), zHolds lk Lx xs C := List.forall_mem_cons.mpr ⟨zuh_121, List.forall_mem_nil _⟩
/-! printed by wip/p2/emitlaw.py: the law's own runs -/
set_option maxRecDepth 100000 in
theorem zlt_tp : zlc [(268, zlPVB, (30785, [(1, (-10))])), (268, zlPVC, (30785, [(1, (-10))])), (268, zlPVD, (30785, [(1, (-10))]))] [zu_121] 3 (264, zlPTp, (30787, [(1, (-10))])) 100000 = true := sorry
theorem zlh_tp {lk : ZLP} {Lx : Nat} {xs : Nat → Int32} : ∀ C ∈ ([zu_121] : List CT), zHolds lk Lx xs C := List.forall_mem_cons.mpr ⟨zuh_121, List.forall_mem_nil _⟩
set_option maxRecDepth 100000 in
theorem zlt_uA : zlc [(23, zlP23, (30789, [(1, (-10))]))] [zu_182] 1 (275, zlPUA, (30784, [(1, (-10))])) 100000 = true := sorry
theorem zlh_uA {lk : ZLP} {Lx : Nat} {xs : Nat → Int32} : ∀ C ∈ ([zu_182] : List CT), zHolds lk Lx xs C := List.forall_mem_cons.mpr ⟨zuh_182, List.forall_mem_nil _⟩
set_option maxRecDepth 100000 in
theorem zlt_uB : zlc [(23, zlP23, (30789, [(1, (-10))]))] [zu_182] 1 (275, zlPUB, (30784, [(1, (-10))])) 100000 = true := sorry
theorem zlh_uB {lk : ZLP} {Lx : Nat} {xs : Nat → Int32} : ∀ C ∈ ([zu_182] : List CT), zHolds lk Lx xs C := List.forall_mem_cons.mpr ⟨zuh_182, List.forall_mem_nil _⟩
/-! printed by wip/p2/emitlaw.py: the law's own runs -/
set_option maxRecDepth 100000 in
theorem zlt_uC : zlc [(23, zlP23, (30789, [(1, (-10))]))] [zu_182] 1 (275, zlPUC, (30784, [(1, (-10))])) 100000 = true := sorry
theorem zlh_uC {lk : ZLP} {Lx : Nat} {xs : Nat → Int32} : ∀ C ∈ ([zu_182] : List CT), zHolds lk Lx xs C := List.forall_mem_cons.mpr ⟨zuh_182, List.forall_mem_nil _⟩
set_option maxRecDepth 100000 in
theorem zlt_k : zlc [(23, zlP23, (30789, [(1, (-10))]))] [zu_212] 1 (349, zlP349, (30784, [(1, (-10))])) 100000 = true := sorry
theorem zlh_k {lk : ZLP} {Lx : Nat} {xs : Nat → Int32} : ∀ C ∈ ([zu_212] : List CT), zHolds lk Lx xs C := List.forall_mem_cons.mpr ⟨zuh_212, List.forall_mem_nil _⟩
