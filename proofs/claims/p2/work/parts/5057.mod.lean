/-! printed by wip/p2: contracts of the model's methods, checked by their abstract runs -/
set_option maxRecDepth 100000 in
theorem zub_193 : zchB zu_193 zun_193 [zu_167, zu_188] 100000 = true := by decide +kernel
theorem zuh_193 {lk : ZLP} {Lx : Nat} {xs : Nat → Int32} : zHolds lk Lx xs zu_193 := zunit_ok znewOK_ok (List.forall_mem_cons.mpr ⟨zuh_167, List.forall_mem_cons.mpr ⟨zuh_188, List.forall_mem_nil _⟩⟩) zub_193 (fun q hq => absurd hq List.not_mem_nil)
