/-! printed by wip/p3/emitlaw3.py -/
set_option maxRecDepth 100000 in
theorem zlt_qd : zlcW zlW [(292, zlPRd, (30786, [(2, (-10))]))] [] 8 (289, zlPQd, (30788, [(2, (-10))])) 100000 = true := by decide +kernel
theorem zlh_qd {lk : ZLP} {Lx : Nat} {xs : Nat → Int32} : ∀ C ∈ ([] : List CT), zHolds lk Lx xs C := List.forall_mem_nil _
set_option maxRecDepth 100000 in
theorem zlt_xd : zlcW zlW [(23, zlP23, (30789, [(2, (-10))]))] [] 2 (299, zlPXd, (30785, [(2, (-10))])) 100000 = true := by decide +kernel
theorem zlh_xd {lk : ZLP} {Lx : Nat} {xs : Nat → Int32} : ∀ C ∈ ([] : List CT), zHolds lk Lx xs C := List.forall_mem_nil _
