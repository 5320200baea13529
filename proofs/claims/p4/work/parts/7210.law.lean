/-! printed by wip/p3/emitlaw3.py -/
set_option maxRecDepth 100000 in
theorem zlt_qa : zlcW zlW [(292, zlPRa, (30786, [(2, (-10))]))] [] 8 (289, zlPQa, (30788, [(2, (-10))])) 100000 = true := by decide +kernel
theorem zlh_qa {lk : ZLP} {Lx : Nat} {xs : Nat → Int32} : ∀ C ∈ ([] : List CT), zHolds lk Lx xs C := List.forall_mem_nil _
set_option maxRecDepth 100000 in
theorem zlt_xa : zlcW zlW [(23, zlP23, (30789, [(2, (-10))]))] [] 2 (299, zlPXa, (30785, [(2, (-10))])) 100000 = true := by decide +kernel
theorem zlh_xa {lk : ZLP} {Lx : Nat} {xs : Nat → Int32} : ∀ C ∈ ([] : List CT), zHolds lk Lx xs C := List.forall_mem_nil _
set_option maxRecDepth 100000 in
theorem zlt_qb : zlcW zlW [(292, zlPRb, (30786, [(2, (-10))]))] [] 8 (289, zlPQb, (30788, [(2, (-10))])) 100000 = true := by decide +kernel
theorem zlh_qb {lk : ZLP} {Lx : Nat} {xs : Nat → Int32} : ∀ C ∈ ([] : List CT), zHolds lk Lx xs C := List.forall_mem_nil _
set_option maxRecDepth 100000 in
theorem zlt_xb : zlcW zlW [(23, zlP23, (30789, [(2, (-10))]))] [] 2 (299, zlPXb, (30785, [(2, (-10))])) 100000 = true := by decide +kernel
theorem zlh_xb {lk : ZLP} {Lx : Nat} {xs : Nat → Int32} : ∀ C ∈ ([] : List CT), zHolds lk Lx xs C := List.forall_mem_nil _
set_option maxRecDepth 100000 in
theorem zlt_qc : zlcW zlW [(292, zlPRc, (30786, [(2, (-10))]))] [] 8 (289, zlPQc, (30788, [(2, (-10))])) 100000 = true := by decide +kernel
theorem zlh_qc {lk : ZLP} {Lx : Nat} {xs : Nat → Int32} : ∀ C ∈ ([] : List CT), zHolds lk Lx xs C := List.forall_mem_nil _
set_option maxRecDepth 100000 in
theorem zlt_xc : zlcW zlW [(23, zlP23, (30789, [(2, (-10))]))] [] 2 (299, zlPXc, (30785, [(2, (-10))])) 100000 = true := by decide +kernel
theorem zlh_xc {lk : ZLP} {Lx : Nat} {xs : Nat → Int32} : ∀ C ∈ ([] : List CT), zHolds lk Lx xs C := List.forall_mem_nil _
