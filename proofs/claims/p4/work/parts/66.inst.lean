/-! layPulled and push, from the checked contracts of layEdges and addEdge -/
theorem zLE_ok {lk : ZLP} {Lx : Nat} {xs : Nat → Int32} : zLE lk Lx xs := ⟨zu_202, rfl, zuh_202, by decide +kernel⟩
theorem zAD_ok {lk : ZLP} {Lx : Nat} {xs : Nat → Int32} : zAD lk Lx xs := ⟨zu_201, rfl, zuh_201, by decide +kernel⟩
theorem zuh_237 {lk : ZLP} {Lx : Nat} {xs : Nat → Int32} : zHolds lk Lx xs zu_237 := zpulled zLE_ok
theorem zuh_231 {lk : ZLP} {Lx : Nat} {xs : Nat → Int32} : zHolds lk Lx xs zu_231 := zpushed zAD_ok
