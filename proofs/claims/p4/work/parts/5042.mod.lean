/-! printed by wip/p2: contracts of the model's methods, checked by their abstract runs -/
-- TinTowerModel.manyOf(I)I
def zu_162 : CT := (162, ([], [(0, (0, [(0, 1)]))], [], [((-2147483648), 2147483647)], [], []), 0, [], [([], [(0, (0, [(1, 1)]))], [], [((-2147483648), 2147483647), (0, 9)], [], [])])
def zun_162 : List ND := []
set_option maxRecDepth 100000 in
theorem zub_162 : zchB zu_162 zun_162 [] 100000 = true := by decide +kernel
theorem zuh_162 {lk : ZLP} {Lx : Nat} {xs : Nat → Int32} : zHolds lk Lx xs zu_162 := zunit_ok znewOK_ok (List.forall_mem_nil _) zub_162 (fun q hq => absurd hq List.not_mem_nil)
