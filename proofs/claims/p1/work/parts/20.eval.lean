/-! the run over the law's own code, the first number's last five bits from u to v -/
def zKr1 : ZKR := fun r _ _ => match r with
  | some a => zaveq a (0, 1, 1)
  | none => false
def zE0 (u v : Int) : AE := [(-2147483648, 2147483647), (-2147483648, 2147483647), (-2147483648, 2147483647), (-2147483648, 2147483647), (-2147483648, 2147483647), (-2147483648, 2147483647), (0, 6), (u, v)]
def zgo (u v : Int) (n : Nat) : Bool := zrun zlook1 n zp_277 7 10 422 600002 7302232 zKr1 zp_277 0 [(0, (5, 0, 0))] [] (0, []) (zE0 u v) 0 0
set_option maxRecDepth 100000 in
theorem zgo_0 : zgo 0 0 100000 = true := by decide +kernel
set_option maxRecDepth 100000 in
theorem zgo_1 : zgo 1 1 100000 = true := by decide +kernel
set_option maxRecDepth 100000 in
theorem zgo_2 : zgo 2 8 100000 = true := by decide +kernel
set_option maxRecDepth 100000 in
theorem zgo_9 : zgo 9 10 100000 = true := by decide +kernel
set_option maxRecDepth 100000 in
theorem zgo_11 : zgo 11 20 100000 = true := by decide +kernel
set_option maxRecDepth 100000 in
theorem zgo_21 : zgo 21 31 100000 = true := by decide +kernel
