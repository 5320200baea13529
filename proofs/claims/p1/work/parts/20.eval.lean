/-! the run over the law's own code -/
def zlook1 : ZLK := fun as h _ c s k => match as with
  | [x, p0, p1, _] => zint p0 && (zint p1 && zref x (fun i => zobj h i 11 (fun fs => zlg fs 4 (fun now => zref now (fun j => zobj h j 3 (fun fs => zlg fs 0 (fun told => zref told (fun t => zobj h t 8 (fun fs => zlg fs 10 (fun n => zaveq n (0, 0, 0) && k (0, 1, 1) (999999, h.2) (c + 8) (s + 100)))))))))))
  | _ => false
def zKr1 : ZKR := fun r _ _ => match r with
  | some a => zaveq a (0, 1, 1)
  | none => false
def zE0 (u : Int) : AE := [(-2147483648, 2147483647), (-2147483648, 2147483647), (-2147483648, 2147483647), (-2147483648, 2147483647), (-2147483648, 2147483647), (-2147483648, 2147483647), (0, 6), (u, u)]
def zgo (u : Int) (n : Nat) : Bool := zrun zlook1 n zp_277 7 10 422 600002 7302232 zKr1 zp_277 0 [(0, (5, 0, 0))] [] (0, []) (zE0 u) 0 0
set_option maxRecDepth 100000 in
theorem zgo_0 : zgo 0 100000 = true := by decide +kernel
set_option maxRecDepth 100000 in
theorem zgo_1 : zgo 1 100000 = true := by decide +kernel
set_option maxRecDepth 100000 in
theorem zgo_2 : zgo 2 100000 = true := by decide +kernel
set_option maxRecDepth 100000 in
theorem zgo_3 : zgo 3 100000 = true := by decide +kernel
set_option maxRecDepth 100000 in
theorem zgo_4 : zgo 4 100000 = true := by decide +kernel
set_option maxRecDepth 100000 in
theorem zgo_5 : zgo 5 100000 = true := by decide +kernel
set_option maxRecDepth 100000 in
theorem zgo_6 : zgo 6 100000 = true := by decide +kernel
set_option maxRecDepth 100000 in
theorem zgo_7 : zgo 7 100000 = true := by decide +kernel
set_option maxRecDepth 100000 in
theorem zgo_8 : zgo 8 100000 = true := by decide +kernel
set_option maxRecDepth 100000 in
theorem zgo_9 : zgo 9 100000 = true := by decide +kernel
set_option maxRecDepth 100000 in
theorem zgo_10 : zgo 10 100000 = true := by decide +kernel
set_option maxRecDepth 100000 in
theorem zgo_11 : zgo 11 100000 = true := by decide +kernel
set_option maxRecDepth 100000 in
theorem zgo_12 : zgo 12 100000 = true := by decide +kernel
set_option maxRecDepth 100000 in
theorem zgo_13 : zgo 13 100000 = true := by decide +kernel
set_option maxRecDepth 100000 in
theorem zgo_14 : zgo 14 100000 = true := by decide +kernel
set_option maxRecDepth 100000 in
theorem zgo_15 : zgo 15 100000 = true := by decide +kernel
set_option maxRecDepth 100000 in
theorem zgo_16 : zgo 16 100000 = true := by decide +kernel
set_option maxRecDepth 100000 in
theorem zgo_17 : zgo 17 100000 = true := by decide +kernel
set_option maxRecDepth 100000 in
theorem zgo_18 : zgo 18 100000 = true := by decide +kernel
set_option maxRecDepth 100000 in
theorem zgo_19 : zgo 19 100000 = true := by decide +kernel
set_option maxRecDepth 100000 in
theorem zgo_20 : zgo 20 100000 = true := by decide +kernel
set_option maxRecDepth 100000 in
theorem zgo_21 : zgo 21 100000 = true := by decide +kernel
set_option maxRecDepth 100000 in
theorem zgo_22 : zgo 22 100000 = true := by decide +kernel
set_option maxRecDepth 100000 in
theorem zgo_23 : zgo 23 100000 = true := by decide +kernel
set_option maxRecDepth 100000 in
theorem zgo_24 : zgo 24 100000 = true := by decide +kernel
set_option maxRecDepth 100000 in
theorem zgo_25 : zgo 25 100000 = true := by decide +kernel
set_option maxRecDepth 100000 in
theorem zgo_26 : zgo 26 100000 = true := by decide +kernel
set_option maxRecDepth 100000 in
theorem zgo_27 : zgo 27 100000 = true := by decide +kernel
set_option maxRecDepth 100000 in
theorem zgo_28 : zgo 28 100000 = true := by decide +kernel
set_option maxRecDepth 100000 in
theorem zgo_29 : zgo 29 100000 = true := by decide +kernel
set_option maxRecDepth 100000 in
theorem zgo_30 : zgo 30 100000 = true := by decide +kernel
set_option maxRecDepth 100000 in
theorem zgo_31 : zgo 31 100000 = true := by decide +kernel
