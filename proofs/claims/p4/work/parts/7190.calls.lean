/-! printed by wip/p3/emitlaw3.py -/
set_option maxRecDepth 100000 in
theorem zlt_f0 : zlcC zlW1 [(218, zlPFA, (30786, [(2, (-10))])), (218, zlPFB, (30786, [(2, (-10))]))] zu_119 8 218 (215, zlPF0, (30788, [(2, (-10))])) = true := by decide +kernel
set_option maxRecDepth 100000 in
theorem zlt_gA : zlcC zlW2 [(253, zlP253, (30784, [(1, (-10))]))] zu_159 1 253 (250, zlPGA, (30785, [(2, (-10))])) = true := by decide +kernel
set_option maxRecDepth 100000 in
theorem zlt_gB : zlcC zlW2 [(253, zlP253, (30784, [(1, (-10))]))] zu_159 1 253 (250, zlPGB, (30785, [(2, (-10))])) = true := by decide +kernel
set_option maxRecDepth 100000 in
theorem zlt_t0 : zlcC zlW4 [(267, zlPVA, (30786, [(2, (-10))])), (267, zlPVB, (30786, [(2, (-10))])), (267, zlPVC, (30786, [(2, (-10))])), (267, zlPVD, (30786, [(2, (-10))]))] zu_121 4 267 (264, zlPT, (30788, [(2, (-10))])) = true := by decide +kernel
set_option maxRecDepth 100000 in
theorem zlt_uA : zlcC zlW3 [(278, zlP277, (30784, [(1, (-10))]))] zu_182 1 278 (275, zlPUA, (30785, [(2, (-10))])) = true := by decide +kernel
set_option maxRecDepth 100000 in
theorem zlt_uB : zlcC zlW3 [(278, zlP277, (30784, [(1, (-10))]))] zu_182 1 278 (275, zlPUB, (30785, [(2, (-10))])) = true := by decide +kernel
set_option maxRecDepth 100000 in
theorem zlt_uC : zlcC zlW3 [(278, zlP277, (30784, [(1, (-10))]))] zu_182 1 278 (275, zlPUC, (30785, [(2, (-10))])) = true := by decide +kernel
set_option maxRecDepth 100000 in
theorem zlt_e : zlcW zlW [(23, zlP23, (30789, [(2, (-10))]))] [] 2 (1227, zlPC, (30784, [(2, (-10))])) 100000 = true := by decide +kernel
