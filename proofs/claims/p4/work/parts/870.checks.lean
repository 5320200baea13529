/-! the printed program is the code's own: each method, checked by the kernel -/
set_option maxRecDepth 20000 in
theorem zk_0 : zck 0 = true := by decide +kernel
set_option maxRecDepth 20000 in
theorem zk_1 : zck 1 = true := by decide +kernel
set_option maxRecDepth 20000 in
theorem zk_2 : zck 2 = true := by decide +kernel
set_option maxRecDepth 20000 in
theorem zk_3 : zck 3 = true := by decide +kernel
set_option maxRecDepth 20000 in
theorem zk_4 : zck 4 = true := by decide +kernel
set_option maxRecDepth 20000 in
theorem zk_5 : zck 5 = true := by decide +kernel
set_option maxRecDepth 20000 in
theorem zk_6 : zck 6 = true := by decide +kernel
set_option maxRecDepth 20000 in
theorem zk_7 : zck 7 = true := by decide +kernel
set_option maxRecDepth 20000 in
theorem zk_8 : zck 8 = true := by decide +kernel
set_option maxRecDepth 20000 in
theorem zk_9 : zck 9 = true := by decide +kernel
set_option maxRecDepth 20000 in
theorem zk_10 : zck 10 = true := by decide +kernel
set_option maxRecDepth 20000 in
theorem zk_11 : zck 11 = true := by decide +kernel
set_option maxRecDepth 20000 in
theorem zk_12 : zck 12 = true := by decide +kernel
set_option maxRecDepth 20000 in
theorem zk_13 : zck 13 = true := by decide +kernel
set_option maxRecDepth 20000 in
theorem zk_14 : zck 14 = true := by decide +kernel
set_option maxRecDepth 20000 in
theorem zk_15 : zck 15 = true := by decide +kernel
set_option maxRecDepth 20000 in
theorem zk_16 : zck 16 = true := by decide +kernel
set_option maxRecDepth 20000 in
theorem zk_17 : zck 17 = true := by decide +kernel
set_option maxRecDepth 20000 in
theorem zk_18 : zck 18 = true := by decide +kernel
set_option maxRecDepth 20000 in
theorem zk_19 : zck 19 = true := by decide +kernel
set_option maxRecDepth 20000 in
theorem zk_20 : zck 20 = true := by decide +kernel
set_option maxRecDepth 20000 in
theorem zk_21 : zck 21 = true := by decide +kernel
set_option maxRecDepth 20000 in
theorem zk_22 : zck 22 = true := by decide +kernel
set_option maxRecDepth 20000 in
theorem zk_23 : zck 23 = true := by decide +kernel
set_option maxRecDepth 20000 in
theorem zk_24 : zck 24 = true := by decide +kernel
set_option maxRecDepth 20000 in
theorem zk_25 : zck 25 = true := by decide +kernel
set_option maxRecDepth 20000 in
theorem zk_26 : zck 26 = true := by decide +kernel
set_option maxRecDepth 20000 in
theorem zk_27 : zck 27 = true := by decide +kernel
set_option maxRecDepth 20000 in
theorem zk_28 : zck 28 = true := by decide +kernel
set_option maxRecDepth 20000 in
theorem zk_29 : zck 29 = true := by decide +kernel
set_option maxRecDepth 20000 in
theorem zk_30 : zck 30 = true := by decide +kernel
set_option maxRecDepth 20000 in
theorem zk_31 : zck 31 = true := by decide +kernel
set_option maxRecDepth 20000 in
theorem zk_32 : zck 32 = true := by decide +kernel
set_option maxRecDepth 20000 in
theorem zk_33 : zck 33 = true := by decide +kernel
set_option maxRecDepth 20000 in
theorem zk_34 : zck 34 = true := by decide +kernel
set_option maxRecDepth 20000 in
theorem zk_35 : zck 35 = true := by decide +kernel
set_option maxRecDepth 20000 in
theorem zk_36 : zck 36 = true := by decide +kernel
set_option maxRecDepth 20000 in
theorem zk_37 : zck 37 = true := by decide +kernel
set_option maxRecDepth 20000 in
theorem zk_38 : zck 38 = true := by decide +kernel
set_option maxRecDepth 20000 in
theorem zk_39 : zck 39 = true := by decide +kernel
set_option maxRecDepth 20000 in
theorem zk_40 : zck 40 = true := by decide +kernel
set_option maxRecDepth 20000 in
theorem zk_41 : zck 41 = true := by decide +kernel
set_option maxRecDepth 20000 in
theorem zk_42 : zck 42 = true := by decide +kernel
set_option maxRecDepth 20000 in
theorem zk_43 : zck 43 = true := by decide +kernel
set_option maxRecDepth 20000 in
theorem zk_44 : zck 44 = true := by decide +kernel
set_option maxRecDepth 20000 in
theorem zk_45 : zck 45 = true := by decide +kernel
set_option maxRecDepth 20000 in
theorem zk_46 : zck 46 = true := by decide +kernel
set_option maxRecDepth 20000 in
theorem zk_47 : zck 47 = true := by decide +kernel
set_option maxRecDepth 20000 in
theorem zk_48 : zck 48 = true := by decide +kernel
set_option maxRecDepth 20000 in
theorem zk_49 : zck 49 = true := by decide +kernel
set_option maxRecDepth 20000 in
theorem zk_50 : zck 50 = true := by decide +kernel
set_option maxRecDepth 20000 in
theorem zk_51 : zck 51 = true := by decide +kernel
set_option maxRecDepth 20000 in
theorem zk_52 : zck 52 = true := by decide +kernel
set_option maxRecDepth 20000 in
theorem zk_53 : zck 53 = true := by decide +kernel
set_option maxRecDepth 20000 in
theorem zk_54 : zck 54 = true := by decide +kernel
set_option maxRecDepth 20000 in
theorem zk_55 : zck 55 = true := by decide +kernel
set_option maxRecDepth 20000 in
theorem zk_56 : zck 56 = true := by decide +kernel
set_option maxRecDepth 20000 in
theorem zk_57 : zck 57 = true := by decide +kernel
set_option maxRecDepth 20000 in
theorem zk_58 : zck 58 = true := by decide +kernel
set_option maxRecDepth 20000 in
theorem zk_59 : zck 59 = true := by decide +kernel
set_option maxRecDepth 20000 in
theorem zk_60 : zck 60 = true := by decide +kernel
set_option maxRecDepth 20000 in
theorem zk_61 : zck 61 = true := by decide +kernel
set_option maxRecDepth 20000 in
theorem zk_62 : zck 62 = true := by decide +kernel
set_option maxRecDepth 20000 in
theorem zk_63 : zck 63 = true := by decide +kernel
set_option maxRecDepth 20000 in
theorem zk_64 : zck 64 = true := by decide +kernel
set_option maxRecDepth 20000 in
theorem zk_65 : zck 65 = true := by decide +kernel
set_option maxRecDepth 20000 in
theorem zk_66 : zck 66 = true := by decide +kernel
set_option maxRecDepth 20000 in
theorem zk_67 : zck 67 = true := by decide +kernel
set_option maxRecDepth 20000 in
theorem zk_68 : zck 68 = true := by decide +kernel
