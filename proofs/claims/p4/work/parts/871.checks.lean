/-! the printed program is the code's own: each method, checked by the kernel -/
set_option maxRecDepth 20000 in
theorem zk_69 : zck 69 = true := by decide +kernel
set_option maxRecDepth 20000 in
theorem zk_70 : zck 70 = true := by decide +kernel
set_option maxRecDepth 20000 in
theorem zk_71 : zck 71 = true := by decide +kernel
set_option maxRecDepth 20000 in
theorem zk_72 : zck 72 = true := by decide +kernel
set_option maxRecDepth 20000 in
theorem zk_73 : zck 73 = true := by decide +kernel
set_option maxRecDepth 20000 in
theorem zk_74 : zck 74 = true := by decide +kernel
set_option maxRecDepth 20000 in
theorem zk_75 : zck 75 = true := by decide +kernel
set_option maxRecDepth 20000 in
theorem zk_76 : zck 76 = true := by decide +kernel
set_option maxRecDepth 20000 in
theorem zk_77 : zck 77 = true := by decide +kernel
set_option maxRecDepth 20000 in
theorem zk_78 : zck 78 = true := by decide +kernel
set_option maxRecDepth 20000 in
theorem zk_79 : zck 79 = true := by decide +kernel
set_option maxRecDepth 20000 in
theorem zk_80 : zck 80 = true := by decide +kernel
set_option maxRecDepth 20000 in
theorem zk_81 : zck 81 = true := by decide +kernel
set_option maxRecDepth 20000 in
theorem zk_82 : zck 82 = true := by decide +kernel
set_option maxRecDepth 20000 in
theorem zk_83 : zck 83 = true := by decide +kernel
set_option maxRecDepth 20000 in
theorem zk_84 : zck 84 = true := by decide +kernel
set_option maxRecDepth 20000 in
theorem zk_85 : zck 85 = true := by decide +kernel
set_option maxRecDepth 20000 in
theorem zk_86 : zck 86 = true := by decide +kernel
set_option maxRecDepth 20000 in
theorem zk_87 : zck 87 = true := by decide +kernel
set_option maxRecDepth 20000 in
theorem zk_88 : zck 88 = true := by decide +kernel
set_option maxRecDepth 20000 in
theorem zk_89 : zck 89 = true := by decide +kernel
set_option maxRecDepth 20000 in
theorem zk_90 : zck 90 = true := by decide +kernel
set_option maxRecDepth 20000 in
theorem zk_91 : zck 91 = true := by decide +kernel
set_option maxRecDepth 20000 in
theorem zk_92 : zck 92 = true := by decide +kernel
set_option maxRecDepth 20000 in
theorem zk_93 : zck 93 = true := by decide +kernel
set_option maxRecDepth 20000 in
theorem zk_94 : zck 94 = true := by decide +kernel
set_option maxRecDepth 20000 in
theorem zk_95 : zck 95 = true := by decide +kernel
set_option maxRecDepth 20000 in
theorem zk_96 : zck 96 = true := by decide +kernel
set_option maxRecDepth 20000 in
theorem zk_97 : zck 97 = true := by decide +kernel
set_option maxRecDepth 20000 in
theorem zk_98 : zck 98 = true := by decide +kernel
set_option maxRecDepth 20000 in
theorem zk_99 : zck 99 = true := by decide +kernel
set_option maxRecDepth 20000 in
theorem zk_100 : zck 100 = true := by decide +kernel
set_option maxRecDepth 20000 in
theorem zk_101 : zck 101 = true := by decide +kernel
set_option maxRecDepth 20000 in
theorem zk_102 : zck 102 = true := by decide +kernel
set_option maxRecDepth 20000 in
theorem zk_103 : zck 103 = true := by decide +kernel
set_option maxRecDepth 20000 in
theorem zk_104 : zck 104 = true := by decide +kernel
set_option maxRecDepth 20000 in
theorem zk_105 : zck 105 = true := by decide +kernel
set_option maxRecDepth 20000 in
theorem zk_106 : zck 106 = true := by decide +kernel
set_option maxRecDepth 20000 in
theorem zk_107 : zck 107 = true := by decide +kernel
set_option maxRecDepth 20000 in
theorem zk_108 : zck 108 = true := by decide +kernel
set_option maxRecDepth 20000 in
theorem zk_109 : zck 109 = true := by decide +kernel
set_option maxRecDepth 20000 in
theorem zk_110 : zck 110 = true := by decide +kernel
set_option maxRecDepth 20000 in
theorem zk_111 : zck 111 = true := by decide +kernel
set_option maxRecDepth 20000 in
theorem zk_112 : zck 112 = true := by decide +kernel
set_option maxRecDepth 20000 in
theorem zk_113 : zck 113 = true := by decide +kernel
set_option maxRecDepth 20000 in
theorem zk_114 : zck 114 = true := by decide +kernel
set_option maxRecDepth 20000 in
theorem zk_115 : zck 115 = true := by decide +kernel
set_option maxRecDepth 20000 in
theorem zk_116 : zck 116 = true := by decide +kernel
set_option maxRecDepth 20000 in
theorem zk_117 : zck 117 = true := by decide +kernel
set_option maxRecDepth 20000 in
theorem zk_118 : zck 118 = true := by decide +kernel
set_option maxRecDepth 20000 in
theorem zk_119 : zck 119 = true := by decide +kernel
set_option maxRecDepth 20000 in
theorem zk_120 : zck 120 = true := by decide +kernel
set_option maxRecDepth 20000 in
theorem zk_121 : zck 121 = true := by decide +kernel
set_option maxRecDepth 20000 in
theorem zk_122 : zck 122 = true := by decide +kernel
set_option maxRecDepth 20000 in
theorem zk_123 : zck 123 = true := by decide +kernel
set_option maxRecDepth 20000 in
theorem zk_124 : zck 124 = true := by decide +kernel
set_option maxRecDepth 20000 in
theorem zk_125 : zck 125 = true := by decide +kernel
set_option maxRecDepth 20000 in
theorem zk_126 : zck 126 = true := by decide +kernel
set_option maxRecDepth 20000 in
theorem zk_127 : zck 127 = true := by decide +kernel
set_option maxRecDepth 20000 in
theorem zk_128 : zck 128 = true := by decide +kernel
set_option maxRecDepth 20000 in
theorem zk_129 : zck 129 = true := by decide +kernel
set_option maxRecDepth 20000 in
theorem zk_130 : zck 130 = true := by decide +kernel
set_option maxRecDepth 20000 in
theorem zk_131 : zck 131 = true := by decide +kernel
set_option maxRecDepth 20000 in
theorem zk_132 : zck 132 = true := by decide +kernel
set_option maxRecDepth 20000 in
theorem zk_133 : zck 133 = true := by decide +kernel
set_option maxRecDepth 20000 in
theorem zk_134 : zck 134 = true := by decide +kernel
set_option maxRecDepth 20000 in
theorem zk_135 : zck 135 = true := by decide +kernel
set_option maxRecDepth 20000 in
theorem zk_136 : zck 136 = true := by decide +kernel
set_option maxRecDepth 20000 in
theorem zk_137 : zck 137 = true := by decide +kernel
