/-! all of them -/
theorem zj_0 {k : Nat} (h : 0 ≤ k) (hk : k < 12) : zck k = true := by
  rcases (show k = 0 ∨ k = 1 ∨ k = 2 ∨ k = 3 ∨ k = 4 ∨ k = 5 ∨ k = 6 ∨ k = 7 ∨ k = 8 ∨ k = 9 ∨ k = 10 ∨ k = 11 by omega) with rfl | rfl | rfl | rfl | rfl | rfl | rfl | rfl | rfl | rfl | rfl | rfl
  · exact zk_0
  · exact zk_1
  · exact zk_2
  · exact zk_3
  · exact zk_4
  · exact zk_5
  · exact zk_6
  · exact zk_7
  · exact zk_8
  · exact zk_9
  · exact zk_10
  · exact zk_11
set_option maxRecDepth 20000 in
theorem zti_0 {k : Nat} (h : 0 ≤ k) (hk : k < 12) : (zrw k).1 = zPs.getD k [] := by
  rcases (show k = 0 ∨ k = 1 ∨ k = 2 ∨ k = 3 ∨ k = 4 ∨ k = 5 ∨ k = 6 ∨ k = 7 ∨ k = 8 ∨ k = 9 ∨ k = 10 ∨ k = 11 by omega) with rfl | rfl | rfl | rfl | rfl | rfl | rfl | rfl | rfl | rfl | rfl | rfl <;> rfl
theorem zj_1 {k : Nat} (h : 12 ≤ k) (hk : k < 24) : zck k = true := by
  rcases (show k = 12 ∨ k = 13 ∨ k = 14 ∨ k = 15 ∨ k = 16 ∨ k = 17 ∨ k = 18 ∨ k = 19 ∨ k = 20 ∨ k = 21 ∨ k = 22 ∨ k = 23 by omega) with rfl | rfl | rfl | rfl | rfl | rfl | rfl | rfl | rfl | rfl | rfl | rfl
  · exact zk_12
  · exact zk_13
  · exact zk_14
  · exact zk_15
  · exact zk_16
  · exact zk_17
  · exact zk_18
  · exact zk_19
  · exact zk_20
  · exact zk_21
  · exact zk_22
  · exact zk_23
set_option maxRecDepth 20000 in
theorem zti_1 {k : Nat} (h : 12 ≤ k) (hk : k < 24) : (zrw k).1 = zPs.getD k [] := by
  rcases (show k = 12 ∨ k = 13 ∨ k = 14 ∨ k = 15 ∨ k = 16 ∨ k = 17 ∨ k = 18 ∨ k = 19 ∨ k = 20 ∨ k = 21 ∨ k = 22 ∨ k = 23 by omega) with rfl | rfl | rfl | rfl | rfl | rfl | rfl | rfl | rfl | rfl | rfl | rfl <;> rfl
theorem zj_2 {k : Nat} (h : 24 ≤ k) (hk : k < 36) : zck k = true := by
  rcases (show k = 24 ∨ k = 25 ∨ k = 26 ∨ k = 27 ∨ k = 28 ∨ k = 29 ∨ k = 30 ∨ k = 31 ∨ k = 32 ∨ k = 33 ∨ k = 34 ∨ k = 35 by omega) with rfl | rfl | rfl | rfl | rfl | rfl | rfl | rfl | rfl | rfl | rfl | rfl
  · exact zk_24
  · exact zk_25
  · exact zk_26
  · exact zk_27
  · exact zk_28
  · exact zk_29
  · exact zk_30
  · exact zk_31
  · exact zk_32
  · exact zk_33
  · exact zk_34
  · exact zk_35
set_option maxRecDepth 20000 in
theorem zti_2 {k : Nat} (h : 24 ≤ k) (hk : k < 36) : (zrw k).1 = zPs.getD k [] := by
  rcases (show k = 24 ∨ k = 25 ∨ k = 26 ∨ k = 27 ∨ k = 28 ∨ k = 29 ∨ k = 30 ∨ k = 31 ∨ k = 32 ∨ k = 33 ∨ k = 34 ∨ k = 35 by omega) with rfl | rfl | rfl | rfl | rfl | rfl | rfl | rfl | rfl | rfl | rfl | rfl <;> rfl
theorem zj_3 {k : Nat} (h : 36 ≤ k) (hk : k < 48) : zck k = true := by
  rcases (show k = 36 ∨ k = 37 ∨ k = 38 ∨ k = 39 ∨ k = 40 ∨ k = 41 ∨ k = 42 ∨ k = 43 ∨ k = 44 ∨ k = 45 ∨ k = 46 ∨ k = 47 by omega) with rfl | rfl | rfl | rfl | rfl | rfl | rfl | rfl | rfl | rfl | rfl | rfl
  · exact zk_36
  · exact zk_37
  · exact zk_38
  · exact zk_39
  · exact zk_40
  · exact zk_41
  · exact zk_42
  · exact zk_43
  · exact zk_44
  · exact zk_45
  · exact zk_46
  · exact zk_47
set_option maxRecDepth 20000 in
theorem zti_3 {k : Nat} (h : 36 ≤ k) (hk : k < 48) : (zrw k).1 = zPs.getD k [] := by
  rcases (show k = 36 ∨ k = 37 ∨ k = 38 ∨ k = 39 ∨ k = 40 ∨ k = 41 ∨ k = 42 ∨ k = 43 ∨ k = 44 ∨ k = 45 ∨ k = 46 ∨ k = 47 by omega) with rfl | rfl | rfl | rfl | rfl | rfl | rfl | rfl | rfl | rfl | rfl | rfl <;> rfl
theorem zj_4 {k : Nat} (h : 48 ≤ k) (hk : k < 60) : zck k = true := by
  rcases (show k = 48 ∨ k = 49 ∨ k = 50 ∨ k = 51 ∨ k = 52 ∨ k = 53 ∨ k = 54 ∨ k = 55 ∨ k = 56 ∨ k = 57 ∨ k = 58 ∨ k = 59 by omega) with rfl | rfl | rfl | rfl | rfl | rfl | rfl | rfl | rfl | rfl | rfl | rfl
  · exact zk_48
  · exact zk_49
  · exact zk_50
  · exact zk_51
  · exact zk_52
  · exact zk_53
  · exact zk_54
  · exact zk_55
  · exact zk_56
  · exact zk_57
  · exact zk_58
  · exact zk_59
set_option maxRecDepth 20000 in
theorem zti_4 {k : Nat} (h : 48 ≤ k) (hk : k < 60) : (zrw k).1 = zPs.getD k [] := by
  rcases (show k = 48 ∨ k = 49 ∨ k = 50 ∨ k = 51 ∨ k = 52 ∨ k = 53 ∨ k = 54 ∨ k = 55 ∨ k = 56 ∨ k = 57 ∨ k = 58 ∨ k = 59 by omega) with rfl | rfl | rfl | rfl | rfl | rfl | rfl | rfl | rfl | rfl | rfl | rfl <;> rfl
theorem zj_5 {k : Nat} (h : 60 ≤ k) (hk : k < 72) : zck k = true := by
  rcases (show k = 60 ∨ k = 61 ∨ k = 62 ∨ k = 63 ∨ k = 64 ∨ k = 65 ∨ k = 66 ∨ k = 67 ∨ k = 68 ∨ k = 69 ∨ k = 70 ∨ k = 71 by omega) with rfl | rfl | rfl | rfl | rfl | rfl | rfl | rfl | rfl | rfl | rfl | rfl
  · exact zk_60
  · exact zk_61
  · exact zk_62
  · exact zk_63
  · exact zk_64
  · exact zk_65
  · exact zk_66
  · exact zk_67
  · exact zk_68
  · exact zk_69
  · exact zk_70
  · exact zk_71
set_option maxRecDepth 20000 in
theorem zti_5 {k : Nat} (h : 60 ≤ k) (hk : k < 72) : (zrw k).1 = zPs.getD k [] := by
  rcases (show k = 60 ∨ k = 61 ∨ k = 62 ∨ k = 63 ∨ k = 64 ∨ k = 65 ∨ k = 66 ∨ k = 67 ∨ k = 68 ∨ k = 69 ∨ k = 70 ∨ k = 71 by omega) with rfl | rfl | rfl | rfl | rfl | rfl | rfl | rfl | rfl | rfl | rfl | rfl <;> rfl
theorem zj_6 {k : Nat} (h : 72 ≤ k) (hk : k < 84) : zck k = true := by
  rcases (show k = 72 ∨ k = 73 ∨ k = 74 ∨ k = 75 ∨ k = 76 ∨ k = 77 ∨ k = 78 ∨ k = 79 ∨ k = 80 ∨ k = 81 ∨ k = 82 ∨ k = 83 by omega) with rfl | rfl | rfl | rfl | rfl | rfl | rfl | rfl | rfl | rfl | rfl | rfl
  · exact zk_72
  · exact zk_73
  · exact zk_74
  · exact zk_75
  · exact zk_76
  · exact zk_77
  · exact zk_78
  · exact zk_79
  · exact zk_80
  · exact zk_81
  · exact zk_82
  · exact zk_83
set_option maxRecDepth 20000 in
theorem zti_6 {k : Nat} (h : 72 ≤ k) (hk : k < 84) : (zrw k).1 = zPs.getD k [] := by
  rcases (show k = 72 ∨ k = 73 ∨ k = 74 ∨ k = 75 ∨ k = 76 ∨ k = 77 ∨ k = 78 ∨ k = 79 ∨ k = 80 ∨ k = 81 ∨ k = 82 ∨ k = 83 by omega) with rfl | rfl | rfl | rfl | rfl | rfl | rfl | rfl | rfl | rfl | rfl | rfl <;> rfl
theorem zj_7 {k : Nat} (h : 84 ≤ k) (hk : k < 96) : zck k = true := by
  rcases (show k = 84 ∨ k = 85 ∨ k = 86 ∨ k = 87 ∨ k = 88 ∨ k = 89 ∨ k = 90 ∨ k = 91 ∨ k = 92 ∨ k = 93 ∨ k = 94 ∨ k = 95 by omega) with rfl | rfl | rfl | rfl | rfl | rfl | rfl | rfl | rfl | rfl | rfl | rfl
  · exact zk_84
  · exact zk_85
  · exact zk_86
  · exact zk_87
  · exact zk_88
  · exact zk_89
  · exact zk_90
  · exact zk_91
  · exact zk_92
  · exact zk_93
  · exact zk_94
  · exact zk_95
set_option maxRecDepth 20000 in
theorem zti_7 {k : Nat} (h : 84 ≤ k) (hk : k < 96) : (zrw k).1 = zPs.getD k [] := by
  rcases (show k = 84 ∨ k = 85 ∨ k = 86 ∨ k = 87 ∨ k = 88 ∨ k = 89 ∨ k = 90 ∨ k = 91 ∨ k = 92 ∨ k = 93 ∨ k = 94 ∨ k = 95 by omega) with rfl | rfl | rfl | rfl | rfl | rfl | rfl | rfl | rfl | rfl | rfl | rfl <;> rfl
theorem zj_8 {k : Nat} (h : 96 ≤ k) (hk : k < 108) : zck k = true := by
  rcases (show k = 96 ∨ k = 97 ∨ k = 98 ∨ k = 99 ∨ k = 100 ∨ k = 101 ∨ k = 102 ∨ k = 103 ∨ k = 104 ∨ k = 105 ∨ k = 106 ∨ k = 107 by omega) with rfl | rfl | rfl | rfl | rfl | rfl | rfl | rfl | rfl | rfl | rfl | rfl
  · exact zk_96
  · exact zk_97
  · exact zk_98
  · exact zk_99
  · exact zk_100
  · exact zk_101
  · exact zk_102
  · exact zk_103
  · exact zk_104
  · exact zk_105
  · exact zk_106
  · exact zk_107
set_option maxRecDepth 20000 in
theorem zti_8 {k : Nat} (h : 96 ≤ k) (hk : k < 108) : (zrw k).1 = zPs.getD k [] := by
  rcases (show k = 96 ∨ k = 97 ∨ k = 98 ∨ k = 99 ∨ k = 100 ∨ k = 101 ∨ k = 102 ∨ k = 103 ∨ k = 104 ∨ k = 105 ∨ k = 106 ∨ k = 107 by omega) with rfl | rfl | rfl | rfl | rfl | rfl | rfl | rfl | rfl | rfl | rfl | rfl <;> rfl
theorem zj_9 {k : Nat} (h : 108 ≤ k) (hk : k < 120) : zck k = true := by
  rcases (show k = 108 ∨ k = 109 ∨ k = 110 ∨ k = 111 ∨ k = 112 ∨ k = 113 ∨ k = 114 ∨ k = 115 ∨ k = 116 ∨ k = 117 ∨ k = 118 ∨ k = 119 by omega) with rfl | rfl | rfl | rfl | rfl | rfl | rfl | rfl | rfl | rfl | rfl | rfl
  · exact zk_108
  · exact zk_109
  · exact zk_110
  · exact zk_111
  · exact zk_112
  · exact zk_113
  · exact zk_114
  · exact zk_115
  · exact zk_116
  · exact zk_117
  · exact zk_118
  · exact zk_119
set_option maxRecDepth 20000 in
theorem zti_9 {k : Nat} (h : 108 ≤ k) (hk : k < 120) : (zrw k).1 = zPs.getD k [] := by
  rcases (show k = 108 ∨ k = 109 ∨ k = 110 ∨ k = 111 ∨ k = 112 ∨ k = 113 ∨ k = 114 ∨ k = 115 ∨ k = 116 ∨ k = 117 ∨ k = 118 ∨ k = 119 by omega) with rfl | rfl | rfl | rfl | rfl | rfl | rfl | rfl | rfl | rfl | rfl | rfl <;> rfl
theorem zj_10 {k : Nat} (h : 120 ≤ k) (hk : k < 132) : zck k = true := by
  rcases (show k = 120 ∨ k = 121 ∨ k = 122 ∨ k = 123 ∨ k = 124 ∨ k = 125 ∨ k = 126 ∨ k = 127 ∨ k = 128 ∨ k = 129 ∨ k = 130 ∨ k = 131 by omega) with rfl | rfl | rfl | rfl | rfl | rfl | rfl | rfl | rfl | rfl | rfl | rfl
  · exact zk_120
  · exact zk_121
  · exact zk_122
  · exact zk_123
  · exact zk_124
  · exact zk_125
  · exact zk_126
  · exact zk_127
  · exact zk_128
  · exact zk_129
  · exact zk_130
  · exact zk_131
set_option maxRecDepth 20000 in
theorem zti_10 {k : Nat} (h : 120 ≤ k) (hk : k < 132) : (zrw k).1 = zPs.getD k [] := by
  rcases (show k = 120 ∨ k = 121 ∨ k = 122 ∨ k = 123 ∨ k = 124 ∨ k = 125 ∨ k = 126 ∨ k = 127 ∨ k = 128 ∨ k = 129 ∨ k = 130 ∨ k = 131 by omega) with rfl | rfl | rfl | rfl | rfl | rfl | rfl | rfl | rfl | rfl | rfl | rfl <;> rfl
theorem zj_11 {k : Nat} (h : 132 ≤ k) (hk : k < 144) : zck k = true := by
  rcases (show k = 132 ∨ k = 133 ∨ k = 134 ∨ k = 135 ∨ k = 136 ∨ k = 137 ∨ k = 138 ∨ k = 139 ∨ k = 140 ∨ k = 141 ∨ k = 142 ∨ k = 143 by omega) with rfl | rfl | rfl | rfl | rfl | rfl | rfl | rfl | rfl | rfl | rfl | rfl
  · exact zk_132
  · exact zk_133
  · exact zk_134
  · exact zk_135
  · exact zk_136
  · exact zk_137
  · exact zk_138
  · exact zk_139
  · exact zk_140
  · exact zk_141
  · exact zk_142
  · exact zk_143
set_option maxRecDepth 20000 in
theorem zti_11 {k : Nat} (h : 132 ≤ k) (hk : k < 144) : (zrw k).1 = zPs.getD k [] := by
  rcases (show k = 132 ∨ k = 133 ∨ k = 134 ∨ k = 135 ∨ k = 136 ∨ k = 137 ∨ k = 138 ∨ k = 139 ∨ k = 140 ∨ k = 141 ∨ k = 142 ∨ k = 143 by omega) with rfl | rfl | rfl | rfl | rfl | rfl | rfl | rfl | rfl | rfl | rfl | rfl <;> rfl
theorem zj_12 {k : Nat} (h : 144 ≤ k) (hk : k < 156) : zck k = true := by
  rcases (show k = 144 ∨ k = 145 ∨ k = 146 ∨ k = 147 ∨ k = 148 ∨ k = 149 ∨ k = 150 ∨ k = 151 ∨ k = 152 ∨ k = 153 ∨ k = 154 ∨ k = 155 by omega) with rfl | rfl | rfl | rfl | rfl | rfl | rfl | rfl | rfl | rfl | rfl | rfl
  · exact zk_144
  · exact zk_145
  · exact zk_146
  · exact zk_147
  · exact zk_148
  · exact zk_149
  · exact zk_150
  · exact zk_151
  · exact zk_152
  · exact zk_153
  · exact zk_154
  · exact zk_155
set_option maxRecDepth 20000 in
theorem zti_12 {k : Nat} (h : 144 ≤ k) (hk : k < 156) : (zrw k).1 = zPs.getD k [] := by
  rcases (show k = 144 ∨ k = 145 ∨ k = 146 ∨ k = 147 ∨ k = 148 ∨ k = 149 ∨ k = 150 ∨ k = 151 ∨ k = 152 ∨ k = 153 ∨ k = 154 ∨ k = 155 by omega) with rfl | rfl | rfl | rfl | rfl | rfl | rfl | rfl | rfl | rfl | rfl | rfl <;> rfl
theorem zj_13 {k : Nat} (h : 156 ≤ k) (hk : k < 168) : zck k = true := by
  rcases (show k = 156 ∨ k = 157 ∨ k = 158 ∨ k = 159 ∨ k = 160 ∨ k = 161 ∨ k = 162 ∨ k = 163 ∨ k = 164 ∨ k = 165 ∨ k = 166 ∨ k = 167 by omega) with rfl | rfl | rfl | rfl | rfl | rfl | rfl | rfl | rfl | rfl | rfl | rfl
  · exact zk_156
  · exact zk_157
  · exact zk_158
  · exact zk_159
  · exact zk_160
  · exact zk_161
  · exact zk_162
  · exact zk_163
  · exact zk_164
  · exact zk_165
  · exact zk_166
  · exact zk_167
set_option maxRecDepth 20000 in
theorem zti_13 {k : Nat} (h : 156 ≤ k) (hk : k < 168) : (zrw k).1 = zPs.getD k [] := by
  rcases (show k = 156 ∨ k = 157 ∨ k = 158 ∨ k = 159 ∨ k = 160 ∨ k = 161 ∨ k = 162 ∨ k = 163 ∨ k = 164 ∨ k = 165 ∨ k = 166 ∨ k = 167 by omega) with rfl | rfl | rfl | rfl | rfl | rfl | rfl | rfl | rfl | rfl | rfl | rfl <;> rfl
theorem zj_14 {k : Nat} (h : 168 ≤ k) (hk : k < 180) : zck k = true := by
  rcases (show k = 168 ∨ k = 169 ∨ k = 170 ∨ k = 171 ∨ k = 172 ∨ k = 173 ∨ k = 174 ∨ k = 175 ∨ k = 176 ∨ k = 177 ∨ k = 178 ∨ k = 179 by omega) with rfl | rfl | rfl | rfl | rfl | rfl | rfl | rfl | rfl | rfl | rfl | rfl
  · exact zk_168
  · exact zk_169
  · exact zk_170
  · exact zk_171
  · exact zk_172
  · exact zk_173
  · exact zk_174
  · exact zk_175
  · exact zk_176
  · exact zk_177
  · exact zk_178
  · exact zk_179
set_option maxRecDepth 20000 in
theorem zti_14 {k : Nat} (h : 168 ≤ k) (hk : k < 180) : (zrw k).1 = zPs.getD k [] := by
  rcases (show k = 168 ∨ k = 169 ∨ k = 170 ∨ k = 171 ∨ k = 172 ∨ k = 173 ∨ k = 174 ∨ k = 175 ∨ k = 176 ∨ k = 177 ∨ k = 178 ∨ k = 179 by omega) with rfl | rfl | rfl | rfl | rfl | rfl | rfl | rfl | rfl | rfl | rfl | rfl <;> rfl
theorem zj_15 {k : Nat} (h : 180 ≤ k) (hk : k < 192) : zck k = true := by
  rcases (show k = 180 ∨ k = 181 ∨ k = 182 ∨ k = 183 ∨ k = 184 ∨ k = 185 ∨ k = 186 ∨ k = 187 ∨ k = 188 ∨ k = 189 ∨ k = 190 ∨ k = 191 by omega) with rfl | rfl | rfl | rfl | rfl | rfl | rfl | rfl | rfl | rfl | rfl | rfl
  · exact zk_180
  · exact zk_181
  · exact zk_182
  · exact zk_183
  · exact zk_184
  · exact zk_185
  · exact zk_186
  · exact zk_187
  · exact zk_188
  · exact zk_189
  · exact zk_190
  · exact zk_191
set_option maxRecDepth 20000 in
theorem zti_15 {k : Nat} (h : 180 ≤ k) (hk : k < 192) : (zrw k).1 = zPs.getD k [] := by
  rcases (show k = 180 ∨ k = 181 ∨ k = 182 ∨ k = 183 ∨ k = 184 ∨ k = 185 ∨ k = 186 ∨ k = 187 ∨ k = 188 ∨ k = 189 ∨ k = 190 ∨ k = 191 by omega) with rfl | rfl | rfl | rfl | rfl | rfl | rfl | rfl | rfl | rfl | rfl | rfl <;> rfl
theorem zj_16 {k : Nat} (h : 192 ≤ k) (hk : k < 204) : zck k = true := by
  rcases (show k = 192 ∨ k = 193 ∨ k = 194 ∨ k = 195 ∨ k = 196 ∨ k = 197 ∨ k = 198 ∨ k = 199 ∨ k = 200 ∨ k = 201 ∨ k = 202 ∨ k = 203 by omega) with rfl | rfl | rfl | rfl | rfl | rfl | rfl | rfl | rfl | rfl | rfl | rfl
  · exact zk_192
  · exact zk_193
  · exact zk_194
  · exact zk_195
  · exact zk_196
  · exact zk_197
  · exact zk_198
  · exact zk_199
  · exact zk_200
  · exact zk_201
  · exact zk_202
  · exact zk_203
set_option maxRecDepth 20000 in
theorem zti_16 {k : Nat} (h : 192 ≤ k) (hk : k < 204) : (zrw k).1 = zPs.getD k [] := by
  rcases (show k = 192 ∨ k = 193 ∨ k = 194 ∨ k = 195 ∨ k = 196 ∨ k = 197 ∨ k = 198 ∨ k = 199 ∨ k = 200 ∨ k = 201 ∨ k = 202 ∨ k = 203 by omega) with rfl | rfl | rfl | rfl | rfl | rfl | rfl | rfl | rfl | rfl | rfl | rfl <;> rfl
theorem zj_17 {k : Nat} (h : 204 ≤ k) (hk : k < 216) : zck k = true := by
  rcases (show k = 204 ∨ k = 205 ∨ k = 206 ∨ k = 207 ∨ k = 208 ∨ k = 209 ∨ k = 210 ∨ k = 211 ∨ k = 212 ∨ k = 213 ∨ k = 214 ∨ k = 215 by omega) with rfl | rfl | rfl | rfl | rfl | rfl | rfl | rfl | rfl | rfl | rfl | rfl
  · exact zk_204
  · exact zk_205
  · exact zk_206
  · exact zk_207
  · exact zk_208
  · exact zk_209
  · exact zk_210
  · exact zk_211
  · exact zk_212
  · exact zk_213
  · exact zk_214
  · exact zk_215
set_option maxRecDepth 20000 in
theorem zti_17 {k : Nat} (h : 204 ≤ k) (hk : k < 216) : (zrw k).1 = zPs.getD k [] := by
  rcases (show k = 204 ∨ k = 205 ∨ k = 206 ∨ k = 207 ∨ k = 208 ∨ k = 209 ∨ k = 210 ∨ k = 211 ∨ k = 212 ∨ k = 213 ∨ k = 214 ∨ k = 215 by omega) with rfl | rfl | rfl | rfl | rfl | rfl | rfl | rfl | rfl | rfl | rfl | rfl <;> rfl
theorem zj_18 {k : Nat} (h : 216 ≤ k) (hk : k < 228) : zck k = true := by
  rcases (show k = 216 ∨ k = 217 ∨ k = 218 ∨ k = 219 ∨ k = 220 ∨ k = 221 ∨ k = 222 ∨ k = 223 ∨ k = 224 ∨ k = 225 ∨ k = 226 ∨ k = 227 by omega) with rfl | rfl | rfl | rfl | rfl | rfl | rfl | rfl | rfl | rfl | rfl | rfl
  · exact zk_216
  · exact zk_217
  · exact zk_218
  · exact zk_219
  · exact zk_220
  · exact zk_221
  · exact zk_222
  · exact zk_223
  · exact zk_224
  · exact zk_225
  · exact zk_226
  · exact zk_227
set_option maxRecDepth 20000 in
theorem zti_18 {k : Nat} (h : 216 ≤ k) (hk : k < 228) : (zrw k).1 = zPs.getD k [] := by
  rcases (show k = 216 ∨ k = 217 ∨ k = 218 ∨ k = 219 ∨ k = 220 ∨ k = 221 ∨ k = 222 ∨ k = 223 ∨ k = 224 ∨ k = 225 ∨ k = 226 ∨ k = 227 by omega) with rfl | rfl | rfl | rfl | rfl | rfl | rfl | rfl | rfl | rfl | rfl | rfl <;> rfl
theorem zj_19 {k : Nat} (h : 228 ≤ k) (hk : k < 240) : zck k = true := by
  rcases (show k = 228 ∨ k = 229 ∨ k = 230 ∨ k = 231 ∨ k = 232 ∨ k = 233 ∨ k = 234 ∨ k = 235 ∨ k = 236 ∨ k = 237 ∨ k = 238 ∨ k = 239 by omega) with rfl | rfl | rfl | rfl | rfl | rfl | rfl | rfl | rfl | rfl | rfl | rfl
  · exact zk_228
  · exact zk_229
  · exact zk_230
  · exact zk_231
  · exact zk_232
  · exact zk_233
  · exact zk_234
  · exact zk_235
  · exact zk_236
  · exact zk_237
  · exact zk_238
  · exact zk_239
set_option maxRecDepth 20000 in
theorem zti_19 {k : Nat} (h : 228 ≤ k) (hk : k < 240) : (zrw k).1 = zPs.getD k [] := by
  rcases (show k = 228 ∨ k = 229 ∨ k = 230 ∨ k = 231 ∨ k = 232 ∨ k = 233 ∨ k = 234 ∨ k = 235 ∨ k = 236 ∨ k = 237 ∨ k = 238 ∨ k = 239 by omega) with rfl | rfl | rfl | rfl | rfl | rfl | rfl | rfl | rfl | rfl | rfl | rfl <;> rfl
theorem zj_20 {k : Nat} (h : 240 ≤ k) (hk : k < 252) : zck k = true := by
  rcases (show k = 240 ∨ k = 241 ∨ k = 242 ∨ k = 243 ∨ k = 244 ∨ k = 245 ∨ k = 246 ∨ k = 247 ∨ k = 248 ∨ k = 249 ∨ k = 250 ∨ k = 251 by omega) with rfl | rfl | rfl | rfl | rfl | rfl | rfl | rfl | rfl | rfl | rfl | rfl
  · exact zk_240
  · exact zk_241
  · exact zk_242
  · exact zk_243
  · exact zk_244
  · exact zk_245
  · exact zk_246
  · exact zk_247
  · exact zk_248
  · exact zk_249
  · exact zk_250
  · exact zk_251
set_option maxRecDepth 20000 in
theorem zti_20 {k : Nat} (h : 240 ≤ k) (hk : k < 252) : (zrw k).1 = zPs.getD k [] := by
  rcases (show k = 240 ∨ k = 241 ∨ k = 242 ∨ k = 243 ∨ k = 244 ∨ k = 245 ∨ k = 246 ∨ k = 247 ∨ k = 248 ∨ k = 249 ∨ k = 250 ∨ k = 251 by omega) with rfl | rfl | rfl | rfl | rfl | rfl | rfl | rfl | rfl | rfl | rfl | rfl <;> rfl
theorem zj_21 {k : Nat} (h : 252 ≤ k) (hk : k < 264) : zck k = true := by
  rcases (show k = 252 ∨ k = 253 ∨ k = 254 ∨ k = 255 ∨ k = 256 ∨ k = 257 ∨ k = 258 ∨ k = 259 ∨ k = 260 ∨ k = 261 ∨ k = 262 ∨ k = 263 by omega) with rfl | rfl | rfl | rfl | rfl | rfl | rfl | rfl | rfl | rfl | rfl | rfl
  · exact zk_252
  · exact zk_253
  · exact zk_254
  · exact zk_255
  · exact zk_256
  · exact zk_257
  · exact zk_258
  · exact zk_259
  · exact zk_260
  · exact zk_261
  · exact zk_262
  · exact zk_263
set_option maxRecDepth 20000 in
theorem zti_21 {k : Nat} (h : 252 ≤ k) (hk : k < 264) : (zrw k).1 = zPs.getD k [] := by
  rcases (show k = 252 ∨ k = 253 ∨ k = 254 ∨ k = 255 ∨ k = 256 ∨ k = 257 ∨ k = 258 ∨ k = 259 ∨ k = 260 ∨ k = 261 ∨ k = 262 ∨ k = 263 by omega) with rfl | rfl | rfl | rfl | rfl | rfl | rfl | rfl | rfl | rfl | rfl | rfl <;> rfl
theorem zj_22 {k : Nat} (h : 264 ≤ k) (hk : k < 276) : zck k = true := by
  rcases (show k = 264 ∨ k = 265 ∨ k = 266 ∨ k = 267 ∨ k = 268 ∨ k = 269 ∨ k = 270 ∨ k = 271 ∨ k = 272 ∨ k = 273 ∨ k = 274 ∨ k = 275 by omega) with rfl | rfl | rfl | rfl | rfl | rfl | rfl | rfl | rfl | rfl | rfl | rfl
  · exact zk_264
  · exact zk_265
  · exact zk_266
  · exact zk_267
  · exact zk_268
  · exact zk_269
  · exact zk_270
  · exact zk_271
  · exact zk_272
  · exact zk_273
  · exact zk_274
  · exact zk_275
set_option maxRecDepth 20000 in
theorem zti_22 {k : Nat} (h : 264 ≤ k) (hk : k < 276) : (zrw k).1 = zPs.getD k [] := by
  rcases (show k = 264 ∨ k = 265 ∨ k = 266 ∨ k = 267 ∨ k = 268 ∨ k = 269 ∨ k = 270 ∨ k = 271 ∨ k = 272 ∨ k = 273 ∨ k = 274 ∨ k = 275 by omega) with rfl | rfl | rfl | rfl | rfl | rfl | rfl | rfl | rfl | rfl | rfl | rfl <;> rfl
theorem zck_all {k : Nat} (hk : k < 276) : zck k = true := by
  by_cases h0 : k < 12
  · exact zj_0 (by omega) h0
  by_cases h1 : k < 24
  · exact zj_1 (by omega) h1
  by_cases h2 : k < 36
  · exact zj_2 (by omega) h2
  by_cases h3 : k < 48
  · exact zj_3 (by omega) h3
  by_cases h4 : k < 60
  · exact zj_4 (by omega) h4
  by_cases h5 : k < 72
  · exact zj_5 (by omega) h5
  by_cases h6 : k < 84
  · exact zj_6 (by omega) h6
  by_cases h7 : k < 96
  · exact zj_7 (by omega) h7
  by_cases h8 : k < 108
  · exact zj_8 (by omega) h8
  by_cases h9 : k < 120
  · exact zj_9 (by omega) h9
  by_cases h10 : k < 132
  · exact zj_10 (by omega) h10
  by_cases h11 : k < 144
  · exact zj_11 (by omega) h11
  by_cases h12 : k < 156
  · exact zj_12 (by omega) h12
  by_cases h13 : k < 168
  · exact zj_13 (by omega) h13
  by_cases h14 : k < 180
  · exact zj_14 (by omega) h14
  by_cases h15 : k < 192
  · exact zj_15 (by omega) h15
  by_cases h16 : k < 204
  · exact zj_16 (by omega) h16
  by_cases h17 : k < 216
  · exact zj_17 (by omega) h17
  by_cases h18 : k < 228
  · exact zj_18 (by omega) h18
  by_cases h19 : k < 240
  · exact zj_19 (by omega) h19
  by_cases h20 : k < 252
  · exact zj_20 (by omega) h20
  by_cases h21 : k < 264
  · exact zj_21 (by omega) h21
  by_cases h22 : k < 276
  · exact zj_22 (by omega) h22
  omega
theorem zti_all {k : Nat} (hk : k < 276) : (zrw k).1 = zPs.getD k [] := by
  by_cases h0 : k < 12
  · exact zti_0 (by omega) h0
  by_cases h1 : k < 24
  · exact zti_1 (by omega) h1
  by_cases h2 : k < 36
  · exact zti_2 (by omega) h2
  by_cases h3 : k < 48
  · exact zti_3 (by omega) h3
  by_cases h4 : k < 60
  · exact zti_4 (by omega) h4
  by_cases h5 : k < 72
  · exact zti_5 (by omega) h5
  by_cases h6 : k < 84
  · exact zti_6 (by omega) h6
  by_cases h7 : k < 96
  · exact zti_7 (by omega) h7
  by_cases h8 : k < 108
  · exact zti_8 (by omega) h8
  by_cases h9 : k < 120
  · exact zti_9 (by omega) h9
  by_cases h10 : k < 132
  · exact zti_10 (by omega) h10
  by_cases h11 : k < 144
  · exact zti_11 (by omega) h11
  by_cases h12 : k < 156
  · exact zti_12 (by omega) h12
  by_cases h13 : k < 168
  · exact zti_13 (by omega) h13
  by_cases h14 : k < 180
  · exact zti_14 (by omega) h14
  by_cases h15 : k < 192
  · exact zti_15 (by omega) h15
  by_cases h16 : k < 204
  · exact zti_16 (by omega) h16
  by_cases h17 : k < 216
  · exact zti_17 (by omega) h17
  by_cases h18 : k < 228
  · exact zti_18 (by omega) h18
  by_cases h19 : k < 240
  · exact zti_19 (by omega) h19
  by_cases h20 : k < 252
  · exact zti_20 (by omega) h20
  by_cases h21 : k < 264
  · exact zti_21 (by omega) h21
  by_cases h22 : k < 276
  · exact zti_22 (by omega) h22
  omega
set_option maxRecDepth 20000 in
theorem ztm_all : (List.range 276).all (fun k => match zM k with | some m => Nat.beq m.2.2.1 (zrw k).2.1 && plainFor m.1 | none => false) = true := by decide +kernel
theorem zTB_ok : zTBok := fun k hk => by
  obtain ⟨m, hm, hOK⟩ := zck_ok (zck_all hk)
  have h := List.all_eq_true.mp ztm_all k (List.mem_range.mpr hk)
  rw [hm] at h
  simp only [Bool.and_eq_true] at h
  exact ⟨m, hm, by rw [zti_all hk]; exact hOK, Nat.eq_of_beq_eq_true h.1, h.2⟩
