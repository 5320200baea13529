/-! the printed program is the code's own: each method, checked by the kernel (some 9 minutes) -/
set_option maxRecDepth 20000 in
theorem zk_0 : zck 0 = true := by decide +kernel
set_option maxRecDepth 20000 in
theorem zk_1 : zck 1 = true := by decide +kernel
set_option maxRecDepth 20000 in
theorem zk_2 : zck 2 = true := by decide +kernel
set_option maxRecDepth 20000 in
theorem zk_3 : zck 3 = true := by decide +kernel
set_option maxRecDepth 20000 in
theorem zk_4 : zck 4 = true := by decide +kernel
set_option maxRecDepth 20000 in
theorem zk_5 : zck 5 = true := by decide +kernel
set_option maxRecDepth 20000 in
theorem zk_6 : zck 6 = true := by decide +kernel
set_option maxRecDepth 20000 in
theorem zk_7 : zck 7 = true := by decide +kernel
set_option maxRecDepth 20000 in
theorem zk_8 : zck 8 = true := by decide +kernel
set_option maxRecDepth 20000 in
theorem zk_9 : zck 9 = true := by decide +kernel
set_option maxRecDepth 20000 in
theorem zk_10 : zck 10 = true := by decide +kernel
set_option maxRecDepth 20000 in
theorem zk_11 : zck 11 = true := by decide +kernel
set_option maxRecDepth 20000 in
theorem zk_12 : zck 12 = true := by decide +kernel
set_option maxRecDepth 20000 in
theorem zk_13 : zck 13 = true := by decide +kernel
set_option maxRecDepth 20000 in
theorem zk_14 : zck 14 = true := by decide +kernel
set_option maxRecDepth 20000 in
theorem zk_15 : zck 15 = true := by decide +kernel
set_option maxRecDepth 20000 in
theorem zk_16 : zck 16 = true := by decide +kernel
set_option maxRecDepth 20000 in
theorem zk_17 : zck 17 = true := by decide +kernel
set_option maxRecDepth 20000 in
theorem zk_18 : zck 18 = true := by decide +kernel
set_option maxRecDepth 20000 in
theorem zk_19 : zck 19 = true := by decide +kernel
set_option maxRecDepth 20000 in
theorem zk_20 : zck 20 = true := by decide +kernel
set_option maxRecDepth 20000 in
theorem zk_21 : zck 21 = true := by decide +kernel
set_option maxRecDepth 20000 in
theorem zk_22 : zck 22 = true := by decide +kernel
set_option maxRecDepth 20000 in
theorem zk_23 : zck 23 = true := by decide +kernel
set_option maxRecDepth 20000 in
theorem zk_24 : zck 24 = true := by decide +kernel
set_option maxRecDepth 20000 in
theorem zk_25 : zck 25 = true := by decide +kernel
set_option maxRecDepth 20000 in
theorem zk_26 : zck 26 = true := by decide +kernel
set_option maxRecDepth 20000 in
theorem zk_27 : zck 27 = true := by decide +kernel
set_option maxRecDepth 20000 in
theorem zk_28 : zck 28 = true := by decide +kernel
set_option maxRecDepth 20000 in
theorem zk_29 : zck 29 = true := by decide +kernel
set_option maxRecDepth 20000 in
theorem zk_30 : zck 30 = true := by decide +kernel
set_option maxRecDepth 20000 in
theorem zk_31 : zck 31 = true := by decide +kernel
set_option maxRecDepth 20000 in
theorem zk_32 : zck 32 = true := by decide +kernel
set_option maxRecDepth 20000 in
theorem zk_33 : zck 33 = true := by decide +kernel
set_option maxRecDepth 20000 in
theorem zk_34 : zck 34 = true := by decide +kernel
set_option maxRecDepth 20000 in
theorem zk_35 : zck 35 = true := by decide +kernel
set_option maxRecDepth 20000 in
theorem zk_36 : zck 36 = true := by decide +kernel
set_option maxRecDepth 20000 in
theorem zk_37 : zck 37 = true := by decide +kernel
set_option maxRecDepth 20000 in
theorem zk_38 : zck 38 = true := by decide +kernel
set_option maxRecDepth 20000 in
theorem zk_39 : zck 39 = true := by decide +kernel
set_option maxRecDepth 20000 in
theorem zk_40 : zck 40 = true := by decide +kernel
set_option maxRecDepth 20000 in
theorem zk_41 : zck 41 = true := by decide +kernel
set_option maxRecDepth 20000 in
theorem zk_42 : zck 42 = true := by decide +kernel
set_option maxRecDepth 20000 in
theorem zk_43 : zck 43 = true := by decide +kernel
set_option maxRecDepth 20000 in
theorem zk_44 : zck 44 = true := by decide +kernel
set_option maxRecDepth 20000 in
theorem zk_45 : zck 45 = true := by decide +kernel
set_option maxRecDepth 20000 in
theorem zk_46 : zck 46 = true := by decide +kernel
set_option maxRecDepth 20000 in
theorem zk_47 : zck 47 = true := by decide +kernel
set_option maxRecDepth 20000 in
theorem zk_48 : zck 48 = true := by decide +kernel
set_option maxRecDepth 20000 in
theorem zk_49 : zck 49 = true := by decide +kernel
set_option maxRecDepth 20000 in
theorem zk_50 : zck 50 = true := by decide +kernel
set_option maxRecDepth 20000 in
theorem zk_51 : zck 51 = true := by decide +kernel
set_option maxRecDepth 20000 in
theorem zk_52 : zck 52 = true := by decide +kernel
set_option maxRecDepth 20000 in
theorem zk_53 : zck 53 = true := by decide +kernel
set_option maxRecDepth 20000 in
theorem zk_54 : zck 54 = true := by decide +kernel
set_option maxRecDepth 20000 in
theorem zk_55 : zck 55 = true := by decide +kernel
set_option maxRecDepth 20000 in
theorem zk_56 : zck 56 = true := by decide +kernel
set_option maxRecDepth 20000 in
theorem zk_57 : zck 57 = true := by decide +kernel
set_option maxRecDepth 20000 in
theorem zk_58 : zck 58 = true := by decide +kernel
set_option maxRecDepth 20000 in
theorem zk_59 : zck 59 = true := by decide +kernel
set_option maxRecDepth 20000 in
theorem zk_60 : zck 60 = true := by decide +kernel
set_option maxRecDepth 20000 in
theorem zk_61 : zck 61 = true := by decide +kernel
set_option maxRecDepth 20000 in
theorem zk_62 : zck 62 = true := by decide +kernel
set_option maxRecDepth 20000 in
theorem zk_63 : zck 63 = true := by decide +kernel
set_option maxRecDepth 20000 in
theorem zk_64 : zck 64 = true := by decide +kernel
set_option maxRecDepth 20000 in
theorem zk_65 : zck 65 = true := by decide +kernel
set_option maxRecDepth 20000 in
theorem zk_66 : zck 66 = true := by decide +kernel
set_option maxRecDepth 20000 in
theorem zk_67 : zck 67 = true := by decide +kernel
set_option maxRecDepth 20000 in
theorem zk_68 : zck 68 = true := by decide +kernel
set_option maxRecDepth 20000 in
theorem zk_69 : zck 69 = true := by decide +kernel
set_option maxRecDepth 20000 in
theorem zk_70 : zck 70 = true := by decide +kernel
set_option maxRecDepth 20000 in
theorem zk_71 : zck 71 = true := by decide +kernel
set_option maxRecDepth 20000 in
theorem zk_72 : zck 72 = true := by decide +kernel
set_option maxRecDepth 20000 in
theorem zk_73 : zck 73 = true := by decide +kernel
set_option maxRecDepth 20000 in
theorem zk_74 : zck 74 = true := by decide +kernel
set_option maxRecDepth 20000 in
theorem zk_75 : zck 75 = true := by decide +kernel
set_option maxRecDepth 20000 in
theorem zk_76 : zck 76 = true := by decide +kernel
set_option maxRecDepth 20000 in
theorem zk_77 : zck 77 = true := by decide +kernel
set_option maxRecDepth 20000 in
theorem zk_78 : zck 78 = true := by decide +kernel
set_option maxRecDepth 20000 in
theorem zk_79 : zck 79 = true := by decide +kernel
set_option maxRecDepth 20000 in
theorem zk_80 : zck 80 = true := by decide +kernel
set_option maxRecDepth 20000 in
theorem zk_81 : zck 81 = true := by decide +kernel
set_option maxRecDepth 20000 in
theorem zk_82 : zck 82 = true := by decide +kernel
set_option maxRecDepth 20000 in
theorem zk_83 : zck 83 = true := by decide +kernel
set_option maxRecDepth 20000 in
theorem zk_84 : zck 84 = true := by decide +kernel
set_option maxRecDepth 20000 in
theorem zk_85 : zck 85 = true := by decide +kernel
set_option maxRecDepth 20000 in
theorem zk_86 : zck 86 = true := by decide +kernel
set_option maxRecDepth 20000 in
theorem zk_87 : zck 87 = true := by decide +kernel
set_option maxRecDepth 20000 in
theorem zk_88 : zck 88 = true := by decide +kernel
set_option maxRecDepth 20000 in
theorem zk_89 : zck 89 = true := by decide +kernel
set_option maxRecDepth 20000 in
theorem zk_90 : zck 90 = true := by decide +kernel
set_option maxRecDepth 20000 in
theorem zk_91 : zck 91 = true := by decide +kernel
set_option maxRecDepth 20000 in
theorem zk_92 : zck 92 = true := by decide +kernel
set_option maxRecDepth 20000 in
theorem zk_93 : zck 93 = true := by decide +kernel
set_option maxRecDepth 20000 in
theorem zk_94 : zck 94 = true := by decide +kernel
set_option maxRecDepth 20000 in
theorem zk_95 : zck 95 = true := by decide +kernel
set_option maxRecDepth 20000 in
theorem zk_96 : zck 96 = true := by decide +kernel
set_option maxRecDepth 20000 in
theorem zk_97 : zck 97 = true := by decide +kernel
set_option maxRecDepth 20000 in
theorem zk_98 : zck 98 = true := by decide +kernel
set_option maxRecDepth 20000 in
theorem zk_99 : zck 99 = true := by decide +kernel
set_option maxRecDepth 20000 in
theorem zk_100 : zck 100 = true := by decide +kernel
set_option maxRecDepth 20000 in
theorem zk_101 : zck 101 = true := by decide +kernel
set_option maxRecDepth 20000 in
theorem zk_102 : zck 102 = true := by decide +kernel
set_option maxRecDepth 20000 in
theorem zk_103 : zck 103 = true := by decide +kernel
set_option maxRecDepth 20000 in
theorem zk_104 : zck 104 = true := by decide +kernel
set_option maxRecDepth 20000 in
theorem zk_105 : zck 105 = true := by decide +kernel
set_option maxRecDepth 20000 in
theorem zk_106 : zck 106 = true := by decide +kernel
set_option maxRecDepth 20000 in
theorem zk_107 : zck 107 = true := by decide +kernel
set_option maxRecDepth 20000 in
theorem zk_108 : zck 108 = true := by decide +kernel
set_option maxRecDepth 20000 in
theorem zk_109 : zck 109 = true := by decide +kernel
set_option maxRecDepth 20000 in
theorem zk_110 : zck 110 = true := by decide +kernel
set_option maxRecDepth 20000 in
theorem zk_111 : zck 111 = true := by decide +kernel
set_option maxRecDepth 20000 in
theorem zk_112 : zck 112 = true := by decide +kernel
set_option maxRecDepth 20000 in
theorem zk_113 : zck 113 = true := by decide +kernel
set_option maxRecDepth 20000 in
theorem zk_114 : zck 114 = true := by decide +kernel
set_option maxRecDepth 20000 in
theorem zk_115 : zck 115 = true := by decide +kernel
set_option maxRecDepth 20000 in
theorem zk_116 : zck 116 = true := by decide +kernel
set_option maxRecDepth 20000 in
theorem zk_117 : zck 117 = true := by decide +kernel
set_option maxRecDepth 20000 in
theorem zk_118 : zck 118 = true := by decide +kernel
set_option maxRecDepth 20000 in
theorem zk_119 : zck 119 = true := by decide +kernel
set_option maxRecDepth 20000 in
theorem zk_120 : zck 120 = true := by decide +kernel
set_option maxRecDepth 20000 in
theorem zk_121 : zck 121 = true := by decide +kernel
set_option maxRecDepth 20000 in
theorem zk_122 : zck 122 = true := by decide +kernel
set_option maxRecDepth 20000 in
theorem zk_123 : zck 123 = true := by decide +kernel
set_option maxRecDepth 20000 in
theorem zk_124 : zck 124 = true := by decide +kernel
set_option maxRecDepth 20000 in
theorem zk_125 : zck 125 = true := by decide +kernel
set_option maxRecDepth 20000 in
theorem zk_126 : zck 126 = true := by decide +kernel
set_option maxRecDepth 20000 in
theorem zk_127 : zck 127 = true := by decide +kernel
set_option maxRecDepth 20000 in
theorem zk_128 : zck 128 = true := by decide +kernel
set_option maxRecDepth 20000 in
theorem zk_129 : zck 129 = true := by decide +kernel
set_option maxRecDepth 20000 in
theorem zk_130 : zck 130 = true := by decide +kernel
set_option maxRecDepth 20000 in
theorem zk_131 : zck 131 = true := by decide +kernel
set_option maxRecDepth 20000 in
theorem zk_132 : zck 132 = true := by decide +kernel
set_option maxRecDepth 20000 in
theorem zk_133 : zck 133 = true := by decide +kernel
set_option maxRecDepth 20000 in
theorem zk_134 : zck 134 = true := by decide +kernel
set_option maxRecDepth 20000 in
theorem zk_135 : zck 135 = true := by decide +kernel
set_option maxRecDepth 20000 in
theorem zk_136 : zck 136 = true := by decide +kernel
set_option maxRecDepth 20000 in
theorem zk_137 : zck 137 = true := by decide +kernel
set_option maxRecDepth 20000 in
theorem zk_138 : zck 138 = true := by decide +kernel
set_option maxRecDepth 20000 in
theorem zk_139 : zck 139 = true := by decide +kernel
set_option maxRecDepth 20000 in
theorem zk_140 : zck 140 = true := by decide +kernel
set_option maxRecDepth 20000 in
theorem zk_141 : zck 141 = true := by decide +kernel
set_option maxRecDepth 20000 in
theorem zk_142 : zck 142 = true := by decide +kernel
set_option maxRecDepth 20000 in
theorem zk_143 : zck 143 = true := by decide +kernel
set_option maxRecDepth 20000 in
theorem zk_144 : zck 144 = true := by decide +kernel
set_option maxRecDepth 20000 in
theorem zk_145 : zck 145 = true := by decide +kernel
set_option maxRecDepth 20000 in
theorem zk_146 : zck 146 = true := by decide +kernel
set_option maxRecDepth 20000 in
theorem zk_147 : zck 147 = true := by decide +kernel
set_option maxRecDepth 20000 in
theorem zk_148 : zck 148 = true := by decide +kernel
set_option maxRecDepth 20000 in
theorem zk_149 : zck 149 = true := by decide +kernel
set_option maxRecDepth 20000 in
theorem zk_150 : zck 150 = true := by decide +kernel
set_option maxRecDepth 20000 in
theorem zk_151 : zck 151 = true := by decide +kernel
set_option maxRecDepth 20000 in
theorem zk_152 : zck 152 = true := by decide +kernel
set_option maxRecDepth 20000 in
theorem zk_153 : zck 153 = true := by decide +kernel
set_option maxRecDepth 20000 in
theorem zk_154 : zck 154 = true := by decide +kernel
set_option maxRecDepth 20000 in
theorem zk_155 : zck 155 = true := by decide +kernel
set_option maxRecDepth 20000 in
theorem zk_156 : zck 156 = true := by decide +kernel
set_option maxRecDepth 20000 in
theorem zk_157 : zck 157 = true := by decide +kernel
set_option maxRecDepth 20000 in
theorem zk_158 : zck 158 = true := by decide +kernel
set_option maxRecDepth 20000 in
theorem zk_159 : zck 159 = true := by decide +kernel
set_option maxRecDepth 20000 in
theorem zk_160 : zck 160 = true := by decide +kernel
set_option maxRecDepth 20000 in
theorem zk_161 : zck 161 = true := by decide +kernel
set_option maxRecDepth 20000 in
theorem zk_162 : zck 162 = true := by decide +kernel
set_option maxRecDepth 20000 in
theorem zk_163 : zck 163 = true := by decide +kernel
set_option maxRecDepth 20000 in
theorem zk_164 : zck 164 = true := by decide +kernel
set_option maxRecDepth 20000 in
theorem zk_165 : zck 165 = true := by decide +kernel
set_option maxRecDepth 20000 in
theorem zk_166 : zck 166 = true := by decide +kernel
set_option maxRecDepth 20000 in
theorem zk_167 : zck 167 = true := by decide +kernel
set_option maxRecDepth 20000 in
theorem zk_168 : zck 168 = true := by decide +kernel
set_option maxRecDepth 20000 in
theorem zk_169 : zck 169 = true := by decide +kernel
set_option maxRecDepth 20000 in
theorem zk_170 : zck 170 = true := by decide +kernel
set_option maxRecDepth 20000 in
theorem zk_171 : zck 171 = true := by decide +kernel
set_option maxRecDepth 20000 in
theorem zk_172 : zck 172 = true := by decide +kernel
set_option maxRecDepth 20000 in
theorem zk_173 : zck 173 = true := by decide +kernel
set_option maxRecDepth 20000 in
theorem zk_174 : zck 174 = true := by decide +kernel
set_option maxRecDepth 20000 in
theorem zk_175 : zck 175 = true := by decide +kernel
set_option maxRecDepth 20000 in
theorem zk_176 : zck 176 = true := by decide +kernel
set_option maxRecDepth 20000 in
theorem zk_177 : zck 177 = true := by decide +kernel
set_option maxRecDepth 20000 in
theorem zk_178 : zck 178 = true := by decide +kernel
set_option maxRecDepth 20000 in
theorem zk_179 : zck 179 = true := by decide +kernel
set_option maxRecDepth 20000 in
theorem zk_180 : zck 180 = true := by decide +kernel
set_option maxRecDepth 20000 in
theorem zk_181 : zck 181 = true := by decide +kernel
set_option maxRecDepth 20000 in
theorem zk_182 : zck 182 = true := by decide +kernel
set_option maxRecDepth 20000 in
theorem zk_183 : zck 183 = true := by decide +kernel
set_option maxRecDepth 20000 in
theorem zk_184 : zck 184 = true := by decide +kernel
set_option maxRecDepth 20000 in
theorem zk_185 : zck 185 = true := by decide +kernel
set_option maxRecDepth 20000 in
theorem zk_186 : zck 186 = true := by decide +kernel
set_option maxRecDepth 20000 in
theorem zk_187 : zck 187 = true := by decide +kernel
set_option maxRecDepth 20000 in
theorem zk_188 : zck 188 = true := by decide +kernel
set_option maxRecDepth 20000 in
theorem zk_189 : zck 189 = true := by decide +kernel
set_option maxRecDepth 20000 in
theorem zk_190 : zck 190 = true := by decide +kernel
set_option maxRecDepth 20000 in
theorem zk_191 : zck 191 = true := by decide +kernel
set_option maxRecDepth 20000 in
theorem zk_192 : zck 192 = true := by decide +kernel
set_option maxRecDepth 20000 in
theorem zk_193 : zck 193 = true := by decide +kernel
set_option maxRecDepth 20000 in
theorem zk_194 : zck 194 = true := by decide +kernel
set_option maxRecDepth 20000 in
theorem zk_195 : zck 195 = true := by decide +kernel
set_option maxRecDepth 20000 in
theorem zk_196 : zck 196 = true := by decide +kernel
set_option maxRecDepth 20000 in
theorem zk_197 : zck 197 = true := by decide +kernel
set_option maxRecDepth 20000 in
theorem zk_198 : zck 198 = true := by decide +kernel
set_option maxRecDepth 20000 in
theorem zk_199 : zck 199 = true := by decide +kernel
set_option maxRecDepth 20000 in
theorem zk_200 : zck 200 = true := by decide +kernel
set_option maxRecDepth 20000 in
theorem zk_201 : zck 201 = true := by decide +kernel
set_option maxRecDepth 20000 in
theorem zk_202 : zck 202 = true := by decide +kernel
set_option maxRecDepth 20000 in
theorem zk_203 : zck 203 = true := by decide +kernel
set_option maxRecDepth 20000 in
theorem zk_204 : zck 204 = true := by decide +kernel
set_option maxRecDepth 20000 in
theorem zk_205 : zck 205 = true := by decide +kernel
set_option maxRecDepth 20000 in
theorem zk_206 : zck 206 = true := by decide +kernel
set_option maxRecDepth 20000 in
theorem zk_207 : zck 207 = true := by decide +kernel
set_option maxRecDepth 20000 in
theorem zk_208 : zck 208 = true := by decide +kernel
set_option maxRecDepth 20000 in
theorem zk_209 : zck 209 = true := by decide +kernel
set_option maxRecDepth 20000 in
theorem zk_210 : zck 210 = true := by decide +kernel
set_option maxRecDepth 20000 in
theorem zk_211 : zck 211 = true := by decide +kernel
set_option maxRecDepth 20000 in
theorem zk_212 : zck 212 = true := by decide +kernel
set_option maxRecDepth 20000 in
theorem zk_213 : zck 213 = true := by decide +kernel
set_option maxRecDepth 20000 in
theorem zk_214 : zck 214 = true := by decide +kernel
set_option maxRecDepth 20000 in
theorem zk_215 : zck 215 = true := by decide +kernel
set_option maxRecDepth 20000 in
theorem zk_216 : zck 216 = true := by decide +kernel
set_option maxRecDepth 20000 in
theorem zk_217 : zck 217 = true := by decide +kernel
set_option maxRecDepth 20000 in
theorem zk_218 : zck 218 = true := by decide +kernel
set_option maxRecDepth 20000 in
theorem zk_219 : zck 219 = true := by decide +kernel
set_option maxRecDepth 20000 in
theorem zk_220 : zck 220 = true := by decide +kernel
set_option maxRecDepth 20000 in
theorem zk_221 : zck 221 = true := by decide +kernel
set_option maxRecDepth 20000 in
theorem zk_222 : zck 222 = true := by decide +kernel
set_option maxRecDepth 20000 in
theorem zk_223 : zck 223 = true := by decide +kernel
set_option maxRecDepth 20000 in
theorem zk_224 : zck 224 = true := by decide +kernel
set_option maxRecDepth 20000 in
theorem zk_225 : zck 225 = true := by decide +kernel
set_option maxRecDepth 20000 in
theorem zk_226 : zck 226 = true := by decide +kernel
set_option maxRecDepth 20000 in
theorem zk_227 : zck 227 = true := by decide +kernel
set_option maxRecDepth 20000 in
theorem zk_228 : zck 228 = true := by decide +kernel
set_option maxRecDepth 20000 in
theorem zk_229 : zck 229 = true := by decide +kernel
set_option maxRecDepth 20000 in
theorem zk_230 : zck 230 = true := by decide +kernel
set_option maxRecDepth 20000 in
theorem zk_231 : zck 231 = true := by decide +kernel
set_option maxRecDepth 20000 in
theorem zk_232 : zck 232 = true := by decide +kernel
set_option maxRecDepth 20000 in
theorem zk_233 : zck 233 = true := by decide +kernel
set_option maxRecDepth 20000 in
theorem zk_234 : zck 234 = true := by decide +kernel
set_option maxRecDepth 20000 in
theorem zk_235 : zck 235 = true := by decide +kernel
set_option maxRecDepth 20000 in
theorem zk_236 : zck 236 = true := by decide +kernel
set_option maxRecDepth 20000 in
theorem zk_237 : zck 237 = true := by decide +kernel
set_option maxRecDepth 20000 in
theorem zk_238 : zck 238 = true := by decide +kernel
set_option maxRecDepth 20000 in
theorem zk_239 : zck 239 = true := by decide +kernel
set_option maxRecDepth 20000 in
theorem zk_240 : zck 240 = true := by decide +kernel
set_option maxRecDepth 20000 in
theorem zk_241 : zck 241 = true := by decide +kernel
set_option maxRecDepth 20000 in
theorem zk_242 : zck 242 = true := by decide +kernel
set_option maxRecDepth 20000 in
theorem zk_243 : zck 243 = true := by decide +kernel
set_option maxRecDepth 20000 in
theorem zk_244 : zck 244 = true := by decide +kernel
set_option maxRecDepth 20000 in
theorem zk_245 : zck 245 = true := by decide +kernel
set_option maxRecDepth 20000 in
theorem zk_246 : zck 246 = true := by decide +kernel
set_option maxRecDepth 20000 in
theorem zk_247 : zck 247 = true := by decide +kernel
set_option maxRecDepth 20000 in
theorem zk_248 : zck 248 = true := by decide +kernel
set_option maxRecDepth 20000 in
theorem zk_249 : zck 249 = true := by decide +kernel
set_option maxRecDepth 20000 in
theorem zk_250 : zck 250 = true := by decide +kernel
set_option maxRecDepth 20000 in
theorem zk_251 : zck 251 = true := by decide +kernel
set_option maxRecDepth 20000 in
theorem zk_252 : zck 252 = true := by decide +kernel
set_option maxRecDepth 20000 in
theorem zk_253 : zck 253 = true := by decide +kernel
set_option maxRecDepth 20000 in
theorem zk_254 : zck 254 = true := by decide +kernel
set_option maxRecDepth 20000 in
theorem zk_255 : zck 255 = true := by decide +kernel
set_option maxRecDepth 20000 in
theorem zk_256 : zck 256 = true := by decide +kernel
set_option maxRecDepth 20000 in
theorem zk_257 : zck 257 = true := by decide +kernel
set_option maxRecDepth 20000 in
theorem zk_258 : zck 258 = true := by decide +kernel
set_option maxRecDepth 20000 in
theorem zk_259 : zck 259 = true := by decide +kernel
set_option maxRecDepth 20000 in
theorem zk_260 : zck 260 = true := by decide +kernel
set_option maxRecDepth 20000 in
theorem zk_261 : zck 261 = true := by decide +kernel
set_option maxRecDepth 20000 in
theorem zk_262 : zck 262 = true := by decide +kernel
set_option maxRecDepth 20000 in
theorem zk_263 : zck 263 = true := by decide +kernel
set_option maxRecDepth 20000 in
theorem zk_264 : zck 264 = true := by decide +kernel
set_option maxRecDepth 20000 in
theorem zk_265 : zck 265 = true := by decide +kernel
set_option maxRecDepth 20000 in
theorem zk_266 : zck 266 = true := by decide +kernel
set_option maxRecDepth 20000 in
theorem zk_267 : zck 267 = true := by decide +kernel
set_option maxRecDepth 20000 in
theorem zk_268 : zck 268 = true := by decide +kernel
set_option maxRecDepth 20000 in
theorem zk_269 : zck 269 = true := by decide +kernel
set_option maxRecDepth 20000 in
theorem zk_270 : zck 270 = true := by decide +kernel
set_option maxRecDepth 20000 in
theorem zk_271 : zck 271 = true := by decide +kernel
set_option maxRecDepth 20000 in
theorem zk_272 : zck 272 = true := by decide +kernel
set_option maxRecDepth 20000 in
theorem zk_273 : zck 273 = true := by decide +kernel
set_option maxRecDepth 20000 in
theorem zk_274 : zck 274 = true := by decide +kernel
set_option maxRecDepth 20000 in
theorem zk_275 : zck 275 = true := by decide +kernel
set_option maxRecDepth 20000 in
theorem zk_276 : zck 276 = true := by decide +kernel
theorem zj_0 {k : Nat} (h : 0 ≤ k) (hk : k < 10) : zck k = true := by
  rcases (show k = 0 ∨ k = 1 ∨ k = 2 ∨ k = 3 ∨ k = 4 ∨ k = 5 ∨ k = 6 ∨ k = 7 ∨ k = 8 ∨ k = 9 by omega) with rfl | rfl | rfl | rfl | rfl | rfl | rfl | rfl | rfl | rfl
  · exact zk_0
  · exact zk_1
  · exact zk_2
  · exact zk_3
  · exact zk_4
  · exact zk_5
  · exact zk_6
  · exact zk_7
  · exact zk_8
  · exact zk_9
theorem zj_1 {k : Nat} (h : 10 ≤ k) (hk : k < 20) : zck k = true := by
  rcases (show k = 10 ∨ k = 11 ∨ k = 12 ∨ k = 13 ∨ k = 14 ∨ k = 15 ∨ k = 16 ∨ k = 17 ∨ k = 18 ∨ k = 19 by omega) with rfl | rfl | rfl | rfl | rfl | rfl | rfl | rfl | rfl | rfl
  · exact zk_10
  · exact zk_11
  · exact zk_12
  · exact zk_13
  · exact zk_14
  · exact zk_15
  · exact zk_16
  · exact zk_17
  · exact zk_18
  · exact zk_19
theorem zj_2 {k : Nat} (h : 20 ≤ k) (hk : k < 30) : zck k = true := by
  rcases (show k = 20 ∨ k = 21 ∨ k = 22 ∨ k = 23 ∨ k = 24 ∨ k = 25 ∨ k = 26 ∨ k = 27 ∨ k = 28 ∨ k = 29 by omega) with rfl | rfl | rfl | rfl | rfl | rfl | rfl | rfl | rfl | rfl
  · exact zk_20
  · exact zk_21
  · exact zk_22
  · exact zk_23
  · exact zk_24
  · exact zk_25
  · exact zk_26
  · exact zk_27
  · exact zk_28
  · exact zk_29
theorem zj_3 {k : Nat} (h : 30 ≤ k) (hk : k < 40) : zck k = true := by
  rcases (show k = 30 ∨ k = 31 ∨ k = 32 ∨ k = 33 ∨ k = 34 ∨ k = 35 ∨ k = 36 ∨ k = 37 ∨ k = 38 ∨ k = 39 by omega) with rfl | rfl | rfl | rfl | rfl | rfl | rfl | rfl | rfl | rfl
  · exact zk_30
  · exact zk_31
  · exact zk_32
  · exact zk_33
  · exact zk_34
  · exact zk_35
  · exact zk_36
  · exact zk_37
  · exact zk_38
  · exact zk_39
theorem zj_4 {k : Nat} (h : 40 ≤ k) (hk : k < 50) : zck k = true := by
  rcases (show k = 40 ∨ k = 41 ∨ k = 42 ∨ k = 43 ∨ k = 44 ∨ k = 45 ∨ k = 46 ∨ k = 47 ∨ k = 48 ∨ k = 49 by omega) with rfl | rfl | rfl | rfl | rfl | rfl | rfl | rfl | rfl | rfl
  · exact zk_40
  · exact zk_41
  · exact zk_42
  · exact zk_43
  · exact zk_44
  · exact zk_45
  · exact zk_46
  · exact zk_47
  · exact zk_48
  · exact zk_49
theorem zj_5 {k : Nat} (h : 50 ≤ k) (hk : k < 60) : zck k = true := by
  rcases (show k = 50 ∨ k = 51 ∨ k = 52 ∨ k = 53 ∨ k = 54 ∨ k = 55 ∨ k = 56 ∨ k = 57 ∨ k = 58 ∨ k = 59 by omega) with rfl | rfl | rfl | rfl | rfl | rfl | rfl | rfl | rfl | rfl
  · exact zk_50
  · exact zk_51
  · exact zk_52
  · exact zk_53
  · exact zk_54
  · exact zk_55
  · exact zk_56
  · exact zk_57
  · exact zk_58
  · exact zk_59
theorem zj_6 {k : Nat} (h : 60 ≤ k) (hk : k < 70) : zck k = true := by
  rcases (show k = 60 ∨ k = 61 ∨ k = 62 ∨ k = 63 ∨ k = 64 ∨ k = 65 ∨ k = 66 ∨ k = 67 ∨ k = 68 ∨ k = 69 by omega) with rfl | rfl | rfl | rfl | rfl | rfl | rfl | rfl | rfl | rfl
  · exact zk_60
  · exact zk_61
  · exact zk_62
  · exact zk_63
  · exact zk_64
  · exact zk_65
  · exact zk_66
  · exact zk_67
  · exact zk_68
  · exact zk_69
theorem zj_7 {k : Nat} (h : 70 ≤ k) (hk : k < 80) : zck k = true := by
  rcases (show k = 70 ∨ k = 71 ∨ k = 72 ∨ k = 73 ∨ k = 74 ∨ k = 75 ∨ k = 76 ∨ k = 77 ∨ k = 78 ∨ k = 79 by omega) with rfl | rfl | rfl | rfl | rfl | rfl | rfl | rfl | rfl | rfl
  · exact zk_70
  · exact zk_71
  · exact zk_72
  · exact zk_73
  · exact zk_74
  · exact zk_75
  · exact zk_76
  · exact zk_77
  · exact zk_78
  · exact zk_79
theorem zj_8 {k : Nat} (h : 80 ≤ k) (hk : k < 90) : zck k = true := by
  rcases (show k = 80 ∨ k = 81 ∨ k = 82 ∨ k = 83 ∨ k = 84 ∨ k = 85 ∨ k = 86 ∨ k = 87 ∨ k = 88 ∨ k = 89 by omega) with rfl | rfl | rfl | rfl | rfl | rfl | rfl | rfl | rfl | rfl
  · exact zk_80
  · exact zk_81
  · exact zk_82
  · exact zk_83
  · exact zk_84
  · exact zk_85
  · exact zk_86
  · exact zk_87
  · exact zk_88
  · exact zk_89
theorem zj_9 {k : Nat} (h : 90 ≤ k) (hk : k < 100) : zck k = true := by
  rcases (show k = 90 ∨ k = 91 ∨ k = 92 ∨ k = 93 ∨ k = 94 ∨ k = 95 ∨ k = 96 ∨ k = 97 ∨ k = 98 ∨ k = 99 by omega) with rfl | rfl | rfl | rfl | rfl | rfl | rfl | rfl | rfl | rfl
  · exact zk_90
  · exact zk_91
  · exact zk_92
  · exact zk_93
  · exact zk_94
  · exact zk_95
  · exact zk_96
  · exact zk_97
  · exact zk_98
  · exact zk_99
theorem zj_10 {k : Nat} (h : 100 ≤ k) (hk : k < 110) : zck k = true := by
  rcases (show k = 100 ∨ k = 101 ∨ k = 102 ∨ k = 103 ∨ k = 104 ∨ k = 105 ∨ k = 106 ∨ k = 107 ∨ k = 108 ∨ k = 109 by omega) with rfl | rfl | rfl | rfl | rfl | rfl | rfl | rfl | rfl | rfl
  · exact zk_100
  · exact zk_101
  · exact zk_102
  · exact zk_103
  · exact zk_104
  · exact zk_105
  · exact zk_106
  · exact zk_107
  · exact zk_108
  · exact zk_109
theorem zj_11 {k : Nat} (h : 110 ≤ k) (hk : k < 120) : zck k = true := by
  rcases (show k = 110 ∨ k = 111 ∨ k = 112 ∨ k = 113 ∨ k = 114 ∨ k = 115 ∨ k = 116 ∨ k = 117 ∨ k = 118 ∨ k = 119 by omega) with rfl | rfl | rfl | rfl | rfl | rfl | rfl | rfl | rfl | rfl
  · exact zk_110
  · exact zk_111
  · exact zk_112
  · exact zk_113
  · exact zk_114
  · exact zk_115
  · exact zk_116
  · exact zk_117
  · exact zk_118
  · exact zk_119
theorem zj_12 {k : Nat} (h : 120 ≤ k) (hk : k < 130) : zck k = true := by
  rcases (show k = 120 ∨ k = 121 ∨ k = 122 ∨ k = 123 ∨ k = 124 ∨ k = 125 ∨ k = 126 ∨ k = 127 ∨ k = 128 ∨ k = 129 by omega) with rfl | rfl | rfl | rfl | rfl | rfl | rfl | rfl | rfl | rfl
  · exact zk_120
  · exact zk_121
  · exact zk_122
  · exact zk_123
  · exact zk_124
  · exact zk_125
  · exact zk_126
  · exact zk_127
  · exact zk_128
  · exact zk_129
theorem zj_13 {k : Nat} (h : 130 ≤ k) (hk : k < 140) : zck k = true := by
  rcases (show k = 130 ∨ k = 131 ∨ k = 132 ∨ k = 133 ∨ k = 134 ∨ k = 135 ∨ k = 136 ∨ k = 137 ∨ k = 138 ∨ k = 139 by omega) with rfl | rfl | rfl | rfl | rfl | rfl | rfl | rfl | rfl | rfl
  · exact zk_130
  · exact zk_131
  · exact zk_132
  · exact zk_133
  · exact zk_134
  · exact zk_135
  · exact zk_136
  · exact zk_137
  · exact zk_138
  · exact zk_139
theorem zj_14 {k : Nat} (h : 140 ≤ k) (hk : k < 150) : zck k = true := by
  rcases (show k = 140 ∨ k = 141 ∨ k = 142 ∨ k = 143 ∨ k = 144 ∨ k = 145 ∨ k = 146 ∨ k = 147 ∨ k = 148 ∨ k = 149 by omega) with rfl | rfl | rfl | rfl | rfl | rfl | rfl | rfl | rfl | rfl
  · exact zk_140
  · exact zk_141
  · exact zk_142
  · exact zk_143
  · exact zk_144
  · exact zk_145
  · exact zk_146
  · exact zk_147
  · exact zk_148
  · exact zk_149
theorem zj_15 {k : Nat} (h : 150 ≤ k) (hk : k < 160) : zck k = true := by
  rcases (show k = 150 ∨ k = 151 ∨ k = 152 ∨ k = 153 ∨ k = 154 ∨ k = 155 ∨ k = 156 ∨ k = 157 ∨ k = 158 ∨ k = 159 by omega) with rfl | rfl | rfl | rfl | rfl | rfl | rfl | rfl | rfl | rfl
  · exact zk_150
  · exact zk_151
  · exact zk_152
  · exact zk_153
  · exact zk_154
  · exact zk_155
  · exact zk_156
  · exact zk_157
  · exact zk_158
  · exact zk_159
theorem zj_16 {k : Nat} (h : 160 ≤ k) (hk : k < 170) : zck k = true := by
  rcases (show k = 160 ∨ k = 161 ∨ k = 162 ∨ k = 163 ∨ k = 164 ∨ k = 165 ∨ k = 166 ∨ k = 167 ∨ k = 168 ∨ k = 169 by omega) with rfl | rfl | rfl | rfl | rfl | rfl | rfl | rfl | rfl | rfl
  · exact zk_160
  · exact zk_161
  · exact zk_162
  · exact zk_163
  · exact zk_164
  · exact zk_165
  · exact zk_166
  · exact zk_167
  · exact zk_168
  · exact zk_169
theorem zj_17 {k : Nat} (h : 170 ≤ k) (hk : k < 180) : zck k = true := by
  rcases (show k = 170 ∨ k = 171 ∨ k = 172 ∨ k = 173 ∨ k = 174 ∨ k = 175 ∨ k = 176 ∨ k = 177 ∨ k = 178 ∨ k = 179 by omega) with rfl | rfl | rfl | rfl | rfl | rfl | rfl | rfl | rfl | rfl
  · exact zk_170
  · exact zk_171
  · exact zk_172
  · exact zk_173
  · exact zk_174
  · exact zk_175
  · exact zk_176
  · exact zk_177
  · exact zk_178
  · exact zk_179
theorem zj_18 {k : Nat} (h : 180 ≤ k) (hk : k < 190) : zck k = true := by
  rcases (show k = 180 ∨ k = 181 ∨ k = 182 ∨ k = 183 ∨ k = 184 ∨ k = 185 ∨ k = 186 ∨ k = 187 ∨ k = 188 ∨ k = 189 by omega) with rfl | rfl | rfl | rfl | rfl | rfl | rfl | rfl | rfl | rfl
  · exact zk_180
  · exact zk_181
  · exact zk_182
  · exact zk_183
  · exact zk_184
  · exact zk_185
  · exact zk_186
  · exact zk_187
  · exact zk_188
  · exact zk_189
theorem zj_19 {k : Nat} (h : 190 ≤ k) (hk : k < 200) : zck k = true := by
  rcases (show k = 190 ∨ k = 191 ∨ k = 192 ∨ k = 193 ∨ k = 194 ∨ k = 195 ∨ k = 196 ∨ k = 197 ∨ k = 198 ∨ k = 199 by omega) with rfl | rfl | rfl | rfl | rfl | rfl | rfl | rfl | rfl | rfl
  · exact zk_190
  · exact zk_191
  · exact zk_192
  · exact zk_193
  · exact zk_194
  · exact zk_195
  · exact zk_196
  · exact zk_197
  · exact zk_198
  · exact zk_199
theorem zj_20 {k : Nat} (h : 200 ≤ k) (hk : k < 210) : zck k = true := by
  rcases (show k = 200 ∨ k = 201 ∨ k = 202 ∨ k = 203 ∨ k = 204 ∨ k = 205 ∨ k = 206 ∨ k = 207 ∨ k = 208 ∨ k = 209 by omega) with rfl | rfl | rfl | rfl | rfl | rfl | rfl | rfl | rfl | rfl
  · exact zk_200
  · exact zk_201
  · exact zk_202
  · exact zk_203
  · exact zk_204
  · exact zk_205
  · exact zk_206
  · exact zk_207
  · exact zk_208
  · exact zk_209
theorem zj_21 {k : Nat} (h : 210 ≤ k) (hk : k < 220) : zck k = true := by
  rcases (show k = 210 ∨ k = 211 ∨ k = 212 ∨ k = 213 ∨ k = 214 ∨ k = 215 ∨ k = 216 ∨ k = 217 ∨ k = 218 ∨ k = 219 by omega) with rfl | rfl | rfl | rfl | rfl | rfl | rfl | rfl | rfl | rfl
  · exact zk_210
  · exact zk_211
  · exact zk_212
  · exact zk_213
  · exact zk_214
  · exact zk_215
  · exact zk_216
  · exact zk_217
  · exact zk_218
  · exact zk_219
theorem zj_22 {k : Nat} (h : 220 ≤ k) (hk : k < 230) : zck k = true := by
  rcases (show k = 220 ∨ k = 221 ∨ k = 222 ∨ k = 223 ∨ k = 224 ∨ k = 225 ∨ k = 226 ∨ k = 227 ∨ k = 228 ∨ k = 229 by omega) with rfl | rfl | rfl | rfl | rfl | rfl | rfl | rfl | rfl | rfl
  · exact zk_220
  · exact zk_221
  · exact zk_222
  · exact zk_223
  · exact zk_224
  · exact zk_225
  · exact zk_226
  · exact zk_227
  · exact zk_228
  · exact zk_229
theorem zj_23 {k : Nat} (h : 230 ≤ k) (hk : k < 240) : zck k = true := by
  rcases (show k = 230 ∨ k = 231 ∨ k = 232 ∨ k = 233 ∨ k = 234 ∨ k = 235 ∨ k = 236 ∨ k = 237 ∨ k = 238 ∨ k = 239 by omega) with rfl | rfl | rfl | rfl | rfl | rfl | rfl | rfl | rfl | rfl
  · exact zk_230
  · exact zk_231
  · exact zk_232
  · exact zk_233
  · exact zk_234
  · exact zk_235
  · exact zk_236
  · exact zk_237
  · exact zk_238
  · exact zk_239
theorem zj_24 {k : Nat} (h : 240 ≤ k) (hk : k < 250) : zck k = true := by
  rcases (show k = 240 ∨ k = 241 ∨ k = 242 ∨ k = 243 ∨ k = 244 ∨ k = 245 ∨ k = 246 ∨ k = 247 ∨ k = 248 ∨ k = 249 by omega) with rfl | rfl | rfl | rfl | rfl | rfl | rfl | rfl | rfl | rfl
  · exact zk_240
  · exact zk_241
  · exact zk_242
  · exact zk_243
  · exact zk_244
  · exact zk_245
  · exact zk_246
  · exact zk_247
  · exact zk_248
  · exact zk_249
theorem zj_25 {k : Nat} (h : 250 ≤ k) (hk : k < 260) : zck k = true := by
  rcases (show k = 250 ∨ k = 251 ∨ k = 252 ∨ k = 253 ∨ k = 254 ∨ k = 255 ∨ k = 256 ∨ k = 257 ∨ k = 258 ∨ k = 259 by omega) with rfl | rfl | rfl | rfl | rfl | rfl | rfl | rfl | rfl | rfl
  · exact zk_250
  · exact zk_251
  · exact zk_252
  · exact zk_253
  · exact zk_254
  · exact zk_255
  · exact zk_256
  · exact zk_257
  · exact zk_258
  · exact zk_259
theorem zj_26 {k : Nat} (h : 260 ≤ k) (hk : k < 270) : zck k = true := by
  rcases (show k = 260 ∨ k = 261 ∨ k = 262 ∨ k = 263 ∨ k = 264 ∨ k = 265 ∨ k = 266 ∨ k = 267 ∨ k = 268 ∨ k = 269 by omega) with rfl | rfl | rfl | rfl | rfl | rfl | rfl | rfl | rfl | rfl
  · exact zk_260
  · exact zk_261
  · exact zk_262
  · exact zk_263
  · exact zk_264
  · exact zk_265
  · exact zk_266
  · exact zk_267
  · exact zk_268
  · exact zk_269
theorem zj_27 {k : Nat} (h : 270 ≤ k) (hk : k < 277) : zck k = true := by
  rcases (show k = 270 ∨ k = 271 ∨ k = 272 ∨ k = 273 ∨ k = 274 ∨ k = 275 ∨ k = 276 by omega) with rfl | rfl | rfl | rfl | rfl | rfl | rfl
  · exact zk_270
  · exact zk_271
  · exact zk_272
  · exact zk_273
  · exact zk_274
  · exact zk_275
  · exact zk_276
theorem zv_all {k : Nat} (hk : k < 277) : ∃ m, zM k = some m ∧ ∀ e ∈ zPs.getD k [], zOK m e := by
  apply zck_ok
  by_cases h0 : k < 10
  · exact zj_0 (by omega) h0
  by_cases h1 : k < 20
  · exact zj_1 (by omega) h1
  by_cases h2 : k < 30
  · exact zj_2 (by omega) h2
  by_cases h3 : k < 40
  · exact zj_3 (by omega) h3
  by_cases h4 : k < 50
  · exact zj_4 (by omega) h4
  by_cases h5 : k < 60
  · exact zj_5 (by omega) h5
  by_cases h6 : k < 70
  · exact zj_6 (by omega) h6
  by_cases h7 : k < 80
  · exact zj_7 (by omega) h7
  by_cases h8 : k < 90
  · exact zj_8 (by omega) h8
  by_cases h9 : k < 100
  · exact zj_9 (by omega) h9
  by_cases h10 : k < 110
  · exact zj_10 (by omega) h10
  by_cases h11 : k < 120
  · exact zj_11 (by omega) h11
  by_cases h12 : k < 130
  · exact zj_12 (by omega) h12
  by_cases h13 : k < 140
  · exact zj_13 (by omega) h13
  by_cases h14 : k < 150
  · exact zj_14 (by omega) h14
  by_cases h15 : k < 160
  · exact zj_15 (by omega) h15
  by_cases h16 : k < 170
  · exact zj_16 (by omega) h16
  by_cases h17 : k < 180
  · exact zj_17 (by omega) h17
  by_cases h18 : k < 190
  · exact zj_18 (by omega) h18
  by_cases h19 : k < 200
  · exact zj_19 (by omega) h19
  by_cases h20 : k < 210
  · exact zj_20 (by omega) h20
  by_cases h21 : k < 220
  · exact zj_21 (by omega) h21
  by_cases h22 : k < 230
  · exact zj_22 (by omega) h22
  by_cases h23 : k < 240
  · exact zj_23 (by omega) h23
  by_cases h24 : k < 250
  · exact zj_24 (by omega) h24
  by_cases h25 : k < 260
  · exact zj_25 (by omega) h25
  by_cases h26 : k < 270
  · exact zj_26 (by omega) h26
  by_cases h27 : k < 277
  · exact zj_27 (by omega) h27
  omega
