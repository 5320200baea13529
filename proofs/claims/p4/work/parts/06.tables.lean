/-! each method with its room (local variables, frames, words, cells, slots), printed by wip/p2/tab.py -/
abbrev zTE : Type := List zPE × Nat × Nat × Nat × Nat × Nat
def zTB_0 : List zTE := [(zp_0, 1, 1, 20, 5, 288), (zp_1, 5, 3, 67, 0, 0), (zp_2, 5, 2, 43, 0, 0), (zp_3, 8, 0, 0, 0, 0), (zp_4, 5, 0, 0, 0, 0), (zp_5, 5, 0, 0, 0, 0), (zp_6, 5, 1, 22, 0, 0), (zp_7, 3, 0, 0, 0, 0), (zp_8, 2, 2, 40, 91, 660), (zp_9, 1, 0, 0, 0, 0), (zp_10, 2, 2, 43, 0, 0), (zp_11, 2, 2, 43, 0, 0), (zp_12, 2, 1, 22, 0, 0), (zp_13, 1, 1, 20, 7, 1583), (zp_14, 1, 0, 0, 0, 0), (zp_15, 2, 0, 0, 0, 0)]
def zTB_1 : List zTE := [(zp_16, 2, 0, 0, 0, 0), (zp_17, 4, 0, 0, 0, 0), (zp_18, 8, 6, 161, 0, 0), (zp_19, 4, 1, 21, 0, 0), (zp_20, 2, 0, 0, 0, 0), (zp_21, 8, 5, 134, 0, 0), (zp_22, 4, 4, 111, 0, 0), (zp_23, 2, 2, 40, 13, 351), (zp_24, 3, 5, 111, 0, 0), (zp_25, 2, 5, 111, 0, 0), (zp_26, 1, 4, 91, 0, 0), (zp_27, 2, 0, 0, 0, 0), (zp_28, 4, 1, 24, 0, 0), (zp_29, 3, 1, 21, 0, 0), (zp_30, 3, 1, 21, 0, 0), (zp_31, 4, 2, 50, 0, 0)]
def zTB_2 : List zTE := [(zp_32, 8, 3, 84, 0, 0), (zp_33, 9, 2, 56, 0, 0), (zp_34, 12, 1, 25, 0, 0), (zp_35, 6, 0, 0, 0, 0), (zp_36, 1, 4, 111, 0, 0), (zp_37, 4, 5, 131, 0, 0), (zp_38, 4, 4, 111, 0, 0), (zp_39, 8, 2, 45, 0, 0), (zp_40, 4, 1, 22, 0, 0), (zp_41, 4, 1, 22, 0, 0), (zp_42, 5, 5, 111, 0, 0), (zp_43, 3, 2, 48, 0, 0), (zp_44, 5, 1, 24, 0, 0), (zp_45, 7, 5, 115, 0, 0), (zp_46, 3, 4, 93, 0, 0), (zp_47, 1, 2, 40, 6, 1892)]
def zTB_3 : List zTE := [(zp_48, 5, 6, 136, 0, 0), (zp_49, 2, 0, 0, 0, 0), (zp_50, 3, 1, 21, 0, 0), (zp_51, 1, 2, 43, 0, 0), (zp_52, 1, 1, 21, 0, 0), (zp_53, 2, 4, 91, 0, 0), (zp_54, 3, 5, 114, 0, 0), (zp_55, 2, 3, 67, 0, 0), (zp_56, 5, 2, 43, 0, 0), (zp_57, 6, 4, 89, 0, 0), (zp_58, 1, 0, 0, 0, 0), (zp_59, 3, 3, 67, 0, 0), (zp_60, 3, 2, 50, 0, 0), (zp_61, 1, 1, 20, 3, 1803), (zp_62, 3, 4, 85, 0, 0), (zp_63, 1, 0, 0, 0, 0)]
def zTB_4 : List zTE := [(zp_64, 2, 0, 0, 0, 0), (zp_65, 1, 1, 21, 0, 0), (zp_66, 2, 3, 64, 0, 0), (zp_67, 2, 1, 21, 0, 0), (zp_68, 1, 1, 21, 0, 0), (zp_69, 2, 2, 43, 0, 0), (zp_70, 3, 1, 21, 0, 0), (zp_71, 1, 0, 0, 0, 0), (zp_72, 1, 0, 0, 0, 0), (zp_73, 2, 0, 0, 0, 0), (zp_74, 2, 0, 0, 0, 0), (zp_75, 1, 0, 0, 0, 0), (zp_76, 1, 1, 20, 2, 18), (zp_77, 3, 0, 0, 0, 0), (zp_78, 2, 0, 0, 0, 0), (zp_79, 2, 0, 0, 0, 0)]
def zTB_5 : List zTE := [(zp_80, 1, 1, 20, 3, 518), (zp_81, 6, 3, 71, 0, 0), (zp_82, 4, 0, 0, 0, 0), (zp_83, 6, 2, 46, 0, 0), (zp_84, 6, 1, 21, 0, 0), (zp_85, 7, 4, 106, 0, 0), (zp_86, 3, 3, 84, 0, 0), (zp_87, 14, 2, 51, 0, 0), (zp_88, 7, 1, 25, 0, 0), (zp_89, 1, 2, 40, 13, 221), (zp_90, 1, 0, 0, 0, 0), (zp_91, 1, 0, 0, 0, 0), (zp_92, 3, 0, 0, 0, 0), (zp_93, 2, 0, 0, 0, 0), (zp_94, 5, 0, 0, 0, 0), (zp_95, 7, 1, 24, 0, 0)]
def zTB_6 : List zTE := [(zp_96, 3, 1, 21, 0, 0), (zp_97, 3, 1, 21, 0, 0), (zp_98, 1, 1, 20, 3, 136), (zp_99, 1, 0, 0, 0, 0), (zp_100, 2, 0, 0, 0, 0), (zp_101, 1, 0, 0, 0, 0), (zp_102, 6, 3, 68, 0, 0), (zp_103, 3, 0, 0, 0, 0), (zp_104, 5, 2, 44, 0, 0), (zp_105, 4, 1, 21, 0, 0), (zp_106, 1, 1, 20, 1, 72), (zp_107, 8, 3, 64, 0, 0), (zp_108, 2, 2, 41, 0, 0), (zp_109, 1, 0, 0, 0, 0), (zp_110, 2, 1, 20, 0, 0), (zp_111, 2, 2, 43, 0, 0)]
def zTB_7 : List zTE := [(zp_112, 1, 0, 0, 0, 0), (zp_113, 1, 2, 43, 0, 0), (zp_114, 3, 1, 21, 0, 0), (zp_115, 1, 0, 0, 0, 0), (zp_116, 2, 0, 0, 0, 0), (zp_117, 1, 0, 0, 0, 0), (zp_118, 1, 3, 61, 171, 6494), (zp_119, 6, 1, 22, 0, 0), (zp_120, 3, 0, 0, 0, 0), (zp_121, 3, 7, 160, 0, 0), (zp_122, 2, 0, 0, 0, 0), (zp_123, 2, 1, 22, 0, 0), (zp_124, 2, 0, 0, 0, 0), (zp_125, 2, 1, 21, 0, 0), (zp_126, 2, 1, 20, 0, 0), (zp_127, 3, 1, 21, 0, 0)]
def zTB_8 : List zTE := [(zp_128, 5, 2, 42, 0, 0), (zp_129, 2, 2, 47, 0, 0), (zp_130, 1, 0, 0, 0, 0), (zp_131, 3, 4, 111, 0, 0), (zp_132, 4, 4, 111, 0, 0), (zp_133, 4, 5, 134, 0, 0), (zp_134, 5, 4, 111, 0, 0), (zp_135, 3, 7, 188, 0, 0), (zp_136, 7, 4, 111, 0, 0), (zp_137, 5, 6, 154, 0, 0), (zp_138, 4, 5, 131, 0, 0), (zp_139, 8, 4, 111, 0, 0), (zp_140, 2, 7, 156, 0, 0), (zp_141, 2, 6, 135, 0, 0), (zp_142, 3, 6, 135, 0, 0), (zp_143, 8, 5, 134, 0, 0)]
def zTB_9 : List zTE := [(zp_144, 3, 4, 96, 0, 0), (zp_145, 5, 5, 132, 0, 0), (zp_146, 1, 6, 141, 0, 0), (zp_147, 2, 5, 115, 0, 0), (zp_148, 4, 6, 155, 0, 0), (zp_149, 2, 5, 134, 0, 0), (zp_150, 2, 6, 155, 0, 0), (zp_151, 2, 7, 156, 0, 0), (zp_152, 2, 5, 111, 0, 0), (zp_153, 4, 5, 134, 0, 0), (zp_154, 1, 5, 111, 0, 0), (zp_155, 1, 1, 22, 0, 0), (zp_156, 1, 6, 132, 0, 0), (zp_157, 2, 2, 43, 0, 0), (zp_158, 1, 2, 42, 34, 12471), (zp_159, 8, 0, 0, 0, 0)]
def zTB_10 : List zTE := [(zp_160, 3, 0, 0, 0, 0), (zp_161, 2, 0, 0, 0, 0), (zp_162, 3, 0, 0, 0, 0), (zp_163, 2, 0, 0, 0, 0), (zp_164, 8, 0, 0, 0, 0), (zp_165, 2, 0, 0, 0, 0), (zp_166, 2, 0, 0, 0, 0), (zp_167, 1, 1, 27, 0, 0), (zp_168, 4, 0, 0, 0, 0), (zp_169, 5, 0, 0, 0, 0), (zp_170, 2, 0, 0, 0, 0), (zp_171, 2, 0, 0, 0, 0), (zp_172, 3, 2, 47, 0, 0), (zp_173, 1, 0, 0, 0, 0), (zp_174, 3, 0, 0, 0, 0), (zp_175, 1, 1, 22, 0, 0)]
def zTB_11 : List zTE := [(zp_176, 5, 0, 0, 0, 0), (zp_177, 1, 0, 0, 0, 0), (zp_178, 5, 4, 91, 0, 0), (zp_179, 3, 3, 69, 0, 0), (zp_180, 3, 0, 0, 0, 0), (zp_181, 1, 5, 115, 0, 0), (zp_182, 3, 6, 135, 0, 0), (zp_183, 2, 0, 0, 0, 0), (zp_184, 2, 1, 24, 0, 0), (zp_185, 1, 0, 0, 0, 0), (zp_186, 4, 0, 0, 0, 0), (zp_187, 1, 0, 0, 0, 0), (zp_188, 5, 1, 23, 0, 0), (zp_189, 1, 1, 21, 0, 0), (zp_190, 2, 0, 0, 0, 0), (zp_191, 1, 0, 0, 0, 0)]
def zTB_12 : List zTE := [(zp_192, 2, 2, 47, 0, 0), (zp_193, 2, 2, 47, 0, 0), (zp_194, 1, 3, 68, 0, 0), (zp_195, 2, 0, 0, 0, 0), (zp_196, 2, 0, 0, 0, 0), (zp_197, 2, 0, 0, 0, 0), (zp_198, 2, 0, 0, 0, 0), (zp_199, 3, 1, 21, 0, 0), (zp_200, 4, 1, 21, 0, 0), (zp_201, 3, 0, 0, 0, 0), (zp_202, 4, 2, 44, 0, 0), (zp_203, 6, 0, 0, 0, 0), (zp_204, 12, 1, 25, 0, 0), (zp_205, 8, 3, 67, 0, 0), (zp_206, 4, 1, 21, 0, 0), (zp_207, 4, 4, 94, 0, 0)]
def zTB_13 : List zTE := [(zp_208, 2, 0, 0, 0, 0), (zp_209, 2, 1, 21, 0, 0), (zp_210, 2, 0, 0, 0, 0), (zp_211, 2, 0, 0, 0, 0), (zp_212, 3, 1, 21, 0, 0), (zp_213, 5, 2, 44, 0, 0), (zp_214, 4, 2, 44, 0, 0), (zp_215, 2, 3, 67, 0, 0), (zp_216, 1, 0, 0, 0, 0), (zp_217, 3, 4, 94, 0, 0), (zp_218, 4, 5, 117, 0, 0), (zp_219, 5, 4, 94, 0, 0), (zp_220, 4, 5, 118, 0, 0), (zp_221, 3, 5, 117, 0, 0), (zp_222, 1, 0, 0, 0, 0), (zp_223, 6, 0, 0, 0, 0)]
def zTB_14 : List zTE := [(zp_224, 3, 1, 21, 0, 0), (zp_225, 5, 1, 25, 0, 0), (zp_226, 7, 5, 117, 0, 0), (zp_227, 10, 6, 143, 0, 0), (zp_228, 5, 7, 172, 0, 0), (zp_229, 7, 5, 117, 0, 0), (zp_230, 4, 5, 117, 0, 0), (zp_231, 11, 5, 117, 0, 0), (zp_232, 7, 5, 117, 0, 0), (zp_233, 2, 0, 0, 0, 0), (zp_234, 2, 0, 0, 0, 0), (zp_235, 6, 1, 21, 0, 0), (zp_236, 3, 3, 67, 0, 0), (zp_237, 6, 4, 89, 0, 0), (zp_238, 4, 5, 118, 0, 0), (zp_239, 5, 5, 114, 0, 0)]
def zTB_15 : List zTE := [(zp_240, 6, 5, 118, 0, 0), (zp_241, 2, 0, 0, 0, 0), (zp_242, 3, 1, 21, 0, 0), (zp_243, 3, 1, 21, 0, 0), (zp_244, 8, 2, 43, 0, 0), (zp_245, 5, 1, 21, 0, 0), (zp_246, 3, 5, 117, 0, 0), (zp_247, 5, 6, 139, 0, 0), (zp_248, 6, 7, 163, 0, 0), (zp_249, 3, 0, 0, 0, 0), (zp_250, 5, 0, 0, 0, 0), (zp_251, 6, 0, 0, 0, 0), (zp_252, 6, 1, 25, 0, 0), (zp_253, 3, 3, 67, 0, 0), (zp_254, 7, 4, 94, 0, 0), (zp_255, 1, 5, 120, 0, 0)]
def zTB_16 : List zTE := [(zp_256, 4, 4, 94, 0, 0), (zp_257, 4, 0, 0, 0, 0), (zp_258, 4, 0, 0, 0, 0), (zp_259, 2, 1, 23, 0, 0), (zp_260, 3, 5, 120, 0, 0), (zp_261, 2, 5, 118, 0, 0), (zp_262, 2, 5, 118, 0, 0), (zp_263, 6, 5, 118, 0, 0), (zp_264, 1, 1, 23, 0, 0), (zp_265, 1, 1, 23, 0, 0), (zp_266, 1, 1, 23, 0, 0), (zp_267, 4, 1, 22, 0, 0), (zp_268, 1, 0, 0, 0, 0), (zp_269, 3, 0, 0, 0, 0), (zp_270, 6, 0, 0, 0, 0), (zp_271, 2, 0, 0, 0, 0)]
def zTB_17 : List zTE := [(zp_272, 2, 0, 0, 0, 0), (zp_273, 4, 0, 0, 0, 0), (zp_274, 2, 0, 0, 0, 0), (zp_275, 4, 0, 0, 0, 0), (zp_276, 7, 10, 422, 601024, 7293034)]
def zTB : List (List zTE) := [zTB_0, zTB_1, zTB_2, zTB_3, zTB_4, zTB_5, zTB_6, zTB_7, zTB_8, zTB_9, zTB_10, zTB_11, zTB_12, zTB_13, zTB_14, zTB_15, zTB_16, zTB_17]
def zdT : zTE := ([], 0, 0, 0, 0, 0)
def zrw (k : Nat) : zTE := (zTB.getD (k / 16) []).getD (k % 16) zdT
def zlay : List (List Nat) := [[2056, 2058, 2060, 2062, 2064], [2190, 2192, 2194], [2124, 2126, 2128, 2130, 2132, 2134, 2136, 2138, 2140, 2142, 2144], [2086, 2088, 2090, 2092, 2094, 2096, 2098, 2100, 2102, 2104], [1232, 1234, 1236, 1238, 2000, 2002, 2004], [1174, 1176, 1178, 1180, 1182, 1184, 1186, 1188, 1190, 1192, 1194], [2031, 2033, 2035], [2162, 2164, 2166, 2168, 2170, 2172, 2174], [1117, 1119, 1121, 1123, 1125, 1127, 1129, 1131, 1133, 1135, 1137, 1139, 1141, 1143], [1050, 1052, 1054, 1056], [1209, 1211, 1213, 1215, 1217, 1219], [2210, 2212, 2214, 2216, 2218, 2220, 2222, 2224, 2226, 2228, 2230], [6112, 6114, 6116, 6118, 6120, 6122, 6124, 6126, 6128, 6130, 6132, 6134, 6136, 6138, 6140, 6142, 6144, 6146, 6148, 6150, 6152, 6154, 6156, 6158, 6160, 6162, 6164, 6166, 6168, 6170, 6172, 6174, 6176, 6178, 6180, 6182, 6184, 6186, 6188, 6190, 6192, 6194, 6196, 6198, 6200, 6202, 6204, 6206, 6208, 6210, 6212, 6214, 6216, 6218, 6220, 6222, 6224, 6226, 6228, 6230, 6232, 6234, 6236, 6238, 7000, 7002, 7004, 7006, 7008, 7010, 7012]]
-- what a field's type is, by its kind
def zfkT (fk : Int) (ty : FieldType) : Prop := match fk with
  | 0 => ty = .int
  | 1 => ty = .boolean
  | 2 => ty = .long
  | _ => (∃ n, ty = .object n) ∨ ∃ t, ty = .array t
/-- a class's fields stand in the tables' words, their names are apart, their types as printed, no float among them -/
def zcc (ci : Nat) : Bool := match zcl[ci]? with
  | some q => zins (u_ws q.1 q.2.1 q.2.2) (zlay.getD ci []) && ((List.range q.2.2).all (fun k => decide (parseFieldDescriptor (q.2.1 k).2.2.1 = some (zFt ci k)) && (match zFt ci k with | .int => true | .boolean => true | .long => true | .object _ => true | .array _ => true | _ => false)) && (List.range q.2.2).all (fun a => (List.range q.2.2).all (fun b => Nat.beq a b || decide ((q.2.1 a).2.1 ≠ (q.2.1 b).2.1))))
  | none => false
set_option maxRecDepth 20000 in
theorem zcc_0 : zcc 0 = true := by decide +kernel
set_option maxRecDepth 20000 in
theorem zcc_1 : zcc 1 = true := by decide +kernel
set_option maxRecDepth 20000 in
theorem zcc_2 : zcc 2 = true := by decide +kernel
set_option maxRecDepth 20000 in
theorem zcc_3 : zcc 3 = true := by decide +kernel
set_option maxRecDepth 20000 in
theorem zcc_4 : zcc 4 = true := by decide +kernel
set_option maxRecDepth 20000 in
theorem zcc_5 : zcc 5 = true := by decide +kernel
set_option maxRecDepth 20000 in
theorem zcc_6 : zcc 6 = true := by decide +kernel
set_option maxRecDepth 20000 in
theorem zcc_7 : zcc 7 = true := by decide +kernel
set_option maxRecDepth 20000 in
theorem zcc_8 : zcc 8 = true := by decide +kernel
set_option maxRecDepth 20000 in
theorem zcc_9 : zcc 9 = true := by decide +kernel
set_option maxRecDepth 20000 in
theorem zcc_10 : zcc 10 = true := by decide +kernel
set_option maxRecDepth 20000 in
theorem zcc_11 : zcc 11 = true := by decide +kernel
set_option maxRecDepth 20000 in
theorem zcc_12 : zcc 12 = true := by decide +kernel
theorem zcc_all {ci : Nat} (h : ci < 13) : zcc ci = true := by
  rcases (show ci = 0 ∨ ci = 1 ∨ ci = 2 ∨ ci = 3 ∨ ci = 4 ∨ ci = 5 ∨ ci = 6 ∨ ci = 7 ∨ ci = 8 ∨ ci = 9 ∨ ci = 10 ∨ ci = 11 ∨ ci = 12 by omega) with rfl | rfl | rfl | rfl | rfl | rfl | rfl | rfl | rfl | rfl | rfl | rfl | rfl
  · exact zcc_0
  · exact zcc_1
  · exact zcc_2
  · exact zcc_3
  · exact zcc_4
  · exact zcc_5
  · exact zcc_6
  · exact zcc_7
  · exact zcc_8
  · exact zcc_9
  · exact zcc_10
  · exact zcc_11
  · exact zcc_12
theorem zclass {ci : Nat} {q : vw_C} (hc : zcl[ci]? = some q) : (∀ w ∈ u_ws q.1 q.2.1 q.2.2, w ∈ ztab) ∧ (∀ k, k < q.2.2 → parseFieldDescriptor (q.2.1 k).2.2.1 = some (zFt ci k)) ∧ (∀ a, a < q.2.2 → ∀ b, b < q.2.2 → a ≠ b → (q.2.1 a).2.1 ≠ (q.2.1 b).2.1) ∧ (∀ (B : zB) k, k < q.2.2 → zvm B (defaultValue (zFt ci k)) = defaultValue (zFt ci k)) ∧ ∀ k, k < q.2.2 → zfkT (match zFt ci k with | .int => 0 | .boolean => 1 | .long => 2 | _ => 3) (zFt ci k) := by
  have h := zcc_all (ci := ci) (List.getElem?_eq_some_iff.mp hc).1
  unfold zcc at h
  rw [hc] at h
  simp only [Bool.and_eq_true] at h
  obtain ⟨h1, h2, h3⟩ := h
  have h2' : ∀ k, k < q.2.2 → parseFieldDescriptor (q.2.1 k).2.2.1 = some (zFt ci k) ∧ (match zFt ci k with | .int => true | .boolean => true | .long => true | .object _ => true | .array _ => true | _ => false) = true := fun k hk => by
    have := List.all_eq_true.mp h2 k (List.mem_range.mpr hk)
    simpa only [Bool.and_eq_true, decide_eq_true_eq] using this
  refine ⟨fun w hw => ztab_in (zins_ok _ _ h1 w hw) (zlay_good w hw), fun k hk => (h2' k hk).1, fun a ha b hb hab => ?_, fun B k hk => ?_, fun k hk => ?_⟩
  · have := List.all_eq_true.mp (List.all_eq_true.mp h3 a (List.mem_range.mpr ha)) b (List.mem_range.mpr hb)
    simp only [Bool.or_eq_true, decide_eq_true_eq] at this
    rcases this with e | e
    · exact absurd (Nat.eq_of_beq_eq_true e) hab
    · exact e
  · have h5 := (h2' k hk).2
    generalize zFt ci k = ty at h5 ⊢
    cases ty <;> first | rfl | (simp at h5)
  · have h5 := (h2' k hk).2
    generalize zFt ci k = ty at h5 ⊢
    cases ty <;> first | rfl | exact Or.inl ⟨_, rfl⟩ | exact Or.inr ⟨_, rfl⟩ | (simp at h5)
/-- how an instruction goes on: 0 by itself; 1 a virtual call, 2 a static one, 3 a constructor's; 4, 5, 6: the method's end; 7: the law's look -/
def zkind (i : Instr) (a b : Nat) (v : Int) : Nat := match i with
  | .invokevirtual _ => 1
  | .invokestatic _ => (match Nat.beq b 99 with | true => 0 | false => (match Nat.beq a 9999 with | true => 7 | false => 2))
  | .invokespecial _ => (match v with | 0 => 0 | _ => 3)
  | .ireturn => 4
  | .lreturn => 5
  | .return_ => 6
  | _ => 0
def zrm (k : Nat) : Room := { frames := (zrw k).2.2.1, locals := (zrw k).2.2.2.1, cells := (zrw k).2.2.2.2.1, slots := (zrw k).2.2.2.2.2 }
/-- each call's room fits its caller's -/
def zrok (k : Nat) : Bool := (zrw k).1.all (fun e => match zkind e.2.1 e.2.2.1 e.2.2.2.1 e.2.2.2.2 with
  | 1 => Nat.ble ((zrm e.2.2.1).frames + 1) (zrm k).frames && Nat.ble (8 + ((zrw e.2.2.1).2.1 + 11) + (zrm e.2.2.1).locals) (zrm k).locals && Nat.ble (e.2.2.1 + 1) 276
  | 2 => Nat.ble ((zrm e.2.2.1).frames + 1) (zrm k).frames && Nat.ble (8 + ((zrw e.2.2.1).2.1 + 11) + (zrm e.2.2.1).locals) (zrm k).locals && Nat.ble (e.2.2.1 + 1) 276
  | 3 => Nat.ble ((zrm e.2.2.1).frames + 1) (zrm k).frames && Nat.ble (8 + ((zrw e.2.2.1).2.1 + 11) + (zrm e.2.2.1).locals) (zrm k).locals && Nat.ble (e.2.2.1 + 1) 276
  | _ => true)
set_option maxRecDepth 20000 in
theorem zrok_all : (List.range 277).all zrok = true := by decide +kernel
theorem zrok_k {k : Nat} (h : k < 277) : zrok k = true := List.all_eq_true.mp zrok_all k (List.mem_range.mpr h)
/-- the law's call of its own look -/
def zSp (me : zMe) (e : zPE) : Prop := e.2.1 = .invokestatic 39 ∧ e.2.2.1 = 9999 ∧ e.2.2.2.1 = 4 ∧ decode me.2.1 e.1 = .ok (.invokestatic 39, 3) ∧ me.1.cls = "TinTowerLaw"
/-- the printed table's programs are those that were checked -/
def zTBok : Prop := ∀ k, k < 276 → ∃ m, zM k = some m ∧ (∀ e ∈ (zrw k).1, zOK m e) ∧ m.2.2.1 = (zrw k).2.1 ∧ plainFor m.1 = true
