/-! the law's own code, and the tables as they were checked -/
def zmLaw : zMe := (x, code, maxLocals, ret)
def zspb (m : zMe) (e : zPE) : Bool := decide (e.2.1 = .invokestatic 39) && (Nat.beq e.2.2.1 9999 && (Nat.beq e.2.2.2.1 4 && (zdk m.2.1 e.1 e.2.1 && decide (m.1.cls = "TinTowerLaw"))))
theorem zspb_ok {m : zMe} {e : zPE} (h : zspb m e = true) : zSp m e := by
  unfold zspb at h
  simp only [Bool.and_eq_true, decide_eq_true_eq] at h
  obtain ⟨h1, h2, h3, h4, h5⟩ := h
  have h6 := zdk_ok h4 (by rw [h1]; rfl)
  rw [h1] at h6
  exact ⟨h1, Nat.eq_of_beq_eq_true h2, Nat.eq_of_beq_eq_true h3, h6, h5⟩
def zchkL (m : zMe) : List zPE → List (List Nat) → Bool
  | [], _ => true
  | e :: es, q :: qs => (zspb m e || (zdk m.2.1 e.1 e.2.1 && (zsd m e.2.1 e.2.2.1 e.2.2.2.1 e.2.2.2.2 && zins (zwds m.1.cls e.2.1 e.2.2.1 e.2.2.2.1 e.2.2.2.2) q))) && zchkL m es qs
  | _, _ => false
theorem zchkL_ok (m : zMe) : ∀ (es : List zPE) (qs : List (List Nat)), zchkL m es qs = true → ∀ e ∈ es, zOK m e ∨ zSp m e
  | [], _, _, e, he => absurd he List.not_mem_nil
  | e :: es, [], h, _, _ => by simp [zchkL] at h
  | e :: es, q :: qs, h, z, hz => by
    unfold zchkL at h
    rw [Bool.and_eq_true, Bool.or_eq_true] at h
    rcases List.mem_cons.mp hz with rfl | hz
    · rcases h.1 with h1 | h1
      · exact Or.inr (zspb_ok h1)
      · simp only [Bool.and_eq_true] at h1
        exact Or.inl ⟨h1.1, h1.2.1, zins_ok _ _ h1.2.2⟩
    · exact zchkL_ok m es qs h.2 z hz
def zlw : Nat → List zPE
  | 0 => zp_277
  | n + 1 => (zlw n).drop 100
def zlv : Nat → List (List Nat)
  | 0 => zq_277
  | n + 1 => (zlv n).drop 100
set_option maxRecDepth 100000 in
theorem zlc_0 : zchkL zmLaw ((zlw 0).take 100) ((zlv 0).take 100) = true := by decide +kernel
set_option maxRecDepth 100000 in
theorem zlc_1 : zchkL zmLaw ((zlw 1).take 100) ((zlv 1).take 100) = true := by decide +kernel
set_option maxRecDepth 100000 in
theorem zlc_2 : zchkL zmLaw ((zlw 2).take 100) ((zlv 2).take 100) = true := by decide +kernel
set_option maxRecDepth 100000 in
theorem zlc_3 : zchkL zmLaw ((zlw 3).take 100) ((zlv 3).take 100) = true := by decide +kernel
set_option maxRecDepth 100000 in
theorem zlc_4 : zchkL zmLaw ((zlw 4).take 100) ((zlv 4).take 100) = true := by decide +kernel
set_option maxRecDepth 100000 in
theorem zlc_5 : zchkL zmLaw ((zlw 5).take 100) ((zlv 5).take 100) = true := by decide +kernel
set_option maxRecDepth 100000 in
theorem zlc_6 : zchkL zmLaw ((zlw 6).take 100) ((zlv 6).take 100) = true := by decide +kernel
set_option maxRecDepth 100000 in
theorem zlc_7 : zchkL zmLaw ((zlw 7).take 100) ((zlv 7).take 100) = true := by decide +kernel
theorem zlw_end : (zlw 8).isEmpty = true := by decide +kernel
theorem zlw_cut {n : Nat} {e : zPE} (h : e ∈ zlw n) : e ∈ (zlw n).take 100 ∨ e ∈ zlw (n + 1) := by
  have h2 : e ∈ (zlw n).take 100 ++ (zlw n).drop 100 := by rw [List.take_append_drop]; exact h
  exact List.mem_append.mp h2
theorem zLawOK : ∀ e ∈ zp_277, zOK zmLaw e ∨ zSp zmLaw e := by
  intro e h
  have h : e ∈ zlw 0 := h
  rcases zlw_cut h with h | h
  · exact zchkL_ok _ _ _ zlc_0 e h
  rcases zlw_cut h with h | h
  · exact zchkL_ok _ _ _ zlc_1 e h
  rcases zlw_cut h with h | h
  · exact zchkL_ok _ _ _ zlc_2 e h
  rcases zlw_cut h with h | h
  · exact zchkL_ok _ _ _ zlc_3 e h
  rcases zlw_cut h with h | h
  · exact zchkL_ok _ _ _ zlc_4 e h
  rcases zlw_cut h with h | h
  · exact zchkL_ok _ _ _ zlc_5 e h
  rcases zlw_cut h with h | h
  · exact zchkL_ok _ _ _ zlc_6 e h
  rcases zlw_cut h with h | h
  · exact zchkL_ok _ _ _ zlc_7 e h
  have h2 := zlw_end
  rw [List.isEmpty_iff] at h2
  rw [h2] at h
  exact absurd h List.not_mem_nil
set_option maxRecDepth 20000 in
theorem zti_0 {k : Nat} (h0 : 0 ≤ k) (h1 : k < 10) : (zrw k).1 = zPs.getD k [] := by
  have h : k = 0 ∨ k = 1 ∨ k = 2 ∨ k = 3 ∨ k = 4 ∨ k = 5 ∨ k = 6 ∨ k = 7 ∨ k = 8 ∨ k = 9 := by omega
  rcases h with rfl | rfl | rfl | rfl | rfl | rfl | rfl | rfl | rfl | rfl <;> rfl
set_option maxRecDepth 20000 in
theorem zti_1 {k : Nat} (h0 : 10 ≤ k) (h1 : k < 20) : (zrw k).1 = zPs.getD k [] := by
  have h : k = 10 ∨ k = 11 ∨ k = 12 ∨ k = 13 ∨ k = 14 ∨ k = 15 ∨ k = 16 ∨ k = 17 ∨ k = 18 ∨ k = 19 := by omega
  rcases h with rfl | rfl | rfl | rfl | rfl | rfl | rfl | rfl | rfl | rfl <;> rfl
set_option maxRecDepth 20000 in
theorem zti_2 {k : Nat} (h0 : 20 ≤ k) (h1 : k < 30) : (zrw k).1 = zPs.getD k [] := by
  have h : k = 20 ∨ k = 21 ∨ k = 22 ∨ k = 23 ∨ k = 24 ∨ k = 25 ∨ k = 26 ∨ k = 27 ∨ k = 28 ∨ k = 29 := by omega
  rcases h with rfl | rfl | rfl | rfl | rfl | rfl | rfl | rfl | rfl | rfl <;> rfl
set_option maxRecDepth 20000 in
theorem zti_3 {k : Nat} (h0 : 30 ≤ k) (h1 : k < 40) : (zrw k).1 = zPs.getD k [] := by
  have h : k = 30 ∨ k = 31 ∨ k = 32 ∨ k = 33 ∨ k = 34 ∨ k = 35 ∨ k = 36 ∨ k = 37 ∨ k = 38 ∨ k = 39 := by omega
  rcases h with rfl | rfl | rfl | rfl | rfl | rfl | rfl | rfl | rfl | rfl <;> rfl
set_option maxRecDepth 20000 in
theorem zti_4 {k : Nat} (h0 : 40 ≤ k) (h1 : k < 50) : (zrw k).1 = zPs.getD k [] := by
  have h : k = 40 ∨ k = 41 ∨ k = 42 ∨ k = 43 ∨ k = 44 ∨ k = 45 ∨ k = 46 ∨ k = 47 ∨ k = 48 ∨ k = 49 := by omega
  rcases h with rfl | rfl | rfl | rfl | rfl | rfl | rfl | rfl | rfl | rfl <;> rfl
set_option maxRecDepth 20000 in
theorem zti_5 {k : Nat} (h0 : 50 ≤ k) (h1 : k < 60) : (zrw k).1 = zPs.getD k [] := by
  have h : k = 50 ∨ k = 51 ∨ k = 52 ∨ k = 53 ∨ k = 54 ∨ k = 55 ∨ k = 56 ∨ k = 57 ∨ k = 58 ∨ k = 59 := by omega
  rcases h with rfl | rfl | rfl | rfl | rfl | rfl | rfl | rfl | rfl | rfl <;> rfl
set_option maxRecDepth 20000 in
theorem zti_6 {k : Nat} (h0 : 60 ≤ k) (h1 : k < 70) : (zrw k).1 = zPs.getD k [] := by
  have h : k = 60 ∨ k = 61 ∨ k = 62 ∨ k = 63 ∨ k = 64 ∨ k = 65 ∨ k = 66 ∨ k = 67 ∨ k = 68 ∨ k = 69 := by omega
  rcases h with rfl | rfl | rfl | rfl | rfl | rfl | rfl | rfl | rfl | rfl <;> rfl
set_option maxRecDepth 20000 in
theorem zti_7 {k : Nat} (h0 : 70 ≤ k) (h1 : k < 80) : (zrw k).1 = zPs.getD k [] := by
  have h : k = 70 ∨ k = 71 ∨ k = 72 ∨ k = 73 ∨ k = 74 ∨ k = 75 ∨ k = 76 ∨ k = 77 ∨ k = 78 ∨ k = 79 := by omega
  rcases h with rfl | rfl | rfl | rfl | rfl | rfl | rfl | rfl | rfl | rfl <;> rfl
set_option maxRecDepth 20000 in
theorem zti_8 {k : Nat} (h0 : 80 ≤ k) (h1 : k < 90) : (zrw k).1 = zPs.getD k [] := by
  have h : k = 80 ∨ k = 81 ∨ k = 82 ∨ k = 83 ∨ k = 84 ∨ k = 85 ∨ k = 86 ∨ k = 87 ∨ k = 88 ∨ k = 89 := by omega
  rcases h with rfl | rfl | rfl | rfl | rfl | rfl | rfl | rfl | rfl | rfl <;> rfl
set_option maxRecDepth 20000 in
theorem zti_9 {k : Nat} (h0 : 90 ≤ k) (h1 : k < 100) : (zrw k).1 = zPs.getD k [] := by
  have h : k = 90 ∨ k = 91 ∨ k = 92 ∨ k = 93 ∨ k = 94 ∨ k = 95 ∨ k = 96 ∨ k = 97 ∨ k = 98 ∨ k = 99 := by omega
  rcases h with rfl | rfl | rfl | rfl | rfl | rfl | rfl | rfl | rfl | rfl <;> rfl
set_option maxRecDepth 20000 in
theorem zti_10 {k : Nat} (h0 : 100 ≤ k) (h1 : k < 110) : (zrw k).1 = zPs.getD k [] := by
  have h : k = 100 ∨ k = 101 ∨ k = 102 ∨ k = 103 ∨ k = 104 ∨ k = 105 ∨ k = 106 ∨ k = 107 ∨ k = 108 ∨ k = 109 := by omega
  rcases h with rfl | rfl | rfl | rfl | rfl | rfl | rfl | rfl | rfl | rfl <;> rfl
set_option maxRecDepth 20000 in
theorem zti_11 {k : Nat} (h0 : 110 ≤ k) (h1 : k < 120) : (zrw k).1 = zPs.getD k [] := by
  have h : k = 110 ∨ k = 111 ∨ k = 112 ∨ k = 113 ∨ k = 114 ∨ k = 115 ∨ k = 116 ∨ k = 117 ∨ k = 118 ∨ k = 119 := by omega
  rcases h with rfl | rfl | rfl | rfl | rfl | rfl | rfl | rfl | rfl | rfl <;> rfl
set_option maxRecDepth 20000 in
theorem zti_12 {k : Nat} (h0 : 120 ≤ k) (h1 : k < 130) : (zrw k).1 = zPs.getD k [] := by
  have h : k = 120 ∨ k = 121 ∨ k = 122 ∨ k = 123 ∨ k = 124 ∨ k = 125 ∨ k = 126 ∨ k = 127 ∨ k = 128 ∨ k = 129 := by omega
  rcases h with rfl | rfl | rfl | rfl | rfl | rfl | rfl | rfl | rfl | rfl <;> rfl
set_option maxRecDepth 20000 in
theorem zti_13 {k : Nat} (h0 : 130 ≤ k) (h1 : k < 140) : (zrw k).1 = zPs.getD k [] := by
  have h : k = 130 ∨ k = 131 ∨ k = 132 ∨ k = 133 ∨ k = 134 ∨ k = 135 ∨ k = 136 ∨ k = 137 ∨ k = 138 ∨ k = 139 := by omega
  rcases h with rfl | rfl | rfl | rfl | rfl | rfl | rfl | rfl | rfl | rfl <;> rfl
set_option maxRecDepth 20000 in
theorem zti_14 {k : Nat} (h0 : 140 ≤ k) (h1 : k < 150) : (zrw k).1 = zPs.getD k [] := by
  have h : k = 140 ∨ k = 141 ∨ k = 142 ∨ k = 143 ∨ k = 144 ∨ k = 145 ∨ k = 146 ∨ k = 147 ∨ k = 148 ∨ k = 149 := by omega
  rcases h with rfl | rfl | rfl | rfl | rfl | rfl | rfl | rfl | rfl | rfl <;> rfl
set_option maxRecDepth 20000 in
theorem zti_15 {k : Nat} (h0 : 150 ≤ k) (h1 : k < 160) : (zrw k).1 = zPs.getD k [] := by
  have h : k = 150 ∨ k = 151 ∨ k = 152 ∨ k = 153 ∨ k = 154 ∨ k = 155 ∨ k = 156 ∨ k = 157 ∨ k = 158 ∨ k = 159 := by omega
  rcases h with rfl | rfl | rfl | rfl | rfl | rfl | rfl | rfl | rfl | rfl <;> rfl
set_option maxRecDepth 20000 in
theorem zti_16 {k : Nat} (h0 : 160 ≤ k) (h1 : k < 170) : (zrw k).1 = zPs.getD k [] := by
  have h : k = 160 ∨ k = 161 ∨ k = 162 ∨ k = 163 ∨ k = 164 ∨ k = 165 ∨ k = 166 ∨ k = 167 ∨ k = 168 ∨ k = 169 := by omega
  rcases h with rfl | rfl | rfl | rfl | rfl | rfl | rfl | rfl | rfl | rfl <;> rfl
set_option maxRecDepth 20000 in
theorem zti_17 {k : Nat} (h0 : 170 ≤ k) (h1 : k < 180) : (zrw k).1 = zPs.getD k [] := by
  have h : k = 170 ∨ k = 171 ∨ k = 172 ∨ k = 173 ∨ k = 174 ∨ k = 175 ∨ k = 176 ∨ k = 177 ∨ k = 178 ∨ k = 179 := by omega
  rcases h with rfl | rfl | rfl | rfl | rfl | rfl | rfl | rfl | rfl | rfl <;> rfl
set_option maxRecDepth 20000 in
theorem zti_18 {k : Nat} (h0 : 180 ≤ k) (h1 : k < 190) : (zrw k).1 = zPs.getD k [] := by
  have h : k = 180 ∨ k = 181 ∨ k = 182 ∨ k = 183 ∨ k = 184 ∨ k = 185 ∨ k = 186 ∨ k = 187 ∨ k = 188 ∨ k = 189 := by omega
  rcases h with rfl | rfl | rfl | rfl | rfl | rfl | rfl | rfl | rfl | rfl <;> rfl
set_option maxRecDepth 20000 in
theorem zti_19 {k : Nat} (h0 : 190 ≤ k) (h1 : k < 200) : (zrw k).1 = zPs.getD k [] := by
  have h : k = 190 ∨ k = 191 ∨ k = 192 ∨ k = 193 ∨ k = 194 ∨ k = 195 ∨ k = 196 ∨ k = 197 ∨ k = 198 ∨ k = 199 := by omega
  rcases h with rfl | rfl | rfl | rfl | rfl | rfl | rfl | rfl | rfl | rfl <;> rfl
set_option maxRecDepth 20000 in
theorem zti_20 {k : Nat} (h0 : 200 ≤ k) (h1 : k < 210) : (zrw k).1 = zPs.getD k [] := by
  have h : k = 200 ∨ k = 201 ∨ k = 202 ∨ k = 203 ∨ k = 204 ∨ k = 205 ∨ k = 206 ∨ k = 207 ∨ k = 208 ∨ k = 209 := by omega
  rcases h with rfl | rfl | rfl | rfl | rfl | rfl | rfl | rfl | rfl | rfl <;> rfl
set_option maxRecDepth 20000 in
theorem zti_21 {k : Nat} (h0 : 210 ≤ k) (h1 : k < 220) : (zrw k).1 = zPs.getD k [] := by
  have h : k = 210 ∨ k = 211 ∨ k = 212 ∨ k = 213 ∨ k = 214 ∨ k = 215 ∨ k = 216 ∨ k = 217 ∨ k = 218 ∨ k = 219 := by omega
  rcases h with rfl | rfl | rfl | rfl | rfl | rfl | rfl | rfl | rfl | rfl <;> rfl
set_option maxRecDepth 20000 in
theorem zti_22 {k : Nat} (h0 : 220 ≤ k) (h1 : k < 230) : (zrw k).1 = zPs.getD k [] := by
  have h : k = 220 ∨ k = 221 ∨ k = 222 ∨ k = 223 ∨ k = 224 ∨ k = 225 ∨ k = 226 ∨ k = 227 ∨ k = 228 ∨ k = 229 := by omega
  rcases h with rfl | rfl | rfl | rfl | rfl | rfl | rfl | rfl | rfl | rfl <;> rfl
set_option maxRecDepth 20000 in
theorem zti_23 {k : Nat} (h0 : 230 ≤ k) (h1 : k < 240) : (zrw k).1 = zPs.getD k [] := by
  have h : k = 230 ∨ k = 231 ∨ k = 232 ∨ k = 233 ∨ k = 234 ∨ k = 235 ∨ k = 236 ∨ k = 237 ∨ k = 238 ∨ k = 239 := by omega
  rcases h with rfl | rfl | rfl | rfl | rfl | rfl | rfl | rfl | rfl | rfl <;> rfl
set_option maxRecDepth 20000 in
theorem zti_24 {k : Nat} (h0 : 240 ≤ k) (h1 : k < 250) : (zrw k).1 = zPs.getD k [] := by
  have h : k = 240 ∨ k = 241 ∨ k = 242 ∨ k = 243 ∨ k = 244 ∨ k = 245 ∨ k = 246 ∨ k = 247 ∨ k = 248 ∨ k = 249 := by omega
  rcases h with rfl | rfl | rfl | rfl | rfl | rfl | rfl | rfl | rfl | rfl <;> rfl
set_option maxRecDepth 20000 in
theorem zti_25 {k : Nat} (h0 : 250 ≤ k) (h1 : k < 260) : (zrw k).1 = zPs.getD k [] := by
  have h : k = 250 ∨ k = 251 ∨ k = 252 ∨ k = 253 ∨ k = 254 ∨ k = 255 ∨ k = 256 ∨ k = 257 ∨ k = 258 ∨ k = 259 := by omega
  rcases h with rfl | rfl | rfl | rfl | rfl | rfl | rfl | rfl | rfl | rfl <;> rfl
set_option maxRecDepth 20000 in
theorem zti_26 {k : Nat} (h0 : 260 ≤ k) (h1 : k < 270) : (zrw k).1 = zPs.getD k [] := by
  have h : k = 260 ∨ k = 261 ∨ k = 262 ∨ k = 263 ∨ k = 264 ∨ k = 265 ∨ k = 266 ∨ k = 267 ∨ k = 268 ∨ k = 269 := by omega
  rcases h with rfl | rfl | rfl | rfl | rfl | rfl | rfl | rfl | rfl | rfl <;> rfl
set_option maxRecDepth 20000 in
theorem zti_27 {k : Nat} (h0 : 270 ≤ k) (h1 : k < 277) : (zrw k).1 = zPs.getD k [] := by
  have h : k = 270 ∨ k = 271 ∨ k = 272 ∨ k = 273 ∨ k = 274 ∨ k = 275 ∨ k = 276 := by omega
  rcases h with rfl | rfl | rfl | rfl | rfl | rfl | rfl <;> rfl
theorem zti_all {k : Nat} (hk : k < 277) : (zrw k).1 = zPs.getD k [] := by
  by_cases h0 : k < 10
  · exact zti_0 (by omega) h0
  by_cases h1 : k < 20
  · exact zti_1 (by omega) h1
  by_cases h2 : k < 30
  · exact zti_2 (by omega) h2
  by_cases h3 : k < 40
  · exact zti_3 (by omega) h3
  by_cases h4 : k < 50
  · exact zti_4 (by omega) h4
  by_cases h5 : k < 60
  · exact zti_5 (by omega) h5
  by_cases h6 : k < 70
  · exact zti_6 (by omega) h6
  by_cases h7 : k < 80
  · exact zti_7 (by omega) h7
  by_cases h8 : k < 90
  · exact zti_8 (by omega) h8
  by_cases h9 : k < 100
  · exact zti_9 (by omega) h9
  by_cases h10 : k < 110
  · exact zti_10 (by omega) h10
  by_cases h11 : k < 120
  · exact zti_11 (by omega) h11
  by_cases h12 : k < 130
  · exact zti_12 (by omega) h12
  by_cases h13 : k < 140
  · exact zti_13 (by omega) h13
  by_cases h14 : k < 150
  · exact zti_14 (by omega) h14
  by_cases h15 : k < 160
  · exact zti_15 (by omega) h15
  by_cases h16 : k < 170
  · exact zti_16 (by omega) h16
  by_cases h17 : k < 180
  · exact zti_17 (by omega) h17
  by_cases h18 : k < 190
  · exact zti_18 (by omega) h18
  by_cases h19 : k < 200
  · exact zti_19 (by omega) h19
  by_cases h20 : k < 210
  · exact zti_20 (by omega) h20
  by_cases h21 : k < 220
  · exact zti_21 (by omega) h21
  by_cases h22 : k < 230
  · exact zti_22 (by omega) h22
  by_cases h23 : k < 240
  · exact zti_23 (by omega) h23
  by_cases h24 : k < 250
  · exact zti_24 (by omega) h24
  by_cases h25 : k < 260
  · exact zti_25 (by omega) h25
  by_cases h26 : k < 270
  · exact zti_26 (by omega) h26
  by_cases h27 : k < 277
  · exact zti_27 (by omega) h27
  omega
set_option maxRecDepth 20000 in
theorem ztm_all : (List.range 277).all (fun k => match zM k with | some m => Nat.beq m.2.2.1 (zrw k).2.1 && plainFor m.1 | none => false) = true := by decide +kernel
theorem zTB_ok : zTBok := fun k hk => by
  obtain ⟨m, hm, hOK⟩ := zv_all hk
  have h := List.all_eq_true.mp ztm_all k (List.mem_range.mpr hk)
  rw [hm] at h
  simp only [Bool.and_eq_true] at h
  exact ⟨m, hm, by rw [zti_all hk]; exact hOK, Nat.eq_of_beq_eq_true h.1, h.2⟩
