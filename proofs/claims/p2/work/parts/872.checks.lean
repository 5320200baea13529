/-! the printed program is the code's own: each method, checked by the kernel -/
set_option maxRecDepth 20000 in
theorem zk_138 : zck 138 = true := by decide +kernel
set_option maxRecDepth 20000 in
theorem zk_139 : zck 139 = true := by decide +kernel
set_option maxRecDepth 20000 in
theorem zk_140 : zck 140 = true := by decide +kernel
set_option maxRecDepth 20000 in
theorem zk_141 : zck 141 = true := by decide +kernel
set_option maxRecDepth 20000 in
theorem zk_142 : zck 142 = true := by decide +kernel
set_option maxRecDepth 20000 in
theorem zk_143 : zck 143 = true := by decide +kernel
set_option maxRecDepth 20000 in
theorem zk_144 : zck 144 = true := by decide +kernel
set_option maxRecDepth 20000 in
theorem zk_145 : zck 145 = true := by decide +kernel
set_option maxRecDepth 20000 in
theorem zk_146 : zck 146 = true := by decide +kernel
set_option maxRecDepth 20000 in
theorem zk_147 : zck 147 = true := by decide +kernel
set_option maxRecDepth 20000 in
theorem zk_148 : zck 148 = true := by decide +kernel
set_option maxRecDepth 20000 in
theorem zk_149 : zck 149 = true := by decide +kernel
set_option maxRecDepth 20000 in
theorem zk_150 : zck 150 = true := by decide +kernel
set_option maxRecDepth 20000 in
theorem zk_151 : zck 151 = true := by decide +kernel
set_option maxRecDepth 20000 in
theorem zk_152 : zck 152 = true := by decide +kernel
set_option maxRecDepth 20000 in
theorem zk_153 : zck 153 = true := by decide +kernel
set_option maxRecDepth 20000 in
theorem zk_154 : zck 154 = true := by decide +kernel
set_option maxRecDepth 20000 in
theorem zk_155 : zck 155 = true := by decide +kernel
set_option maxRecDepth 20000 in
theorem zk_156 : zck 156 = true := by decide +kernel
set_option maxRecDepth 20000 in
theorem zk_157 : zck 157 = true := by decide +kernel
set_option maxRecDepth 20000 in
theorem zk_158 : zck 158 = true := by decide +kernel
set_option maxRecDepth 20000 in
theorem zk_159 : zck 159 = true := by decide +kernel
set_option maxRecDepth 20000 in
theorem zk_160 : zck 160 = true := by decide +kernel
set_option maxRecDepth 20000 in
theorem zk_161 : zck 161 = true := by decide +kernel
set_option maxRecDepth 20000 in
theorem zk_162 : zck 162 = true := by decide +kernel
set_option maxRecDepth 20000 in
theorem zk_163 : zck 163 = true := by decide +kernel
set_option maxRecDepth 20000 in
theorem zk_164 : zck 164 = true := by decide +kernel
set_option maxRecDepth 20000 in
theorem zk_165 : zck 165 = true := by decide +kernel
set_option maxRecDepth 20000 in
theorem zk_166 : zck 166 = true := by decide +kernel
set_option maxRecDepth 20000 in
theorem zk_167 : zck 167 = true := by decide +kernel
set_option maxRecDepth 20000 in
theorem zk_168 : zck 168 = true := by decide +kernel
set_option maxRecDepth 20000 in
theorem zk_169 : zck 169 = true := by decide +kernel
set_option maxRecDepth 20000 in
theorem zk_170 : zck 170 = true := by decide +kernel
set_option maxRecDepth 20000 in
theorem zk_171 : zck 171 = true := by decide +kernel
set_option maxRecDepth 20000 in
theorem zk_172 : zck 172 = true := by decide +kernel
set_option maxRecDepth 20000 in
theorem zk_173 : zck 173 = true := by decide +kernel
set_option maxRecDepth 20000 in
theorem zk_174 : zck 174 = true := by decide +kernel
set_option maxRecDepth 20000 in
theorem zk_175 : zck 175 = true := by decide +kernel
set_option maxRecDepth 20000 in
theorem zk_176 : zck 176 = true := by decide +kernel
set_option maxRecDepth 20000 in
theorem zk_177 : zck 177 = true := by decide +kernel
set_option maxRecDepth 20000 in
theorem zk_178 : zck 178 = true := by decide +kernel
set_option maxRecDepth 20000 in
theorem zk_179 : zck 179 = true := by decide +kernel
set_option maxRecDepth 20000 in
theorem zk_180 : zck 180 = true := by decide +kernel
set_option maxRecDepth 20000 in
theorem zk_181 : zck 181 = true := by decide +kernel
set_option maxRecDepth 20000 in
theorem zk_182 : zck 182 = true := by decide +kernel
set_option maxRecDepth 20000 in
theorem zk_183 : zck 183 = true := by decide +kernel
set_option maxRecDepth 20000 in
theorem zk_184 : zck 184 = true := by decide +kernel
set_option maxRecDepth 20000 in
theorem zk_185 : zck 185 = true := by decide +kernel
set_option maxRecDepth 20000 in
theorem zk_186 : zck 186 = true := by decide +kernel
set_option maxRecDepth 20000 in
theorem zk_187 : zck 187 = true := by decide +kernel
set_option maxRecDepth 20000 in
theorem zk_188 : zck 188 = true := by decide +kernel
set_option maxRecDepth 20000 in
theorem zk_189 : zck 189 = true := by decide +kernel
set_option maxRecDepth 20000 in
theorem zk_190 : zck 190 = true := by decide +kernel
set_option maxRecDepth 20000 in
theorem zk_191 : zck 191 = true := by decide +kernel
set_option maxRecDepth 20000 in
theorem zk_192 : zck 192 = true := by decide +kernel
set_option maxRecDepth 20000 in
theorem zk_193 : zck 193 = true := by decide +kernel
set_option maxRecDepth 20000 in
theorem zk_194 : zck 194 = true := by decide +kernel
set_option maxRecDepth 20000 in
theorem zk_195 : zck 195 = true := by decide +kernel
set_option maxRecDepth 20000 in
theorem zk_196 : zck 196 = true := by decide +kernel
set_option maxRecDepth 20000 in
theorem zk_197 : zck 197 = true := by decide +kernel
set_option maxRecDepth 20000 in
theorem zk_198 : zck 198 = true := by decide +kernel
set_option maxRecDepth 20000 in
theorem zk_199 : zck 199 = true := by decide +kernel
set_option maxRecDepth 20000 in
theorem zk_200 : zck 200 = true := by decide +kernel
set_option maxRecDepth 20000 in
theorem zk_201 : zck 201 = true := by decide +kernel
set_option maxRecDepth 20000 in
theorem zk_202 : zck 202 = true := by decide +kernel
set_option maxRecDepth 20000 in
theorem zk_203 : zck 203 = true := by decide +kernel
set_option maxRecDepth 20000 in
theorem zk_204 : zck 204 = true := by decide +kernel
set_option maxRecDepth 20000 in
theorem zk_205 : zck 205 = true := by decide +kernel
set_option maxRecDepth 20000 in
theorem zk_206 : zck 206 = true := by decide +kernel
