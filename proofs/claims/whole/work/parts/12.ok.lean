/-! the code of each method, checked: 1 -/
set_option maxRecDepth 100000 in
theorem ok_126 : p_okm 126 = true := by decide +kernel
set_option maxRecDepth 100000 in
theorem ok_127 : p_okm 127 = true := by decide +kernel
set_option maxRecDepth 100000 in
theorem ok_128 : p_okm 128 = true := by decide +kernel
set_option maxRecDepth 100000 in
theorem ok_129 : p_okm 129 = true := by decide +kernel
set_option maxRecDepth 100000 in
theorem ok_130 : p_okm 130 = true := by decide +kernel
set_option maxRecDepth 100000 in
theorem ok_131 : p_okm 131 = true := by decide +kernel
set_option maxRecDepth 100000 in
theorem ok_132 : p_okm 132 = true := by decide +kernel
set_option maxRecDepth 100000 in
theorem ok_134 : p_okm 134 = true := by decide +kernel
set_option maxRecDepth 100000 in
theorem ok_135 : p_okm 135 = true := by decide +kernel
set_option maxRecDepth 100000 in
theorem ok_136 : p_okm 136 = true := by decide +kernel
set_option maxRecDepth 100000 in
theorem ok_137 : p_okm 137 = true := by decide +kernel
set_option maxRecDepth 100000 in
theorem ok_138 : p_okm 138 = true := by decide +kernel
set_option maxRecDepth 100000 in
theorem ok_139 : p_okm 139 = true := by decide +kernel
set_option maxRecDepth 100000 in
theorem ok_140 : p_okm 140 = true := by decide +kernel
set_option maxRecDepth 100000 in
theorem ok_141 : p_okm 141 = true := by decide +kernel
set_option maxRecDepth 100000 in
theorem ok_142 : p_okm 142 = true := by decide +kernel
set_option maxRecDepth 100000 in
theorem ok_143 : p_okm 143 = true := by decide +kernel
set_option maxRecDepth 100000 in
theorem ok_144 : p_okm 144 = true := by decide +kernel
set_option maxRecDepth 100000 in
theorem ok_145 : p_okm 145 = true := by decide +kernel
set_option maxRecDepth 100000 in
theorem ok_146 : p_okm 146 = true := by decide +kernel
set_option maxRecDepth 100000 in
theorem ok_147 : p_okm 147 = true := by decide +kernel
set_option maxRecDepth 100000 in
theorem ok_148 : p_okm 148 = true := by decide +kernel
set_option maxRecDepth 100000 in
theorem ok_149 : p_okm 149 = true := by decide +kernel
set_option maxRecDepth 100000 in
theorem ok_150 : p_okm 150 = true := by decide +kernel
set_option maxRecDepth 100000 in
theorem ok_151 : p_okm 151 = true := by decide +kernel
set_option maxRecDepth 100000 in
theorem ok_152 : p_okm 152 = true := by decide +kernel
set_option maxRecDepth 100000 in
theorem ok_153 : p_okm 153 = true := by decide +kernel
set_option maxRecDepth 100000 in
theorem ok_154 : p_okm 154 = true := by decide +kernel
set_option maxRecDepth 100000 in
theorem ok_155 : p_okm 155 = true := by decide +kernel
set_option maxRecDepth 100000 in
theorem ok_156 : p_okm 156 = true := by decide +kernel
set_option maxRecDepth 100000 in
theorem ok_157 : p_okm 157 = true := by decide +kernel
set_option maxRecDepth 100000 in
theorem ok_158 : p_okm 158 = true := by decide +kernel
set_option maxRecDepth 100000 in
theorem ok_159 : p_okm 159 = true := by decide +kernel
set_option maxRecDepth 100000 in
theorem ok_160 : p_okm 160 = true := by decide +kernel
set_option maxRecDepth 100000 in
theorem ok_161 : p_okm 161 = true := by decide +kernel
set_option maxRecDepth 100000 in
theorem ok_162 : p_okm 162 = true := by decide +kernel
set_option maxRecDepth 100000 in
theorem ok_163 : p_okm 163 = true := by decide +kernel
set_option maxRecDepth 100000 in
theorem ok_164 : p_okm 164 = true := by decide +kernel
set_option maxRecDepth 100000 in
theorem ok_165 : p_okm 165 = true := by decide +kernel
set_option maxRecDepth 100000 in
theorem ok_166 : p_okm 166 = true := by decide +kernel
set_option maxRecDepth 100000 in
theorem ok_167 : p_okm 167 = true := by decide +kernel
set_option maxRecDepth 100000 in
theorem ok_168 : p_okm 168 = true := by decide +kernel
set_option maxRecDepth 100000 in
theorem ok_169 : p_okm 169 = true := by decide +kernel
set_option maxRecDepth 100000 in
theorem ok_170 : p_okm 170 = true := by decide +kernel
set_option maxRecDepth 100000 in
theorem ok_171 : p_okm 171 = true := by decide +kernel
set_option maxRecDepth 100000 in
theorem ok_172 : p_okm 172 = true := by decide +kernel
set_option maxRecDepth 100000 in
theorem ok_173 : p_okm 173 = true := by decide +kernel
set_option maxRecDepth 100000 in
theorem ok_174 : p_okm 174 = true := by decide +kernel
set_option maxRecDepth 100000 in
theorem ok_175 : p_okm 175 = true := by decide +kernel
set_option maxRecDepth 100000 in
theorem ok_176 : p_okm 176 = true := by decide +kernel
set_option maxRecDepth 100000 in
theorem ok_177 : p_okm 177 = true := by decide +kernel
set_option maxRecDepth 100000 in
theorem ok_178 : p_okm 178 = true := by decide +kernel
set_option maxRecDepth 100000 in
theorem ok_179 : p_okm 179 = true := by decide +kernel
set_option maxRecDepth 100000 in
theorem ok_180 : p_okm 180 = true := by decide +kernel
set_option maxRecDepth 100000 in
theorem ok_181 : p_okm 181 = true := by decide +kernel
set_option maxRecDepth 100000 in
theorem ok_182 : p_okm 182 = true := by decide +kernel
set_option maxRecDepth 100000 in
theorem ok_183 : p_okm 183 = true := by decide +kernel
set_option maxRecDepth 100000 in
theorem ok_184 : p_okm 184 = true := by decide +kernel
set_option maxRecDepth 100000 in
theorem ok_185 : p_okm 185 = true := by decide +kernel
set_option maxRecDepth 100000 in
theorem ok_186 : p_okm 186 = true := by decide +kernel
set_option maxRecDepth 100000 in
theorem ok_187 : p_okm 187 = true := by decide +kernel
set_option maxRecDepth 100000 in
theorem ok_188 : p_okm 188 = true := by decide +kernel
set_option maxRecDepth 100000 in
theorem ok_189 : p_okm 189 = true := by decide +kernel
set_option maxRecDepth 100000 in
theorem ok_190 : p_okm 190 = true := by decide +kernel
set_option maxRecDepth 100000 in
theorem ok_191 : p_okm 191 = true := by decide +kernel
set_option maxRecDepth 100000 in
theorem ok_192 : p_okm 192 = true := by decide +kernel
set_option maxRecDepth 100000 in
theorem ok_193 : p_okm 193 = true := by decide +kernel
set_option maxRecDepth 100000 in
theorem ok_194 : p_okm 194 = true := by decide +kernel
set_option maxRecDepth 100000 in
theorem ok_195 : p_okm 195 = true := by decide +kernel
set_option maxRecDepth 100000 in
theorem ok_196 : p_okm 196 = true := by decide +kernel
set_option maxRecDepth 100000 in
theorem ok_197 : p_okm 197 = true := by decide +kernel
set_option maxRecDepth 100000 in
theorem ok_198 : p_okm 198 = true := by decide +kernel
set_option maxRecDepth 100000 in
theorem ok_199 : p_okm 199 = true := by decide +kernel
set_option maxRecDepth 100000 in
theorem ok_200 : p_okm 200 = true := by decide +kernel
set_option maxRecDepth 100000 in
theorem ok_201 : p_okm 201 = true := by decide +kernel
set_option maxRecDepth 100000 in
theorem ok_202 : p_okm 202 = true := by decide +kernel
set_option maxRecDepth 100000 in
theorem ok_203 : p_okm 203 = true := by decide +kernel
set_option maxRecDepth 100000 in
theorem ok_204 : p_okm 204 = true := by decide +kernel
set_option maxRecDepth 100000 in
theorem ok_205 : p_okm 205 = true := by decide +kernel
set_option maxRecDepth 100000 in
theorem ok_206 : p_okm 206 = true := by decide +kernel
set_option maxRecDepth 100000 in
theorem ok_207 : p_okm 207 = true := by decide +kernel
set_option maxRecDepth 100000 in
theorem ok_208 : p_okm 208 = true := by decide +kernel
set_option maxRecDepth 100000 in
theorem ok_209 : p_okm 209 = true := by decide +kernel
set_option maxRecDepth 100000 in
theorem ok_210 : p_okm 210 = true := by decide +kernel
set_option maxRecDepth 100000 in
theorem ok_211 : p_okm 211 = true := by decide +kernel
set_option maxRecDepth 100000 in
theorem ok_212 : p_okm 212 = true := by decide +kernel
set_option maxRecDepth 100000 in
theorem ok_213 : p_okm 213 = true := by decide +kernel
set_option maxRecDepth 100000 in
theorem ok_214 : p_okm 214 = true := by decide +kernel
set_option maxRecDepth 100000 in
theorem ok_215 : p_okm 215 = true := by decide +kernel
set_option maxRecDepth 100000 in
theorem ok_216 : p_okm 216 = true := by decide +kernel
set_option maxRecDepth 100000 in
theorem ok_217 : p_okm 217 = true := by decide +kernel
set_option maxRecDepth 100000 in
theorem ok_218 : p_okm 218 = true := by decide +kernel
set_option maxRecDepth 100000 in
theorem ok_219 : p_okm 219 = true := by decide +kernel
set_option maxRecDepth 100000 in
theorem ok_220 : p_okm 220 = true := by decide +kernel
set_option maxRecDepth 100000 in
theorem ok_221 : p_okm 221 = true := by decide +kernel
set_option maxRecDepth 100000 in
theorem ok_222 : p_okm 222 = true := by decide +kernel
set_option maxRecDepth 100000 in
theorem ok_223 : p_okm 223 = true := by decide +kernel
set_option maxRecDepth 100000 in
theorem ok_224 : p_okm 224 = true := by decide +kernel
set_option maxRecDepth 100000 in
theorem ok_225 : p_okm 225 = true := by decide +kernel
set_option maxRecDepth 100000 in
theorem ok_226 : p_okm 226 = true := by decide +kernel
set_option maxRecDepth 100000 in
theorem ok_227 : p_okm 227 = true := by decide +kernel
set_option maxRecDepth 100000 in
theorem ok_228 : p_okm 228 = true := by decide +kernel
set_option maxRecDepth 100000 in
theorem ok_229 : p_okm 229 = true := by decide +kernel
set_option maxRecDepth 100000 in
theorem ok_230 : p_okm 230 = true := by decide +kernel
set_option maxRecDepth 100000 in
theorem ok_231 : p_okm 231 = true := by decide +kernel
set_option maxRecDepth 100000 in
theorem ok_232 : p_okm 232 = true := by decide +kernel
set_option maxRecDepth 100000 in
theorem ok_233 : p_okm 233 = true := by decide +kernel
set_option maxRecDepth 100000 in
theorem ok_234 : p_okm 234 = true := by decide +kernel
set_option maxRecDepth 100000 in
theorem ok_235 : p_okm 235 = true := by decide +kernel
set_option maxRecDepth 100000 in
theorem ok_236 : p_okm 236 = true := by decide +kernel
set_option maxRecDepth 100000 in
theorem ok_237 : p_okm 237 = true := by decide +kernel
set_option maxRecDepth 100000 in
theorem ok_238 : p_okm 238 = true := by decide +kernel
set_option maxRecDepth 100000 in
theorem ok_239 : p_okm 239 = true := by decide +kernel
set_option maxRecDepth 100000 in
theorem ok_240 : p_okm 240 = true := by decide +kernel
set_option maxRecDepth 100000 in
theorem ok_241 : p_okm 241 = true := by decide +kernel
set_option maxRecDepth 100000 in
theorem ok_242 : p_okm 242 = true := by decide +kernel
set_option maxRecDepth 100000 in
theorem ok_243 : p_okm 243 = true := by decide +kernel
set_option maxRecDepth 100000 in
theorem ok_244 : p_okm 244 = true := by decide +kernel
set_option maxRecDepth 100000 in
theorem ok_245 : p_okm 245 = true := by decide +kernel
set_option maxRecDepth 100000 in
theorem ok_246 : p_okm 246 = true := by decide +kernel
set_option maxRecDepth 100000 in
theorem ok_247 : p_okm 247 = true := by decide +kernel
set_option maxRecDepth 100000 in
theorem ok_248 : p_okm 248 = true := by decide +kernel
set_option maxRecDepth 100000 in
theorem ok_249 : p_okm 249 = true := by decide +kernel
set_option maxRecDepth 100000 in
theorem ok_250 : p_okm 250 = true := by decide +kernel
set_option maxRecDepth 100000 in
theorem ok_251 : p_okm 251 = true := by decide +kernel
set_option maxRecDepth 100000 in
theorem ok_252 : p_okm 252 = true := by decide +kernel
set_option maxRecDepth 100000 in
theorem ok_253 : p_okm 253 = true := by decide +kernel
set_option maxRecDepth 100000 in
theorem ok_254 : p_okm 254 = true := by decide +kernel
set_option maxRecDepth 100000 in
theorem ok_255 : p_okm 255 = true := by decide +kernel
set_option maxRecDepth 100000 in
theorem ok_256 : p_okm 256 = true := by decide +kernel
set_option maxRecDepth 100000 in
theorem ok_257 : p_okm 257 = true := by decide +kernel
set_option maxRecDepth 100000 in
theorem ok_258 : p_okm 258 = true := by decide +kernel
set_option maxRecDepth 100000 in
theorem ok_259 : p_okm 259 = true := by decide +kernel
set_option maxRecDepth 100000 in
theorem ok_260 : p_okm 260 = true := by decide +kernel
set_option maxRecDepth 100000 in
theorem ok_261 : p_okm 261 = true := by decide +kernel
set_option maxRecDepth 100000 in
theorem ok_262 : p_okm 262 = true := by decide +kernel
set_option maxRecDepth 100000 in
theorem ok_263 : p_okm 263 = true := by decide +kernel
set_option maxRecDepth 100000 in
theorem ok_264 : p_okm 264 = true := by decide +kernel
set_option maxRecDepth 100000 in
theorem ok_265 : p_okm 265 = true := by decide +kernel
set_option maxRecDepth 100000 in
theorem ok_266 : p_okm 266 = true := by decide +kernel
set_option maxRecDepth 100000 in
theorem ok_267 : p_okm 267 = true := by decide +kernel
set_option maxRecDepth 100000 in
theorem ok_268 : p_okm 268 = true := by decide +kernel
set_option maxRecDepth 100000 in
theorem ok_269 : p_okm 269 = true := by decide +kernel
set_option maxRecDepth 100000 in
theorem ok_270 : p_okm 270 = true := by decide +kernel
set_option maxRecDepth 100000 in
theorem ok_271 : p_okm 271 = true := by decide +kernel
set_option maxRecDepth 100000 in
theorem ok_272 : p_okm 272 = true := by decide +kernel
set_option maxRecDepth 100000 in
theorem ok_273 : p_okm 273 = true := by decide +kernel
set_option maxRecDepth 100000 in
theorem ok_274 : p_okm 274 = true := by decide +kernel
set_option maxRecDepth 100000 in
theorem ok_275 : p_okm 275 = true := by decide +kernel
set_option maxRecDepth 100000 in
theorem ok_276 : p_okm 276 = true := by decide +kernel
set_option maxRecDepth 100000 in
theorem ok_277 : p_okm 277 = true := by decide +kernel
set_option maxRecDepth 100000 in
theorem ok_278 : p_okm 278 = true := by decide +kernel
set_option maxRecDepth 100000 in
theorem ok_279 : p_okm 279 = true := by decide +kernel
set_option maxRecDepth 100000 in
theorem ok_280 : p_okm 280 = true := by decide +kernel
set_option maxRecDepth 100000 in
theorem ok_281 : p_okm 281 = true := by decide +kernel
set_option maxRecDepth 100000 in
theorem ok_282 : p_okm 282 = true := by decide +kernel
