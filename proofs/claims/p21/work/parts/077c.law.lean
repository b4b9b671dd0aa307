theorem dL_law_204 : decode cL_law 204 = .ok (.istore 7, 2) := by decide +kernel
theorem dL_law_206 : decode cL_law 206 = .ok (.iload_n 3, 1) := by decide +kernel
theorem dL_law_207 : decode cL_law 207 = .ok (.iload 16, 2) := by decide +kernel
theorem dL_law_209 : decode cL_law 209 = .ok (.ifCond .lt 7, 3) := by decide +kernel
theorem dL_law_212 : decode cL_law 212 = .ok (.iconst 1, 1) := by decide +kernel
theorem dL_law_213 : decode cL_law 213 = .ok (.goto 4, 3) := by decide +kernel
theorem dL_law_216 : decode cL_law 216 = .ok (.iconst 0, 1) := by decide +kernel
theorem dL_law_217 : decode cL_law 217 = .ok (.iadd, 1) := by decide +kernel
theorem dL_law_218 : decode cL_law 218 = .ok (.istore_n 3, 1) := by decide +kernel
theorem dL_law_219 : decode cL_law 219 = .ok (.goto 1049, 3) := by decide +kernel
theorem dL_law_222 : decode cL_law 222 = .ok (.iload 12, 2) := by decide +kernel
theorem dL_law_224 : decode cL_law 224 = .ok (.iconst 4, 1) := by decide +kernel
theorem dL_law_225 : decode cL_law 225 = .ok (.if_icmp .ge 145, 3) := by decide +kernel
theorem dL_law_228 : decode cL_law 228 = .ok (.iload 11, 2) := by decide +kernel
theorem dL_law_230 : decode cL_law 230 = .ok (.iconst 3, 1) := by decide +kernel
theorem dL_law_231 : decode cL_law 231 = .ok (.ishr, 1) := by decide +kernel
theorem dL_law_232 : decode cL_law 232 = .ok (.iload_n 2, 1) := by decide +kernel
theorem dL_law_233 : decode cL_law 233 = .ok (.iconst 4, 1) := by decide +kernel
theorem dL_law_234 : decode cL_law 234 = .ok (.invokestatic 60, 3) := by decide +kernel
theorem dL_law_237 : decode cL_law 237 = .ok (.irem, 1) := by decide +kernel
theorem dL_law_238 : decode cL_law 238 = .ok (.istore 15, 2) := by decide +kernel
theorem dL_law_240 : decode cL_law 240 = .ok (.aload_n 1, 1) := by decide +kernel
theorem dL_law_241 : decode cL_law 241 = .ok (.iload 15, 2) := by decide +kernel
theorem dL_law_243 : decode cL_law 243 = .ok (.iload_n 2, 1) := by decide +kernel
theorem dL_law_244 : decode cL_law 244 = .ok (.irem, 1) := by decide +kernel
theorem dL_law_245 : decode cL_law 245 = .ok (.iload 15, 2) := by decide +kernel
theorem dL_law_247 : decode cL_law 247 = .ok (.iload_n 2, 1) := by decide +kernel
theorem dL_law_248 : decode cL_law 248 = .ok (.idiv, 1) := by decide +kernel
theorem dL_law_249 : decode cL_law 249 = .ok (.iload_n 2, 1) := by decide +kernel
theorem dL_law_250 : decode cL_law 250 = .ok (.irem, 1) := by decide +kernel
theorem dL_law_251 : decode cL_law 251 = .ok (.iload 15, 2) := by decide +kernel
theorem dL_law_253 : decode cL_law 253 = .ok (.iload_n 2, 1) := by decide +kernel
theorem dL_law_254 : decode cL_law 254 = .ok (.iload_n 2, 1) := by decide +kernel
theorem dL_law_255 : decode cL_law 255 = .ok (.imul, 1) := by decide +kernel
theorem dL_law_256 : decode cL_law 256 = .ok (.idiv, 1) := by decide +kernel
theorem dL_law_257 : decode cL_law 257 = .ok (.iload_n 2, 1) := by decide +kernel
theorem dL_law_258 : decode cL_law 258 = .ok (.irem, 1) := by decide +kernel
theorem dL_law_259 : decode cL_law 259 = .ok (.iload 15, 2) := by decide +kernel
theorem dL_law_261 : decode cL_law 261 = .ok (.iload_n 2, 1) := by decide +kernel
theorem dL_law_262 : decode cL_law 262 = .ok (.iload_n 2, 1) := by decide +kernel
theorem dL_law_263 : decode cL_law 263 = .ok (.imul, 1) := by decide +kernel
theorem dL_law_264 : decode cL_law 264 = .ok (.iload_n 2, 1) := by decide +kernel
theorem dL_law_265 : decode cL_law 265 = .ok (.imul, 1) := by decide +kernel
theorem dL_law_266 : decode cL_law 266 = .ok (.idiv, 1) := by decide +kernel
theorem dL_law_267 : decode cL_law 267 = .ok (.invokestatic 75, 3) := by decide +kernel
theorem dL_law_270 : decode cL_law 270 = .ok (.istore 16, 2) := by decide +kernel
theorem dL_law_272 : decode cL_law 272 = .ok (.iload 15, 2) := by decide +kernel
theorem dL_law_274 : decode cL_law 274 = .ok (.iload_n 2, 1) := by decide +kernel
theorem dL_law_275 : decode cL_law 275 = .ok (.irem, 1) := by decide +kernel
theorem dL_law_276 : decode cL_law 276 = .ok (.iload 15, 2) := by decide +kernel
theorem dL_law_278 : decode cL_law 278 = .ok (.iload_n 2, 1) := by decide +kernel
theorem dL_law_279 : decode cL_law 279 = .ok (.iload_n 2, 1) := by decide +kernel
theorem dL_law_280 : decode cL_law 280 = .ok (.imul, 1) := by decide +kernel
theorem dL_law_281 : decode cL_law 281 = .ok (.iload_n 2, 1) := by decide +kernel
theorem dL_law_282 : decode cL_law 282 = .ok (.imul, 1) := by decide +kernel
theorem dL_law_283 : decode cL_law 283 = .ok (.idiv, 1) := by decide +kernel
theorem dL_law_284 : decode cL_law 284 = .ok (.imul, 1) := by decide +kernel
theorem dL_law_285 : decode cL_law 285 = .ok (.iload 15, 2) := by decide +kernel
theorem dL_law_287 : decode cL_law 287 = .ok (.iload_n 2, 1) := by decide +kernel
theorem dL_law_288 : decode cL_law 288 = .ok (.idiv, 1) := by decide +kernel
