theorem okD_230 : (List.range 24).all (fun pc => chO 230 pc) = true := by decide +kernel
theorem okE_230 : ∀ pc, chO 230 pc = true := okG okD_230 (fun pc h => by show (bif Nat.blt pc 24 then _ else none) = none; rw [h]; rfl)
theorem okD_231 : (List.range 35).all (fun pc => chO 231 pc) = true := by decide +kernel
theorem okE_231 : ∀ pc, chO 231 pc = true := okG okD_231 (fun pc h => by show (bif Nat.blt pc 35 then _ else none) = none; rw [h]; rfl)
theorem okD_232 : (List.range 87).all (fun pc => chO 232 pc) = true := by decide +kernel
theorem okE_232 : ∀ pc, chO 232 pc = true := okG okD_232 (fun pc h => by show (bif Nat.blt pc 87 then _ else none) = none; rw [h]; rfl)
theorem okD_233 : (List.range 87).all (fun pc => chO 233 pc) = true := by decide +kernel
theorem okE_233 : ∀ pc, chO 233 pc = true := okG okD_233 (fun pc h => by show (bif Nat.blt pc 87 then _ else none) = none; rw [h]; rfl)
theorem okD_234 : (List.range 77).all (fun pc => chO 234 pc) = true := by decide +kernel
theorem okE_234 : ∀ pc, chO 234 pc = true := okG okD_234 (fun pc h => by show (bif Nat.blt pc 77 then _ else none) = none; rw [h]; rfl)
theorem okD_235 : (List.range 35).all (fun pc => chO 235 pc) = true := by decide +kernel
theorem okE_235 : ∀ pc, chO 235 pc = true := okG okD_235 (fun pc h => by show (bif Nat.blt pc 35 then _ else none) = none; rw [h]; rfl)
theorem okD_236 : (List.range 15).all (fun pc => chO 236 pc) = true := by decide +kernel
theorem okE_236 : ∀ pc, chO 236 pc = true := okG okD_236 (fun pc h => by show (bif Nat.blt pc 15 then _ else none) = none; rw [h]; rfl)
theorem okD_237 : (List.range 89).all (fun pc => chO 237 pc) = true := by decide +kernel
theorem okE_237 : ∀ pc, chO 237 pc = true := okG okD_237 (fun pc h => by show (bif Nat.blt pc 89 then _ else none) = none; rw [h]; rfl)
theorem okD_238 : (List.range 54).all (fun pc => chO 238 pc) = true := by decide +kernel
theorem okE_238 : ∀ pc, chO 238 pc = true := okG okD_238 (fun pc h => by show (bif Nat.blt pc 54 then _ else none) = none; rw [h]; rfl)
theorem okD_239 : (List.range 20).all (fun pc => chO 239 pc) = true := by decide +kernel
theorem okE_239 : ∀ pc, chO 239 pc = true := okG okD_239 (fun pc h => by show (bif Nat.blt pc 20 then _ else none) = none; rw [h]; rfl)
theorem okD_240 : (List.range 82).all (fun pc => chO 240 pc) = true := by decide +kernel
theorem okE_240 : ∀ pc, chO 240 pc = true := okG okD_240 (fun pc h => by show (bif Nat.blt pc 82 then _ else none) = none; rw [h]; rfl)
theorem okD_241 : (List.range 66).all (fun pc => chO 241 pc) = true := by decide +kernel
theorem okE_241 : ∀ pc, chO 241 pc = true := okG okD_241 (fun pc h => by show (bif Nat.blt pc 66 then _ else none) = none; rw [h]; rfl)
theorem okD_242 : (List.range 20).all (fun pc => chO 242 pc) = true := by decide +kernel
theorem okE_242 : ∀ pc, chO 242 pc = true := okG okD_242 (fun pc h => by show (bif Nat.blt pc 20 then _ else none) = none; rw [h]; rfl)
theorem okD_243 : (List.range 34).all (fun pc => chO 243 pc) = true := by decide +kernel
theorem okE_243 : ∀ pc, chO 243 pc = true := okG okD_243 (fun pc h => by show (bif Nat.blt pc 34 then _ else none) = none; rw [h]; rfl)
theorem okD_244 : (List.range 37).all (fun pc => chO 244 pc) = true := by decide +kernel
theorem okE_244 : ∀ pc, chO 244 pc = true := okG okD_244 (fun pc h => by show (bif Nat.blt pc 37 then _ else none) = none; rw [h]; rfl)
theorem okD_245 : (List.range 93).all (fun pc => chO 245 pc) = true := by decide +kernel
theorem okE_245 : ∀ pc, chO 245 pc = true := okG okD_245 (fun pc h => by show (bif Nat.blt pc 93 then _ else none) = none; rw [h]; rfl)
theorem okD_246 : (List.range 93).all (fun pc => chO 246 pc) = true := by decide +kernel
theorem okE_246 : ∀ pc, chO 246 pc = true := okG okD_246 (fun pc h => by show (bif Nat.blt pc 93 then _ else none) = none; rw [h]; rfl)
theorem okD_247 : (List.range 225).all (fun pc => chO 247 pc) = true := by decide +kernel
theorem okE_247 : ∀ pc, chO 247 pc = true := okG okD_247 (fun pc h => by show (bif Nat.blt pc 225 then _ else none) = none; rw [h]; rfl)
theorem okD_248 : (List.range 122).all (fun pc => chO 248 pc) = true := by decide +kernel
theorem okE_248 : ∀ pc, chO 248 pc = true := okG okD_248 (fun pc h => by show (bif Nat.blt pc 122 then _ else none) = none; rw [h]; rfl)
theorem okD_249 : (List.range 30).all (fun pc => chO 249 pc) = true := by decide +kernel
theorem okE_249 : ∀ pc, chO 249 pc = true := okG okD_249 (fun pc h => by show (bif Nat.blt pc 30 then _ else none) = none; rw [h]; rfl)
theorem okD_250 : (List.range 14).all (fun pc => chO 250 pc) = true := by decide +kernel
theorem okE_250 : ∀ pc, chO 250 pc = true := okG okD_250 (fun pc h => by show (bif Nat.blt pc 14 then _ else none) = none; rw [h]; rfl)
theorem okD_251 : (List.range 166).all (fun pc => chO 251 pc) = true := by decide +kernel
theorem okE_251 : ∀ pc, chO 251 pc = true := okG okD_251 (fun pc h => by show (bif Nat.blt pc 166 then _ else none) = none; rw [h]; rfl)
theorem okD_252 : (List.range 91).all (fun pc => chO 252 pc) = true := by decide +kernel
theorem okE_252 : ∀ pc, chO 252 pc = true := okG okD_252 (fun pc h => by show (bif Nat.blt pc 91 then _ else none) = none; rw [h]; rfl)
theorem okD_253 : (List.range 78).all (fun pc => chO 253 pc) = true := by decide +kernel
theorem okE_253 : ∀ pc, chO 253 pc = true := okG okD_253 (fun pc h => by show (bif Nat.blt pc 78 then _ else none) = none; rw [h]; rfl)
theorem okD_254 : (List.range 22).all (fun pc => chO 254 pc) = true := by decide +kernel
theorem okE_254 : ∀ pc, chO 254 pc = true := okG okD_254 (fun pc h => by show (bif Nat.blt pc 22 then _ else none) = none; rw [h]; rfl)
theorem okD_255 : (List.range 47).all (fun pc => chO 255 pc) = true := by decide +kernel
theorem okE_255 : ∀ pc, chO 255 pc = true := okG okD_255 (fun pc h => by show (bif Nat.blt pc 47 then _ else none) = none; rw [h]; rfl)
theorem okD_256 : (List.range 59).all (fun pc => chO 256 pc) = true := by decide +kernel
theorem okE_256 : ∀ pc, chO 256 pc = true := okG okD_256 (fun pc h => by show (bif Nat.blt pc 59 then _ else none) = none; rw [h]; rfl)
theorem okD_257 : (List.range 88).all (fun pc => chO 257 pc) = true := by decide +kernel
theorem okE_257 : ∀ pc, chO 257 pc = true := okG okD_257 (fun pc h => by show (bif Nat.blt pc 88 then _ else none) = none; rw [h]; rfl)
theorem okD_258 : (List.range 24).all (fun pc => chO 258 pc) = true := by decide +kernel
theorem okE_258 : ∀ pc, chO 258 pc = true := okG okD_258 (fun pc h => by show (bif Nat.blt pc 24 then _ else none) = none; rw [h]; rfl)
theorem okD_259 : (List.range 81).all (fun pc => chO 259 pc) = true := by decide +kernel
theorem okE_259 : ∀ pc, chO 259 pc = true := okG okD_259 (fun pc h => by show (bif Nat.blt pc 81 then _ else none) = none; rw [h]; rfl)
theorem okD_260 : (List.range 16).all (fun pc => chO 260 pc) = true := by decide +kernel
theorem okE_260 : ∀ pc, chO 260 pc = true := okG okD_260 (fun pc h => by show (bif Nat.blt pc 16 then _ else none) = none; rw [h]; rfl)
theorem okD_261 : (List.range 133).all (fun pc => chO 261 pc) = true := by decide +kernel
theorem okE_261 : ∀ pc, chO 261 pc = true := okG okD_261 (fun pc h => by show (bif Nat.blt pc 133 then _ else none) = none; rw [h]; rfl)
theorem okD_262 : (List.range 85).all (fun pc => chO 262 pc) = true := by decide +kernel
theorem okE_262 : ∀ pc, chO 262 pc = true := okG okD_262 (fun pc h => by show (bif Nat.blt pc 85 then _ else none) = none; rw [h]; rfl)
theorem okD_263 : (List.range 10).all (fun pc => chO 263 pc) = true := by decide +kernel
theorem okE_263 : ∀ pc, chO 263 pc = true := okG okD_263 (fun pc h => by show (bif Nat.blt pc 10 then _ else none) = none; rw [h]; rfl)
theorem okD_264 : (List.range 136).all (fun pc => chO 264 pc) = true := by decide +kernel
theorem okE_264 : ∀ pc, chO 264 pc = true := okG okD_264 (fun pc h => by show (bif Nat.blt pc 136 then _ else none) = none; rw [h]; rfl)
theorem okD_265 : (List.range 97).all (fun pc => chO 265 pc) = true := by decide +kernel
theorem okE_265 : ∀ pc, chO 265 pc = true := okG okD_265 (fun pc h => by show (bif Nat.blt pc 97 then _ else none) = none; rw [h]; rfl)
theorem okD_266 : (List.range 64).all (fun pc => chO 266 pc) = true := by decide +kernel
theorem okE_266 : ∀ pc, chO 266 pc = true := okG okD_266 (fun pc h => by show (bif Nat.blt pc 64 then _ else none) = none; rw [h]; rfl)
theorem okD_267 : (List.range 75).all (fun pc => chO 267 pc) = true := by decide +kernel
theorem okE_267 : ∀ pc, chO 267 pc = true := okG okD_267 (fun pc h => by show (bif Nat.blt pc 75 then _ else none) = none; rw [h]; rfl)
theorem okD_268 : (List.range 7).all (fun pc => chO 268 pc) = true := by decide +kernel
theorem okE_268 : ∀ pc, chO 268 pc = true := okG okD_268 (fun pc h => by show (bif Nat.blt pc 7 then _ else none) = none; rw [h]; rfl)
theorem okD_269 : (List.range 16).all (fun pc => chO 269 pc) = true := by decide +kernel
theorem okE_269 : ∀ pc, chO 269 pc = true := okG okD_269 (fun pc h => by show (bif Nat.blt pc 16 then _ else none) = none; rw [h]; rfl)
theorem okD_270 : (List.range 29).all (fun pc => chO 270 pc) = true := by decide +kernel
theorem okE_270 : ∀ pc, chO 270 pc = true := okG okD_270 (fun pc h => by show (bif Nat.blt pc 29 then _ else none) = none; rw [h]; rfl)
theorem okD_271 : (List.range 29).all (fun pc => chO 271 pc) = true := by decide +kernel
theorem okE_271 : ∀ pc, chO 271 pc = true := okG okD_271 (fun pc h => by show (bif Nat.blt pc 29 then _ else none) = none; rw [h]; rfl)
theorem okD_272 : (List.range 20).all (fun pc => chO 272 pc) = true := by decide +kernel
theorem okE_272 : ∀ pc, chO 272 pc = true := okG okD_272 (fun pc h => by show (bif Nat.blt pc 20 then _ else none) = none; rw [h]; rfl)
theorem okD_273 : (List.range 27).all (fun pc => chO 273 pc) = true := by decide +kernel
theorem okE_273 : ∀ pc, chO 273 pc = true := okG okD_273 (fun pc h => by show (bif Nat.blt pc 27 then _ else none) = none; rw [h]; rfl)
theorem okD_274 : (List.range 23).all (fun pc => chO 274 pc) = true := by decide +kernel
theorem okE_274 : ∀ pc, chO 274 pc = true := okG okD_274 (fun pc h => by show (bif Nat.blt pc 23 then _ else none) = none; rw [h]; rfl)
theorem okD_275 : (List.range 23).all (fun pc => chO 275 pc) = true := by decide +kernel
theorem okE_275 : ∀ pc, chO 275 pc = true := okG okD_275 (fun pc h => by show (bif Nat.blt pc 23 then _ else none) = none; rw [h]; rfl)
theorem okD_276 : (List.range 17).all (fun pc => chO 276 pc) = true := by decide +kernel
theorem okE_276 : ∀ pc, chO 276 pc = true := okG okD_276 (fun pc h => by show (bif Nat.blt pc 17 then _ else none) = none; rw [h]; rfl)
theorem okD_277 : (List.range 27).all (fun pc => chO 277 pc) = true := by decide +kernel
theorem okE_277 : ∀ pc, chO 277 pc = true := okG okD_277 (fun pc h => by show (bif Nat.blt pc 27 then _ else none) = none; rw [h]; rfl)
theorem okD_278 : (List.range 23).all (fun pc => chO 278 pc) = true := by decide +kernel
theorem okE_278 : ∀ pc, chO 278 pc = true := okG okD_278 (fun pc h => by show (bif Nat.blt pc 23 then _ else none) = none; rw [h]; rfl)
theorem okD_279 : (List.range 26).all (fun pc => chO 279 pc) = true := by decide +kernel
theorem okE_279 : ∀ pc, chO 279 pc = true := okG okD_279 (fun pc h => by show (bif Nat.blt pc 26 then _ else none) = none; rw [h]; rfl)
theorem okD_280 : (List.range 17).all (fun pc => chO 280 pc) = true := by decide +kernel
theorem okE_280 : ∀ pc, chO 280 pc = true := okG okD_280 (fun pc h => by show (bif Nat.blt pc 17 then _ else none) = none; rw [h]; rfl)
theorem okD_281 : (List.range 15).all (fun pc => chO 281 pc) = true := by decide +kernel
theorem okE_281 : ∀ pc, chO 281 pc = true := okG okD_281 (fun pc h => by show (bif Nat.blt pc 15 then _ else none) = none; rw [h]; rfl)
theorem okD_282 : (List.range 17).all (fun pc => chO 282 pc) = true := by decide +kernel
theorem okE_282 : ∀ pc, chO 282 pc = true := okG okD_282 (fun pc h => by show (bif Nat.blt pc 17 then _ else none) = none; rw [h]; rfl)
theorem okD_283 : (List.range 17).all (fun pc => chO 283 pc) = true := by decide +kernel
theorem okE_283 : ∀ pc, chO 283 pc = true := okG okD_283 (fun pc h => by show (bif Nat.blt pc 17 then _ else none) = none; rw [h]; rfl)
theorem okD_284 : (List.range 29).all (fun pc => chO 284 pc) = true := by decide +kernel
theorem okE_284 : ∀ pc, chO 284 pc = true := okG okD_284 (fun pc h => by show (bif Nat.blt pc 29 then _ else none) = none; rw [h]; rfl)
theorem okD_285 : (List.range 21).all (fun pc => chO 285 pc) = true := by decide +kernel
theorem okE_285 : ∀ pc, chO 285 pc = true := okG okD_285 (fun pc h => by show (bif Nat.blt pc 21 then _ else none) = none; rw [h]; rfl)
theorem okD_286 : (List.range 23).all (fun pc => chO 286 pc) = true := by decide +kernel
theorem okE_286 : ∀ pc, chO 286 pc = true := okG okD_286 (fun pc h => by show (bif Nat.blt pc 23 then _ else none) = none; rw [h]; rfl)
theorem okD_287 : (List.range 23).all (fun pc => chO 287 pc) = true := by decide +kernel
theorem okE_287 : ∀ pc, chO 287 pc = true := okG okD_287 (fun pc h => by show (bif Nat.blt pc 23 then _ else none) = none; rw [h]; rfl)
theorem okD_288 : (List.range 17).all (fun pc => chO 288 pc) = true := by decide +kernel
theorem okE_288 : ∀ pc, chO 288 pc = true := okG okD_288 (fun pc h => by show (bif Nat.blt pc 17 then _ else none) = none; rw [h]; rfl)
theorem okD_289 : (List.range 19).all (fun pc => chO 289 pc) = true := by decide +kernel
theorem okE_289 : ∀ pc, chO 289 pc = true := okG okD_289 (fun pc h => by show (bif Nat.blt pc 19 then _ else none) = none; rw [h]; rfl)
theorem okD_290 : (List.range 26).all (fun pc => chO 290 pc) = true := by decide +kernel
theorem okE_290 : ∀ pc, chO 290 pc = true := okG okD_290 (fun pc h => by show (bif Nat.blt pc 26 then _ else none) = none; rw [h]; rfl)
theorem okD_291 : (List.range 29).all (fun pc => chO 291 pc) = true := by decide +kernel
theorem okE_291 : ∀ pc, chO 291 pc = true := okG okD_291 (fun pc h => by show (bif Nat.blt pc 29 then _ else none) = none; rw [h]; rfl)
theorem okD_292 : (List.range 23).all (fun pc => chO 292 pc) = true := by decide +kernel
theorem okE_292 : ∀ pc, chO 292 pc = true := okG okD_292 (fun pc h => by show (bif Nat.blt pc 23 then _ else none) = none; rw [h]; rfl)
theorem okD_293 : (List.range 23).all (fun pc => chO 293 pc) = true := by decide +kernel
theorem okE_293 : ∀ pc, chO 293 pc = true := okG okD_293 (fun pc h => by show (bif Nat.blt pc 23 then _ else none) = none; rw [h]; rfl)
theorem okD_294 : (List.range 25).all (fun pc => chO 294 pc) = true := by decide +kernel
theorem okE_294 : ∀ pc, chO 294 pc = true := okG okD_294 (fun pc h => by show (bif Nat.blt pc 25 then _ else none) = none; rw [h]; rfl)
theorem okD_295 : (List.range 25).all (fun pc => chO 295 pc) = true := by decide +kernel
theorem okE_295 : ∀ pc, chO 295 pc = true := okG okD_295 (fun pc h => by show (bif Nat.blt pc 25 then _ else none) = none; rw [h]; rfl)
theorem okD_296 : (List.range 23).all (fun pc => chO 296 pc) = true := by decide +kernel
theorem okE_296 : ∀ pc, chO 296 pc = true := okG okD_296 (fun pc h => by show (bif Nat.blt pc 23 then _ else none) = none; rw [h]; rfl)
theorem okD_297 : (List.range 23).all (fun pc => chO 297 pc) = true := by decide +kernel
theorem okE_297 : ∀ pc, chO 297 pc = true := okG okD_297 (fun pc h => by show (bif Nat.blt pc 23 then _ else none) = none; rw [h]; rfl)
theorem okD_298 : (List.range 23).all (fun pc => chO 298 pc) = true := by decide +kernel
theorem okE_298 : ∀ pc, chO 298 pc = true := okG okD_298 (fun pc h => by show (bif Nat.blt pc 23 then _ else none) = none; rw [h]; rfl)
theorem okD_299 : (List.range 20).all (fun pc => chO 299 pc) = true := by decide +kernel
theorem okE_299 : ∀ pc, chO 299 pc = true := okG okD_299 (fun pc h => by show (bif Nat.blt pc 20 then _ else none) = none; rw [h]; rfl)
theorem okD_300 : (List.range 23).all (fun pc => chO 300 pc) = true := by decide +kernel
theorem okE_300 : ∀ pc, chO 300 pc = true := okG okD_300 (fun pc h => by show (bif Nat.blt pc 23 then _ else none) = none; rw [h]; rfl)
theorem okD_301 : (List.range 20).all (fun pc => chO 301 pc) = true := by decide +kernel
theorem okE_301 : ∀ pc, chO 301 pc = true := okG okD_301 (fun pc h => by show (bif Nat.blt pc 20 then _ else none) = none; rw [h]; rfl)
theorem okD_302 : (List.range 25).all (fun pc => chO 302 pc) = true := by decide +kernel
theorem okE_302 : ∀ pc, chO 302 pc = true := okG okD_302 (fun pc h => by show (bif Nat.blt pc 25 then _ else none) = none; rw [h]; rfl)
theorem okD_303 : (List.range 23).all (fun pc => chO 303 pc) = true := by decide +kernel
theorem okE_303 : ∀ pc, chO 303 pc = true := okG okD_303 (fun pc h => by show (bif Nat.blt pc 23 then _ else none) = none; rw [h]; rfl)
theorem okD_304 : (List.range 17).all (fun pc => chO 304 pc) = true := by decide +kernel
theorem okE_304 : ∀ pc, chO 304 pc = true := okG okD_304 (fun pc h => by show (bif Nat.blt pc 17 then _ else none) = none; rw [h]; rfl)
theorem okD_305 : (List.range 22).all (fun pc => chO 305 pc) = true := by decide +kernel
theorem okE_305 : ∀ pc, chO 305 pc = true := okG okD_305 (fun pc h => by show (bif Nat.blt pc 22 then _ else none) = none; rw [h]; rfl)
theorem okD_306 : (List.range 22).all (fun pc => chO 306 pc) = true := by decide +kernel
theorem okE_306 : ∀ pc, chO 306 pc = true := okG okD_306 (fun pc h => by show (bif Nat.blt pc 22 then _ else none) = none; rw [h]; rfl)
theorem okD_307 : (List.range 16).all (fun pc => chO 307 pc) = true := by decide +kernel
theorem okE_307 : ∀ pc, chO 307 pc = true := okG okD_307 (fun pc h => by show (bif Nat.blt pc 16 then _ else none) = none; rw [h]; rfl)
theorem okD_308 : (List.range 19).all (fun pc => chO 308 pc) = true := by decide +kernel
theorem okE_308 : ∀ pc, chO 308 pc = true := okG okD_308 (fun pc h => by show (bif Nat.blt pc 19 then _ else none) = none; rw [h]; rfl)
theorem okD_310 : (List.range 53).all (fun pc => chO 310 pc) = true := by decide +kernel
theorem okE_310 : ∀ pc, chO 310 pc = true := okG okD_310 (fun pc h => by show (bif Nat.blt pc 53 then _ else none) = none; rw [h]; rfl)
theorem okD_311 : (List.range 21).all (fun pc => chO 311 pc) = true := by decide +kernel
theorem okE_311 : ∀ pc, chO 311 pc = true := okG okD_311 (fun pc h => by show (bif Nat.blt pc 21 then _ else none) = none; rw [h]; rfl)
theorem okD_312 : (List.range 11).all (fun pc => chO 312 pc) = true := by decide +kernel
theorem okE_312 : ∀ pc, chO 312 pc = true := okG okD_312 (fun pc h => by show (bif Nat.blt pc 11 then _ else none) = none; rw [h]; rfl)
theorem okD_313 : (List.range 15).all (fun pc => chO 313 pc) = true := by decide +kernel
theorem okE_313 : ∀ pc, chO 313 pc = true := okG okD_313 (fun pc h => by show (bif Nat.blt pc 15 then _ else none) = none; rw [h]; rfl)
theorem okD_314 : (List.range 19).all (fun pc => chO 314 pc) = true := by decide +kernel
theorem okE_314 : ∀ pc, chO 314 pc = true := okG okD_314 (fun pc h => by show (bif Nat.blt pc 19 then _ else none) = none; rw [h]; rfl)
theorem okD_315 : (List.range 25).all (fun pc => chO 315 pc) = true := by decide +kernel
theorem okE_315 : ∀ pc, chO 315 pc = true := okG okD_315 (fun pc h => by show (bif Nat.blt pc 25 then _ else none) = none; rw [h]; rfl)
theorem okD_316 : (List.range 15).all (fun pc => chO 316 pc) = true := by decide +kernel
theorem okE_316 : ∀ pc, chO 316 pc = true := okG okD_316 (fun pc h => by show (bif Nat.blt pc 15 then _ else none) = none; rw [h]; rfl)
theorem okD_317 : (List.range 23).all (fun pc => chO 317 pc) = true := by decide +kernel
theorem okE_317 : ∀ pc, chO 317 pc = true := okG okD_317 (fun pc h => by show (bif Nat.blt pc 23 then _ else none) = none; rw [h]; rfl)
theorem okJ_0 : (List.range 200).all (fun j => chJ 309 (0 + j)) = true := by decide +kernel
theorem okJ_200 : (List.range 200).all (fun j => chJ 309 (200 + j)) = true := by decide +kernel
theorem okJ_400 : (List.range 200).all (fun j => chJ 309 (400 + j)) = true := by decide +kernel
theorem okJ_600 : (List.range 200).all (fun j => chJ 309 (600 + j)) = true := by decide +kernel
theorem okJ_800 : (List.range 200).all (fun j => chJ 309 (800 + j)) = true := by decide +kernel
theorem okJ_1000 : (List.range 200).all (fun j => chJ 309 (1000 + j)) = true := by decide +kernel
theorem okJ_1200 : (List.range 200).all (fun j => chJ 309 (1200 + j)) = true := by decide +kernel
theorem okJ_1400 : (List.range 200).all (fun j => chJ 309 (1400 + j)) = true := by decide +kernel
theorem okJ_1600 : (List.range 200).all (fun j => chJ 309 (1600 + j)) = true := by decide +kernel
theorem okJ_1800 : (List.range 200).all (fun j => chJ 309 (1800 + j)) = true := by decide +kernel
theorem okJ_2000 : (List.range 200).all (fun j => chJ 309 (2000 + j)) = true := by decide +kernel
theorem okJ_2200 : (List.range 200).all (fun j => chJ 309 (2200 + j)) = true := by decide +kernel
theorem okJ_2400 : (List.range 200).all (fun j => chJ 309 (2400 + j)) = true := by decide +kernel
theorem okJ_2600 : (List.range 200).all (fun j => chJ 309 (2600 + j)) = true := by decide +kernel
theorem okJ_2800 : (List.range 200).all (fun j => chJ 309 (2800 + j)) = true := by decide +kernel
theorem okJ_3000 : (List.range 119).all (fun j => chJ 309 (3000 + j)) = true := by decide +kernel
