theorem okD_130 : (List.range 84).all (fun pc => chO 130 pc) = true := by decide +kernel
theorem okE_130 : ∀ pc, chO 130 pc = true := okG okD_130 (fun pc h => by show (bif Nat.blt pc 84 then _ else none) = none; rw [h]; rfl)
theorem okD_131 : (List.range 19).all (fun pc => chO 131 pc) = true := by decide +kernel
theorem okE_131 : ∀ pc, chO 131 pc = true := okG okD_131 (fun pc h => by show (bif Nat.blt pc 19 then _ else none) = none; rw [h]; rfl)
theorem okD_132 : (List.range 11).all (fun pc => chO 132 pc) = true := by decide +kernel
theorem okE_132 : ∀ pc, chO 132 pc = true := okG okD_132 (fun pc h => by show (bif Nat.blt pc 11 then _ else none) = none; rw [h]; rfl)
theorem okD_133 : (List.range 62).all (fun pc => chO 133 pc) = true := by decide +kernel
theorem okE_133 : ∀ pc, chO 133 pc = true := okG okD_133 (fun pc h => by show (bif Nat.blt pc 62 then _ else none) = none; rw [h]; rfl)
theorem okD_134 : (List.range 15).all (fun pc => chO 134 pc) = true := by decide +kernel
theorem okE_134 : ∀ pc, chO 134 pc = true := okG okD_134 (fun pc h => by show (bif Nat.blt pc 15 then _ else none) = none; rw [h]; rfl)
theorem okD_135 : (List.range 95).all (fun pc => chO 135 pc) = true := by decide +kernel
theorem okE_135 : ∀ pc, chO 135 pc = true := okG okD_135 (fun pc h => by show (bif Nat.blt pc 95 then _ else none) = none; rw [h]; rfl)
theorem okD_136 : (List.range 71).all (fun pc => chO 136 pc) = true := by decide +kernel
theorem okE_136 : ∀ pc, chO 136 pc = true := okG okD_136 (fun pc h => by show (bif Nat.blt pc 71 then _ else none) = none; rw [h]; rfl)
theorem okD_140 : (List.range 30).all (fun pc => chO 140 pc) = true := by decide +kernel
theorem okE_140 : ∀ pc, chO 140 pc = true := okG okD_140 (fun pc h => by show (bif Nat.blt pc 30 then _ else none) = none; rw [h]; rfl)
theorem okD_141 : (List.range 51).all (fun pc => chO 141 pc) = true := by decide +kernel
theorem okE_141 : ∀ pc, chO 141 pc = true := okG okD_141 (fun pc h => by show (bif Nat.blt pc 51 then _ else none) = none; rw [h]; rfl)
theorem okD_142 : (List.range 118).all (fun pc => chO 142 pc) = true := by decide +kernel
theorem okE_142 : ∀ pc, chO 142 pc = true := okG okD_142 (fun pc h => by show (bif Nat.blt pc 118 then _ else none) = none; rw [h]; rfl)
theorem okD_143 : (List.range 41).all (fun pc => chO 143 pc) = true := by decide +kernel
theorem okE_143 : ∀ pc, chO 143 pc = true := okG okD_143 (fun pc h => by show (bif Nat.blt pc 41 then _ else none) = none; rw [h]; rfl)
theorem okD_144 : (List.range 12).all (fun pc => chO 144 pc) = true := by decide +kernel
theorem okE_144 : ∀ pc, chO 144 pc = true := okG okD_144 (fun pc h => by show (bif Nat.blt pc 12 then _ else none) = none; rw [h]; rfl)
theorem okD_145 : (List.range 84).all (fun pc => chO 145 pc) = true := by decide +kernel
theorem okE_145 : ∀ pc, chO 145 pc = true := okG okD_145 (fun pc h => by show (bif Nat.blt pc 84 then _ else none) = none; rw [h]; rfl)
theorem okD_146 : (List.range 30).all (fun pc => chO 146 pc) = true := by decide +kernel
theorem okE_146 : ∀ pc, chO 146 pc = true := okG okD_146 (fun pc h => by show (bif Nat.blt pc 30 then _ else none) = none; rw [h]; rfl)
theorem okD_147 : (List.range 31).all (fun pc => chO 147 pc) = true := by decide +kernel
theorem okE_147 : ∀ pc, chO 147 pc = true := okG okD_147 (fun pc h => by show (bif Nat.blt pc 31 then _ else none) = none; rw [h]; rfl)
theorem okD_148 : (List.range 56).all (fun pc => chO 148 pc) = true := by decide +kernel
theorem okE_148 : ∀ pc, chO 148 pc = true := okG okD_148 (fun pc h => by show (bif Nat.blt pc 56 then _ else none) = none; rw [h]; rfl)
theorem okD_149 : (List.range 6).all (fun pc => chO 149 pc) = true := by decide +kernel
theorem okE_149 : ∀ pc, chO 149 pc = true := okG okD_149 (fun pc h => by show (bif Nat.blt pc 6 then _ else none) = none; rw [h]; rfl)
theorem okD_150 : (List.range 16).all (fun pc => chO 150 pc) = true := by decide +kernel
theorem okE_150 : ∀ pc, chO 150 pc = true := okG okD_150 (fun pc h => by show (bif Nat.blt pc 16 then _ else none) = none; rw [h]; rfl)
theorem okD_151 : (List.range 32).all (fun pc => chO 151 pc) = true := by decide +kernel
theorem okE_151 : ∀ pc, chO 151 pc = true := okG okD_151 (fun pc h => by show (bif Nat.blt pc 32 then _ else none) = none; rw [h]; rfl)
theorem okD_152 : (List.range 21).all (fun pc => chO 152 pc) = true := by decide +kernel
theorem okE_152 : ∀ pc, chO 152 pc = true := okG okD_152 (fun pc h => by show (bif Nat.blt pc 21 then _ else none) = none; rw [h]; rfl)
theorem okD_153 : (List.range 22).all (fun pc => chO 153 pc) = true := by decide +kernel
theorem okE_153 : ∀ pc, chO 153 pc = true := okG okD_153 (fun pc h => by show (bif Nat.blt pc 22 then _ else none) = none; rw [h]; rfl)
theorem okD_310 : (List.range 53).all (fun pc => chO 310 pc) = true := by decide +kernel
theorem okE_310 : ∀ pc, chO 310 pc = true := okG okD_310 (fun pc h => by show (bif Nat.blt pc 53 then _ else none) = none; rw [h]; rfl)
theorem okD_311 : (List.range 21).all (fun pc => chO 311 pc) = true := by decide +kernel
theorem okE_311 : ∀ pc, chO 311 pc = true := okG okD_311 (fun pc h => by show (bif Nat.blt pc 21 then _ else none) = none; rw [h]; rfl)
theorem okD_312 : (List.range 11).all (fun pc => chO 312 pc) = true := by decide +kernel
theorem okE_312 : ∀ pc, chO 312 pc = true := okG okD_312 (fun pc h => by show (bif Nat.blt pc 11 then _ else none) = none; rw [h]; rfl)
theorem okD_313 : (List.range 15).all (fun pc => chO 313 pc) = true := by decide +kernel
theorem okE_313 : ∀ pc, chO 313 pc = true := okG okD_313 (fun pc h => by show (bif Nat.blt pc 15 then _ else none) = none; rw [h]; rfl)
theorem okD_314 : (List.range 19).all (fun pc => chO 314 pc) = true := by decide +kernel
theorem okE_314 : ∀ pc, chO 314 pc = true := okG okD_314 (fun pc h => by show (bif Nat.blt pc 19 then _ else none) = none; rw [h]; rfl)
theorem okD_315 : (List.range 25).all (fun pc => chO 315 pc) = true := by decide +kernel
theorem okE_315 : ∀ pc, chO 315 pc = true := okG okD_315 (fun pc h => by show (bif Nat.blt pc 25 then _ else none) = none; rw [h]; rfl)
theorem okD_316 : (List.range 15).all (fun pc => chO 316 pc) = true := by decide +kernel
theorem okE_316 : ∀ pc, chO 316 pc = true := okG okD_316 (fun pc h => by show (bif Nat.blt pc 15 then _ else none) = none; rw [h]; rfl)
theorem okD_317 : (List.range 23).all (fun pc => chO 317 pc) = true := by decide +kernel
theorem okE_317 : ∀ pc, chO 317 pc = true := okG okD_317 (fun pc h => by show (bif Nat.blt pc 23 then _ else none) = none; rw [h]; rfl)
theorem okD_318 : (List.range 53).all (fun pc => chO 318 pc) = true := by decide +kernel
theorem okE_318 : ∀ pc, chO 318 pc = true := okG okD_318 (fun pc h => by show (bif Nat.blt pc 53 then _ else none) = none; rw [h]; rfl)
theorem okD_319 : (List.range 25).all (fun pc => chO 319 pc) = true := by decide +kernel
theorem okE_319 : ∀ pc, chO 319 pc = true := okG okD_319 (fun pc h => by show (bif Nat.blt pc 25 then _ else none) = none; rw [h]; rfl)
theorem okD_320 : (List.range 106).all (fun pc => chO 320 pc) = true := by decide +kernel
theorem okE_320 : ∀ pc, chO 320 pc = true := okG okD_320 (fun pc h => by show (bif Nat.blt pc 106 then _ else none) = none; rw [h]; rfl)
theorem okD_321 : (List.range 27).all (fun pc => chO 321 pc) = true := by decide +kernel
theorem okE_321 : ∀ pc, chO 321 pc = true := okG okD_321 (fun pc h => by show (bif Nat.blt pc 27 then _ else none) = none; rw [h]; rfl)
theorem okD_322 : (List.range 11).all (fun pc => chO 322 pc) = true := by decide +kernel
theorem okE_322 : ∀ pc, chO 322 pc = true := okG okD_322 (fun pc h => by show (bif Nat.blt pc 11 then _ else none) = none; rw [h]; rfl)
theorem okD_323 : (List.range 128).all (fun pc => chO 323 pc) = true := by decide +kernel
theorem okE_323 : ∀ pc, chO 323 pc = true := okG okD_323 (fun pc h => by show (bif Nat.blt pc 128 then _ else none) = none; rw [h]; rfl)
theorem okD_324 : (List.range 319).all (fun pc => chO 324 pc) = true := by decide +kernel
theorem okE_324 : ∀ pc, chO 324 pc = true := okG okD_324 (fun pc h => by show (bif Nat.blt pc 319 then _ else none) = none; rw [h]; rfl)
