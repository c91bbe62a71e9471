theorem okD_130 : (List.range 84).all (fun pc => chO 130 pc) = true := by decide +kernel
theorem okE_130 : ∀ pc, chO 130 pc = true := okG okD_130 (fun pc h => by show (bif Nat.blt pc 84 then _ else none) = none; rw [h]; rfl)
theorem okD_131 : (List.range 19).all (fun pc => chO 131 pc) = true := by decide +kernel
theorem okE_131 : ∀ pc, chO 131 pc = true := okG okD_131 (fun pc h => by show (bif Nat.blt pc 19 then _ else none) = none; rw [h]; rfl)
theorem okD_132 : (List.range 11).all (fun pc => chO 132 pc) = true := by decide +kernel
theorem okE_132 : ∀ pc, chO 132 pc = true := okG okD_132 (fun pc h => by show (bif Nat.blt pc 11 then _ else none) = none; rw [h]; rfl)
theorem okD_133 : (List.range 62).all (fun pc => chO 133 pc) = true := by decide +kernel
theorem okE_133 : ∀ pc, chO 133 pc = true := okG okD_133 (fun pc h => by show (bif Nat.blt pc 62 then _ else none) = none; rw [h]; rfl)
theorem okD_134 : (List.range 15).all (fun pc => chO 134 pc) = true := by decide +kernel
theorem okE_134 : ∀ pc, chO 134 pc = true := okG okD_134 (fun pc h => by show (bif Nat.blt pc 15 then _ else none) = none; rw [h]; rfl)
theorem okD_135 : (List.range 95).all (fun pc => chO 135 pc) = true := by decide +kernel
theorem okE_135 : ∀ pc, chO 135 pc = true := okG okD_135 (fun pc h => by show (bif Nat.blt pc 95 then _ else none) = none; rw [h]; rfl)
theorem okD_136 : (List.range 71).all (fun pc => chO 136 pc) = true := by decide +kernel
theorem okE_136 : ∀ pc, chO 136 pc = true := okG okD_136 (fun pc h => by show (bif Nat.blt pc 71 then _ else none) = none; rw [h]; rfl)
theorem okD_137 : (List.range 5).all (fun pc => chO 137 pc) = true := by decide +kernel
theorem okE_137 : ∀ pc, chO 137 pc = true := okG okD_137 (fun pc h => by show (bif Nat.blt pc 5 then _ else none) = none; rw [h]; rfl)
theorem okD_138 : (List.range 30).all (fun pc => chO 138 pc) = true := by decide +kernel
theorem okE_138 : ∀ pc, chO 138 pc = true := okG okD_138 (fun pc h => by show (bif Nat.blt pc 30 then _ else none) = none; rw [h]; rfl)
theorem okD_139 : (List.range 38).all (fun pc => chO 139 pc) = true := by decide +kernel
theorem okE_139 : ∀ pc, chO 139 pc = true := okG okD_139 (fun pc h => by show (bif Nat.blt pc 38 then _ else none) = none; rw [h]; rfl)
theorem okD_140 : (List.range 30).all (fun pc => chO 140 pc) = true := by decide +kernel
theorem okE_140 : ∀ pc, chO 140 pc = true := okG okD_140 (fun pc h => by show (bif Nat.blt pc 30 then _ else none) = none; rw [h]; rfl)
theorem okD_141 : (List.range 51).all (fun pc => chO 141 pc) = true := by decide +kernel
theorem okE_141 : ∀ pc, chO 141 pc = true := okG okD_141 (fun pc h => by show (bif Nat.blt pc 51 then _ else none) = none; rw [h]; rfl)
theorem okD_142 : (List.range 118).all (fun pc => chO 142 pc) = true := by decide +kernel
theorem okE_142 : ∀ pc, chO 142 pc = true := okG okD_142 (fun pc h => by show (bif Nat.blt pc 118 then _ else none) = none; rw [h]; rfl)
theorem okD_143 : (List.range 41).all (fun pc => chO 143 pc) = true := by decide +kernel
theorem okE_143 : ∀ pc, chO 143 pc = true := okG okD_143 (fun pc h => by show (bif Nat.blt pc 41 then _ else none) = none; rw [h]; rfl)
theorem okD_144 : (List.range 12).all (fun pc => chO 144 pc) = true := by decide +kernel
theorem okE_144 : ∀ pc, chO 144 pc = true := okG okD_144 (fun pc h => by show (bif Nat.blt pc 12 then _ else none) = none; rw [h]; rfl)
theorem okD_145 : (List.range 84).all (fun pc => chO 145 pc) = true := by decide +kernel
theorem okE_145 : ∀ pc, chO 145 pc = true := okG okD_145 (fun pc h => by show (bif Nat.blt pc 84 then _ else none) = none; rw [h]; rfl)
theorem okD_146 : (List.range 30).all (fun pc => chO 146 pc) = true := by decide +kernel
theorem okE_146 : ∀ pc, chO 146 pc = true := okG okD_146 (fun pc h => by show (bif Nat.blt pc 30 then _ else none) = none; rw [h]; rfl)
theorem okD_147 : (List.range 31).all (fun pc => chO 147 pc) = true := by decide +kernel
theorem okE_147 : ∀ pc, chO 147 pc = true := okG okD_147 (fun pc h => by show (bif Nat.blt pc 31 then _ else none) = none; rw [h]; rfl)
theorem okD_148 : (List.range 56).all (fun pc => chO 148 pc) = true := by decide +kernel
theorem okE_148 : ∀ pc, chO 148 pc = true := okG okD_148 (fun pc h => by show (bif Nat.blt pc 56 then _ else none) = none; rw [h]; rfl)
theorem okD_149 : (List.range 6).all (fun pc => chO 149 pc) = true := by decide +kernel
theorem okE_149 : ∀ pc, chO 149 pc = true := okG okD_149 (fun pc h => by show (bif Nat.blt pc 6 then _ else none) = none; rw [h]; rfl)
theorem okD_150 : (List.range 16).all (fun pc => chO 150 pc) = true := by decide +kernel
theorem okE_150 : ∀ pc, chO 150 pc = true := okG okD_150 (fun pc h => by show (bif Nat.blt pc 16 then _ else none) = none; rw [h]; rfl)
theorem okD_151 : (List.range 32).all (fun pc => chO 151 pc) = true := by decide +kernel
theorem okE_151 : ∀ pc, chO 151 pc = true := okG okD_151 (fun pc h => by show (bif Nat.blt pc 32 then _ else none) = none; rw [h]; rfl)
theorem okD_152 : (List.range 21).all (fun pc => chO 152 pc) = true := by decide +kernel
theorem okE_152 : ∀ pc, chO 152 pc = true := okG okD_152 (fun pc h => by show (bif Nat.blt pc 21 then _ else none) = none; rw [h]; rfl)
theorem okD_153 : (List.range 22).all (fun pc => chO 153 pc) = true := by decide +kernel
theorem okE_153 : ∀ pc, chO 153 pc = true := okG okD_153 (fun pc h => by show (bif Nat.blt pc 22 then _ else none) = none; rw [h]; rfl)
theorem okD_154 : (List.range 246).all (fun pc => chO 154 pc) = true := by decide +kernel
theorem okE_154 : ∀ pc, chO 154 pc = true := okG okD_154 (fun pc h => by show (bif Nat.blt pc 246 then _ else none) = none; rw [h]; rfl)
theorem okD_155 : (List.range 5).all (fun pc => chO 155 pc) = true := by decide +kernel
theorem okE_155 : ∀ pc, chO 155 pc = true := okG okD_155 (fun pc h => by show (bif Nat.blt pc 5 then _ else none) = none; rw [h]; rfl)
theorem okD_156 : (List.range 15).all (fun pc => chO 156 pc) = true := by decide +kernel
theorem okE_156 : ∀ pc, chO 156 pc = true := okG okD_156 (fun pc h => by show (bif Nat.blt pc 15 then _ else none) = none; rw [h]; rfl)
theorem okD_157 : (List.range 16).all (fun pc => chO 157 pc) = true := by decide +kernel
theorem okE_157 : ∀ pc, chO 157 pc = true := okG okD_157 (fun pc h => by show (bif Nat.blt pc 16 then _ else none) = none; rw [h]; rfl)
theorem okD_158 : (List.range 15).all (fun pc => chO 158 pc) = true := by decide +kernel
theorem okE_158 : ∀ pc, chO 158 pc = true := okG okD_158 (fun pc h => by show (bif Nat.blt pc 15 then _ else none) = none; rw [h]; rfl)
theorem okD_159 : (List.range 20).all (fun pc => chO 159 pc) = true := by decide +kernel
theorem okE_159 : ∀ pc, chO 159 pc = true := okG okD_159 (fun pc h => by show (bif Nat.blt pc 20 then _ else none) = none; rw [h]; rfl)
theorem okD_160 : (List.range 17).all (fun pc => chO 160 pc) = true := by decide +kernel
theorem okE_160 : ∀ pc, chO 160 pc = true := okG okD_160 (fun pc h => by show (bif Nat.blt pc 17 then _ else none) = none; rw [h]; rfl)
theorem okD_161 : (List.range 77).all (fun pc => chO 161 pc) = true := by decide +kernel
theorem okE_161 : ∀ pc, chO 161 pc = true := okG okD_161 (fun pc h => by show (bif Nat.blt pc 77 then _ else none) = none; rw [h]; rfl)
theorem okD_162 : (List.range 71).all (fun pc => chO 162 pc) = true := by decide +kernel
theorem okE_162 : ∀ pc, chO 162 pc = true := okG okD_162 (fun pc h => by show (bif Nat.blt pc 71 then _ else none) = none; rw [h]; rfl)
theorem okD_163 : (List.range 10).all (fun pc => chO 163 pc) = true := by decide +kernel
theorem okE_163 : ∀ pc, chO 163 pc = true := okG okD_163 (fun pc h => by show (bif Nat.blt pc 10 then _ else none) = none; rw [h]; rfl)
theorem okD_164 : (List.range 47).all (fun pc => chO 164 pc) = true := by decide +kernel
theorem okE_164 : ∀ pc, chO 164 pc = true := okG okD_164 (fun pc h => by show (bif Nat.blt pc 47 then _ else none) = none; rw [h]; rfl)
theorem okD_165 : (List.range 12).all (fun pc => chO 165 pc) = true := by decide +kernel
theorem okE_165 : ∀ pc, chO 165 pc = true := okG okD_165 (fun pc h => by show (bif Nat.blt pc 12 then _ else none) = none; rw [h]; rfl)
theorem okD_166 : (List.range 12).all (fun pc => chO 166 pc) = true := by decide +kernel
theorem okE_166 : ∀ pc, chO 166 pc = true := okG okD_166 (fun pc h => by show (bif Nat.blt pc 12 then _ else none) = none; rw [h]; rfl)
theorem okD_167 : (List.range 262).all (fun pc => chO 167 pc) = true := by decide +kernel
theorem okE_167 : ∀ pc, chO 167 pc = true := okG okD_167 (fun pc h => by show (bif Nat.blt pc 262 then _ else none) = none; rw [h]; rfl)
theorem okD_168 : (List.range 163).all (fun pc => chO 168 pc) = true := by decide +kernel
theorem okE_168 : ∀ pc, chO 168 pc = true := okG okD_168 (fun pc h => by show (bif Nat.blt pc 163 then _ else none) = none; rw [h]; rfl)
theorem okD_169 : (List.range 130).all (fun pc => chO 169 pc) = true := by decide +kernel
theorem okE_169 : ∀ pc, chO 169 pc = true := okG okD_169 (fun pc h => by show (bif Nat.blt pc 130 then _ else none) = none; rw [h]; rfl)
theorem okD_170 : (List.range 88).all (fun pc => chO 170 pc) = true := by decide +kernel
theorem okE_170 : ∀ pc, chO 170 pc = true := okG okD_170 (fun pc h => by show (bif Nat.blt pc 88 then _ else none) = none; rw [h]; rfl)
theorem okD_171 : (List.range 255).all (fun pc => chO 171 pc) = true := by decide +kernel
theorem okE_171 : ∀ pc, chO 171 pc = true := okG okD_171 (fun pc h => by show (bif Nat.blt pc 255 then _ else none) = none; rw [h]; rfl)
theorem okD_172 : (List.range 9).all (fun pc => chO 172 pc) = true := by decide +kernel
theorem okE_172 : ∀ pc, chO 172 pc = true := okG okD_172 (fun pc h => by show (bif Nat.blt pc 9 then _ else none) = none; rw [h]; rfl)
theorem okD_173 : (List.range 9).all (fun pc => chO 173 pc) = true := by decide +kernel
theorem okE_173 : ∀ pc, chO 173 pc = true := okG okD_173 (fun pc h => by show (bif Nat.blt pc 9 then _ else none) = none; rw [h]; rfl)
theorem okD_174 : (List.range 35).all (fun pc => chO 174 pc) = true := by decide +kernel
theorem okE_174 : ∀ pc, chO 174 pc = true := okG okD_174 (fun pc h => by show (bif Nat.blt pc 35 then _ else none) = none; rw [h]; rfl)
theorem okD_175 : (List.range 54).all (fun pc => chO 175 pc) = true := by decide +kernel
theorem okE_175 : ∀ pc, chO 175 pc = true := okG okD_175 (fun pc h => by show (bif Nat.blt pc 54 then _ else none) = none; rw [h]; rfl)
theorem okD_176 : (List.range 30).all (fun pc => chO 176 pc) = true := by decide +kernel
theorem okE_176 : ∀ pc, chO 176 pc = true := okG okD_176 (fun pc h => by show (bif Nat.blt pc 30 then _ else none) = none; rw [h]; rfl)
theorem okD_177 : (List.range 81).all (fun pc => chO 177 pc) = true := by decide +kernel
theorem okE_177 : ∀ pc, chO 177 pc = true := okG okD_177 (fun pc h => by show (bif Nat.blt pc 81 then _ else none) = none; rw [h]; rfl)
theorem okD_178 : (List.range 17).all (fun pc => chO 178 pc) = true := by decide +kernel
theorem okE_178 : ∀ pc, chO 178 pc = true := okG okD_178 (fun pc h => by show (bif Nat.blt pc 17 then _ else none) = none; rw [h]; rfl)
theorem okD_179 : (List.range 64).all (fun pc => chO 179 pc) = true := by decide +kernel
theorem okE_179 : ∀ pc, chO 179 pc = true := okG okD_179 (fun pc h => by show (bif Nat.blt pc 64 then _ else none) = none; rw [h]; rfl)
theorem okD_180 : (List.range 63).all (fun pc => chO 180 pc) = true := by decide +kernel
theorem okE_180 : ∀ pc, chO 180 pc = true := okG okD_180 (fun pc h => by show (bif Nat.blt pc 63 then _ else none) = none; rw [h]; rfl)
theorem okD_181 : (List.range 10).all (fun pc => chO 181 pc) = true := by decide +kernel
theorem okE_181 : ∀ pc, chO 181 pc = true := okG okD_181 (fun pc h => by show (bif Nat.blt pc 10 then _ else none) = none; rw [h]; rfl)
theorem okD_182 : (List.range 30).all (fun pc => chO 182 pc) = true := by decide +kernel
theorem okE_182 : ∀ pc, chO 182 pc = true := okG okD_182 (fun pc h => by show (bif Nat.blt pc 30 then _ else none) = none; rw [h]; rfl)
theorem okD_183 : (List.range 12).all (fun pc => chO 183 pc) = true := by decide +kernel
theorem okE_183 : ∀ pc, chO 183 pc = true := okG okD_183 (fun pc h => by show (bif Nat.blt pc 12 then _ else none) = none; rw [h]; rfl)
theorem okD_184 : (List.range 10).all (fun pc => chO 184 pc) = true := by decide +kernel
theorem okE_184 : ∀ pc, chO 184 pc = true := okG okD_184 (fun pc h => by show (bif Nat.blt pc 10 then _ else none) = none; rw [h]; rfl)
theorem okD_185 : (List.range 141).all (fun pc => chO 185 pc) = true := by decide +kernel
theorem okE_185 : ∀ pc, chO 185 pc = true := okG okD_185 (fun pc h => by show (bif Nat.blt pc 141 then _ else none) = none; rw [h]; rfl)
theorem okD_186 : (List.range 12).all (fun pc => chO 186 pc) = true := by decide +kernel
theorem okE_186 : ∀ pc, chO 186 pc = true := okG okD_186 (fun pc h => by show (bif Nat.blt pc 12 then _ else none) = none; rw [h]; rfl)
theorem okD_187 : (List.range 55).all (fun pc => chO 187 pc) = true := by decide +kernel
theorem okE_187 : ∀ pc, chO 187 pc = true := okG okD_187 (fun pc h => by show (bif Nat.blt pc 55 then _ else none) = none; rw [h]; rfl)
theorem okD_188 : (List.range 53).all (fun pc => chO 188 pc) = true := by decide +kernel
theorem okE_188 : ∀ pc, chO 188 pc = true := okG okD_188 (fun pc h => by show (bif Nat.blt pc 53 then _ else none) = none; rw [h]; rfl)
theorem okD_189 : (List.range 102).all (fun pc => chO 189 pc) = true := by decide +kernel
theorem okE_189 : ∀ pc, chO 189 pc = true := okG okD_189 (fun pc h => by show (bif Nat.blt pc 102 then _ else none) = none; rw [h]; rfl)
theorem okD_190 : (List.range 88).all (fun pc => chO 190 pc) = true := by decide +kernel
theorem okE_190 : ∀ pc, chO 190 pc = true := okG okD_190 (fun pc h => by show (bif Nat.blt pc 88 then _ else none) = none; rw [h]; rfl)
theorem okD_191 : (List.range 42).all (fun pc => chO 191 pc) = true := by decide +kernel
theorem okE_191 : ∀ pc, chO 191 pc = true := okG okD_191 (fun pc h => by show (bif Nat.blt pc 42 then _ else none) = none; rw [h]; rfl)
theorem okD_192 : (List.range 10).all (fun pc => chO 192 pc) = true := by decide +kernel
theorem okE_192 : ∀ pc, chO 192 pc = true := okG okD_192 (fun pc h => by show (bif Nat.blt pc 10 then _ else none) = none; rw [h]; rfl)
theorem okD_193 : (List.range 87).all (fun pc => chO 193 pc) = true := by decide +kernel
theorem okE_193 : ∀ pc, chO 193 pc = true := okG okD_193 (fun pc h => by show (bif Nat.blt pc 87 then _ else none) = none; rw [h]; rfl)
theorem okD_194 : (List.range 55).all (fun pc => chO 194 pc) = true := by decide +kernel
theorem okE_194 : ∀ pc, chO 194 pc = true := okG okD_194 (fun pc h => by show (bif Nat.blt pc 55 then _ else none) = none; rw [h]; rfl)
theorem okD_195 : (List.range 148).all (fun pc => chO 195 pc) = true := by decide +kernel
theorem okE_195 : ∀ pc, chO 195 pc = true := okG okD_195 (fun pc h => by show (bif Nat.blt pc 148 then _ else none) = none; rw [h]; rfl)
theorem okD_196 : (List.range 73).all (fun pc => chO 196 pc) = true := by decide +kernel
theorem okE_196 : ∀ pc, chO 196 pc = true := okG okD_196 (fun pc h => by show (bif Nat.blt pc 73 then _ else none) = none; rw [h]; rfl)
theorem okD_197 : (List.range 144).all (fun pc => chO 197 pc) = true := by decide +kernel
theorem okE_197 : ∀ pc, chO 197 pc = true := okG okD_197 (fun pc h => by show (bif Nat.blt pc 144 then _ else none) = none; rw [h]; rfl)
theorem okD_198 : (List.range 7).all (fun pc => chO 198 pc) = true := by decide +kernel
theorem okE_198 : ∀ pc, chO 198 pc = true := okG okD_198 (fun pc h => by show (bif Nat.blt pc 7 then _ else none) = none; rw [h]; rfl)
theorem okD_199 : (List.range 33).all (fun pc => chO 199 pc) = true := by decide +kernel
theorem okE_199 : ∀ pc, chO 199 pc = true := okG okD_199 (fun pc h => by show (bif Nat.blt pc 33 then _ else none) = none; rw [h]; rfl)
theorem okD_200 : (List.range 141).all (fun pc => chO 200 pc) = true := by decide +kernel
theorem okE_200 : ∀ pc, chO 200 pc = true := okG okD_200 (fun pc h => by show (bif Nat.blt pc 141 then _ else none) = none; rw [h]; rfl)
theorem okD_201 : (List.range 107).all (fun pc => chO 201 pc) = true := by decide +kernel
theorem okE_201 : ∀ pc, chO 201 pc = true := okG okD_201 (fun pc h => by show (bif Nat.blt pc 107 then _ else none) = none; rw [h]; rfl)
theorem okD_202 : (List.range 16).all (fun pc => chO 202 pc) = true := by decide +kernel
theorem okE_202 : ∀ pc, chO 202 pc = true := okG okD_202 (fun pc h => by show (bif Nat.blt pc 16 then _ else none) = none; rw [h]; rfl)
theorem okD_203 : (List.range 42).all (fun pc => chO 203 pc) = true := by decide +kernel
theorem okE_203 : ∀ pc, chO 203 pc = true := okG okD_203 (fun pc h => by show (bif Nat.blt pc 42 then _ else none) = none; rw [h]; rfl)
theorem okD_204 : (List.range 62).all (fun pc => chO 204 pc) = true := by decide +kernel
theorem okE_204 : ∀ pc, chO 204 pc = true := okG okD_204 (fun pc h => by show (bif Nat.blt pc 62 then _ else none) = none; rw [h]; rfl)
theorem okD_205 : (List.range 106).all (fun pc => chO 205 pc) = true := by decide +kernel
theorem okE_205 : ∀ pc, chO 205 pc = true := okG okD_205 (fun pc h => by show (bif Nat.blt pc 106 then _ else none) = none; rw [h]; rfl)
theorem okD_206 : (List.range 86).all (fun pc => chO 206 pc) = true := by decide +kernel
theorem okE_206 : ∀ pc, chO 206 pc = true := okG okD_206 (fun pc h => by show (bif Nat.blt pc 86 then _ else none) = none; rw [h]; rfl)
theorem okD_207 : (List.range 27).all (fun pc => chO 207 pc) = true := by decide +kernel
theorem okE_207 : ∀ pc, chO 207 pc = true := okG okD_207 (fun pc h => by show (bif Nat.blt pc 27 then _ else none) = none; rw [h]; rfl)
theorem okD_208 : (List.range 16).all (fun pc => chO 208 pc) = true := by decide +kernel
theorem okE_208 : ∀ pc, chO 208 pc = true := okG okD_208 (fun pc h => by show (bif Nat.blt pc 16 then _ else none) = none; rw [h]; rfl)
theorem okD_209 : (List.range 16).all (fun pc => chO 209 pc) = true := by decide +kernel
theorem okE_209 : ∀ pc, chO 209 pc = true := okG okD_209 (fun pc h => by show (bif Nat.blt pc 16 then _ else none) = none; rw [h]; rfl)
theorem okD_210 : (List.range 63).all (fun pc => chO 210 pc) = true := by decide +kernel
theorem okE_210 : ∀ pc, chO 210 pc = true := okG okD_210 (fun pc h => by show (bif Nat.blt pc 63 then _ else none) = none; rw [h]; rfl)
theorem okD_211 : (List.range 32).all (fun pc => chO 211 pc) = true := by decide +kernel
theorem okE_211 : ∀ pc, chO 211 pc = true := okG okD_211 (fun pc h => by show (bif Nat.blt pc 32 then _ else none) = none; rw [h]; rfl)
theorem okD_212 : (List.range 112).all (fun pc => chO 212 pc) = true := by decide +kernel
theorem okE_212 : ∀ pc, chO 212 pc = true := okG okD_212 (fun pc h => by show (bif Nat.blt pc 112 then _ else none) = none; rw [h]; rfl)
theorem okD_213 : (List.range 216).all (fun pc => chO 213 pc) = true := by decide +kernel
theorem okE_213 : ∀ pc, chO 213 pc = true := okG okD_213 (fun pc h => by show (bif Nat.blt pc 216 then _ else none) = none; rw [h]; rfl)
theorem okD_214 : (List.range 7).all (fun pc => chO 214 pc) = true := by decide +kernel
theorem okE_214 : ∀ pc, chO 214 pc = true := okG okD_214 (fun pc h => by show (bif Nat.blt pc 7 then _ else none) = none; rw [h]; rfl)
theorem okD_215 : (List.range 60).all (fun pc => chO 215 pc) = true := by decide +kernel
theorem okE_215 : ∀ pc, chO 215 pc = true := okG okD_215 (fun pc h => by show (bif Nat.blt pc 60 then _ else none) = none; rw [h]; rfl)
theorem okD_216 : (List.range 278).all (fun pc => chO 216 pc) = true := by decide +kernel
theorem okE_216 : ∀ pc, chO 216 pc = true := okG okD_216 (fun pc h => by show (bif Nat.blt pc 278 then _ else none) = none; rw [h]; rfl)
theorem okD_217 : (List.range 18).all (fun pc => chO 217 pc) = true := by decide +kernel
theorem okE_217 : ∀ pc, chO 217 pc = true := okG okD_217 (fun pc h => by show (bif Nat.blt pc 18 then _ else none) = none; rw [h]; rfl)
theorem okD_218 : (List.range 18).all (fun pc => chO 218 pc) = true := by decide +kernel
theorem okE_218 : ∀ pc, chO 218 pc = true := okG okD_218 (fun pc h => by show (bif Nat.blt pc 18 then _ else none) = none; rw [h]; rfl)
theorem okD_219 : (List.range 170).all (fun pc => chO 219 pc) = true := by decide +kernel
theorem okE_219 : ∀ pc, chO 219 pc = true := okG okD_219 (fun pc h => by show (bif Nat.blt pc 170 then _ else none) = none; rw [h]; rfl)
theorem okD_220 : (List.range 38).all (fun pc => chO 220 pc) = true := by decide +kernel
theorem okE_220 : ∀ pc, chO 220 pc = true := okG okD_220 (fun pc h => by show (bif Nat.blt pc 38 then _ else none) = none; rw [h]; rfl)
theorem okD_221 : (List.range 68).all (fun pc => chO 221 pc) = true := by decide +kernel
theorem okE_221 : ∀ pc, chO 221 pc = true := okG okD_221 (fun pc h => by show (bif Nat.blt pc 68 then _ else none) = none; rw [h]; rfl)
theorem okD_222 : (List.range 16).all (fun pc => chO 222 pc) = true := by decide +kernel
theorem okE_222 : ∀ pc, chO 222 pc = true := okG okD_222 (fun pc h => by show (bif Nat.blt pc 16 then _ else none) = none; rw [h]; rfl)
theorem okD_223 : (List.range 67).all (fun pc => chO 223 pc) = true := by decide +kernel
theorem okE_223 : ∀ pc, chO 223 pc = true := okG okD_223 (fun pc h => by show (bif Nat.blt pc 67 then _ else none) = none; rw [h]; rfl)
theorem okD_224 : (List.range 77).all (fun pc => chO 224 pc) = true := by decide +kernel
theorem okE_224 : ∀ pc, chO 224 pc = true := okG okD_224 (fun pc h => by show (bif Nat.blt pc 77 then _ else none) = none; rw [h]; rfl)
theorem okD_225 : (List.range 68).all (fun pc => chO 225 pc) = true := by decide +kernel
theorem okE_225 : ∀ pc, chO 225 pc = true := okG okD_225 (fun pc h => by show (bif Nat.blt pc 68 then _ else none) = none; rw [h]; rfl)
theorem okD_226 : (List.range 149).all (fun pc => chO 226 pc) = true := by decide +kernel
theorem okE_226 : ∀ pc, chO 226 pc = true := okG okD_226 (fun pc h => by show (bif Nat.blt pc 149 then _ else none) = none; rw [h]; rfl)
theorem okD_227 : (List.range 8).all (fun pc => chO 227 pc) = true := by decide +kernel
theorem okE_227 : ∀ pc, chO 227 pc = true := okG okD_227 (fun pc h => by show (bif Nat.blt pc 8 then _ else none) = none; rw [h]; rfl)
theorem okD_228 : (List.range 8).all (fun pc => chO 228 pc) = true := by decide +kernel
theorem okE_228 : ∀ pc, chO 228 pc = true := okG okD_228 (fun pc h => by show (bif Nat.blt pc 8 then _ else none) = none; rw [h]; rfl)
theorem okD_229 : (List.range 7).all (fun pc => chO 229 pc) = true := by decide +kernel
theorem okE_229 : ∀ pc, chO 229 pc = true := okG okD_229 (fun pc h => by show (bif Nat.blt pc 7 then _ else none) = none; rw [h]; rfl)
