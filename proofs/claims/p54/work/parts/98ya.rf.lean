/-! the reference's methods leave the book's places alone -/
def rf (μ : Nat) : Bool := Nat.ble 155 μ && Nat.ble μ 268
def gq (v : Value) : Prop := match v with
  | .ref x => 316 ≤ x
  | _ => True
def gm (L : List Value) : Prop := ∀ v, v ∈ L → gq v
theorem gm_nil : gm [] := fun v h => by cases h
theorem gm_cons {v : Value} {L : List Value} : gm (v :: L) ↔ gq v ∧ gm L := ⟨fun h => ⟨h v List.mem_cons_self, fun w hw => h w (List.mem_cons_of_mem _ hw)⟩, fun h w hw => by
  rcases List.mem_cons.mp hw with rfl | hw
  · exact h.1
  · exact h.2 w hw⟩
theorem gm_app {A B : List Value} : gm (A ++ B) ↔ gm A ∧ gm B := ⟨fun h => ⟨fun v hv => h v (List.mem_append_left _ hv), fun v hv => h v (List.mem_append_right _ hv)⟩, fun h v hv => (List.mem_append.mp hv).elim (h.1 v) (h.2 v)⟩
theorem gm_at {L : List Value} (h : gm L) {i : Nat} {v : Value} (e : L[i]? = some v) : gq v := h v (List.mem_of_getElem? e)
theorem gm_set {L : List Value} (h : gm L) {i : Nat} {v : Value} (hv : gq v) : gm (L.set i v) := fun w hw => by
  rcases List.mem_or_eq_of_mem_set hw with h1 | h1
  · exact h w h1
  · rw [h1]; exact hv
theorem gm_kill {L : List Value} (h : gm L) (i : Nat) : gm (kill L i) := by
  cases i with
  | zero => exact h
  | succ i =>
    show gm (match (L)[i]? with
    | some (.long _) => (L).set i dv
    | some (.double _) => (L).set i dv
    | _ => L)
    split
    · exact gm_set (v := dv) h trivial
    · exact gm_set (v := dv) h trivial
    · exact h
theorem gm_sto {L : List Value} (h : gm L) (i : Nat) {v : Value} (hv : gq v) : gm (sto L i v) := gm_set (gm_kill h i) hv
theorem gm_sto2 {L : List Value} (h : gm L) (i : Nat) {v : Value} (hv : gq v) : gm (sto2 L i v) := gm_set (gm_set (gm_kill h i) hv) trivial
theorem gm_mk : ∀ (f : List Bool) (L : List Value), gm L → gm (mk f L)
  | [], L, h => by cases L <;> exact h
  | b :: f, [], h => h
  | b :: f, v :: L, h => by
    show gm ((bif b then v else dv) :: mk f L)
    rw [gm_cons] at h
    refine gm_cons.mpr ⟨?_, gm_mk f L h.2⟩
    cases b with
    | true => exact h.1
    | false => trivial
theorem gm_take {L : List Value} (h : gm L) (n : Nat) : gm (L.take n) := fun v hv => h v (List.mem_of_mem_take hv)
theorem gm_drop {L : List Value} (h : gm L) (n : Nat) : gm (L.drop n) := fun v hv => h v (List.mem_of_mem_drop hv)
theorem gm_rev {L : List Value} (h : gm L) : gm L.reverse := fun v hv => h v (List.mem_reverse.mp hv)
theorem gm_ent : ∀ as : List Value, gm as → gm (ent as)
  | [], _ => gm_nil
  | v :: r, h => by
    rw [gm_cons] at h
    have ih := gm_ent r h.2
    have one : gm (v :: ent r) := gm_cons.mpr ⟨h.1, ih⟩
    have two : gm (v :: dv :: ent r) := gm_cons.mpr ⟨h.1, gm_cons.mpr ⟨trivial, ih⟩⟩
    cases v with
    | long x => exact two
    | double x => exact two
    | _ => exact one
theorem gm_pad {n : Nat} {L : List Value} (h : gm L) : gm (pad n L) := gm_app.mpr ⟨h, fun v hv => by rw [(List.mem_replicate.mp hv).2]; trivial⟩
theorem rf_lt {μ : Nat} (h : rf μ = true) : 155 ≤ μ ∧ μ ≤ 268 := by
  unfold rf at h
  rw [Bool.and_eq_true] at h
  exact ⟨Nat.ble_eq.mp h.1, Nat.ble_eq.mp h.2⟩
theorem r0_ge0 : (List.range 337).all (fun p => Nat.blt p 316 || (List.range 24).all (fun j => match R0 p j with
    | some q => Nat.ble 316 q
    | none => true)) = true := by decide +kernel
theorem r0_ge {p j q : Nat} (h1 : 316 ≤ p) (h2 : p < 337) (hj : j < 24) (h : R0 p j = some q) : 316 ≤ q := by
  have h3 := List.all_eq_true.mp r0_ge0 p (List.mem_range.mpr h2)
  rw [show Nat.blt p 316 = false from by cases hb : Nat.blt p 316 with | false => rfl | true => (have := Nat.blt_eq.mp hb; omega), Bool.false_or] at h3
  have h4 := List.all_eq_true.mp h3 j (List.mem_range.mpr hj)
  rw [h] at h4
  exact Nat.ble_eq.mp h4
def chR (μ pc : Nat) : Bool := match cins μ pc with
  | none => true
  | some (i, _, _, _, a, b, c, _) => match i with
    | .getfield _ => !(Nat.beq a 43) && Nat.blt b 24
    | .putfield _ => Nat.beq c 0 || Nat.beq c 2
    | .invokevirtual _ => rf a
    | .invokestatic _ => rf a
    | .ldc _ => Nat.beq a 0
    | .iload_n _ => true
    | .iload _ => true
    | .lload_n _ => true
    | .lload _ => true
    | .aload_n _ => true
    | .aload _ => true
    | .iconst _ => true
    | .bipush _ => true
    | .sipush _ => true
    | .lconst _ => true
    | .ldc2_w _ => true
    | .fconst _ => true
    | .goto _ => true
    | .tableswitch _ _ _ _ => true
    | .ifCond _ _ => true
    | .if_icmp _ _ => true
    | .istore_n _ => true
    | .istore _ => true
    | .lstore_n _ => true
    | .lstore _ => true
    | .iinc _ _ => true
    | .iadd => true
    | .isub => true
    | .imul => true
    | .idiv => true
    | .irem => true
    | .ineg => true
    | .ishl => true
    | .ishr => true
    | .iand => true
    | .ior => true
    | .ladd => true
    | .lsub => true
    | .lmul => true
    | .lneg => true
    | .lshl => true
    | .lshr => true
    | .lor => true
    | .land => true
    | .lcmp => true
    | .i2l => true
    | .l2i => true
    | .i2d => true
    | .i2f => true
    | .ddiv => true
    | .fdiv => true
    | .dup => true
    | .dup2 => true
    | .iaload => true
    | .laload => true
    | .baload => true
    | .iastore => true
    | .lastore => true
    | .bastore => true
    | .ireturn => true
    | .lreturn => true
    | .freturn => true
    | .dreturn => true
    | .return_ => true
    | _ => false
theorem rfG {i N : Nat} (h : (List.range N).all (fun pc => chR i pc) = true) (hn : ∀ pc, Nat.blt pc N = false → cins i pc = none) : ∀ pc, chR i pc = true := by
  intro pc
  cases hb : Nat.blt pc N with
  | true => exact List.all_eq_true.mp h pc (List.mem_range.mpr (Nat.blt_eq.mp hb))
  | false => unfold chR; rw [hn pc hb]
theorem rfD_155 : (List.range 5).all (fun pc => chR 155 pc) = true := by decide +kernel
theorem rfE_155 : ∀ pc, chR 155 pc = true := rfG rfD_155 (fun pc h => by show (bif Nat.blt pc 5 then _ else none) = none; rw [h]; rfl)
theorem rfD_156 : (List.range 15).all (fun pc => chR 156 pc) = true := by decide +kernel
theorem rfE_156 : ∀ pc, chR 156 pc = true := rfG rfD_156 (fun pc h => by show (bif Nat.blt pc 15 then _ else none) = none; rw [h]; rfl)
theorem rfD_157 : (List.range 16).all (fun pc => chR 157 pc) = true := by decide +kernel
theorem rfE_157 : ∀ pc, chR 157 pc = true := rfG rfD_157 (fun pc h => by show (bif Nat.blt pc 16 then _ else none) = none; rw [h]; rfl)
theorem rfD_158 : (List.range 15).all (fun pc => chR 158 pc) = true := by decide +kernel
theorem rfE_158 : ∀ pc, chR 158 pc = true := rfG rfD_158 (fun pc h => by show (bif Nat.blt pc 15 then _ else none) = none; rw [h]; rfl)
theorem rfD_159 : (List.range 20).all (fun pc => chR 159 pc) = true := by decide +kernel
theorem rfE_159 : ∀ pc, chR 159 pc = true := rfG rfD_159 (fun pc h => by show (bif Nat.blt pc 20 then _ else none) = none; rw [h]; rfl)
theorem rfD_160 : (List.range 17).all (fun pc => chR 160 pc) = true := by decide +kernel
theorem rfE_160 : ∀ pc, chR 160 pc = true := rfG rfD_160 (fun pc h => by show (bif Nat.blt pc 17 then _ else none) = none; rw [h]; rfl)
theorem rfD_161 : (List.range 77).all (fun pc => chR 161 pc) = true := by decide +kernel
theorem rfE_161 : ∀ pc, chR 161 pc = true := rfG rfD_161 (fun pc h => by show (bif Nat.blt pc 77 then _ else none) = none; rw [h]; rfl)
theorem rfD_162 : (List.range 71).all (fun pc => chR 162 pc) = true := by decide +kernel
theorem rfE_162 : ∀ pc, chR 162 pc = true := rfG rfD_162 (fun pc h => by show (bif Nat.blt pc 71 then _ else none) = none; rw [h]; rfl)
theorem rfD_163 : (List.range 10).all (fun pc => chR 163 pc) = true := by decide +kernel
theorem rfE_163 : ∀ pc, chR 163 pc = true := rfG rfD_163 (fun pc h => by show (bif Nat.blt pc 10 then _ else none) = none; rw [h]; rfl)
theorem rfD_164 : (List.range 47).all (fun pc => chR 164 pc) = true := by decide +kernel
theorem rfE_164 : ∀ pc, chR 164 pc = true := rfG rfD_164 (fun pc h => by show (bif Nat.blt pc 47 then _ else none) = none; rw [h]; rfl)
theorem rfD_165 : (List.range 12).all (fun pc => chR 165 pc) = true := by decide +kernel
theorem rfE_165 : ∀ pc, chR 165 pc = true := rfG rfD_165 (fun pc h => by show (bif Nat.blt pc 12 then _ else none) = none; rw [h]; rfl)
theorem rfD_166 : (List.range 12).all (fun pc => chR 166 pc) = true := by decide +kernel
theorem rfE_166 : ∀ pc, chR 166 pc = true := rfG rfD_166 (fun pc h => by show (bif Nat.blt pc 12 then _ else none) = none; rw [h]; rfl)
theorem rfD_167 : (List.range 262).all (fun pc => chR 167 pc) = true := by decide +kernel
theorem rfE_167 : ∀ pc, chR 167 pc = true := rfG rfD_167 (fun pc h => by show (bif Nat.blt pc 262 then _ else none) = none; rw [h]; rfl)
theorem rfD_168 : (List.range 163).all (fun pc => chR 168 pc) = true := by decide +kernel
theorem rfE_168 : ∀ pc, chR 168 pc = true := rfG rfD_168 (fun pc h => by show (bif Nat.blt pc 163 then _ else none) = none; rw [h]; rfl)
theorem rfD_169 : (List.range 130).all (fun pc => chR 169 pc) = true := by decide +kernel
theorem rfE_169 : ∀ pc, chR 169 pc = true := rfG rfD_169 (fun pc h => by show (bif Nat.blt pc 130 then _ else none) = none; rw [h]; rfl)
theorem rfD_170 : (List.range 88).all (fun pc => chR 170 pc) = true := by decide +kernel
theorem rfE_170 : ∀ pc, chR 170 pc = true := rfG rfD_170 (fun pc h => by show (bif Nat.blt pc 88 then _ else none) = none; rw [h]; rfl)
theorem rfD_171 : (List.range 255).all (fun pc => chR 171 pc) = true := by decide +kernel
theorem rfE_171 : ∀ pc, chR 171 pc = true := rfG rfD_171 (fun pc h => by show (bif Nat.blt pc 255 then _ else none) = none; rw [h]; rfl)
theorem rfD_172 : (List.range 9).all (fun pc => chR 172 pc) = true := by decide +kernel
theorem rfE_172 : ∀ pc, chR 172 pc = true := rfG rfD_172 (fun pc h => by show (bif Nat.blt pc 9 then _ else none) = none; rw [h]; rfl)
theorem rfD_173 : (List.range 9).all (fun pc => chR 173 pc) = true := by decide +kernel
theorem rfE_173 : ∀ pc, chR 173 pc = true := rfG rfD_173 (fun pc h => by show (bif Nat.blt pc 9 then _ else none) = none; rw [h]; rfl)
theorem rfD_174 : (List.range 35).all (fun pc => chR 174 pc) = true := by decide +kernel
theorem rfE_174 : ∀ pc, chR 174 pc = true := rfG rfD_174 (fun pc h => by show (bif Nat.blt pc 35 then _ else none) = none; rw [h]; rfl)
theorem rfD_175 : (List.range 54).all (fun pc => chR 175 pc) = true := by decide +kernel
theorem rfE_175 : ∀ pc, chR 175 pc = true := rfG rfD_175 (fun pc h => by show (bif Nat.blt pc 54 then _ else none) = none; rw [h]; rfl)
theorem rfD_176 : (List.range 30).all (fun pc => chR 176 pc) = true := by decide +kernel
theorem rfE_176 : ∀ pc, chR 176 pc = true := rfG rfD_176 (fun pc h => by show (bif Nat.blt pc 30 then _ else none) = none; rw [h]; rfl)
theorem rfD_177 : (List.range 81).all (fun pc => chR 177 pc) = true := by decide +kernel
theorem rfE_177 : ∀ pc, chR 177 pc = true := rfG rfD_177 (fun pc h => by show (bif Nat.blt pc 81 then _ else none) = none; rw [h]; rfl)
theorem rfD_178 : (List.range 17).all (fun pc => chR 178 pc) = true := by decide +kernel
theorem rfE_178 : ∀ pc, chR 178 pc = true := rfG rfD_178 (fun pc h => by show (bif Nat.blt pc 17 then _ else none) = none; rw [h]; rfl)
theorem rfD_179 : (List.range 64).all (fun pc => chR 179 pc) = true := by decide +kernel
theorem rfE_179 : ∀ pc, chR 179 pc = true := rfG rfD_179 (fun pc h => by show (bif Nat.blt pc 64 then _ else none) = none; rw [h]; rfl)
theorem rfD_180 : (List.range 63).all (fun pc => chR 180 pc) = true := by decide +kernel
theorem rfE_180 : ∀ pc, chR 180 pc = true := rfG rfD_180 (fun pc h => by show (bif Nat.blt pc 63 then _ else none) = none; rw [h]; rfl)
theorem rfD_181 : (List.range 10).all (fun pc => chR 181 pc) = true := by decide +kernel
theorem rfE_181 : ∀ pc, chR 181 pc = true := rfG rfD_181 (fun pc h => by show (bif Nat.blt pc 10 then _ else none) = none; rw [h]; rfl)
theorem rfD_182 : (List.range 30).all (fun pc => chR 182 pc) = true := by decide +kernel
theorem rfE_182 : ∀ pc, chR 182 pc = true := rfG rfD_182 (fun pc h => by show (bif Nat.blt pc 30 then _ else none) = none; rw [h]; rfl)
theorem rfD_183 : (List.range 12).all (fun pc => chR 183 pc) = true := by decide +kernel
theorem rfE_183 : ∀ pc, chR 183 pc = true := rfG rfD_183 (fun pc h => by show (bif Nat.blt pc 12 then _ else none) = none; rw [h]; rfl)
theorem rfD_184 : (List.range 10).all (fun pc => chR 184 pc) = true := by decide +kernel
theorem rfE_184 : ∀ pc, chR 184 pc = true := rfG rfD_184 (fun pc h => by show (bif Nat.blt pc 10 then _ else none) = none; rw [h]; rfl)
theorem rfD_185 : (List.range 141).all (fun pc => chR 185 pc) = true := by decide +kernel
theorem rfE_185 : ∀ pc, chR 185 pc = true := rfG rfD_185 (fun pc h => by show (bif Nat.blt pc 141 then _ else none) = none; rw [h]; rfl)
theorem rfD_186 : (List.range 12).all (fun pc => chR 186 pc) = true := by decide +kernel
theorem rfE_186 : ∀ pc, chR 186 pc = true := rfG rfD_186 (fun pc h => by show (bif Nat.blt pc 12 then _ else none) = none; rw [h]; rfl)
theorem rfD_187 : (List.range 55).all (fun pc => chR 187 pc) = true := by decide +kernel
theorem rfE_187 : ∀ pc, chR 187 pc = true := rfG rfD_187 (fun pc h => by show (bif Nat.blt pc 55 then _ else none) = none; rw [h]; rfl)
theorem rfD_188 : (List.range 53).all (fun pc => chR 188 pc) = true := by decide +kernel
theorem rfE_188 : ∀ pc, chR 188 pc = true := rfG rfD_188 (fun pc h => by show (bif Nat.blt pc 53 then _ else none) = none; rw [h]; rfl)
theorem rfD_189 : (List.range 102).all (fun pc => chR 189 pc) = true := by decide +kernel
theorem rfE_189 : ∀ pc, chR 189 pc = true := rfG rfD_189 (fun pc h => by show (bif Nat.blt pc 102 then _ else none) = none; rw [h]; rfl)
theorem rfD_190 : (List.range 88).all (fun pc => chR 190 pc) = true := by decide +kernel
theorem rfE_190 : ∀ pc, chR 190 pc = true := rfG rfD_190 (fun pc h => by show (bif Nat.blt pc 88 then _ else none) = none; rw [h]; rfl)
theorem rfD_191 : (List.range 42).all (fun pc => chR 191 pc) = true := by decide +kernel
theorem rfE_191 : ∀ pc, chR 191 pc = true := rfG rfD_191 (fun pc h => by show (bif Nat.blt pc 42 then _ else none) = none; rw [h]; rfl)
theorem rfD_192 : (List.range 10).all (fun pc => chR 192 pc) = true := by decide +kernel
theorem rfE_192 : ∀ pc, chR 192 pc = true := rfG rfD_192 (fun pc h => by show (bif Nat.blt pc 10 then _ else none) = none; rw [h]; rfl)
theorem rfD_193 : (List.range 87).all (fun pc => chR 193 pc) = true := by decide +kernel
theorem rfE_193 : ∀ pc, chR 193 pc = true := rfG rfD_193 (fun pc h => by show (bif Nat.blt pc 87 then _ else none) = none; rw [h]; rfl)
theorem rfD_194 : (List.range 55).all (fun pc => chR 194 pc) = true := by decide +kernel
theorem rfE_194 : ∀ pc, chR 194 pc = true := rfG rfD_194 (fun pc h => by show (bif Nat.blt pc 55 then _ else none) = none; rw [h]; rfl)
theorem rfD_195 : (List.range 148).all (fun pc => chR 195 pc) = true := by decide +kernel
theorem rfE_195 : ∀ pc, chR 195 pc = true := rfG rfD_195 (fun pc h => by show (bif Nat.blt pc 148 then _ else none) = none; rw [h]; rfl)
theorem rfD_196 : (List.range 73).all (fun pc => chR 196 pc) = true := by decide +kernel
theorem rfE_196 : ∀ pc, chR 196 pc = true := rfG rfD_196 (fun pc h => by show (bif Nat.blt pc 73 then _ else none) = none; rw [h]; rfl)
theorem rfD_197 : (List.range 144).all (fun pc => chR 197 pc) = true := by decide +kernel
theorem rfE_197 : ∀ pc, chR 197 pc = true := rfG rfD_197 (fun pc h => by show (bif Nat.blt pc 144 then _ else none) = none; rw [h]; rfl)
theorem rfD_198 : (List.range 7).all (fun pc => chR 198 pc) = true := by decide +kernel
theorem rfE_198 : ∀ pc, chR 198 pc = true := rfG rfD_198 (fun pc h => by show (bif Nat.blt pc 7 then _ else none) = none; rw [h]; rfl)
theorem rfD_199 : (List.range 33).all (fun pc => chR 199 pc) = true := by decide +kernel
theorem rfE_199 : ∀ pc, chR 199 pc = true := rfG rfD_199 (fun pc h => by show (bif Nat.blt pc 33 then _ else none) = none; rw [h]; rfl)
theorem rfD_200 : (List.range 141).all (fun pc => chR 200 pc) = true := by decide +kernel
theorem rfE_200 : ∀ pc, chR 200 pc = true := rfG rfD_200 (fun pc h => by show (bif Nat.blt pc 141 then _ else none) = none; rw [h]; rfl)
theorem rfD_201 : (List.range 107).all (fun pc => chR 201 pc) = true := by decide +kernel
theorem rfE_201 : ∀ pc, chR 201 pc = true := rfG rfD_201 (fun pc h => by show (bif Nat.blt pc 107 then _ else none) = none; rw [h]; rfl)
theorem rfD_202 : (List.range 16).all (fun pc => chR 202 pc) = true := by decide +kernel
theorem rfE_202 : ∀ pc, chR 202 pc = true := rfG rfD_202 (fun pc h => by show (bif Nat.blt pc 16 then _ else none) = none; rw [h]; rfl)
theorem rfD_203 : (List.range 42).all (fun pc => chR 203 pc) = true := by decide +kernel
theorem rfE_203 : ∀ pc, chR 203 pc = true := rfG rfD_203 (fun pc h => by show (bif Nat.blt pc 42 then _ else none) = none; rw [h]; rfl)
theorem rfD_204 : (List.range 62).all (fun pc => chR 204 pc) = true := by decide +kernel
theorem rfE_204 : ∀ pc, chR 204 pc = true := rfG rfD_204 (fun pc h => by show (bif Nat.blt pc 62 then _ else none) = none; rw [h]; rfl)
theorem rfD_205 : (List.range 106).all (fun pc => chR 205 pc) = true := by decide +kernel
theorem rfE_205 : ∀ pc, chR 205 pc = true := rfG rfD_205 (fun pc h => by show (bif Nat.blt pc 106 then _ else none) = none; rw [h]; rfl)
theorem rfD_206 : (List.range 86).all (fun pc => chR 206 pc) = true := by decide +kernel
theorem rfE_206 : ∀ pc, chR 206 pc = true := rfG rfD_206 (fun pc h => by show (bif Nat.blt pc 86 then _ else none) = none; rw [h]; rfl)
theorem rfD_207 : (List.range 27).all (fun pc => chR 207 pc) = true := by decide +kernel
theorem rfE_207 : ∀ pc, chR 207 pc = true := rfG rfD_207 (fun pc h => by show (bif Nat.blt pc 27 then _ else none) = none; rw [h]; rfl)
theorem rfD_208 : (List.range 16).all (fun pc => chR 208 pc) = true := by decide +kernel
theorem rfE_208 : ∀ pc, chR 208 pc = true := rfG rfD_208 (fun pc h => by show (bif Nat.blt pc 16 then _ else none) = none; rw [h]; rfl)
theorem rfD_209 : (List.range 16).all (fun pc => chR 209 pc) = true := by decide +kernel
theorem rfE_209 : ∀ pc, chR 209 pc = true := rfG rfD_209 (fun pc h => by show (bif Nat.blt pc 16 then _ else none) = none; rw [h]; rfl)
theorem rfD_210 : (List.range 63).all (fun pc => chR 210 pc) = true := by decide +kernel
theorem rfE_210 : ∀ pc, chR 210 pc = true := rfG rfD_210 (fun pc h => by show (bif Nat.blt pc 63 then _ else none) = none; rw [h]; rfl)
theorem rfD_211 : (List.range 32).all (fun pc => chR 211 pc) = true := by decide +kernel
theorem rfE_211 : ∀ pc, chR 211 pc = true := rfG rfD_211 (fun pc h => by show (bif Nat.blt pc 32 then _ else none) = none; rw [h]; rfl)
theorem rfD_212 : (List.range 112).all (fun pc => chR 212 pc) = true := by decide +kernel
theorem rfE_212 : ∀ pc, chR 212 pc = true := rfG rfD_212 (fun pc h => by show (bif Nat.blt pc 112 then _ else none) = none; rw [h]; rfl)
theorem rfD_213 : (List.range 216).all (fun pc => chR 213 pc) = true := by decide +kernel
theorem rfE_213 : ∀ pc, chR 213 pc = true := rfG rfD_213 (fun pc h => by show (bif Nat.blt pc 216 then _ else none) = none; rw [h]; rfl)
theorem rfD_214 : (List.range 7).all (fun pc => chR 214 pc) = true := by decide +kernel
theorem rfE_214 : ∀ pc, chR 214 pc = true := rfG rfD_214 (fun pc h => by show (bif Nat.blt pc 7 then _ else none) = none; rw [h]; rfl)
theorem rfD_215 : (List.range 60).all (fun pc => chR 215 pc) = true := by decide +kernel
theorem rfE_215 : ∀ pc, chR 215 pc = true := rfG rfD_215 (fun pc h => by show (bif Nat.blt pc 60 then _ else none) = none; rw [h]; rfl)
theorem rfD_216 : (List.range 278).all (fun pc => chR 216 pc) = true := by decide +kernel
theorem rfE_216 : ∀ pc, chR 216 pc = true := rfG rfD_216 (fun pc h => by show (bif Nat.blt pc 278 then _ else none) = none; rw [h]; rfl)
theorem rfD_217 : (List.range 18).all (fun pc => chR 217 pc) = true := by decide +kernel
theorem rfE_217 : ∀ pc, chR 217 pc = true := rfG rfD_217 (fun pc h => by show (bif Nat.blt pc 18 then _ else none) = none; rw [h]; rfl)
theorem rfD_218 : (List.range 18).all (fun pc => chR 218 pc) = true := by decide +kernel
theorem rfE_218 : ∀ pc, chR 218 pc = true := rfG rfD_218 (fun pc h => by show (bif Nat.blt pc 18 then _ else none) = none; rw [h]; rfl)
theorem rfD_219 : (List.range 170).all (fun pc => chR 219 pc) = true := by decide +kernel
theorem rfE_219 : ∀ pc, chR 219 pc = true := rfG rfD_219 (fun pc h => by show (bif Nat.blt pc 170 then _ else none) = none; rw [h]; rfl)
theorem rfD_220 : (List.range 38).all (fun pc => chR 220 pc) = true := by decide +kernel
theorem rfE_220 : ∀ pc, chR 220 pc = true := rfG rfD_220 (fun pc h => by show (bif Nat.blt pc 38 then _ else none) = none; rw [h]; rfl)
theorem rfD_221 : (List.range 68).all (fun pc => chR 221 pc) = true := by decide +kernel
theorem rfE_221 : ∀ pc, chR 221 pc = true := rfG rfD_221 (fun pc h => by show (bif Nat.blt pc 68 then _ else none) = none; rw [h]; rfl)
theorem rfD_222 : (List.range 16).all (fun pc => chR 222 pc) = true := by decide +kernel
theorem rfE_222 : ∀ pc, chR 222 pc = true := rfG rfD_222 (fun pc h => by show (bif Nat.blt pc 16 then _ else none) = none; rw [h]; rfl)
theorem rfD_223 : (List.range 67).all (fun pc => chR 223 pc) = true := by decide +kernel
theorem rfE_223 : ∀ pc, chR 223 pc = true := rfG rfD_223 (fun pc h => by show (bif Nat.blt pc 67 then _ else none) = none; rw [h]; rfl)
theorem rfD_224 : (List.range 77).all (fun pc => chR 224 pc) = true := by decide +kernel
theorem rfE_224 : ∀ pc, chR 224 pc = true := rfG rfD_224 (fun pc h => by show (bif Nat.blt pc 77 then _ else none) = none; rw [h]; rfl)
theorem rfD_225 : (List.range 68).all (fun pc => chR 225 pc) = true := by decide +kernel
theorem rfE_225 : ∀ pc, chR 225 pc = true := rfG rfD_225 (fun pc h => by show (bif Nat.blt pc 68 then _ else none) = none; rw [h]; rfl)
theorem rfD_226 : (List.range 149).all (fun pc => chR 226 pc) = true := by decide +kernel
theorem rfE_226 : ∀ pc, chR 226 pc = true := rfG rfD_226 (fun pc h => by show (bif Nat.blt pc 149 then _ else none) = none; rw [h]; rfl)
theorem rfD_227 : (List.range 8).all (fun pc => chR 227 pc) = true := by decide +kernel
theorem rfE_227 : ∀ pc, chR 227 pc = true := rfG rfD_227 (fun pc h => by show (bif Nat.blt pc 8 then _ else none) = none; rw [h]; rfl)
theorem rfD_228 : (List.range 8).all (fun pc => chR 228 pc) = true := by decide +kernel
theorem rfE_228 : ∀ pc, chR 228 pc = true := rfG rfD_228 (fun pc h => by show (bif Nat.blt pc 8 then _ else none) = none; rw [h]; rfl)
theorem rfD_229 : (List.range 7).all (fun pc => chR 229 pc) = true := by decide +kernel
theorem rfE_229 : ∀ pc, chR 229 pc = true := rfG rfD_229 (fun pc h => by show (bif Nat.blt pc 7 then _ else none) = none; rw [h]; rfl)
theorem rfD_230 : (List.range 24).all (fun pc => chR 230 pc) = true := by decide +kernel
theorem rfE_230 : ∀ pc, chR 230 pc = true := rfG rfD_230 (fun pc h => by show (bif Nat.blt pc 24 then _ else none) = none; rw [h]; rfl)
theorem rfD_231 : (List.range 35).all (fun pc => chR 231 pc) = true := by decide +kernel
theorem rfE_231 : ∀ pc, chR 231 pc = true := rfG rfD_231 (fun pc h => by show (bif Nat.blt pc 35 then _ else none) = none; rw [h]; rfl)
theorem rfD_232 : (List.range 87).all (fun pc => chR 232 pc) = true := by decide +kernel
theorem rfE_232 : ∀ pc, chR 232 pc = true := rfG rfD_232 (fun pc h => by show (bif Nat.blt pc 87 then _ else none) = none; rw [h]; rfl)
theorem rfD_233 : (List.range 87).all (fun pc => chR 233 pc) = true := by decide +kernel
theorem rfE_233 : ∀ pc, chR 233 pc = true := rfG rfD_233 (fun pc h => by show (bif Nat.blt pc 87 then _ else none) = none; rw [h]; rfl)
theorem rfD_234 : (List.range 77).all (fun pc => chR 234 pc) = true := by decide +kernel
theorem rfE_234 : ∀ pc, chR 234 pc = true := rfG rfD_234 (fun pc h => by show (bif Nat.blt pc 77 then _ else none) = none; rw [h]; rfl)
theorem rfD_235 : (List.range 35).all (fun pc => chR 235 pc) = true := by decide +kernel
theorem rfE_235 : ∀ pc, chR 235 pc = true := rfG rfD_235 (fun pc h => by show (bif Nat.blt pc 35 then _ else none) = none; rw [h]; rfl)
theorem rfD_236 : (List.range 15).all (fun pc => chR 236 pc) = true := by decide +kernel
theorem rfE_236 : ∀ pc, chR 236 pc = true := rfG rfD_236 (fun pc h => by show (bif Nat.blt pc 15 then _ else none) = none; rw [h]; rfl)
theorem rfD_237 : (List.range 89).all (fun pc => chR 237 pc) = true := by decide +kernel
theorem rfE_237 : ∀ pc, chR 237 pc = true := rfG rfD_237 (fun pc h => by show (bif Nat.blt pc 89 then _ else none) = none; rw [h]; rfl)
theorem rfD_238 : (List.range 54).all (fun pc => chR 238 pc) = true := by decide +kernel
theorem rfE_238 : ∀ pc, chR 238 pc = true := rfG rfD_238 (fun pc h => by show (bif Nat.blt pc 54 then _ else none) = none; rw [h]; rfl)
theorem rfD_239 : (List.range 20).all (fun pc => chR 239 pc) = true := by decide +kernel
theorem rfE_239 : ∀ pc, chR 239 pc = true := rfG rfD_239 (fun pc h => by show (bif Nat.blt pc 20 then _ else none) = none; rw [h]; rfl)
theorem rfD_240 : (List.range 82).all (fun pc => chR 240 pc) = true := by decide +kernel
theorem rfE_240 : ∀ pc, chR 240 pc = true := rfG rfD_240 (fun pc h => by show (bif Nat.blt pc 82 then _ else none) = none; rw [h]; rfl)
theorem rfD_241 : (List.range 66).all (fun pc => chR 241 pc) = true := by decide +kernel
theorem rfE_241 : ∀ pc, chR 241 pc = true := rfG rfD_241 (fun pc h => by show (bif Nat.blt pc 66 then _ else none) = none; rw [h]; rfl)
theorem rfD_242 : (List.range 20).all (fun pc => chR 242 pc) = true := by decide +kernel
theorem rfE_242 : ∀ pc, chR 242 pc = true := rfG rfD_242 (fun pc h => by show (bif Nat.blt pc 20 then _ else none) = none; rw [h]; rfl)
theorem rfD_243 : (List.range 34).all (fun pc => chR 243 pc) = true := by decide +kernel
theorem rfE_243 : ∀ pc, chR 243 pc = true := rfG rfD_243 (fun pc h => by show (bif Nat.blt pc 34 then _ else none) = none; rw [h]; rfl)
theorem rfD_244 : (List.range 37).all (fun pc => chR 244 pc) = true := by decide +kernel
theorem rfE_244 : ∀ pc, chR 244 pc = true := rfG rfD_244 (fun pc h => by show (bif Nat.blt pc 37 then _ else none) = none; rw [h]; rfl)
theorem rfD_245 : (List.range 93).all (fun pc => chR 245 pc) = true := by decide +kernel
theorem rfE_245 : ∀ pc, chR 245 pc = true := rfG rfD_245 (fun pc h => by show (bif Nat.blt pc 93 then _ else none) = none; rw [h]; rfl)
theorem rfD_246 : (List.range 93).all (fun pc => chR 246 pc) = true := by decide +kernel
theorem rfE_246 : ∀ pc, chR 246 pc = true := rfG rfD_246 (fun pc h => by show (bif Nat.blt pc 93 then _ else none) = none; rw [h]; rfl)
theorem rfD_247 : (List.range 225).all (fun pc => chR 247 pc) = true := by decide +kernel
theorem rfE_247 : ∀ pc, chR 247 pc = true := rfG rfD_247 (fun pc h => by show (bif Nat.blt pc 225 then _ else none) = none; rw [h]; rfl)
theorem rfD_248 : (List.range 122).all (fun pc => chR 248 pc) = true := by decide +kernel
theorem rfE_248 : ∀ pc, chR 248 pc = true := rfG rfD_248 (fun pc h => by show (bif Nat.blt pc 122 then _ else none) = none; rw [h]; rfl)
theorem rfD_249 : (List.range 30).all (fun pc => chR 249 pc) = true := by decide +kernel
theorem rfE_249 : ∀ pc, chR 249 pc = true := rfG rfD_249 (fun pc h => by show (bif Nat.blt pc 30 then _ else none) = none; rw [h]; rfl)
theorem rfD_250 : (List.range 14).all (fun pc => chR 250 pc) = true := by decide +kernel
theorem rfE_250 : ∀ pc, chR 250 pc = true := rfG rfD_250 (fun pc h => by show (bif Nat.blt pc 14 then _ else none) = none; rw [h]; rfl)
theorem rfD_251 : (List.range 166).all (fun pc => chR 251 pc) = true := by decide +kernel
theorem rfE_251 : ∀ pc, chR 251 pc = true := rfG rfD_251 (fun pc h => by show (bif Nat.blt pc 166 then _ else none) = none; rw [h]; rfl)
theorem rfD_252 : (List.range 91).all (fun pc => chR 252 pc) = true := by decide +kernel
theorem rfE_252 : ∀ pc, chR 252 pc = true := rfG rfD_252 (fun pc h => by show (bif Nat.blt pc 91 then _ else none) = none; rw [h]; rfl)
theorem rfD_253 : (List.range 78).all (fun pc => chR 253 pc) = true := by decide +kernel
theorem rfE_253 : ∀ pc, chR 253 pc = true := rfG rfD_253 (fun pc h => by show (bif Nat.blt pc 78 then _ else none) = none; rw [h]; rfl)
theorem rfD_254 : (List.range 22).all (fun pc => chR 254 pc) = true := by decide +kernel
theorem rfE_254 : ∀ pc, chR 254 pc = true := rfG rfD_254 (fun pc h => by show (bif Nat.blt pc 22 then _ else none) = none; rw [h]; rfl)
theorem rfD_255 : (List.range 47).all (fun pc => chR 255 pc) = true := by decide +kernel
theorem rfE_255 : ∀ pc, chR 255 pc = true := rfG rfD_255 (fun pc h => by show (bif Nat.blt pc 47 then _ else none) = none; rw [h]; rfl)
theorem rfD_256 : (List.range 59).all (fun pc => chR 256 pc) = true := by decide +kernel
theorem rfE_256 : ∀ pc, chR 256 pc = true := rfG rfD_256 (fun pc h => by show (bif Nat.blt pc 59 then _ else none) = none; rw [h]; rfl)
theorem rfD_257 : (List.range 88).all (fun pc => chR 257 pc) = true := by decide +kernel
theorem rfE_257 : ∀ pc, chR 257 pc = true := rfG rfD_257 (fun pc h => by show (bif Nat.blt pc 88 then _ else none) = none; rw [h]; rfl)
theorem rfD_258 : (List.range 24).all (fun pc => chR 258 pc) = true := by decide +kernel
theorem rfE_258 : ∀ pc, chR 258 pc = true := rfG rfD_258 (fun pc h => by show (bif Nat.blt pc 24 then _ else none) = none; rw [h]; rfl)
theorem rfD_259 : (List.range 81).all (fun pc => chR 259 pc) = true := by decide +kernel
theorem rfE_259 : ∀ pc, chR 259 pc = true := rfG rfD_259 (fun pc h => by show (bif Nat.blt pc 81 then _ else none) = none; rw [h]; rfl)
theorem rfD_260 : (List.range 16).all (fun pc => chR 260 pc) = true := by decide +kernel
theorem rfE_260 : ∀ pc, chR 260 pc = true := rfG rfD_260 (fun pc h => by show (bif Nat.blt pc 16 then _ else none) = none; rw [h]; rfl)
theorem rfD_261 : (List.range 133).all (fun pc => chR 261 pc) = true := by decide +kernel
theorem rfE_261 : ∀ pc, chR 261 pc = true := rfG rfD_261 (fun pc h => by show (bif Nat.blt pc 133 then _ else none) = none; rw [h]; rfl)
theorem rfD_262 : (List.range 85).all (fun pc => chR 262 pc) = true := by decide +kernel
theorem rfE_262 : ∀ pc, chR 262 pc = true := rfG rfD_262 (fun pc h => by show (bif Nat.blt pc 85 then _ else none) = none; rw [h]; rfl)
theorem rfD_263 : (List.range 10).all (fun pc => chR 263 pc) = true := by decide +kernel
theorem rfE_263 : ∀ pc, chR 263 pc = true := rfG rfD_263 (fun pc h => by show (bif Nat.blt pc 10 then _ else none) = none; rw [h]; rfl)
theorem rfD_264 : (List.range 136).all (fun pc => chR 264 pc) = true := by decide +kernel
theorem rfE_264 : ∀ pc, chR 264 pc = true := rfG rfD_264 (fun pc h => by show (bif Nat.blt pc 136 then _ else none) = none; rw [h]; rfl)
theorem rfD_265 : (List.range 97).all (fun pc => chR 265 pc) = true := by decide +kernel
theorem rfE_265 : ∀ pc, chR 265 pc = true := rfG rfD_265 (fun pc h => by show (bif Nat.blt pc 97 then _ else none) = none; rw [h]; rfl)
theorem rfD_266 : (List.range 64).all (fun pc => chR 266 pc) = true := by decide +kernel
theorem rfE_266 : ∀ pc, chR 266 pc = true := rfG rfD_266 (fun pc h => by show (bif Nat.blt pc 64 then _ else none) = none; rw [h]; rfl)
theorem rfD_267 : (List.range 75).all (fun pc => chR 267 pc) = true := by decide +kernel
theorem rfE_267 : ∀ pc, chR 267 pc = true := rfG rfD_267 (fun pc h => by show (bif Nat.blt pc 75 then _ else none) = none; rw [h]; rfl)
theorem rfD_268 : (List.range 7).all (fun pc => chR 268 pc) = true := by decide +kernel
theorem rfE_268 : ∀ pc, chR 268 pc = true := rfG rfD_268 (fun pc h => by show (bif Nat.blt pc 7 then _ else none) = none; rw [h]; rfl)
theorem rf_all : ∀ j, j < 114 → ∀ pc, chR (155 + j) pc = true := lt_s (p := fun j => ∀ pc, chR (155 + j) pc = true) (lt_s (p := fun j => ∀ pc, chR (155 + j) pc = true) (lt_s (p := fun j => ∀ pc, chR (155 + j) pc = true) (lt_s (p := fun j => ∀ pc, chR (155 + j) pc = true) (lt_s (p := fun j => ∀ pc, chR (155 + j) pc = true) (lt_s (p := fun j => ∀ pc, chR (155 + j) pc = true) (lt_s (p := fun j => ∀ pc, chR (155 + j) pc = true) (lt_s (p := fun j => ∀ pc, chR (155 + j) pc = true) (lt_s (p := fun j => ∀ pc, chR (155 + j) pc = true) (lt_s (p := fun j => ∀ pc, chR (155 + j) pc = true) (lt_s (p := fun j => ∀ pc, chR (155 + j) pc = true) (lt_s (p := fun j => ∀ pc, chR (155 + j) pc = true) (lt_s (p := fun j => ∀ pc, chR (155 + j) pc = true) (lt_s (p := fun j => ∀ pc, chR (155 + j) pc = true) (lt_s (p := fun j => ∀ pc, chR (155 + j) pc = true) (lt_s (p := fun j => ∀ pc, chR (155 + j) pc = true) (lt_s (p := fun j => ∀ pc, chR (155 + j) pc = true) (lt_s (p := fun j => ∀ pc, chR (155 + j) pc = true) (lt_s (p := fun j => ∀ pc, chR (155 + j) pc = true) (lt_s (p := fun j => ∀ pc, chR (155 + j) pc = true) (lt_s (p := fun j => ∀ pc, chR (155 + j) pc = true) (lt_s (p := fun j => ∀ pc, chR (155 + j) pc = true) (lt_s (p := fun j => ∀ pc, chR (155 + j) pc = true) (lt_s (p := fun j => ∀ pc, chR (155 + j) pc = true) (lt_s (p := fun j => ∀ pc, chR (155 + j) pc = true) (lt_s (p := fun j => ∀ pc, chR (155 + j) pc = true) (lt_s (p := fun j => ∀ pc, chR (155 + j) pc = true) (lt_s (p := fun j => ∀ pc, chR (155 + j) pc = true) (lt_s (p := fun j => ∀ pc, chR (155 + j) pc = true) (lt_s (p := fun j => ∀ pc, chR (155 + j) pc = true) (lt_s (p := fun j => ∀ pc, chR (155 + j) pc = true) (lt_s (p := fun j => ∀ pc, chR (155 + j) pc = true) (lt_s (p := fun j => ∀ pc, chR (155 + j) pc = true) (lt_s (p := fun j => ∀ pc, chR (155 + j) pc = true) (lt_s (p := fun j => ∀ pc, chR (155 + j) pc = true) (lt_s (p := fun j => ∀ pc, chR (155 + j) pc = true) (lt_s (p := fun j => ∀ pc, chR (155 + j) pc = true) (lt_s (p := fun j => ∀ pc, chR (155 + j) pc = true) (lt_s (p := fun j => ∀ pc, chR (155 + j) pc = true) (lt_s (p := fun j => ∀ pc, chR (155 + j) pc = true) (lt_s (p := fun j => ∀ pc, chR (155 + j) pc = true) (lt_s (p := fun j => ∀ pc, chR (155 + j) pc = true) (lt_s (p := fun j => ∀ pc, chR (155 + j) pc = true) (lt_s (p := fun j => ∀ pc, chR (155 + j) pc = true) (lt_s (p := fun j => ∀ pc, chR (155 + j) pc = true) (lt_s (p := fun j => ∀ pc, chR (155 + j) pc = true) (lt_s (p := fun j => ∀ pc, chR (155 + j) pc = true) (lt_s (p := fun j => ∀ pc, chR (155 + j) pc = true) (lt_s (p := fun j => ∀ pc, chR (155 + j) pc = true) (lt_s (p := fun j => ∀ pc, chR (155 + j) pc = true) (lt_s (p := fun j => ∀ pc, chR (155 + j) pc = true) (lt_s (p := fun j => ∀ pc, chR (155 + j) pc = true) (lt_s (p := fun j => ∀ pc, chR (155 + j) pc = true) (lt_s (p := fun j => ∀ pc, chR (155 + j) pc = true) (lt_s (p := fun j => ∀ pc, chR (155 + j) pc = true) (lt_s (p := fun j => ∀ pc, chR (155 + j) pc = true) (lt_s (p := fun j => ∀ pc, chR (155 + j) pc = true) (lt_s (p := fun j => ∀ pc, chR (155 + j) pc = true) (lt_s (p := fun j => ∀ pc, chR (155 + j) pc = true) (lt_s (p := fun j => ∀ pc, chR (155 + j) pc = true) (lt_s (p := fun j => ∀ pc, chR (155 + j) pc = true) (lt_s (p := fun j => ∀ pc, chR (155 + j) pc = true) (lt_s (p := fun j => ∀ pc, chR (155 + j) pc = true) (lt_s (p := fun j => ∀ pc, chR (155 + j) pc = true) (lt_s (p := fun j => ∀ pc, chR (155 + j) pc = true) (lt_s (p := fun j => ∀ pc, chR (155 + j) pc = true) (lt_s (p := fun j => ∀ pc, chR (155 + j) pc = true) (lt_s (p := fun j => ∀ pc, chR (155 + j) pc = true) (lt_s (p := fun j => ∀ pc, chR (155 + j) pc = true) (lt_s (p := fun j => ∀ pc, chR (155 + j) pc = true) (lt_s (p := fun j => ∀ pc, chR (155 + j) pc = true) (lt_s (p := fun j => ∀ pc, chR (155 + j) pc = true) (lt_s (p := fun j => ∀ pc, chR (155 + j) pc = true) (lt_s (p := fun j => ∀ pc, chR (155 + j) pc = true) (lt_s (p := fun j => ∀ pc, chR (155 + j) pc = true) (lt_s (p := fun j => ∀ pc, chR (155 + j) pc = true) (lt_s (p := fun j => ∀ pc, chR (155 + j) pc = true) (lt_s (p := fun j => ∀ pc, chR (155 + j) pc = true) (lt_s (p := fun j => ∀ pc, chR (155 + j) pc = true) (lt_s (p := fun j => ∀ pc, chR (155 + j) pc = true) (lt_s (p := fun j => ∀ pc, chR (155 + j) pc = true) (lt_s (p := fun j => ∀ pc, chR (155 + j) pc = true) (lt_s (p := fun j => ∀ pc, chR (155 + j) pc = true) (lt_s (p := fun j => ∀ pc, chR (155 + j) pc = true) (lt_s (p := fun j => ∀ pc, chR (155 + j) pc = true) (lt_s (p := fun j => ∀ pc, chR (155 + j) pc = true) (lt_s (p := fun j => ∀ pc, chR (155 + j) pc = true) (lt_s (p := fun j => ∀ pc, chR (155 + j) pc = true) (lt_s (p := fun j => ∀ pc, chR (155 + j) pc = true) (lt_s (p := fun j => ∀ pc, chR (155 + j) pc = true) (lt_s (p := fun j => ∀ pc, chR (155 + j) pc = true) (lt_s (p := fun j => ∀ pc, chR (155 + j) pc = true) (lt_s (p := fun j => ∀ pc, chR (155 + j) pc = true) (lt_s (p := fun j => ∀ pc, chR (155 + j) pc = true) (lt_s (p := fun j => ∀ pc, chR (155 + j) pc = true) (lt_s (p := fun j => ∀ pc, chR (155 + j) pc = true) (lt_s (p := fun j => ∀ pc, chR (155 + j) pc = true) (lt_s (p := fun j => ∀ pc, chR (155 + j) pc = true) (lt_s (p := fun j => ∀ pc, chR (155 + j) pc = true) (lt_s (p := fun j => ∀ pc, chR (155 + j) pc = true) (lt_s (p := fun j => ∀ pc, chR (155 + j) pc = true) (lt_s (p := fun j => ∀ pc, chR (155 + j) pc = true) (lt_s (p := fun j => ∀ pc, chR (155 + j) pc = true) (lt_s (p := fun j => ∀ pc, chR (155 + j) pc = true) (lt_s (p := fun j => ∀ pc, chR (155 + j) pc = true) (lt_s (p := fun j => ∀ pc, chR (155 + j) pc = true) (lt_s (p := fun j => ∀ pc, chR (155 + j) pc = true) (lt_s (p := fun j => ∀ pc, chR (155 + j) pc = true) (lt_s (p := fun j => ∀ pc, chR (155 + j) pc = true) (lt_s (p := fun j => ∀ pc, chR (155 + j) pc = true) (lt_s (p := fun j => ∀ pc, chR (155 + j) pc = true) (lt_s (p := fun j => ∀ pc, chR (155 + j) pc = true) (lt_s (p := fun j => ∀ pc, chR (155 + j) pc = true) (lt_s (p := fun j => ∀ pc, chR (155 + j) pc = true) (lt_0) rfE_155) rfE_156) rfE_157) rfE_158) rfE_159) rfE_160) rfE_161) rfE_162) rfE_163) rfE_164) rfE_165) rfE_166) rfE_167) rfE_168) rfE_169) rfE_170) rfE_171) rfE_172) rfE_173) rfE_174) rfE_175) rfE_176) rfE_177) rfE_178) rfE_179) rfE_180) rfE_181) rfE_182) rfE_183) rfE_184) rfE_185) rfE_186) rfE_187) rfE_188) rfE_189) rfE_190) rfE_191) rfE_192) rfE_193) rfE_194) rfE_195) rfE_196) rfE_197) rfE_198) rfE_199) rfE_200) rfE_201) rfE_202) rfE_203) rfE_204) rfE_205) rfE_206) rfE_207) rfE_208) rfE_209) rfE_210) rfE_211) rfE_212) rfE_213) rfE_214) rfE_215) rfE_216) rfE_217) rfE_218) rfE_219) rfE_220) rfE_221) rfE_222) rfE_223) rfE_224) rfE_225) rfE_226) rfE_227) rfE_228) rfE_229) rfE_230) rfE_231) rfE_232) rfE_233) rfE_234) rfE_235) rfE_236) rfE_237) rfE_238) rfE_239) rfE_240) rfE_241) rfE_242) rfE_243) rfE_244) rfE_245) rfE_246) rfE_247) rfE_248) rfE_249) rfE_250) rfE_251) rfE_252) rfE_253) rfE_254) rfE_255) rfE_256) rfE_257) rfE_258) rfE_259) rfE_260) rfE_261) rfE_262) rfE_263) rfE_264) rfE_265) rfE_266) rfE_267) rfE_268
theorem rf_ch {μ : Nat} (h : rf μ = true) (pc : Nat) : chR μ pc = true := by
  obtain ⟨h1, h2⟩ := rf_lt h
  have q := rf_all (μ - 155) (by omega) pc
  rw [show 155 + (μ - 155) = μ by omega] at q
  exact q
theorem rf_hnd : (List.range 269).all (fun μ => !(rf μ) || (hnd μ).isEmpty) = true := by decide +kernel
theorem rf_h0 {μ : Nat} (h : rf μ = true) : hnd μ = [] := by
  have := List.all_eq_true.mp rf_hnd μ (List.mem_range.mpr (by have := rf_lt h; omega))
  rw [h, Bool.not_true, Bool.false_or] at this
  exact List.isEmpty_iff.mp this
/-- the book's places as they were -/
def Kp (I : Nat → Nat → Int32) (J : Nat → Nat → Int64) (D : Nat → Nat → UInt64) (I2 : Nat → Nat → Int32) (J2 : Nat → Nat → Int64) (D2 : Nat → Nat → UInt64) : Prop := ∀ p, p < 316 → I2 p = I p ∧ J2 p = J p ∧ D2 p = D p
def rQ (r : Rs) : Prop := ∀ v, r = .inl (some v) → gq v
def Fq (u : Ou) (I : Nat → Nat → Int32) (J : Nat → Nat → Int64) (D : Nat → Nat → UInt64) : Prop := ∃ r I2 J2 D2, u = (r, mm I2 J2 D2) ∧ rQ r ∧ Kp I J D I2 J2 D2
def RlF (μ : Nat) (g : Cf → Option Ou) (u : Ou) : Prop := ∀ pc ls st I J D, gm ls → gm st → g (μ, pc, ls, st, mm I J D) = some u → Fq u I J D
def RlC (f : Cf → Option Ou) : Prop := ∀ a as I J D u, rf a = true → gm as → f (a, 0, pad (mxl a) (ent as), [], mm I J D) = some u → (∀ z, u.1 ≠ .inr (.inr z)) → Fq u I J D
section FS
variable {μ pc len : Nat} {f g : Cf → Option Ou} {u : Ou} {c0 : Cf} {ls st : List Value} {I I2 : Nat → Nat → Int32} {J J2 : Nat → Nat → Int64} {D D2 : Nat → Nat → UInt64} {fm tm : List Bool} {a b c : Nat} {k : Int32}
theorem Kp.r : Kp I J D I J D := fun _ _ => ⟨rfl, rfl, rfl⟩
theorem kpI {p j : Nat} {x : Int32} (h : 316 ≤ p) : Kp I J D (ups I p j x) J D := fun q hq => ⟨by unfold ups; rw [nbeq (by omega)]; rfl, rfl, rfl⟩
theorem kpJ {p j : Nat} {x : Int64} (h : 316 ≤ p) : Kp I J D I (upsL J p j x) D := fun q hq => ⟨rfl, by unfold upsL; rw [nbeq (by omega)]; rfl, rfl⟩
theorem fK (hg : RlF μ g u) {pc' : Nat} {F : List Bool} {L ST : List Value} (h : g (μ, pc', mk F L, ST, mm I2 J2 D2) = some u) (hl : gm L) (hs : gm ST) (k : Kp I J D I2 J2 D2) : Fq u I J D := by
  obtain ⟨r, I3, J3, D3, q1, q2, q3⟩ := hg pc' _ _ I2 J2 D2 (gm_mk F L hl) hs h
  exact ⟨r, I3, J3, D3, q1, q2, fun p hp => ⟨(q3 p hp).1.trans (k p hp).1, (q3 p hp).2.1.trans (k p hp).2.1, (q3 p hp).2.2.trans (k p hp).2.2⟩⟩
theorem fC (hf : RlC f) (hg : RlF μ g u) (hns : ∀ z, u.1 ≠ .inr (.inr z)) (hb : rf μ = true) (ha : rf a = true) {as L ST st1 : List Value} {pc' : Nat} {F : List Bool} (h : acK f g (μ, pc, ls, st1, mm I J D) (.inr (.inl (a, as, (μ, pc', mk F L, ST, mm I J D), ls))) = some u) (h1 : gm as) (h2 : gm L) (h3 : gm ST) : Fq u I J D := by
  have hc : ∀ E, ctc μ pc E = none := fun E => by unfold ctc; rw [rf_h0 hb]; rfl
  have hi : ∀ M : Mm, cIn a M = M := fun M => by
    unfold cIn
    rw [show Nat.ble 318 a = false from by cases hb : Nat.ble 318 a with | false => rfl | true => (have := Nat.ble_eq.mp hb; have := rf_lt ha; omega)]
    rfl
  have ho : ∀ M M9 : Mm, cOut μ M M9 = M9 := fun M M9 => by
    unfold cOut
    rw [show Nat.ble 318 μ = false from by cases hb9 : Nat.ble 318 μ with | false => rfl | true => (have := Nat.ble_eq.mp hb9; have := rf_lt hb; omega)]
    rfl
  simp only [acK, hi, ho] at h
  generalize hx : f (a, 0, pad (mxl a) (ent as), [], mm I J D) = x at h
  cases x with
  | none => cases h
  | some o1 =>
    rcases o1 with ⟨v | E | s, M1⟩
    · obtain ⟨r, I2, J2, D2, q1, q2, q3⟩ := hf a as I J D _ ha h1 hx (fun z q => by cases q)
      cases q1
      have h : g (μ, pc', mk F L, v.toList ++ ST, mm I2 J2 D2) = some u := h
      refine fK hg h h2 (gm_app.mpr ⟨fun w hw => ?_, h3⟩) q3
      cases v with
      | none => cases hw
      | some v =>
        have : w = v := by simpa using hw
        subst this
        exact q2 _ rfl
    · obtain ⟨r, I2, J2, D2, q1, q2, q3⟩ := hf a as I J D _ ha h1 hx (fun z q => by cases q)
      cases q1
      dsimp only at h
      rw [hc] at h
      cases h
      exact ⟨_, _, _, _, rfl, (fun v q => by cases q), q3⟩
    · cases h
theorem cI_rf (h : rf μ = true) : cI μ a I = I := by
  unfold cI
  rw [show Nat.ble 318 μ = false from by cases hb9 : Nat.ble 318 μ with | false => rfl | true => (have := Nat.ble_eq.mp hb9; have := rf_lt h; omega)]
  rfl
theorem rf_iconst {q : Int} (hf : RlC f) (hg : RlF μ g u) (hb : rf μ = true) (hns : ∀ z, u.1 ≠ .inr (.inr z)) (hl9 : gm ls) (hs : gm st) (h : acK f g (μ, pc, ls, st, mm I J D) (stA μ pc ls st 337 S0 R0 I J D (.iconst q) len fm tm a b c k) = some u) : Fq u I J D := by
  exact fK hg h hl9 (gm_cons.mpr ⟨trivial, hs⟩) Kp.r
theorem rf_bipush {q : Int} (hf : RlC f) (hg : RlF μ g u) (hb : rf μ = true) (hns : ∀ z, u.1 ≠ .inr (.inr z)) (hl9 : gm ls) (hs : gm st) (h : acK f g (μ, pc, ls, st, mm I J D) (stA μ pc ls st 337 S0 R0 I J D (.bipush q) len fm tm a b c k) = some u) : Fq u I J D := by
  exact fK hg h hl9 (gm_cons.mpr ⟨trivial, hs⟩) Kp.r
theorem rf_sipush {q : Int} (hf : RlC f) (hg : RlF μ g u) (hb : rf μ = true) (hns : ∀ z, u.1 ≠ .inr (.inr z)) (hl9 : gm ls) (hs : gm st) (h : acK f g (μ, pc, ls, st, mm I J D) (stA μ pc ls st 337 S0 R0 I J D (.sipush q) len fm tm a b c k) = some u) : Fq u I J D := by
  exact fK hg h hl9 (gm_cons.mpr ⟨trivial, hs⟩) Kp.r
theorem rf_lconst {q : Fin 2} (hf : RlC f) (hg : RlF μ g u) (hb : rf μ = true) (hns : ∀ z, u.1 ≠ .inr (.inr z)) (hl9 : gm ls) (hs : gm st) (h : acK f g (μ, pc, ls, st, mm I J D) (stA μ pc ls st 337 S0 R0 I J D (.lconst q) len fm tm a b c k) = some u) : Fq u I J D := by
  exact fK hg h hl9 (gm_cons.mpr ⟨trivial, hs⟩) Kp.r
theorem rf_ldc2_w {q : Nat} (hf : RlC f) (hg : RlF μ g u) (hb : rf μ = true) (hns : ∀ z, u.1 ≠ .inr (.inr z)) (hl9 : gm ls) (hs : gm st) (h : acK f g (μ, pc, ls, st, mm I J D) (stA μ pc ls st 337 S0 R0 I J D (.ldc2_w q) len fm tm a b c k) = some u) : Fq u I J D := by
  exact fK hg h hl9 (gm_cons.mpr ⟨trivial, hs⟩) Kp.r
theorem rf_fconst {q : Fin 3} (hf : RlC f) (hg : RlF μ g u) (hb : rf μ = true) (hns : ∀ z, u.1 ≠ .inr (.inr z)) (hl9 : gm ls) (hs : gm st) (h : acK f g (μ, pc, ls, st, mm I J D) (stA μ pc ls st 337 S0 R0 I J D (.fconst q) len fm tm a b c k) = some u) : Fq u I J D := by
  obtain ⟨ha, h⟩ := ak_ifh h
  exact fK hg h hl9 (gm_cons.mpr ⟨trivial, hs⟩) Kp.r
theorem rf_ldc {q : Nat} (hf : RlC f) (hg : RlF μ g u) (hb : rf μ = true) (hns : ∀ z, u.1 ≠ .inr (.inr z)) (hl9 : gm ls) (hs : gm st) (hc : Nat.beq a 0 = true) (h : acK f g (μ, pc, ls, st, mm I J D) (stA μ pc ls st 337 S0 R0 I J D (.ldc q) len fm tm a b c k) = some u) : Fq u I J D := by
  have h : g (μ, pc + len, mk fm ls, (bif Nat.beq a 0 then .int k else .ref b) :: st, mm I J D) = some u := h
  rw [hc] at h
  exact fK hg h hl9 (gm_cons.mpr ⟨trivial, hs⟩) Kp.r
theorem rf_iload_n {q : Fin 4} (hf : RlC f) (hg : RlF μ g u) (hb : rf μ = true) (hns : ∀ z, u.1 ≠ .inr (.inr z)) (hl9 : gm ls) (hs : gm st) (h : acK f g (μ, pc, ls, st, mm I J D) (stA μ pc ls st 337 S0 R0 I J D (.iload_n q) len fm tm a b c k) = some u) : Fq u I J D := by
  obtain ⟨v, hv, h⟩ := ak_lk h
  obtain ⟨x, rfl, h⟩ := ak_fI h
  exact fK hg h hl9 (gm_cons.mpr ⟨trivial, hs⟩) Kp.r
theorem rf_iload {q : Nat} (hf : RlC f) (hg : RlF μ g u) (hb : rf μ = true) (hns : ∀ z, u.1 ≠ .inr (.inr z)) (hl9 : gm ls) (hs : gm st) (h : acK f g (μ, pc, ls, st, mm I J D) (stA μ pc ls st 337 S0 R0 I J D (.iload q) len fm tm a b c k) = some u) : Fq u I J D := by
  obtain ⟨v, hv, h⟩ := ak_lk h
  obtain ⟨x, rfl, h⟩ := ak_fI h
  exact fK hg h hl9 (gm_cons.mpr ⟨trivial, hs⟩) Kp.r
theorem rf_lload_n {q : Fin 4} (hf : RlC f) (hg : RlF μ g u) (hb : rf μ = true) (hns : ∀ z, u.1 ≠ .inr (.inr z)) (hl9 : gm ls) (hs : gm st) (h : acK f g (μ, pc, ls, st, mm I J D) (stA μ pc ls st 337 S0 R0 I J D (.lload_n q) len fm tm a b c k) = some u) : Fq u I J D := by
  obtain ⟨v, hv, h⟩ := ak_lk h
  obtain ⟨x, rfl, h⟩ := ak_fL h
  exact fK hg h hl9 (gm_cons.mpr ⟨trivial, hs⟩) Kp.r
theorem rf_lload {q : Nat} (hf : RlC f) (hg : RlF μ g u) (hb : rf μ = true) (hns : ∀ z, u.1 ≠ .inr (.inr z)) (hl9 : gm ls) (hs : gm st) (h : acK f g (μ, pc, ls, st, mm I J D) (stA μ pc ls st 337 S0 R0 I J D (.lload q) len fm tm a b c k) = some u) : Fq u I J D := by
  obtain ⟨v, hv, h⟩ := ak_lk h
  obtain ⟨x, rfl, h⟩ := ak_fL h
  exact fK hg h hl9 (gm_cons.mpr ⟨trivial, hs⟩) Kp.r
theorem rf_aload_n {q : Fin 4} (hf : RlC f) (hg : RlF μ g u) (hb : rf μ = true) (hns : ∀ z, u.1 ≠ .inr (.inr z)) (hl9 : gm ls) (hs : gm st) (h : acK f g (μ, pc, ls, st, mm I J D) (stA μ pc ls st 337 S0 R0 I J D (.aload_n q) len fm tm a b c k) = some u) : Fq u I J D := by
  obtain ⟨v, hv, h⟩ := ak_lk h
  obtain ⟨x, rfl, h⟩ := ak_fR h
  exact fK hg h hl9 (gm_cons.mpr ⟨(gm_at hl9 hv : gq (.ref x)), hs⟩) Kp.r
theorem rf_aload {q : Nat} (hf : RlC f) (hg : RlF μ g u) (hb : rf μ = true) (hns : ∀ z, u.1 ≠ .inr (.inr z)) (hl9 : gm ls) (hs : gm st) (h : acK f g (μ, pc, ls, st, mm I J D) (stA μ pc ls st 337 S0 R0 I J D (.aload q) len fm tm a b c k) = some u) : Fq u I J D := by
  obtain ⟨v, hv, h⟩ := ak_lk h
  obtain ⟨x, rfl, h⟩ := ak_fR h
  exact fK hg h hl9 (gm_cons.mpr ⟨(gm_at hl9 hv : gq (.ref x)), hs⟩) Kp.r
theorem rf_istore_n {q : Fin 4} (hf : RlC f) (hg : RlF μ g u) (hb : rf μ = true) (hns : ∀ z, u.1 ≠ .inr (.inr z)) (hl9 : gm ls) (hs : gm st) (h : acK f g (μ, pc, ls, st, mm I J D) (stA μ pc ls st 337 S0 R0 I J D (.istore_n q) len fm tm a b c k) = some u) : Fq u I J D := by
  obtain ⟨x, r, rfl, h⟩ := ak_i1 h
  obtain ⟨hq, h⟩ := ak_gd h
  exact fK hg h (gm_sto hl9 _ (gm_cons.mp hs).1) (gm_cons.mp hs).2 Kp.r
theorem rf_istore {q : Nat} (hf : RlC f) (hg : RlF μ g u) (hb : rf μ = true) (hns : ∀ z, u.1 ≠ .inr (.inr z)) (hl9 : gm ls) (hs : gm st) (h : acK f g (μ, pc, ls, st, mm I J D) (stA μ pc ls st 337 S0 R0 I J D (.istore q) len fm tm a b c k) = some u) : Fq u I J D := by
  obtain ⟨x, r, rfl, h⟩ := ak_i1 h
  obtain ⟨hq, h⟩ := ak_gd h
  exact fK hg h (gm_sto hl9 _ (gm_cons.mp hs).1) (gm_cons.mp hs).2 Kp.r
theorem rf_lstore_n {q : Fin 4} (hf : RlC f) (hg : RlF μ g u) (hb : rf μ = true) (hns : ∀ z, u.1 ≠ .inr (.inr z)) (hl9 : gm ls) (hs : gm st) (h : acK f g (μ, pc, ls, st, mm I J D) (stA μ pc ls st 337 S0 R0 I J D (.lstore_n q) len fm tm a b c k) = some u) : Fq u I J D := by
  obtain ⟨x, r, rfl, h⟩ := ak_l1 h
  obtain ⟨hq, h⟩ := ak_gd h
  exact fK hg h (gm_sto2 hl9 _ (gm_cons.mp hs).1) (gm_cons.mp hs).2 Kp.r
theorem rf_lstore {q : Nat} (hf : RlC f) (hg : RlF μ g u) (hb : rf μ = true) (hns : ∀ z, u.1 ≠ .inr (.inr z)) (hl9 : gm ls) (hs : gm st) (h : acK f g (μ, pc, ls, st, mm I J D) (stA μ pc ls st 337 S0 R0 I J D (.lstore q) len fm tm a b c k) = some u) : Fq u I J D := by
  obtain ⟨x, r, rfl, h⟩ := ak_l1 h
  obtain ⟨hq, h⟩ := ak_gd h
  exact fK hg h (gm_sto2 hl9 _ (gm_cons.mp hs).1) (gm_cons.mp hs).2 Kp.r
theorem rf_iinc {q : Nat} {z : Int} (hf : RlC f) (hg : RlF μ g u) (hb : rf μ = true) (hns : ∀ z, u.1 ≠ .inr (.inr z)) (hl9 : gm ls) (hs : gm st) (h : acK f g (μ, pc, ls, st, mm I J D) (stA μ pc ls st 337 S0 R0 I J D (.iinc q z) len fm tm a b c k) = some u) : Fq u I J D := by
  obtain ⟨v, hv, h⟩ := ak_lk h
  obtain ⟨x, rfl, h⟩ := ak_fI h
  exact fK hg h (gm_sto hl9 _ (v := .int (x + k)) trivial) hs Kp.r
theorem rf_iadd  (hf : RlC f) (hg : RlF μ g u) (hb : rf μ = true) (hns : ∀ z, u.1 ≠ .inr (.inr z)) (hl9 : gm ls) (hs : gm st) (h : acK f g (μ, pc, ls, st, mm I J D) (stA μ pc ls st 337 S0 R0 I J D (.iadd) len fm tm a b c k) = some u) : Fq u I J D := by
  obtain ⟨x, y, r, rfl, h⟩ := ak_i2 h
  exact fK hg h hl9 (gm_cons.mpr ⟨trivial, (gm_cons.mp (gm_cons.mp hs).2).2⟩) Kp.r
theorem rf_isub  (hf : RlC f) (hg : RlF μ g u) (hb : rf μ = true) (hns : ∀ z, u.1 ≠ .inr (.inr z)) (hl9 : gm ls) (hs : gm st) (h : acK f g (μ, pc, ls, st, mm I J D) (stA μ pc ls st 337 S0 R0 I J D (.isub) len fm tm a b c k) = some u) : Fq u I J D := by
  obtain ⟨x, y, r, rfl, h⟩ := ak_i2 h
  exact fK hg h hl9 (gm_cons.mpr ⟨trivial, (gm_cons.mp (gm_cons.mp hs).2).2⟩) Kp.r
theorem rf_imul  (hf : RlC f) (hg : RlF μ g u) (hb : rf μ = true) (hns : ∀ z, u.1 ≠ .inr (.inr z)) (hl9 : gm ls) (hs : gm st) (h : acK f g (μ, pc, ls, st, mm I J D) (stA μ pc ls st 337 S0 R0 I J D (.imul) len fm tm a b c k) = some u) : Fq u I J D := by
  obtain ⟨x, y, r, rfl, h⟩ := ak_i2 h
  exact fK hg h hl9 (gm_cons.mpr ⟨trivial, (gm_cons.mp (gm_cons.mp hs).2).2⟩) Kp.r
theorem rf_iand  (hf : RlC f) (hg : RlF μ g u) (hb : rf μ = true) (hns : ∀ z, u.1 ≠ .inr (.inr z)) (hl9 : gm ls) (hs : gm st) (h : acK f g (μ, pc, ls, st, mm I J D) (stA μ pc ls st 337 S0 R0 I J D (.iand) len fm tm a b c k) = some u) : Fq u I J D := by
  obtain ⟨x, y, r, rfl, h⟩ := ak_i2 h
  exact fK hg h hl9 (gm_cons.mpr ⟨trivial, (gm_cons.mp (gm_cons.mp hs).2).2⟩) Kp.r
theorem rf_ior  (hf : RlC f) (hg : RlF μ g u) (hb : rf μ = true) (hns : ∀ z, u.1 ≠ .inr (.inr z)) (hl9 : gm ls) (hs : gm st) (h : acK f g (μ, pc, ls, st, mm I J D) (stA μ pc ls st 337 S0 R0 I J D (.ior) len fm tm a b c k) = some u) : Fq u I J D := by
  obtain ⟨x, y, r, rfl, h⟩ := ak_i2 h
  exact fK hg h hl9 (gm_cons.mpr ⟨trivial, (gm_cons.mp (gm_cons.mp hs).2).2⟩) Kp.r
theorem rf_ishl  (hf : RlC f) (hg : RlF μ g u) (hb : rf μ = true) (hns : ∀ z, u.1 ≠ .inr (.inr z)) (hl9 : gm ls) (hs : gm st) (h : acK f g (μ, pc, ls, st, mm I J D) (stA μ pc ls st 337 S0 R0 I J D (.ishl) len fm tm a b c k) = some u) : Fq u I J D := by
  obtain ⟨x, y, r, rfl, h⟩ := ak_i2 h
  exact fK hg h hl9 (gm_cons.mpr ⟨trivial, (gm_cons.mp (gm_cons.mp hs).2).2⟩) Kp.r
theorem rf_ishr  (hf : RlC f) (hg : RlF μ g u) (hb : rf μ = true) (hns : ∀ z, u.1 ≠ .inr (.inr z)) (hl9 : gm ls) (hs : gm st) (h : acK f g (μ, pc, ls, st, mm I J D) (stA μ pc ls st 337 S0 R0 I J D (.ishr) len fm tm a b c k) = some u) : Fq u I J D := by
  obtain ⟨x, y, r, rfl, h⟩ := ak_i2 h
  exact fK hg h hl9 (gm_cons.mpr ⟨trivial, (gm_cons.mp (gm_cons.mp hs).2).2⟩) Kp.r
theorem rf_ladd  (hf : RlC f) (hg : RlF μ g u) (hb : rf μ = true) (hns : ∀ z, u.1 ≠ .inr (.inr z)) (hl9 : gm ls) (hs : gm st) (h : acK f g (μ, pc, ls, st, mm I J D) (stA μ pc ls st 337 S0 R0 I J D (.ladd) len fm tm a b c k) = some u) : Fq u I J D := by
  obtain ⟨x, y, r, rfl, h⟩ := ak_l2 h
  exact fK hg h hl9 (gm_cons.mpr ⟨trivial, (gm_cons.mp (gm_cons.mp hs).2).2⟩) Kp.r
theorem rf_lsub  (hf : RlC f) (hg : RlF μ g u) (hb : rf μ = true) (hns : ∀ z, u.1 ≠ .inr (.inr z)) (hl9 : gm ls) (hs : gm st) (h : acK f g (μ, pc, ls, st, mm I J D) (stA μ pc ls st 337 S0 R0 I J D (.lsub) len fm tm a b c k) = some u) : Fq u I J D := by
  obtain ⟨x, y, r, rfl, h⟩ := ak_l2 h
  exact fK hg h hl9 (gm_cons.mpr ⟨trivial, (gm_cons.mp (gm_cons.mp hs).2).2⟩) Kp.r
theorem rf_lmul  (hf : RlC f) (hg : RlF μ g u) (hb : rf μ = true) (hns : ∀ z, u.1 ≠ .inr (.inr z)) (hl9 : gm ls) (hs : gm st) (h : acK f g (μ, pc, ls, st, mm I J D) (stA μ pc ls st 337 S0 R0 I J D (.lmul) len fm tm a b c k) = some u) : Fq u I J D := by
  obtain ⟨x, y, r, rfl, h⟩ := ak_l2 h
  exact fK hg h hl9 (gm_cons.mpr ⟨trivial, (gm_cons.mp (gm_cons.mp hs).2).2⟩) Kp.r
theorem rf_land  (hf : RlC f) (hg : RlF μ g u) (hb : rf μ = true) (hns : ∀ z, u.1 ≠ .inr (.inr z)) (hl9 : gm ls) (hs : gm st) (h : acK f g (μ, pc, ls, st, mm I J D) (stA μ pc ls st 337 S0 R0 I J D (.land) len fm tm a b c k) = some u) : Fq u I J D := by
  obtain ⟨x, y, r, rfl, h⟩ := ak_l2 h
  exact fK hg h hl9 (gm_cons.mpr ⟨trivial, (gm_cons.mp (gm_cons.mp hs).2).2⟩) Kp.r
theorem rf_lor  (hf : RlC f) (hg : RlF μ g u) (hb : rf μ = true) (hns : ∀ z, u.1 ≠ .inr (.inr z)) (hl9 : gm ls) (hs : gm st) (h : acK f g (μ, pc, ls, st, mm I J D) (stA μ pc ls st 337 S0 R0 I J D (.lor) len fm tm a b c k) = some u) : Fq u I J D := by
  obtain ⟨x, y, r, rfl, h⟩ := ak_l2 h
  exact fK hg h hl9 (gm_cons.mpr ⟨trivial, (gm_cons.mp (gm_cons.mp hs).2).2⟩) Kp.r
theorem rf_lcmp  (hf : RlC f) (hg : RlF μ g u) (hb : rf μ = true) (hns : ∀ z, u.1 ≠ .inr (.inr z)) (hl9 : gm ls) (hs : gm st) (h : acK f g (μ, pc, ls, st, mm I J D) (stA μ pc ls st 337 S0 R0 I J D (.lcmp) len fm tm a b c k) = some u) : Fq u I J D := by
  obtain ⟨x, y, r, rfl, h⟩ := ak_l2 h
  exact fK hg h hl9 (gm_cons.mpr ⟨trivial, (gm_cons.mp (gm_cons.mp hs).2).2⟩) Kp.r
theorem rf_idiv  (hf : RlC f) (hg : RlF μ g u) (hb : rf μ = true) (hns : ∀ z, u.1 ≠ .inr (.inr z)) (hl9 : gm ls) (hs : gm st) (h : acK f g (μ, pc, ls, st, mm I J D) (stA μ pc ls st 337 S0 R0 I J D (.idiv) len fm tm a b c k) = some u) : Fq u I J D := by
  obtain ⟨x, y, r, rfl, h⟩ := ak_i2 h
  obtain ⟨hy, h⟩ := ak_gd h
  exact fK hg h hl9 (gm_cons.mpr ⟨trivial, (gm_cons.mp (gm_cons.mp hs).2).2⟩) Kp.r
theorem rf_irem  (hf : RlC f) (hg : RlF μ g u) (hb : rf μ = true) (hns : ∀ z, u.1 ≠ .inr (.inr z)) (hl9 : gm ls) (hs : gm st) (h : acK f g (μ, pc, ls, st, mm I J D) (stA μ pc ls st 337 S0 R0 I J D (.irem) len fm tm a b c k) = some u) : Fq u I J D := by
  obtain ⟨x, y, r, rfl, h⟩ := ak_i2 h
  obtain ⟨hy, h⟩ := ak_gd h
  exact fK hg h hl9 (gm_cons.mpr ⟨trivial, (gm_cons.mp (gm_cons.mp hs).2).2⟩) Kp.r
theorem rf_ineg  (hf : RlC f) (hg : RlF μ g u) (hb : rf μ = true) (hns : ∀ z, u.1 ≠ .inr (.inr z)) (hl9 : gm ls) (hs : gm st) (h : acK f g (μ, pc, ls, st, mm I J D) (stA μ pc ls st 337 S0 R0 I J D (.ineg) len fm tm a b c k) = some u) : Fq u I J D := by
  obtain ⟨x, r, rfl, h⟩ := ak_i1 h
  exact fK hg h hl9 (gm_cons.mpr ⟨trivial, (gm_cons.mp hs).2⟩) Kp.r
theorem rf_i2l  (hf : RlC f) (hg : RlF μ g u) (hb : rf μ = true) (hns : ∀ z, u.1 ≠ .inr (.inr z)) (hl9 : gm ls) (hs : gm st) (h : acK f g (μ, pc, ls, st, mm I J D) (stA μ pc ls st 337 S0 R0 I J D (.i2l) len fm tm a b c k) = some u) : Fq u I J D := by
  obtain ⟨x, r, rfl, h⟩ := ak_i1 h
  exact fK hg h hl9 (gm_cons.mpr ⟨trivial, (gm_cons.mp hs).2⟩) Kp.r
theorem rf_i2d  (hf : RlC f) (hg : RlF μ g u) (hb : rf μ = true) (hns : ∀ z, u.1 ≠ .inr (.inr z)) (hl9 : gm ls) (hs : gm st) (h : acK f g (μ, pc, ls, st, mm I J D) (stA μ pc ls st 337 S0 R0 I J D (.i2d) len fm tm a b c k) = some u) : Fq u I J D := by
  obtain ⟨x, r, rfl, h⟩ := ak_i1 h
  exact fK hg h hl9 (gm_cons.mpr ⟨trivial, (gm_cons.mp hs).2⟩) Kp.r
theorem rf_i2f  (hf : RlC f) (hg : RlF μ g u) (hb : rf μ = true) (hns : ∀ z, u.1 ≠ .inr (.inr z)) (hl9 : gm ls) (hs : gm st) (h : acK f g (μ, pc, ls, st, mm I J D) (stA μ pc ls st 337 S0 R0 I J D (.i2f) len fm tm a b c k) = some u) : Fq u I J D := by
  obtain ⟨x, r, rfl, h⟩ := ak_i1 h
  exact fK hg h hl9 (gm_cons.mpr ⟨trivial, (gm_cons.mp hs).2⟩) Kp.r
theorem rf_lneg  (hf : RlC f) (hg : RlF μ g u) (hb : rf μ = true) (hns : ∀ z, u.1 ≠ .inr (.inr z)) (hl9 : gm ls) (hs : gm st) (h : acK f g (μ, pc, ls, st, mm I J D) (stA μ pc ls st 337 S0 R0 I J D (.lneg) len fm tm a b c k) = some u) : Fq u I J D := by
  obtain ⟨x, r, rfl, h⟩ := ak_l1 h
  exact fK hg h hl9 (gm_cons.mpr ⟨trivial, (gm_cons.mp hs).2⟩) Kp.r
theorem rf_l2i  (hf : RlC f) (hg : RlF μ g u) (hb : rf μ = true) (hns : ∀ z, u.1 ≠ .inr (.inr z)) (hl9 : gm ls) (hs : gm st) (h : acK f g (μ, pc, ls, st, mm I J D) (stA μ pc ls st 337 S0 R0 I J D (.l2i) len fm tm a b c k) = some u) : Fq u I J D := by
  obtain ⟨x, r, rfl, h⟩ := ak_l1 h
  exact fK hg h hl9 (gm_cons.mpr ⟨trivial, (gm_cons.mp hs).2⟩) Kp.r
theorem rf_lshl  (hf : RlC f) (hg : RlF μ g u) (hb : rf μ = true) (hns : ∀ z, u.1 ≠ .inr (.inr z)) (hl9 : gm ls) (hs : gm st) (h : acK f g (μ, pc, ls, st, mm I J D) (stA μ pc ls st 337 S0 R0 I J D (.lshl) len fm tm a b c k) = some u) : Fq u I J D := by
  obtain ⟨v, w, r, rfl, h⟩ := ak_f2 h
  obtain ⟨y, rfl, h⟩ := ak_fI h
  obtain ⟨x, rfl, h⟩ := ak_fL h
  exact fK hg h hl9 (gm_cons.mpr ⟨trivial, (gm_cons.mp (gm_cons.mp hs).2).2⟩) Kp.r
theorem rf_lshr  (hf : RlC f) (hg : RlF μ g u) (hb : rf μ = true) (hns : ∀ z, u.1 ≠ .inr (.inr z)) (hl9 : gm ls) (hs : gm st) (h : acK f g (μ, pc, ls, st, mm I J D) (stA μ pc ls st 337 S0 R0 I J D (.lshr) len fm tm a b c k) = some u) : Fq u I J D := by
  obtain ⟨v, w, r, rfl, h⟩ := ak_f2 h
  obtain ⟨y, rfl, h⟩ := ak_fI h
  obtain ⟨x, rfl, h⟩ := ak_fL h
  exact fK hg h hl9 (gm_cons.mpr ⟨trivial, (gm_cons.mp (gm_cons.mp hs).2).2⟩) Kp.r
theorem rf_ddiv  (hf : RlC f) (hg : RlF μ g u) (hb : rf μ = true) (hns : ∀ z, u.1 ≠ .inr (.inr z)) (hl9 : gm ls) (hs : gm st) (h : acK f g (μ, pc, ls, st, mm I J D) (stA μ pc ls st 337 S0 R0 I J D (.ddiv) len fm tm a b c k) = some u) : Fq u I J D := by
  obtain ⟨v, w, r, rfl, h⟩ := ak_f2 h
  obtain ⟨y, rfl, h⟩ := ak_fD h
  obtain ⟨x, rfl, h⟩ := ak_fD h
  obtain ⟨hy, h⟩ := ak_gd h
  exact fK hg h hl9 (gm_cons.mpr ⟨trivial, (gm_cons.mp (gm_cons.mp hs).2).2⟩) Kp.r
theorem rf_fdiv  (hf : RlC f) (hg : RlF μ g u) (hb : rf μ = true) (hns : ∀ z, u.1 ≠ .inr (.inr z)) (hl9 : gm ls) (hs : gm st) (h : acK f g (μ, pc, ls, st, mm I J D) (stA μ pc ls st 337 S0 R0 I J D (.fdiv) len fm tm a b c k) = some u) : Fq u I J D := by
  obtain ⟨v, w, r, rfl, h⟩ := ak_f2 h
  obtain ⟨y, rfl, h⟩ := ak_fF h
  obtain ⟨x, rfl, h⟩ := ak_fF h
  obtain ⟨hy, h⟩ := ak_gd h
  exact fK hg h hl9 (gm_cons.mpr ⟨trivial, (gm_cons.mp (gm_cons.mp hs).2).2⟩) Kp.r
theorem rf_dup  (hf : RlC f) (hg : RlF μ g u) (hb : rf μ = true) (hns : ∀ z, u.1 ≠ .inr (.inr z)) (hl9 : gm ls) (hs : gm st) (h : acK f g (μ, pc, ls, st, mm I J D) (stA μ pc ls st 337 S0 R0 I J D (.dup) len fm tm a b c k) = some u) : Fq u I J D := by
  obtain ⟨v, r, rfl, h⟩ := ak_f1 h
  obtain ⟨hv, h⟩ := ak_ifh h
  exact fK hg h hl9 (gm_cons.mpr ⟨(gm_cons.mp hs).1, hs⟩) Kp.r
theorem rf_dup2  (hf : RlC f) (hg : RlF μ g u) (hb : rf μ = true) (hns : ∀ z, u.1 ≠ .inr (.inr z)) (hl9 : gm ls) (hs : gm st) (h : acK f g (μ, pc, ls, st, mm I J D) (stA μ pc ls st 337 S0 R0 I J D (.dup2) len fm tm a b c k) = some u) : Fq u I J D := by
  obtain ⟨v, w, r, rfl, h⟩ := ak_f2 h
  obtain ⟨hv, h⟩ := ak_ifh h
  exact fK hg h hl9 (gm_cons.mpr ⟨(gm_cons.mp hs).1, gm_cons.mpr ⟨(gm_cons.mp (gm_cons.mp hs).2).1, hs⟩⟩) Kp.r
theorem rf_ifCond {q : ClassFile.Cond} {z : Int} (hf : RlC f) (hg : RlF μ g u) (hb : rf μ = true) (hns : ∀ z, u.1 ≠ .inr (.inr z)) (hl9 : gm ls) (hs : gm st) (h : acK f g (μ, pc, ls, st, mm I J D) (stA μ pc ls st 337 S0 R0 I J D (.ifCond q z) len fm tm a b c k) = some u) : Fq u I J D := by
  obtain ⟨x, r, rfl, h⟩ := ak_i1 h
  rcases ak_br h with ⟨hx, h⟩ | ⟨hx, h⟩
  · exact fK hg h hl9 (gm_cons.mp hs).2 Kp.r
  · exact fK hg h hl9 (gm_cons.mp hs).2 Kp.r
theorem rf_if_icmp {q : ClassFile.Cond} {z : Int} (hf : RlC f) (hg : RlF μ g u) (hb : rf μ = true) (hns : ∀ z, u.1 ≠ .inr (.inr z)) (hl9 : gm ls) (hs : gm st) (h : acK f g (μ, pc, ls, st, mm I J D) (stA μ pc ls st 337 S0 R0 I J D (.if_icmp q z) len fm tm a b c k) = some u) : Fq u I J D := by
  obtain ⟨x, y, r, rfl, h⟩ := ak_i2 h
  rcases ak_br h with ⟨hx, h⟩ | ⟨hx, h⟩
  · exact fK hg h hl9 (gm_cons.mp (gm_cons.mp hs).2).2 Kp.r
  · exact fK hg h hl9 (gm_cons.mp (gm_cons.mp hs).2).2 Kp.r
theorem rf_goto {z : Int} (hf : RlC f) (hg : RlF μ g u) (hb : rf μ = true) (hns : ∀ z, u.1 ≠ .inr (.inr z)) (hl9 : gm ls) (hs : gm st) (h : acK f g (μ, pc, ls, st, mm I J D) (stA μ pc ls st 337 S0 R0 I J D (.goto z) len fm tm a b c k) = some u) : Fq u I J D := by
  exact fK hg h hl9 hs Kp.r
theorem rf_tableswitch {d lo hi : Int} {offs : Array Int} (hf : RlC f) (hg : RlF μ g u) (hb : rf μ = true) (hns : ∀ z, u.1 ≠ .inr (.inr z)) (hl9 : gm ls) (hs : gm st) (h : acK f g (μ, pc, ls, st, mm I J D) (stA μ pc ls st 337 S0 R0 I J D (.tableswitch d lo hi offs) len fm tm a b c k) = some u) : Fq u I J D := by
  obtain ⟨x, r, rfl, h⟩ := ak_i1 h
  obtain ⟨hy, h⟩ := ak_gd h
  exact fK hg h hl9 (gm_cons.mp hs).2 Kp.r
theorem rf_iaload  (hf : RlC f) (hg : RlF μ g u) (hb : rf μ = true) (hns : ∀ z, u.1 ≠ .inr (.inr z)) (hl9 : gm ls) (hs : gm st) (h : acK f g (μ, pc, ls, st, mm I J D) (stA μ pc ls st 337 S0 R0 I J D (.iaload) len fm tm a b c k) = some u) : Fq u I J D := by
  obtain ⟨v, w, r, rfl, h⟩ := ak_f2 h
  obtain ⟨j, rfl, h⟩ := ak_fI h
  obtain ⟨p, rfl, h⟩ := ak_fR h
  rcases ak_if h with ⟨hk, h⟩ | ⟨hk, h⟩
  · obtain ⟨hq, h⟩ := ak_gd h
    exact fK hg h hl9 (gm_cons.mpr ⟨trivial, (gm_cons.mp (gm_cons.mp hs).2).2⟩) Kp.r
  rcases ak_if h with ⟨hk, h⟩ | ⟨hk, h⟩
  · obtain ⟨hq, h⟩ := ak_gd h
    exact fK hg h hl9 (gm_cons.mpr ⟨trivial, (gm_cons.mp (gm_cons.mp hs).2).2⟩) Kp.r
  obtain ⟨hk, h⟩ := ak_ifh h
  obtain ⟨hq, h⟩ := ak_gd h
  exact fK hg h hl9 (gm_cons.mpr ⟨trivial, (gm_cons.mp (gm_cons.mp hs).2).2⟩) Kp.r
theorem rf_baload  (hf : RlC f) (hg : RlF μ g u) (hb : rf μ = true) (hns : ∀ z, u.1 ≠ .inr (.inr z)) (hl9 : gm ls) (hs : gm st) (h : acK f g (μ, pc, ls, st, mm I J D) (stA μ pc ls st 337 S0 R0 I J D (.baload) len fm tm a b c k) = some u) : Fq u I J D := by
  obtain ⟨v, w, r, rfl, h⟩ := ak_f2 h
  obtain ⟨j, rfl, h⟩ := ak_fI h
  obtain ⟨p, rfl, h⟩ := ak_fR h
  rcases ak_if h with ⟨hk, h⟩ | ⟨hk, h⟩
  · obtain ⟨hq, h⟩ := ak_gd h
    exact fK hg h hl9 (gm_cons.mpr ⟨trivial, (gm_cons.mp (gm_cons.mp hs).2).2⟩) Kp.r
  rcases ak_if h with ⟨hk, h⟩ | ⟨hk, h⟩
  · obtain ⟨hq, h⟩ := ak_gd h
    exact fK hg h hl9 (gm_cons.mpr ⟨trivial, (gm_cons.mp (gm_cons.mp hs).2).2⟩) Kp.r
  obtain ⟨hk, h⟩ := ak_ifh h
  obtain ⟨hq, h⟩ := ak_gd h
  exact fK hg h hl9 (gm_cons.mpr ⟨trivial, (gm_cons.mp (gm_cons.mp hs).2).2⟩) Kp.r
theorem rf_laload  (hf : RlC f) (hg : RlF μ g u) (hb : rf μ = true) (hns : ∀ z, u.1 ≠ .inr (.inr z)) (hl9 : gm ls) (hs : gm st) (h : acK f g (μ, pc, ls, st, mm I J D) (stA μ pc ls st 337 S0 R0 I J D (.laload) len fm tm a b c k) = some u) : Fq u I J D := by
  obtain ⟨v, w, r, rfl, h⟩ := ak_f2 h
  obtain ⟨j, rfl, h⟩ := ak_fI h
  obtain ⟨p, rfl, h⟩ := ak_fR h
  obtain ⟨hk, h⟩ := ak_ifh h
  obtain ⟨hq, h⟩ := ak_gd h
  exact fK hg h hl9 (gm_cons.mpr ⟨trivial, (gm_cons.mp (gm_cons.mp hs).2).2⟩) Kp.r
theorem rf_iastore  (hf : RlC f) (hg : RlF μ g u) (hb : rf μ = true) (hns : ∀ z, u.1 ≠ .inr (.inr z)) (hl9 : gm ls) (hs : gm st) (h : acK f g (μ, pc, ls, st, mm I J D) (stA μ pc ls st 337 S0 R0 I J D (.iastore) len fm tm a b c k) = some u) : Fq u I J D := by
  obtain ⟨v0, v, w, r, rfl, h⟩ := ak_f3 h
  obtain ⟨x, rfl, h⟩ := ak_fI h
  obtain ⟨j, rfl, h⟩ := ak_fI h
  obtain ⟨p, rfl, h⟩ := ak_fR h
  have hp : 316 ≤ p := (gm_cons.mp (gm_cons.mp (gm_cons.mp hs).2).2).1
  obtain ⟨hk, h⟩ := ak_ifh h
  obtain ⟨hq, h⟩ := ak_gd h
  exact fK hg h hl9 (gm_cons.mp (gm_cons.mp (gm_cons.mp hs).2).2).2 (kpI hp)
theorem rf_lastore  (hf : RlC f) (hg : RlF μ g u) (hb : rf μ = true) (hns : ∀ z, u.1 ≠ .inr (.inr z)) (hl9 : gm ls) (hs : gm st) (h : acK f g (μ, pc, ls, st, mm I J D) (stA μ pc ls st 337 S0 R0 I J D (.lastore) len fm tm a b c k) = some u) : Fq u I J D := by
  obtain ⟨v0, v, w, r, rfl, h⟩ := ak_f3 h
  obtain ⟨x, rfl, h⟩ := ak_fL h
  obtain ⟨j, rfl, h⟩ := ak_fI h
  obtain ⟨p, rfl, h⟩ := ak_fR h
  have hp : 316 ≤ p := (gm_cons.mp (gm_cons.mp (gm_cons.mp hs).2).2).1
  obtain ⟨hk, h⟩ := ak_ifh h
  obtain ⟨hq, h⟩ := ak_gd h
  exact fK hg h hl9 (gm_cons.mp (gm_cons.mp (gm_cons.mp hs).2).2).2 (kpJ hp)
theorem rf_bastore  (hf : RlC f) (hg : RlF μ g u) (hb : rf μ = true) (hns : ∀ z, u.1 ≠ .inr (.inr z)) (hl9 : gm ls) (hs : gm st) (h : acK f g (μ, pc, ls, st, mm I J D) (stA μ pc ls st 337 S0 R0 I J D (.bastore) len fm tm a b c k) = some u) : Fq u I J D := by
  obtain ⟨v0, v, w, r, rfl, h⟩ := ak_f3 h
  obtain ⟨x, rfl, h⟩ := ak_fI h
  obtain ⟨j, rfl, h⟩ := ak_fI h
  obtain ⟨p, rfl, h⟩ := ak_fR h
  have hp : 316 ≤ p := (gm_cons.mp (gm_cons.mp (gm_cons.mp hs).2).2).1
  obtain ⟨hk, h⟩ := ak_ifh h
  obtain ⟨hq, h⟩ := ak_gd h
  exact fK hg h hl9 (gm_cons.mp (gm_cons.mp (gm_cons.mp hs).2).2).2 (kpI hp)
theorem rf_getfield {q : Nat} (hf : RlC f) (hg : RlF μ g u) (hb : rf μ = true) (hns : ∀ z, u.1 ≠ .inr (.inr z)) (hl9 : gm ls) (hs : gm st) (hc : (!(Nat.beq a 43) && Nat.blt b 24) = true) (h : acK f g (μ, pc, ls, st, mm I J D) (stA μ pc ls st 337 S0 R0 I J D (.getfield q) len fm tm a b c k) = some u) : Fq u I J D := by
  obtain ⟨v, r, rfl, h⟩ := ak_f1 h
  obtain ⟨p, rfl, h⟩ := ak_fR h
  have hp : 316 ≤ p := (gm_cons.mp hs).1
  rw [Bool.and_eq_true, Bool.not_eq_true'] at hc
  rcases ak_if h with ⟨ha, h⟩ | ⟨ha, h⟩
  · rw [hc.1] at ha; cases ha
  obtain ⟨hk, h⟩ := ak_ifh h
  obtain ⟨hq, h⟩ := ak_gd h
  have hq := Nat.blt_eq.mp hq
  refine fK hg h hl9 (gm_cons.mpr ⟨?_, (gm_cons.mp hs).2⟩) Kp.r
  cases h1 : Nat.beq c 1 with
  | true =>
    show gq (orf (R0 p b))
    cases hR : R0 p b with
    | none => exact trivial
    | some z => exact r0_ge hp hq (Nat.blt_eq.mp hc.2) hR
  | false =>
    cases h2 : Nat.beq c 2 with
    | true => exact trivial
    | false => exact trivial
theorem rf_putfield {q : Nat} (hf : RlC f) (hg : RlF μ g u) (hb : rf μ = true) (hns : ∀ z, u.1 ≠ .inr (.inr z)) (hl9 : gm ls) (hs : gm st) (hc : (Nat.beq c 0 || Nat.beq c 2) = true) (h : acK f g (μ, pc, ls, st, mm I J D) (stA μ pc ls st 337 S0 R0 I J D (.putfield q) len fm tm a b c k) = some u) : Fq u I J D := by
  obtain ⟨v, w, r, rfl, h⟩ := ak_f2 h
  obtain ⟨p, rfl, h⟩ := ak_fR h
  have hp : 316 ≤ p := (gm_cons.mp (gm_cons.mp hs).2).1
  obtain ⟨hk, h⟩ := ak_ifh h
  rcases ak_if h with ⟨-, h⟩ | ⟨h0, h⟩
  · obtain ⟨x, rfl, h⟩ := ak_fI h
    obtain ⟨hq, h⟩ := ak_gd h
    exact fK hg h hl9 (gm_cons.mp (gm_cons.mp hs).2).2 (kpI hp)
  rcases ak_if h with ⟨-, h⟩ | ⟨h2, h⟩
  · obtain ⟨x, rfl, h⟩ := ak_fL h
    obtain ⟨hq, h⟩ := ak_gd h
    exact fK hg h hl9 (gm_cons.mp (gm_cons.mp hs).2).2 (kpJ hp)
  · rw [h0, h2] at hc; cases hc
theorem rf_invokevirtual {q : Nat} (hf : RlC f) (hg : RlF μ g u) (hb : rf μ = true) (hns : ∀ z, u.1 ≠ .inr (.inr z)) (hl9 : gm ls) (hs : gm st) (hc : rf a = true) (h : acK f g (μ, pc, ls, st, mm I J D) (stA μ pc ls st 337 S0 R0 I J D (.invokevirtual q) len fm tm a b c k) = some u) : Fq u I J D := by
  obtain ⟨v, hv, h⟩ := ak_lk h
  obtain ⟨p, rfl, h⟩ := ak_fR h
  obtain ⟨hk, h⟩ := ak_ifh h
  rw [cI_rf hb] at h
  exact fC hf hg hns hb hc h (gm_rev (gm_take hs b)) hl9 (gm_drop hs b)
theorem rf_invokestatic {q : Nat} (hf : RlC f) (hg : RlF μ g u) (hb : rf μ = true) (hns : ∀ z, u.1 ≠ .inr (.inr z)) (hl9 : gm ls) (hs : gm st) (hc : rf a = true) (h : acK f g (μ, pc, ls, st, mm I J D) (stA μ pc ls st 337 S0 R0 I J D (.invokestatic q) len fm tm a b c k) = some u) : Fq u I J D := by
  have hlt := rf_lt hc
  have nb : ∀ k : Nat, 318 ≤ k → Nat.beq a k = false := fun k hk => nbeq (by omega)
  unfold stA at h
  simp only [nb 1000 (by omega), nb 1004 (by omega), nb 1005 (by omega), nb 1006 (by omega), nb 1007 (by omega), nb 1008 (by omega), cond_false] at h
  obtain ⟨hk, h⟩ := ak_ifh h
  rw [cI_rf hb] at h
  exact fC hf hg hns hb hc h (gm_rev (gm_take hs b)) hl9 (gm_drop hs b)
theorem rf_ireturn  (hf : RlC f) (hg : RlF μ g u) (hb : rf μ = true) (hns : ∀ z, u.1 ≠ .inr (.inr z)) (hl9 : gm ls) (hs : gm st) (h : acK f g (μ, pc, ls, st, mm I J D) (stA μ pc ls st 337 S0 R0 I J D (.ireturn) len fm tm a b c k) = some u) : Fq u I J D := by
  obtain ⟨x, r, rfl, h⟩ := ak_i1 h
  have h : (bif r.isEmpty && (bif Nat.beq c 0 then true else bif Nat.beq c 1 then decide (x = 0 ∨ x = 1) else bif Nat.beq c 2 then decide (0 ≤ x ∧ x ≤ 65535) else decide (-128 ≤ x ∧ x ≤ 127)) then some ((.inl (some (.int x)), mm I J D) : Ou) else none) = some u := h
  cases hz : (r.isEmpty && (bif Nat.beq c 0 then true else bif Nat.beq c 1 then decide (x = 0 ∨ x = 1) else bif Nat.beq c 2 then decide (0 ≤ x ∧ x ≤ 65535) else decide (-128 ≤ x ∧ x ≤ 127))) with
  | true =>
    rw [hz] at h
    cases h
    exact ⟨_, _, _, _, rfl, (fun v q => by cases q; exact trivial), Kp.r⟩
  | false => rw [hz] at h; cases h
theorem rf_lreturn  (hf : RlC f) (hg : RlF μ g u) (hb : rf μ = true) (hns : ∀ z, u.1 ≠ .inr (.inr z)) (hl9 : gm ls) (hs : gm st) (h : acK f g (μ, pc, ls, st, mm I J D) (stA μ pc ls st 337 S0 R0 I J D (.lreturn) len fm tm a b c k) = some u) : Fq u I J D := by
  obtain ⟨x, r, rfl, h⟩ := ak_l1 h
  have h : (bif r.isEmpty then some ((.inl (some (.long x)), mm I J D) : Ou) else none) = some u := h
  cases hz : (r.isEmpty) with
  | true =>
    rw [hz] at h
    cases h
    exact ⟨_, _, _, _, rfl, (fun v q => by cases q; exact trivial), Kp.r⟩
  | false => rw [hz] at h; cases h
theorem rf_freturn  (hf : RlC f) (hg : RlF μ g u) (hb : rf μ = true) (hns : ∀ z, u.1 ≠ .inr (.inr z)) (hl9 : gm ls) (hs : gm st) (h : acK f g (μ, pc, ls, st, mm I J D) (stA μ pc ls st 337 S0 R0 I J D (.freturn) len fm tm a b c k) = some u) : Fq u I J D := by
  obtain ⟨v, r, rfl, h⟩ := ak_f1 h
  obtain ⟨x, rfl, h⟩ := ak_fF h
  have h : (bif r.isEmpty then some ((.inl (some (.float x)), mm I J D) : Ou) else none) = some u := h
  cases hz : (r.isEmpty) with
  | true =>
    rw [hz] at h
    cases h
    exact ⟨_, _, _, _, rfl, (fun v q => by cases q; exact trivial), Kp.r⟩
  | false => rw [hz] at h; cases h
theorem rf_dreturn  (hf : RlC f) (hg : RlF μ g u) (hb : rf μ = true) (hns : ∀ z, u.1 ≠ .inr (.inr z)) (hl9 : gm ls) (hs : gm st) (h : acK f g (μ, pc, ls, st, mm I J D) (stA μ pc ls st 337 S0 R0 I J D (.dreturn) len fm tm a b c k) = some u) : Fq u I J D := by
  obtain ⟨v, r, rfl, h⟩ := ak_f1 h
  obtain ⟨x, rfl, h⟩ := ak_fD h
  have h : (bif r.isEmpty then some ((.inl (some (.double x)), mm I J D) : Ou) else none) = some u := h
  cases hz : (r.isEmpty) with
  | true =>
    rw [hz] at h
    cases h
    exact ⟨_, _, _, _, rfl, (fun v q => by cases q; exact trivial), Kp.r⟩
  | false => rw [hz] at h; cases h
theorem rf_return_  (hf : RlC f) (hg : RlF μ g u) (hb : rf μ = true) (hns : ∀ z, u.1 ≠ .inr (.inr z)) (hl9 : gm ls) (hs : gm st) (h : acK f g (μ, pc, ls, st, mm I J D) (stA μ pc ls st 337 S0 R0 I J D (.return_) len fm tm a b c k) = some u) : Fq u I J D := by
  have h : (bif st.isEmpty then some ((.inl none, mm I J D) : Ou) else none) = some u := h
  cases hz : st.isEmpty with
  | true =>
    rw [hz] at h
    cases h
    exact ⟨_, _, _, _, rfl, (fun v q => by cases q), Kp.r⟩
  | false => rw [hz] at h; cases h
theorem rf_step (hf : RlC f) (hg : RlF μ g u) (hb : rf μ = true) (hns : ∀ z, u.1 ≠ .inr (.inr z)) (hl9 : gm ls) (hs : gm st) (h : acK f g (μ, pc, ls, st, mm I J D) (st1 (μ, pc, ls, st, mm I J D)) = some u) : Fq u I J D := by
  have hch := rf_ch hb pc
  unfold chR at hch
  unfold st1 at h
  dsimp only [mm] at h
  cases he : cins μ pc with
  | none =>
    rw [he] at h
    cases h
    exact absurd rfl (hns _)
  | some e =>
    obtain ⟨i, len, fm, tm, a, b, c, k⟩ := e
    rw [he] at h hch
    dsimp only at h hch
    rw [stX_lo (by have := rf_lt hb; omega)] at h
    cases i with
    | iconst q => exact rf_iconst hf hg hb hns hl9 hs h
    | bipush q => exact rf_bipush hf hg hb hns hl9 hs h
    | sipush q => exact rf_sipush hf hg hb hns hl9 hs h
    | lconst q => exact rf_lconst hf hg hb hns hl9 hs h
    | ldc2_w q => exact rf_ldc2_w hf hg hb hns hl9 hs h
    | fconst q => exact rf_fconst hf hg hb hns hl9 hs h
    | ldc q => exact rf_ldc hf hg hb hns hl9 hs hch h
    | iload_n q => exact rf_iload_n hf hg hb hns hl9 hs h
    | iload q => exact rf_iload hf hg hb hns hl9 hs h
    | lload_n q => exact rf_lload_n hf hg hb hns hl9 hs h
    | lload q => exact rf_lload hf hg hb hns hl9 hs h
    | aload_n q => exact rf_aload_n hf hg hb hns hl9 hs h
    | aload q => exact rf_aload hf hg hb hns hl9 hs h
    | istore_n q => exact rf_istore_n hf hg hb hns hl9 hs h
    | istore q => exact rf_istore hf hg hb hns hl9 hs h
    | lstore_n q => exact rf_lstore_n hf hg hb hns hl9 hs h
    | lstore q => exact rf_lstore hf hg hb hns hl9 hs h
    | iinc q z => exact rf_iinc hf hg hb hns hl9 hs h
    | iadd => exact rf_iadd hf hg hb hns hl9 hs h
    | isub => exact rf_isub hf hg hb hns hl9 hs h
    | imul => exact rf_imul hf hg hb hns hl9 hs h
    | iand => exact rf_iand hf hg hb hns hl9 hs h
    | ior => exact rf_ior hf hg hb hns hl9 hs h
    | ishl => exact rf_ishl hf hg hb hns hl9 hs h
    | ishr => exact rf_ishr hf hg hb hns hl9 hs h
    | ladd => exact rf_ladd hf hg hb hns hl9 hs h
    | lsub => exact rf_lsub hf hg hb hns hl9 hs h
    | lmul => exact rf_lmul hf hg hb hns hl9 hs h
    | land => exact rf_land hf hg hb hns hl9 hs h
    | lor => exact rf_lor hf hg hb hns hl9 hs h
    | lcmp => exact rf_lcmp hf hg hb hns hl9 hs h
    | idiv => exact rf_idiv hf hg hb hns hl9 hs h
    | irem => exact rf_irem hf hg hb hns hl9 hs h
    | ineg => exact rf_ineg hf hg hb hns hl9 hs h
    | i2l => exact rf_i2l hf hg hb hns hl9 hs h
    | i2d => exact rf_i2d hf hg hb hns hl9 hs h
    | i2f => exact rf_i2f hf hg hb hns hl9 hs h
    | lneg => exact rf_lneg hf hg hb hns hl9 hs h
    | l2i => exact rf_l2i hf hg hb hns hl9 hs h
    | lshl => exact rf_lshl hf hg hb hns hl9 hs h
    | lshr => exact rf_lshr hf hg hb hns hl9 hs h
    | ddiv => exact rf_ddiv hf hg hb hns hl9 hs h
    | fdiv => exact rf_fdiv hf hg hb hns hl9 hs h
    | dup => exact rf_dup hf hg hb hns hl9 hs h
    | dup2 => exact rf_dup2 hf hg hb hns hl9 hs h
    | ifCond q z => exact rf_ifCond hf hg hb hns hl9 hs h
    | if_icmp q z => exact rf_if_icmp hf hg hb hns hl9 hs h
    | goto z => exact rf_goto hf hg hb hns hl9 hs h
    | tableswitch d lo hi offs => exact rf_tableswitch hf hg hb hns hl9 hs h
    | iaload => exact rf_iaload hf hg hb hns hl9 hs h
    | baload => exact rf_baload hf hg hb hns hl9 hs h
    | laload => exact rf_laload hf hg hb hns hl9 hs h
    | iastore => exact rf_iastore hf hg hb hns hl9 hs h
    | lastore => exact rf_lastore hf hg hb hns hl9 hs h
    | bastore => exact rf_bastore hf hg hb hns hl9 hs h
    | getfield q => exact rf_getfield hf hg hb hns hl9 hs hch h
    | putfield q => exact rf_putfield hf hg hb hns hl9 hs hch h
    | invokevirtual q => exact rf_invokevirtual hf hg hb hns hl9 hs hch h
    | invokestatic q => exact rf_invokestatic hf hg hb hns hl9 hs hch h
    | ireturn => exact rf_ireturn hf hg hb hns hl9 hs h
    | lreturn => exact rf_lreturn hf hg hb hns hl9 hs h
    | freturn => exact rf_freturn hf hg hb hns hl9 hs h
    | dreturn => exact rf_dreturn hf hg hb hns hl9 hs h
    | return_ => exact rf_return_ hf hg hb hns hl9 hs h
    | _ => cases hch
theorem rf_run : ∀ N μ, rf μ = true → ∀ u, (∀ z, u.1 ≠ .inr (.inr z)) → RlF μ (run N) u
  | 0, _, _, _, _ => fun pc ls st I J D _ _ h => by cases h
  | N + 1, μ, hb, u, hns => fun pc ls st I J D hl9 hs h => by
    refine rf_step (fun a as I J D u ha has h9 hn9 => ?_) (rf_run N μ hb u hns) hb hns hl9 hs h
    exact rf_run N a ha u hn9 0 _ [] I J D (gm_pad (gm_ent as has)) gm_nil h9
/-- a call of the reference's leaves the book alone -/
theorem rf_ex (hb : rf μ = true) (hl9 : gm ls) {r : Rs} (hns : ∀ z, r ≠ .inr (.inr z)) (h : ex (μ, pc, ls, [], mm I J D) = some (r, mm I2 J2 D2)) : Kp I J D I2 J2 D2 := by
  obtain ⟨N, hN⟩ := ex_run h
  obtain ⟨r9, I9, J9, D9, q1, -, q3⟩ := rf_run N μ hb _ hns pc ls [] I J D hl9 gm_nil hN
  have e : mm I2 J2 D2 = mm I9 J9 D9 := congrArg Prod.snd q1
  unfold mm at e
  injection e with _ e
  injection e with _ e
  injection e with _ e
  injection e with e1 e
  injection e with e2 e3
  subst e1; subst e2; subst e3
  exact q3
end FS
