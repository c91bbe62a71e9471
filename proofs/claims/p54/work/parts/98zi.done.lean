/-! isDone: its layouts for the law's own typing -/
section DO
theorem ovs_of {S : Nat → Nat × Nat} (h0 : S 0 = (12, 0)) (h1 : S 1 = (10, 0)) : ovS S = S := by
  funext p
  unfold ovS
  by_cases a : p = 0
  · subst a; rw [h0]; rfl
  · by_cases b : p = 1
    · subst b; rw [h1]; rfl
    · rw [nbeq a, nbeq b]; rfl
theorem ovr_of {R : Nat → Nat → Option Nat} (h : R 0 0 = some 1) : ovR R = R := by
  funext p j
  unfold ovR
  by_cases a : p = 0
  · subst a
    by_cases b : j = 0
    · subst b; rw [h]; rfl
    · rw [nbeq b]; rfl
  · rw [nbeq a]; rfl
theorem ovS_M : ovS SM9 = SM9 := ovs_of (by decide +kernel) (by decide +kernel)
theorem ovR_M : ovR RM9 = RM9 := ovr_of (by decide +kernel)
theorem ovS_O : ovS SO9 = SO9 := ovs_of (by decide +kernel) (by decide +kernel)
theorem ovR_O : ovR RO9 = RO9 := ovr_of (by decide +kernel)
end DO
