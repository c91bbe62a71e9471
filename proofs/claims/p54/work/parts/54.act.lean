/-! what an act that is remembered does to what was kept -/
def CRem (x a : Nat) (I I' : Nat → Nat → Int32) : Prop :=
  I' 0 2 = nI ((x + 1) % 8) ∧ I' 0 3 = nI (min 8 (a + 1)) ∧ (∀ o k, rl o k = true → pgF I' (29 + 27 * x) o k = pgF I 1 o k) ∧ ∀ p, p ≠ 0 → (p < 29 + 27 * x ∨ 56 + 27 * x ≤ p) → I' p = I p
theorem c_rem {kk x a : Nat} (hx : x < 8) (ha : a ≤ 8) {I : Nat → Nat → Int32} (h2 : I 0 2 = nI x) (h3 : I 0 3 = nI a) (h5 : ∀ k, k < 50 → I 6 k = 0 ∨ I 6 k = 1) (J : Nat → Nat → Int64) (D : Nat → Nat → UInt64) :
    ∃ I', ex (141, 0, [.ref 0, dv], [], mm I J D) = some (.inl none, mm I' J D) ∧ CRem x a I I' := by
  obtain ⟨I', I1, e, f1, f2, c, f3⟩ := x_rem hx ha h2 h3 J D
  refine ⟨I', e, f1, f2, fun o k hr => ?_, fun p h0 hp => ?_⟩
  · show I' (29 + 27 * x + o) k = I (1 + o) k
    rw [f3 _ (by omega)]
    exact cp_rl c h5 o k hr
  · rw [f3 p h0]
    exact c.1 p (by omega)
theorem rl_lt {o k : Nat} (h : rl o k = true) : o < 27 := by
  refine Nat.lt_of_not_le fun q => ?_
  have e : rl o k = false := by
    unfold rl
    split <;> first | omega | rfl
  rw [e] at h
  cases h
/-- an act is remembered by both -/
theorem his_act {kk a x e e2 : Nat} {I I2 : Nat → Nat → Int32} (ha : a ≤ 8) (hx : x < 8) (he : (e + a) % 8 = x) (hh : ∀ s, s < 8 → (x + 7 - s) % 8 < a → PgRel kk (pgF I (29 + 27 * s)) (fun y => I 318 (825 * s + y))) (hp : PgRel kk (pgF I 1) (I 317))
    (c1 : I2 0 2 = nI ((x + 1) % 8)) (c2 : I2 0 3 = nI (min 8 (a + 1))) (c3 : ∀ o k, rl o k = true → pgF I2 (29 + 27 * x) o k = pgF I 1 o k) (c4 : ∀ p, 29 ≤ p → p < 245 → (p < 29 + 27 * x ∨ 56 + 27 * x ≤ p) → I2 p = I p)
    (he2 : e2 < 8) (m1 : I2 316 4 = nI e2) (m2 : I2 316 3 = nI (min 8 (a + 1))) (m3 : (e2 + min 8 (a + 1)) % 8 = (x + 1) % 8) (m4 : ∀ y, y < 825 → I2 318 (825 * x + y) = I 317 y) (m5 : ∀ z, z < 825 * x ∨ 825 * x + 825 ≤ z → I2 318 z = I 318 z) : RHis (kk + 1) I2 := by
  refine ⟨min 8 (a + 1), (x + 1) % 8, e2, by omega, by omega, he2, m3, c1, c2, m2, m1, fun s hs hv => ?_⟩
  by_cases hsx : s = x
  · subst hsx
    exact hp.go (Nat.le_succ kk) c3 m4
  · refine (hh s hs (by omega)).go (Nat.le_succ kk) (fun o k hr => ?_) (fun y hy => ?_)
    · have := rl_lt hr
      show I2 (29 + 27 * s + o) k = I (29 + 27 * s + o) k
      rw [c4 (29 + 27 * s + o) (by omega) (by omega) (by omega)]
    · exact m5 _ (by omega)
/-- nothing is remembered: what was kept stays -/
theorem his_stay {kk : Nat} {I I2 : Nat → Nat → Int32} (h : RHis kk I) (c1 : I2 0 2 = I 0 2) (c2 : I2 0 3 = I 0 3) (c3 : ∀ p, 29 ≤ p → p < 245 → I2 p = I p) (m1 : I2 316 3 = I 316 3) (m2 : I2 316 4 = I 316 4) (m3 : I2 318 = I 318) : RHis (kk + 1) I2 := by
  obtain ⟨a, x, e, h1, h2, h3, h4, h5, h6, h7, h8, h9⟩ := h
  refine ⟨a, x, e, h1, h2, h3, h4, c1.trans h5, c2.trans h6, m1.trans h7, m2.trans h8, fun s hs hv => ?_⟩
  refine (h9 s hs hv).go (Nat.le_succ kk) (fun o k hr => ?_) (fun y hy => by rw [m3])
  have := rl_lt hr
  show I2 (29 + 27 * s + o) k = I (29 + 27 * s + o) k
  rw [c3 (29 + 27 * s + o) (by omega) (by omega)]
theorem txt_stay {I I2 : Nat → Nat → Int32} (h : RTxt I) (c1 : I2 312 3 = I 312 3) (c2 : I2 313 = I 313) (m1 : I2 316 8 = I 316 8) (m2 : I2 320 = I 320) : RTxt I2 := by
  unfold RTxt at h ⊢
  rw [c1, c2, m1, m2]
  exact h
theorem rng_stay {I I2 : Nat → Nat → Int32} (h : RRng I) (c1 : I2 245 3 = I 245 3) (c2 : I2 264 = I 264) (m1 : I2 316 6 = I 316 6) (m2 : I2 319 = I 319) : RRng I2 := by
  unfold RRng at h ⊢
  rw [c1, c2, m1, m2]
  exact h
