/-! an act that both remember: the invariant, from the two halves -/
/-- the book's numbers that last are the same, but the page -/
def CFar (I I' : Nat → Nat → Int32) : Prop := (I' 0 2 = I 0 2 ∧ I' 0 3 = I 0 3) ∧ (∀ p, 28 ≤ p → p < 245 → I' p = I p) ∧ (I' 245 3 = I 245 3 ∧ I' 264 = I 264 ∧ I' 312 3 = I 312 3 ∧ I' 313 = I 313) ∧ ∀ p, 316 ≤ p → I' p = I p
/-- the model's numbers that last are the same, but 'raised' and the page; the book is -/
def MFar (I I' : Nat → Nat → Int32) : Prop := (∀ p, p < 316 → I' p = I p) ∧ (∀ j, j ≠ 0 → I' 316 j = I 316 j) ∧ I' 318 = I 318 ∧ I' 319 = I 319 ∧ I' 320 = I 320 ∧ I' iSCL 0 = I iSCL 0
theorem act_inv {L kk a x e e2 : Nat} {I I1 I2 I3 I4 I5 : Nat → Nat → Int32} {J J2 : Nat → Nat → Int64} {D D2 : Nat → Nat → UInt64} (h : Inv L kk I J D) (ha : a ≤ 8) (hx : x < 8) (he : (e + a) % 8 = x)
    (hh : ∀ s, s < 8 → (x + 7 - s) % 8 < a → PgRel kk (pgF I (29 + 27 * s)) (fun y => I 318 (825 * s + y)))
    (c : CRem x a I I1) (cf : CFar I1 I2) (m : MFar I2 I3 ∧ I3 317 = I2 317) (k : KeepOK e a I3 I4 e2) (mf : MFar I4 I5) (hp : PgRel (kk + 1) (pgF I2 1) (I5 317)) : Inv L (kk + 1) I5 J2 D2 := by
  obtain ⟨i0, i1, -, i3, i4⟩ := h
  obtain ⟨c1, c2, c3, c4⟩ := c
  obtain ⟨⟨f1, f2⟩, f3, ⟨f4, f5, f6, f7⟩, f8⟩ := cf
  obtain ⟨⟨n1, n2, n3, n4, n5, n6⟩, n7⟩ := m
  obtain ⟨k1, k2, k3, k4, k5, k6, k7, k8⟩ := k
  obtain ⟨l1, l2, l3, l4, l5, l6⟩ := mf
  rw [he] at k4 k7 k8
  have far1 : ∀ p, 245 ≤ p → I1 p = I p := fun p hp => c4 p (by omega) (Or.inr (by omega))
  have lo : ∀ p, p < 316 → I5 p = I2 p := fun p hp => by rw [l1 p hp, k6 p (by omega) (by omega), n1 p hp]
  have w0 : I3 317 = I 317 := by rw [n7, f8 317 (by decide), far1 317 (by decide)]
  have o18 : I3 318 = I 318 := by rw [n3, f8 318 (by decide), far1 318 (by decide)]
  have o16 : ∀ j, j ≠ 0 → j ≠ 3 → j ≠ 4 → I5 316 j = I 316 j := fun j h1 h2 h3 => by rw [l2 j h1, k5 j h2 h3, n2 j h1, f8 316 (by decide), far1 316 (by decide)]
  refine ⟨?_, hp.go (Nat.le_refl _) (fun o k hr => ?_) (fun _ _ => rfl), ?_, ?_, ?_⟩
  · rw [l6, k6 iSCL (by decide) (by decide), n6, f8 iSCL (by decide), far1 iSCL (by decide)]; exact i0
  · have := rl_lt hr
    show I5 (1 + o) k = I2 (1 + o) k
    rw [lo (1 + o) (by omega)]
  · refine his_act ha hx he hh i1 ?_ ?_ (fun o k hr => ?_) (fun p h1 h2 h3 => ?_) k1 ?_ ?_ k4 (fun y hy => ?_) (fun z hz => ?_)
    · rw [lo 0 (by decide), f1]; exact c1
    · rw [lo 0 (by decide), f2]; exact c2
    · have ho := rl_lt hr
      show I5 (29 + 27 * x + o) k = _
      rw [lo (29 + 27 * x + o) (by omega), f3 _ (by omega) (by omega)]
      exact c3 o k hr
    · rw [lo p (by omega), f3 p (by omega) h2, c4 p (by omega) h3]
    · rw [l2 4 (by decide)]; exact k2
    · rw [l2 3 (by decide)]; exact k3
    · rw [l3, k7 y hy, w0]
    · rw [l3, k8 z hz, o18]
  · refine txt_stay i3 ?_ ?_ (o16 8 (by decide) (by decide) (by decide)) ?_
    · rw [lo 312 (by decide), f6, far1 312 (by decide)]
    · rw [lo 313 (by decide), f7, far1 313 (by decide)]
    · rw [l5, k6 320 (by decide) (by decide), n5, f8 320 (by decide), far1 320 (by decide)]
  · refine rng_stay i4 ?_ ?_ (o16 6 (by decide) (by decide) (by decide)) ?_
    · rw [lo 245 (by decide), f4, far1 245 (by decide)]
    · rw [lo 264 (by decide), f5, far1 264 (by decide)]
    · rw [l4, k6 319 (by decide) (by decide), n4, f8 319 (by decide), far1 319 (by decide)]
