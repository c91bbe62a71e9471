/-! undo, of both -/
theorem ka (v : Int32) (st : List Value) : (some (Value.int v)).toList ++ st = .int v :: st := rfl
theorem kn (st : List Value) : (none : Option Value).toList ++ st = st := rfl
theorem x_undo0 {I : Nat → Nat → Int32} (h3 : I 0 3 = nI 0) (J : Nat → Nat → Int64) (D : Nat → Nat → UInt64) : ex (136, 0, [.ref 0, dv], [], mm I J D) = some (.inr (.inl 0), mm I J D) := by
  rw [e_136_0, h3, decide_eq_false (by decide), cond_false, e_136_7]
theorem x_undo {x a : Nat} (hx : x < 8) (h0 : 0 < a) (ha : a ≤ 8) {I : Nat → Nat → Int32} (h2 : I 0 2 = nI x) (h3 : I 0 3 = nI a) (J : Nat → Nat → Int64) (D : Nat → Nat → UInt64) :
    ∃ I' I1, ex (136, 0, [.ref 0, dv], [], mm I J D) = some (.inl (some (.int (nI (a - 1)))), mm I' J D) ∧ I1 0 2 = nI ((x + 7) % 8) ∧ I1 0 3 = nI (a - 1) ∧ (∀ p, p ≠ 0 → I1 p = I p) ∧ CpOK 1 (29 + 27 * ((x + 7) % 8)) I1 I' := by
  obtain ⟨b, rfl⟩ : ∃ b, a = b + 1 := ⟨a - 1, by omega⟩
  have e1 := e_136_18 I J D
  generalize hI1 : (ups (ups I 0 3 (I 0 3 - 1)) 0 2 _ : Nat → Nat → Int32) = I1 at e1
  have q2 : I1 0 2 = nI ((x + 7) % 8) := by
    subst hI1
    rw [uIs, uUs, uIs, uU (by decide), h2]
    exact m8_dn x hx
  have q3 : I1 0 3 = nI b := by
    subst hI1
    rw [uIs, uU (by decide), uIs, uUs, h3, nI_pred]
  have q4 : ∀ p, p ≠ 0 → I1 p = I p := by
    subst hI1
    intro p hp
    rw [uI hp, uI hp]
  obtain ⟨I', e2, c2⟩ := cp_now ((x + 7) % 8) (Nat.mod_lt _ (by decide)) I1 J D
  refine ⟨I', I1, ?_, q2, q3, q4, c2⟩
  rw [e_136_0, h3, decide_eq_true (show 0 < nI (b + 1) from (nI_ltI (a := 0) (by decide) (by omega)).mpr (by omega)), cond_true, e1, q2, inb_n (Nat.mod_lt _ (by decide)) (by decide), cond_true, nI_clamp (Nat.lt_of_lt_of_le (Nat.mod_lt _ (by decide)) (by decide : 8 ≤ 2 ^ 31)), e53_136 _ (Nat.mod_lt _ (by decide)), e2, cal_v, kn, e_136_66, c2.1 0 (Or.inl (by decide)), q3]
  rfl
theorem y_undo0 {I : Nat → Nat → Int32} (h3 : I 316 3 = nI 0) (J : Nat → Nat → Int64) (D : Nat → Nat → UInt64) : ex (162, 0, [.ref 316, dv, dv], [], mm I J D) = some (.inl (some (.int 0)), mm (ups I 316 0 1) J D) := by
  rw [e_162_0, h3, decide_eq_true (show nI 0 ≤ 0 by decide), cond_true, e_162_12, e_162_13, show (.int 0 : Value) = .int (bI false) from rfl, x_can, cal_v, ka, e_162_17, decide_eq_false (show ¬ bI false ≠ 0 by decide), cond_false, e_162_20]
  rfl
theorem kl_162 {b : Nat} (hb : b ≤ 5775) : ∀ (r k : Nat), k + r = 825 → ∀ (I : Nat → Nat → Int32) (J : Nat → Nat → Int64) (D : Nat → Nat → UInt64), ∃ I', ex (162, 39, [.ref 316, .int (nI b), .int (nI k)], [], mm I J D) = ex (162, 66, [.ref 316, dv, dv], [], mm I' J D) ∧ (∀ p, p ≠ 317 → I' p = I p) ∧ (∀ z, z < k ∨ 825 ≤ z → I' 317 z = I 317 z) ∧ ∀ y, k ≤ y → y < 825 → I' 317 y = I 318 (b + y) := by
  intro r
  induction r with
  | zero =>
    intro k hk I J D
    refine ⟨I, ?_, fun _ _ => rfl, fun _ _ => rfl, fun j h1 h2 => by omega⟩
    rw [e_162_39, show k = 825 by omega, decide_eq_true (show (825 : Int32) ≤ nI 825 by decide), cond_true]
  | succ r ih =>
    intro k hk I J D
    obtain ⟨I', e, h1, h2, h3⟩ := ih (k + 1) (by omega) (ups I 317 k (I 318 (b + k))) J D
    refine ⟨I', ?_, fun p hp => (h1 p hp).trans (uI hp), fun z hz => ?_, fun y hy h5 => ?_⟩
    · rw [e_162_39, decide_eq_false (show ¬ (825 : Int32) ≤ nI k from nI_ge (a := k) (b := 825) (by omega) (by decide)), cond_false, e_162_46, nI_add, inb_n (by omega) (by decide), inb_n (by omega) (by decide), cond_true, cond_true, nI_clamp (by omega), nI_clamp (by omega), nI_1]
      exact e
    · rw [h2 z (by omega), uIs, uU (by omega)]
    · by_cases he : y = k
      · subst he
        rw [h2 y (by omega), uIs, uUs]
      · rw [h3 y (by omega) h5, uI (by decide)]
theorem y_undo {e a : Nat} (he : e < 8) (h0 : 0 < a) (ha : a ≤ 8) {I : Nat → Nat → Int32} (h4 : I 316 4 = nI e) (h3 : I 316 3 = nI a) (J : Nat → Nat → Int64) (D : Nat → Nat → UInt64) :
    ∃ I', ex (162, 0, [.ref 316, dv, dv], [], mm I J D) = some (.inl (some (.int (nI (a - 1)))), mm I' J D) ∧ I' 316 0 = 0 ∧ I' 316 3 = nI (a - 1) ∧ (∀ j, j ≠ 0 → j ≠ 3 → I' 316 j = I 316 j) ∧ (∀ p, p ≠ 316 → p ≠ 317 → I' p = I p) ∧
      (∀ y, y < 825 → I' 317 y = I 318 (825 * ((e + (a - 1)) % 8) + y)) ∧ ∀ y, 825 ≤ y → I' 317 y = I 317 y := by
  obtain ⟨b, rfl⟩ : ∃ b, a = b + 1 := ⟨a - 1, by omega⟩
  obtain ⟨I2, hI2⟩ : ∃ I2, I2 = ups (ups I 316 0 0) 316 3 (nI b) := ⟨_, rfl⟩
  have g4 : I2 316 4 = nI e := by rw [hI2, uIs, uU (by decide), uIs, uU (by decide)]; exact h4
  have g3 : I2 316 3 = nI b := by rw [hI2, uIs, uUs]
  obtain ⟨I', e3, f1, f2, f3⟩ := kl_162 (b := 825 * ((e + b) % 8)) (by omega) 825 0 rfl I2 J D
  refine ⟨I', ?_, ?_, ?_, fun j h1 h2 => ?_, fun p h1 h2 => ?_, fun y hy => ?_, fun y hy => ?_⟩
  · rw [e_162_0, h3, decide_eq_false (show ¬ nI (b + 1) ≤ 0 from nI_nle (by omega) (by omega)), cond_false, e_162_8, e_162_13, show (.int 1 : Value) = .int (bI true) from rfl, x_can, cal_v, ka, e_162_17, decide_eq_true (show bI true ≠ 0 by decide), cond_true, e_162_22]
    have e5 : ups (ups I 316 0 (bif true then 0 else bI true)) 316 3 ((ups I 316 0 (bif true then 0 else bI true)) 316 3 - 1) = I2 := by
      rw [hI2, uIs, uU (by decide), h3, nI_pred]
      rfl
    rw [e5, x_kat (by omega) (by omega) g4 g3, cal_v, ka, e_162_36, show (.int 0 : Value) = .int (nI 0) from rfl, e3, e_162_66, f1 316 (by decide), g3]
    rfl
  · rw [f1 316 (by decide), hI2, uIs, uU (by decide), uIs, uUs]
  · rw [f1 316 (by decide), g3]; rfl
  · rw [f1 316 (by decide), hI2, uIs, uU h2, uIs, uU h1]
  · rw [f1 p h2, hI2, uI h1, uI h1]
  · rw [f3 y (Nat.zero_le _) hy, hI2, uI (by decide), uI (by decide)]
    rfl
  · rw [f2 y (Or.inr hy), hI2, uI (by decide), uI (by decide)]
