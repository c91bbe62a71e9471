/-! what is kept, and brought back -/
def bI (b : Bool) : Int32 := bif b then 1 else 0
theorem x_can (b : Bool) (wh : Int32) (I : Nat → Nat → Int32) (J : Nat → Nat → Int64) (D : Nat → Nat → UInt64) : ex (156, 0, [.ref 316, .int (bI b), .int wh], [], mm I J D) = some (.inl (some (.int (bI b))), mm (ups I 316 0 (bif b then 0 else wh)) J D) := by
  cases b with
  | true =>
    rw [e_156_0, decide_eq_false (show ¬ bI true = 0 by decide), cond_false, e_156_5, e_156_10, decide_eq_true (show bI true = 0 ∨ bI true = 1 from Or.inr rfl), cond_true]
    rfl
  | false =>
    rw [e_156_0, decide_eq_true (show bI false = 0 from rfl), cond_true, e_156_9, e_156_10, decide_eq_true (show bI false = 0 ∨ bI false = 1 from Or.inl rfl), cond_true]
    rfl
theorem x_in (v a b : Int32) (I : Nat → Nat → Int32) (J : Nat → Nat → Int64) (D : Nat → Nat → UInt64) : ex (157, 0, [.int v, .int a, .int b], [], mm I J D) = some (.inl (some (.int (bI (decide (a ≤ v ∧ v ≤ b))))), mm I J D) := by
  have e1 : ex (157, 14, [dv, dv, dv], [], mm I J D) = some (.inl (some (.int 0)), mm I J D) := by rw [e_157_14, e_157_15, decide_eq_true (Or.inl rfl), cond_true]
  by_cases h1 : v < a
  · rw [e_157_0, decide_eq_true h1, cond_true, e1, decide_eq_false (fun h => Int32.not_le.mpr h1 h.1)]
    rfl
  · by_cases h2 : b < v
    · rw [e_157_0, decide_eq_false h1, cond_false, e_157_5, decide_eq_true h2, cond_true, e1, decide_eq_false (fun h => Int32.not_le.mpr h2 h.2)]
      rfl
    · rw [e_157_0, decide_eq_false h1, cond_false, e_157_5, decide_eq_false h2, cond_false, e_157_10, e_157_15, decide_eq_true (Or.inr rfl), cond_true, decide_eq_true (⟨Int32.not_lt.mp h1, Int32.not_lt.mp h2⟩)]
      rfl
theorem cp_past : ∀ x, x < 8 → ∀ (I : Nat → Nat → Int32) (J : Nat → Nat → Int64) (D : Nat → Nat → UInt64), ∃ I', ex (47, 0, [.ref (29 + 27 * x), .ref 1], [], mm I J D) = some (.inl none, mm I' J D) ∧ CpOK (29 + 27 * x) 1 I I' := lt_s (lt_s (lt_s (lt_s (lt_s (lt_s (lt_s (lt_s (lt_0) (cp_29x1)) (cp_56x1)) (cp_83x1)) (cp_110x1)) (cp_137x1)) (cp_164x1)) (cp_191x1)) (cp_218x1)
theorem cp_now : ∀ x, x < 8 → ∀ (I : Nat → Nat → Int32) (J : Nat → Nat → Int64) (D : Nat → Nat → UInt64), ∃ I', ex (47, 0, [.ref 1, .ref (29 + 27 * x)], [], mm I J D) = some (.inl none, mm I' J D) ∧ CpOK 1 (29 + 27 * x) I I' := lt_s (lt_s (lt_s (lt_s (lt_s (lt_s (lt_s (lt_s (lt_0) (cp_1x29)) (cp_1x56)) (cp_1x83)) (cp_1x110)) (cp_1x137)) (cp_1x164)) (cp_1x191)) (cp_1x218)
theorem e9_141 : ∀ x, x < 8 → ∀ (I : Nat → Nat → Int32) (J : Nat → Nat → Int64) (D : Nat → Nat → UInt64), ex (141, 9, [.ref 0, dv], [orf (R0 28 x)], mm I J D) = cal 141 22 [.ref 0, dv] [] (ex (47, 0, [.ref (29 + 27 * x), .ref 1], [], mm I J D)) := lt_s (lt_s (lt_s (lt_s (lt_s (lt_s (lt_s (lt_s (lt_0) (e_141_9_29)) (e_141_9_56)) (e_141_9_83)) (e_141_9_110)) (e_141_9_137)) (e_141_9_164)) (e_141_9_191)) (e_141_9_218)
theorem e53_136 : ∀ x, x < 8 → ∀ (I : Nat → Nat → Int32) (J : Nat → Nat → Int64) (D : Nat → Nat → UInt64), ex (136, 53, [.ref 0, dv], [orf (R0 28 x)], mm I J D) = cal 136 66 [.ref 0, dv] [] (ex (47, 0, [.ref 1, .ref (29 + 27 * x)], [], mm I J D)) := lt_s (lt_s (lt_s (lt_s (lt_s (lt_s (lt_s (lt_s (lt_0) (e_136_53_29)) (e_136_53_56)) (e_136_53_83)) (e_136_53_110)) (e_136_53_137)) (e_136_53_164)) (e_136_53_191)) (e_136_53_218)
theorem m8_up : ∀ x, x < 8 → (nI x + 1) - (nI x + 1) / 8 * 8 = nI ((x + 1) % 8) := by decide +kernel
theorem m8_dn : ∀ x, x < 8 → ((nI x + 8) - 1) - ((nI x + 8) - 1) / 8 * 8 = nI ((x + 7) % 8) := by decide +kernel
theorem m8_mn : ∀ a, a < 9 → (if (8 : Int32) < nI a + 1 then (8 : Int32) else nI a + 1) = nI (min 8 (a + 1)) := by decide +kernel
theorem m8_at : ∀ e, e < 9 → ∀ a, a < 9 → (825 : Int32) * ((nI e + nI a) - (nI e + nI a) / 8 * 8) = nI (825 * ((e + a) % 8)) := by decide +kernel
theorem x_rem {x a : Nat} (hx : x < 8) (ha : a ≤ 8) {I : Nat → Nat → Int32} (h2 : I 0 2 = nI x) (h3 : I 0 3 = nI a) (J : Nat → Nat → Int64) (D : Nat → Nat → UInt64) :
    ∃ I' I1, ex (141, 0, [.ref 0, dv], [], mm I J D) = some (.inl none, mm I' J D) ∧ I' 0 2 = nI ((x + 1) % 8) ∧ I' 0 3 = nI (min 8 (a + 1)) ∧ CpOK (29 + 27 * x) 1 I I1 ∧ ∀ p, p ≠ 0 → I' p = I1 p := by
  obtain ⟨I1, e1, c1⟩ := cp_past x hx I J D
  have q2 : I1 0 2 = nI x := by rw [c1.1 0 (Or.inl (by omega))]; exact h2
  have q3 : I1 0 3 = nI a := by rw [c1.1 0 (Or.inl (by omega))]; exact h3
  refine ⟨_, I1, by
    rw [e_141_0, h2, inb_n hx (by decide), cond_true, nI_clamp (by omega), e9_141 x hx, e1, cal_v]
    exact e_141_22 I1 J D, ?_, ?_, c1, fun p hp => ?_⟩
  · rw [uIs, uU (by decide), uIs, uUs, q2]
    exact m8_up x hx
  · rw [uIs, uUs, uIs, uU (by decide), q3]
    exact m8_mn a (by omega)
  · rw [uI hp, uI hp]
theorem x_kat {e a : Nat} (he : e < 9) (ha : a < 9) {I : Nat → Nat → Int32} (h4 : I 316 4 = nI e) (h3 : I 316 3 = nI a) (J : Nat → Nat → Int64) (D : Nat → Nat → UInt64) : ex (160, 0, [.ref 316], [], mm I J D) = some (.inl (some (.int (nI (825 * ((e + a) % 8))))), mm I J D) := by
  rw [e_160_0, h3, h4, m8_at e he a ha]
theorem kl_161 {b : Nat} (hb : b ≤ 5775) : ∀ (r k : Nat), k + r = 825 → ∀ (I : Nat → Nat → Int32) (J : Nat → Nat → Int64) (D : Nat → Nat → UInt64), ∃ I', ex (161, 39, [.ref 316, .int (nI b), .int (nI k)], [], mm I J D) = ex (161, 66, [.ref 316, dv, dv], [], mm I' J D) ∧ (∀ p, p ≠ 318 → I' p = I p) ∧ (∀ z, z < b + k ∨ b + 825 ≤ z → I' 318 z = I 318 z) ∧ ∀ y, k ≤ y → y < 825 → I' 318 (b + y) = I 317 y := by
  intro r
  induction r with
  | zero =>
    intro k hk I J D
    refine ⟨I, ?_, fun _ _ => rfl, fun _ _ => rfl, fun j h1 h2 => by omega⟩
    rw [e_161_39, show k = 825 by omega, decide_eq_true (show (825 : Int32) ≤ nI 825 by decide), cond_true]
  | succ r ih =>
    intro k hk I J D
    obtain ⟨I', e, h1, h2, h3⟩ := ih (k + 1) (by omega) (ups I 318 (b + k) (I 317 k)) J D
    refine ⟨I', ?_, fun p hp => (h1 p hp).trans (uI hp), fun z hz => ?_, fun y hy h5 => ?_⟩
    · rw [e_161_39, decide_eq_false (show ¬ (825 : Int32) ≤ nI k from nI_ge (a := k) (b := 825) (by omega) (by decide)), cond_false, e_161_46, nI_add, inb_n (by omega) (by decide), inb_n (by omega) (by decide), cond_true, cond_true, nI_clamp (by omega), nI_clamp (by omega), nI_1]
      exact e
    · rw [h2 z (by omega), uIs, uU (by omega)]
    · by_cases he : y = k
      · subst he
        rw [h2 (b + y) (by omega), uIs, uUs]
      · rw [h3 y (by omega) h5, uI (by decide)]
/-- the model's page is kept at its next place -/
def KeepOK (e a : Nat) (I I' : Nat → Nat → Int32) (e' : Nat) : Prop :=
  e' < 8 ∧ I' 316 4 = nI e' ∧ I' 316 3 = nI (min 8 (a + 1)) ∧ (e' + min 8 (a + 1)) % 8 = ((e + a) % 8 + 1) % 8 ∧ (∀ j, j ≠ 3 → j ≠ 4 → I' 316 j = I 316 j) ∧
  (∀ p, p ≠ 316 → p ≠ 318 → I' p = I p) ∧ (∀ y, y < 825 → I' 318 (825 * ((e + a) % 8) + y) = I 317 y) ∧ ∀ z, z < 825 * ((e + a) % 8) ∨ 825 * ((e + a) % 8) + 825 ≤ z → I' 318 z = I 318 z
theorem x_keep {e a : Nat} (he : e < 8) (ha : a ≤ 8) {I : Nat → Nat → Int32} (h4 : I 316 4 = nI e) (h3 : I 316 3 = nI a) (J : Nat → Nat → Int64) (D : Nat → Nat → UInt64) :
    ∃ I' e', ex (161, 0, [.ref 316, dv, dv], [], mm I J D) = some (.inl none, mm I' J D) ∧ KeepOK e a I I' e' := by
  have main : ∀ (e2 a2 : Nat) (I2 : Nat → Nat → Int32), e2 < 8 → a2 < 8 → I2 316 4 = nI e2 → I2 316 3 = nI a2 → (e2 + a2) % 8 = (e + a) % 8 → (∀ p, p ≠ 316 → I2 p = I p) → (∀ j, j ≠ 3 → j ≠ 4 → I2 316 j = I 316 j) → a2 + 1 = min 8 (a + 1) → ex (161, 0, [.ref 316, dv, dv], [], mm I J D) = ex (161, 32, [.ref 316, dv, dv], [], mm I2 J D) → ∃ I' e', ex (161, 0, [.ref 316, dv, dv], [], mm I J D) = some (.inl none, mm I' J D) ∧ KeepOK e a I I' e' := by
    intro e2 a2 I2 he2 ha2 g4 g3 hm hp hj hmin hex
    obtain ⟨I3, e3, f1, f2, f3⟩ := kl_161 (b := 825 * ((e2 + a2) % 8)) (by omega) 825 0 rfl I2 J D
    refine ⟨ups I3 316 3 (I3 316 3 + 1), e2, ?_, he2, ?_, ?_, ?_, ?_, ?_, ?_, ?_⟩
    · rw [hex, e_161_32, x_kat (by omega) (by omega) g4 g3, cal_v]
      show ex (161, 36, [.ref 316, dv, dv], [.int _], mm I2 J D) = _
      rw [e_161_36, show (.int 0 : Value) = .int (nI 0) from rfl, e3, e_161_66]
    · rw [uIs, uU (by decide), f1 316 (by decide)]; exact g4
    · rw [uIs, uUs, f1 316 (by decide), g3, nI_1, hmin]
    · omega
    · intro j h1 h2
      rw [uIs, uU h1, f1 316 (by decide)]; exact hj j h1 h2
    · intro p h1 h2
      rw [uI h1, f1 p h2]; exact hp p h1
    · intro y hy
      rw [uI (by decide), ← hm, f3 y (Nat.zero_le _) hy, hp 317 (by decide)]
    · intro z hz
      rw [uI (by decide), f2 z (by omega), hp 318 (by decide)]
  by_cases h8 : a = 8
  · subst h8
    refine main ((e + 1) % 8) 7 _ (by omega) (by omega) ?_ ?_ (by omega) (fun p hp => ?_) (fun j h1 h2 => ?_) (by omega) (by
      rw [e_161_0, h3, decide_eq_false (by decide), cond_false]
      exact e_161_9 I J D)
    · rw [uIs, uU (by decide), uIs, uUs, h4]; exact m8_up e he
    · rw [uIs, uUs, uIs, uU (by decide), h3]; rfl
    · rw [uI hp, uI hp]
    · rw [uIs, uU h1, uIs, uU h2]
  · refine main e a I he (by omega) h4 h3 rfl (fun _ _ => rfl) (fun _ _ _ => rfl) (by omega) ?_
    rw [e_161_0, h3, decide_eq_true (show nI a ≠ 8 from fun h => h8 ((nI_eq (a := a) (b := 8) (by omega) (by decide)).mp h)), cond_true]
