/-! tools for what a run means; copies of pages -/
theorem uR {α : Type} {R : Nat → α} {p q : Nat} {x : α} (h : q ≠ p) : upR R p x q = R q := by
  unfold upR
  have : Nat.beq q p = false := by cases hb : Nat.beq q p with | false => rfl | true => exact absurd (beq_e hb) h
  rw [this]; rfl
theorem uRs {α : Type} {R : Nat → α} {p : Nat} {x : α} : upR R p x p = x := by unfold upR; rw [Nat.beq_refl]; rfl
theorem uI {I : Nat → Nat → Int32} {p k q : Nat} {x : Int32} (h : q ≠ p) : ups I p k x q = I q := by
  unfold ups
  have : Nat.beq q p = false := by cases hb : Nat.beq q p with | false => rfl | true => exact absurd (beq_e hb) h
  rw [this]; rfl
theorem uIs {I : Nat → Nat → Int32} {p k : Nat} {x : Int32} : ups I p k x p = upd (I p) k x := by unfold ups; rw [Nat.beq_refl]; rfl
theorem uU {f : Nat → Int32} {k j : Nat} {x : Int32} (h : j ≠ k) : upd f k x j = f j := by unfold upd; rw [if_neg h]
theorem uUs {f : Nat → Int32} {k : Nat} {x : Int32} : upd f k x k = x := by unfold upd; rw [if_pos rfl]
theorem uC {f g : Nat → Int32} {n k : Nat} (h : k < n) : va_cpy f g 0 0 n k = f k := by
  unfold va_cpy
  rw [if_pos ⟨Nat.zero_le _, by omega⟩]
  congr 1
  omega
theorem cal_v {μ pc : Nat} {ls st : List Value} {v : Option Value} {M : Mm} : cal μ pc ls st (some (.inl v, M)) = ex (μ, pc, ls, v.toList ++ st, M) := rfl
theorem cal_e {μ pc E : Nat} {ls st : List Value} {M : Mm} : cal μ pc ls st (some (.inr (.inl E), M)) = some (.inr (.inl E), M) := rfl
theorem inb_n {k n : Nat} (h : k < n) (hn : n < 2 ^ 31) : inb (nI k) n = true := by
  unfold inb
  rw [nI_clamp (by omega)]
  have h1 : decide (nI k < 0) = false := decide_eq_false (nI_pos (by omega))
  have h2 : Nat.ble n k = false := by cases hb : Nat.ble n k with | false => rfl | true => have := Nat.ble_eq.mp hb; omega
  rw [h1, h2]; rfl
/-- page a in I' is page b in I -/
def CpOK (a b : Nat) (I I' : Nat → Nat → Int32) : Prop :=
  (∀ p, (p < a ∨ a + 27 ≤ p) → I' p = I p) ∧ (I' a 6 = I b 6 ∧ I' a 7 = I b 7 ∧ I' a 8 = I b 8) ∧ (I' (a + 1) 5 = I (b + 1) 5 ∧ I' (a + 1) 6 = I (b + 1) 6) ∧
  (∀ k, k < 50 → I' (a + 2) k = I (b + 2) k ∧ I' (a + 3) k = I (b + 3) k ∧ I' (a + 4) k = I (b + 4) k ∧ I' (a + 5) k = vp_nar .boolean (I (b + 5) k)) ∧
  (I' (a + 7) 1 = I (b + 7) 1 ∧ ∀ k, k < 17 → I' (a + 8) k = I (b + 8) k) ∧
  (I' (a + 9) 4 = I (b + 9) 4 ∧ ∀ k, k < 16 → I' (a + 10) k = I (b + 10) k ∧ I' (a + 11) k = I (b + 11) k ∧ I' (a + 12) k = I (b + 12) k ∧ I' (a + 13) k = I (b + 13) k) ∧
  (I' (a + 14) 4 = I (b + 14) 4 ∧ ∀ k, k < 16 → I' (a + 15) k = I (b + 15) k ∧ I' (a + 16) k = I (b + 16) k ∧ I' (a + 17) k = I (b + 17) k ∧ I' (a + 18) k = I (b + 18) k) ∧
  ((∀ k, k < 8 → I' (a + 20) k = I (b + 20) k ∧ I' (a + 21) k = I (b + 21) k) ∧ ∀ k, k < 80 → I' (a + 22) k = I (b + 22) k) ∧
  (I' (a + 23) 3 = I (b + 23) 3 ∧ ∀ k, k < 12 → I' (a + 24) k = I (b + 24) k ∧ I' (a + 25) k = I (b + 25) k)
theorem cpl_29x1 : ∀ (r k : Nat), k + r = 50 → ∀ (I : Nat → Nat → Int32) (J : Nat → Nat → Int64) (D : Nat → Nat → UInt64), ∃ I', ex (5, 56, [.ref 30, .ref 2, .int (nI k)], [], mm I J D) = ex (5, 80, [.ref 30, .ref 2, dv], [], mm I' J D) ∧ (∀ p, p ≠ 34 → I' p = I p) ∧ (∀ j, j < k → I' 34 j = I 34 j) ∧ ∀ j, k ≤ j → j < 50 → I' 34 j = vp_nar .boolean (I 6 j) := by
  intro r
  induction r with
  | zero =>
    intro k hk I J D
    refine ⟨I, ?_, fun _ _ => rfl, fun _ _ => rfl, fun j h1 h2 => by omega⟩
    rw [e_5_56_30x2, show k = 50 by omega]
    rfl
  | succ r ih =>
    intro k hk I J D
    obtain ⟨I', e, h1, h2, h3⟩ := ih (k + 1) (by omega) (ups I 34 k (vp_nar .boolean (I 6 k))) J D
    refine ⟨I', ?_, fun p hp => (h1 p hp).trans (uI hp), fun j hj => ?_, fun j hj h5 => ?_⟩
    · rw [e_5_56_30x2, decide_eq_false (show ¬ (50 : Int32) ≤ nI k from nI_ge (a := k) (b := 50) (by omega) (by decide)), cond_false, e_5_62_30x2, inb_n (by omega) (by decide), cond_true, cond_true, nI_clamp (by omega), nI_1]
      exact e
    · rw [h2 j (by omega), uIs, uU (by omega)]
    · by_cases he : j = k
      · subst he
        rw [h2 j (by omega), uIs, uUs]
      · rw [h3 j (by omega) h5, uI (by decide)]
theorem cp_29x1 (I : Nat → Nat → Int32) (J : Nat → Nat → Int64) (D : Nat → Nat → UInt64) : ∃ I', ex (47, 0, [.ref 29, .ref 1], [], mm I J D) = some (.inl none, mm I' J D) ∧ CpOK 29 1 I I' := by
  rw [e_47_0_29x1, e_5_0_30x2]
  generalize hI1 : (upR (upR (upR I 31 _) 32 _) 33 _ : Nat → Nat → Int32) = I1
  obtain ⟨I2, e2, f1, -, f2⟩ := cpl_29x1 50 0 rfl I1 J D
  rw [show (.int 0 : Value) = .int (nI 0) from rfl, e2, e_5_80_30x2, cal_v]
  simp only [Option.toList_none, List.nil_append]
  rw [e_47_11_29x1, e_53_0_36x8, cal_v]
  simp only [Option.toList_none, List.nil_append]
  rw [e_47_22_29x1, e_62_0_38x10, cal_v]
  simp only [Option.toList_none, List.nil_append]
  rw [e_47_33_29x1, e_62_0_43x15, cal_v]
  simp only [Option.toList_none, List.nil_append]
  rw [e_47_44_29x1, e_77_0_48x20, cal_v]
  simp only [Option.toList_none, List.nil_append]
  rw [e_47_55_29x1, e_33_0_52x24, cal_v]
  simp only [Option.toList_none, List.nil_append]
  rw [e_47_66_29x1]
  refine ⟨_, rfl, ?_⟩
  subst hI1
  have f3 : ∀ j, j < 50 → I2 34 j = vp_nar .boolean (I 6 j) := fun j hj => by
    rw [f2 j (Nat.zero_le _) hj]
    simp (disch := omega) only [uR]
  refine ⟨fun p hp => ?_, ?_, ?_, fun k hk => ?_, ⟨?_, fun k hk => ?_⟩, ⟨?_, fun k hk => ?_⟩, ⟨?_, fun k hk => ?_⟩, ⟨fun k hk => ?_, fun k hk => ?_⟩, ?_, fun k hk => ?_⟩
  all_goals (try simp (disch := omega) only [uR, uRs, uI, uIs, uU, uUs, uC, f1, f3, Nat.reduceAdd, and_self])

theorem cpl_1x29 : ∀ (r k : Nat), k + r = 50 → ∀ (I : Nat → Nat → Int32) (J : Nat → Nat → Int64) (D : Nat → Nat → UInt64), ∃ I', ex (5, 56, [.ref 2, .ref 30, .int (nI k)], [], mm I J D) = ex (5, 80, [.ref 2, .ref 30, dv], [], mm I' J D) ∧ (∀ p, p ≠ 6 → I' p = I p) ∧ (∀ j, j < k → I' 6 j = I 6 j) ∧ ∀ j, k ≤ j → j < 50 → I' 6 j = vp_nar .boolean (I 34 j) := by
  intro r
  induction r with
  | zero =>
    intro k hk I J D
    refine ⟨I, ?_, fun _ _ => rfl, fun _ _ => rfl, fun j h1 h2 => by omega⟩
    rw [e_5_56_2x30, show k = 50 by omega]
    rfl
  | succ r ih =>
    intro k hk I J D
    obtain ⟨I', e, h1, h2, h3⟩ := ih (k + 1) (by omega) (ups I 6 k (vp_nar .boolean (I 34 k))) J D
    refine ⟨I', ?_, fun p hp => (h1 p hp).trans (uI hp), fun j hj => ?_, fun j hj h5 => ?_⟩
    · rw [e_5_56_2x30, decide_eq_false (show ¬ (50 : Int32) ≤ nI k from nI_ge (a := k) (b := 50) (by omega) (by decide)), cond_false, e_5_62_2x30, inb_n (by omega) (by decide), cond_true, cond_true, nI_clamp (by omega), nI_1]
      exact e
    · rw [h2 j (by omega), uIs, uU (by omega)]
    · by_cases he : j = k
      · subst he
        rw [h2 j (by omega), uIs, uUs]
      · rw [h3 j (by omega) h5, uI (by decide)]
theorem cp_1x29 (I : Nat → Nat → Int32) (J : Nat → Nat → Int64) (D : Nat → Nat → UInt64) : ∃ I', ex (47, 0, [.ref 1, .ref 29], [], mm I J D) = some (.inl none, mm I' J D) ∧ CpOK 1 29 I I' := by
  rw [e_47_0_1x29, e_5_0_2x30]
  generalize hI1 : (upR (upR (upR I 3 _) 4 _) 5 _ : Nat → Nat → Int32) = I1
  obtain ⟨I2, e2, f1, -, f2⟩ := cpl_1x29 50 0 rfl I1 J D
  rw [show (.int 0 : Value) = .int (nI 0) from rfl, e2, e_5_80_2x30, cal_v]
  simp only [Option.toList_none, List.nil_append]
  rw [e_47_11_1x29, e_53_0_8x36, cal_v]
  simp only [Option.toList_none, List.nil_append]
  rw [e_47_22_1x29, e_62_0_10x38, cal_v]
  simp only [Option.toList_none, List.nil_append]
  rw [e_47_33_1x29, e_62_0_15x43, cal_v]
  simp only [Option.toList_none, List.nil_append]
  rw [e_47_44_1x29, e_77_0_20x48, cal_v]
  simp only [Option.toList_none, List.nil_append]
  rw [e_47_55_1x29, e_33_0_24x52, cal_v]
  simp only [Option.toList_none, List.nil_append]
  rw [e_47_66_1x29]
  refine ⟨_, rfl, ?_⟩
  subst hI1
  have f3 : ∀ j, j < 50 → I2 6 j = vp_nar .boolean (I 34 j) := fun j hj => by
    rw [f2 j (Nat.zero_le _) hj]
    simp (disch := omega) only [uR]
  refine ⟨fun p hp => ?_, ?_, ?_, fun k hk => ?_, ⟨?_, fun k hk => ?_⟩, ⟨?_, fun k hk => ?_⟩, ⟨?_, fun k hk => ?_⟩, ⟨fun k hk => ?_, fun k hk => ?_⟩, ?_, fun k hk => ?_⟩
  all_goals (try simp (disch := omega) only [uR, uRs, uI, uIs, uU, uUs, uC, f1, f3, Nat.reduceAdd, and_self])

theorem cpl_56x1 : ∀ (r k : Nat), k + r = 50 → ∀ (I : Nat → Nat → Int32) (J : Nat → Nat → Int64) (D : Nat → Nat → UInt64), ∃ I', ex (5, 56, [.ref 57, .ref 2, .int (nI k)], [], mm I J D) = ex (5, 80, [.ref 57, .ref 2, dv], [], mm I' J D) ∧ (∀ p, p ≠ 61 → I' p = I p) ∧ (∀ j, j < k → I' 61 j = I 61 j) ∧ ∀ j, k ≤ j → j < 50 → I' 61 j = vp_nar .boolean (I 6 j) := by
  intro r
  induction r with
  | zero =>
    intro k hk I J D
    refine ⟨I, ?_, fun _ _ => rfl, fun _ _ => rfl, fun j h1 h2 => by omega⟩
    rw [e_5_56_57x2, show k = 50 by omega]
    rfl
  | succ r ih =>
    intro k hk I J D
    obtain ⟨I', e, h1, h2, h3⟩ := ih (k + 1) (by omega) (ups I 61 k (vp_nar .boolean (I 6 k))) J D
    refine ⟨I', ?_, fun p hp => (h1 p hp).trans (uI hp), fun j hj => ?_, fun j hj h5 => ?_⟩
    · rw [e_5_56_57x2, decide_eq_false (show ¬ (50 : Int32) ≤ nI k from nI_ge (a := k) (b := 50) (by omega) (by decide)), cond_false, e_5_62_57x2, inb_n (by omega) (by decide), cond_true, cond_true, nI_clamp (by omega), nI_1]
      exact e
    · rw [h2 j (by omega), uIs, uU (by omega)]
    · by_cases he : j = k
      · subst he
        rw [h2 j (by omega), uIs, uUs]
      · rw [h3 j (by omega) h5, uI (by decide)]
theorem cp_56x1 (I : Nat → Nat → Int32) (J : Nat → Nat → Int64) (D : Nat → Nat → UInt64) : ∃ I', ex (47, 0, [.ref 56, .ref 1], [], mm I J D) = some (.inl none, mm I' J D) ∧ CpOK 56 1 I I' := by
  rw [e_47_0_56x1, e_5_0_57x2]
  generalize hI1 : (upR (upR (upR I 58 _) 59 _) 60 _ : Nat → Nat → Int32) = I1
  obtain ⟨I2, e2, f1, -, f2⟩ := cpl_56x1 50 0 rfl I1 J D
  rw [show (.int 0 : Value) = .int (nI 0) from rfl, e2, e_5_80_57x2, cal_v]
  simp only [Option.toList_none, List.nil_append]
  rw [e_47_11_56x1, e_53_0_63x8, cal_v]
  simp only [Option.toList_none, List.nil_append]
  rw [e_47_22_56x1, e_62_0_65x10, cal_v]
  simp only [Option.toList_none, List.nil_append]
  rw [e_47_33_56x1, e_62_0_70x15, cal_v]
  simp only [Option.toList_none, List.nil_append]
  rw [e_47_44_56x1, e_77_0_75x20, cal_v]
  simp only [Option.toList_none, List.nil_append]
  rw [e_47_55_56x1, e_33_0_79x24, cal_v]
  simp only [Option.toList_none, List.nil_append]
  rw [e_47_66_56x1]
  refine ⟨_, rfl, ?_⟩
  subst hI1
  have f3 : ∀ j, j < 50 → I2 61 j = vp_nar .boolean (I 6 j) := fun j hj => by
    rw [f2 j (Nat.zero_le _) hj]
    simp (disch := omega) only [uR]
  refine ⟨fun p hp => ?_, ?_, ?_, fun k hk => ?_, ⟨?_, fun k hk => ?_⟩, ⟨?_, fun k hk => ?_⟩, ⟨?_, fun k hk => ?_⟩, ⟨fun k hk => ?_, fun k hk => ?_⟩, ?_, fun k hk => ?_⟩
  all_goals (try simp (disch := omega) only [uR, uRs, uI, uIs, uU, uUs, uC, f1, f3, Nat.reduceAdd, and_self])

theorem cpl_1x56 : ∀ (r k : Nat), k + r = 50 → ∀ (I : Nat → Nat → Int32) (J : Nat → Nat → Int64) (D : Nat → Nat → UInt64), ∃ I', ex (5, 56, [.ref 2, .ref 57, .int (nI k)], [], mm I J D) = ex (5, 80, [.ref 2, .ref 57, dv], [], mm I' J D) ∧ (∀ p, p ≠ 6 → I' p = I p) ∧ (∀ j, j < k → I' 6 j = I 6 j) ∧ ∀ j, k ≤ j → j < 50 → I' 6 j = vp_nar .boolean (I 61 j) := by
  intro r
  induction r with
  | zero =>
    intro k hk I J D
    refine ⟨I, ?_, fun _ _ => rfl, fun _ _ => rfl, fun j h1 h2 => by omega⟩
    rw [e_5_56_2x57, show k = 50 by omega]
    rfl
  | succ r ih =>
    intro k hk I J D
    obtain ⟨I', e, h1, h2, h3⟩ := ih (k + 1) (by omega) (ups I 6 k (vp_nar .boolean (I 61 k))) J D
    refine ⟨I', ?_, fun p hp => (h1 p hp).trans (uI hp), fun j hj => ?_, fun j hj h5 => ?_⟩
    · rw [e_5_56_2x57, decide_eq_false (show ¬ (50 : Int32) ≤ nI k from nI_ge (a := k) (b := 50) (by omega) (by decide)), cond_false, e_5_62_2x57, inb_n (by omega) (by decide), cond_true, cond_true, nI_clamp (by omega), nI_1]
      exact e
    · rw [h2 j (by omega), uIs, uU (by omega)]
    · by_cases he : j = k
      · subst he
        rw [h2 j (by omega), uIs, uUs]
      · rw [h3 j (by omega) h5, uI (by decide)]
theorem cp_1x56 (I : Nat → Nat → Int32) (J : Nat → Nat → Int64) (D : Nat → Nat → UInt64) : ∃ I', ex (47, 0, [.ref 1, .ref 56], [], mm I J D) = some (.inl none, mm I' J D) ∧ CpOK 1 56 I I' := by
  rw [e_47_0_1x56, e_5_0_2x57]
  generalize hI1 : (upR (upR (upR I 3 _) 4 _) 5 _ : Nat → Nat → Int32) = I1
  obtain ⟨I2, e2, f1, -, f2⟩ := cpl_1x56 50 0 rfl I1 J D
  rw [show (.int 0 : Value) = .int (nI 0) from rfl, e2, e_5_80_2x57, cal_v]
  simp only [Option.toList_none, List.nil_append]
  rw [e_47_11_1x56, e_53_0_8x63, cal_v]
  simp only [Option.toList_none, List.nil_append]
  rw [e_47_22_1x56, e_62_0_10x65, cal_v]
  simp only [Option.toList_none, List.nil_append]
  rw [e_47_33_1x56, e_62_0_15x70, cal_v]
  simp only [Option.toList_none, List.nil_append]
  rw [e_47_44_1x56, e_77_0_20x75, cal_v]
  simp only [Option.toList_none, List.nil_append]
  rw [e_47_55_1x56, e_33_0_24x79, cal_v]
  simp only [Option.toList_none, List.nil_append]
  rw [e_47_66_1x56]
  refine ⟨_, rfl, ?_⟩
  subst hI1
  have f3 : ∀ j, j < 50 → I2 6 j = vp_nar .boolean (I 61 j) := fun j hj => by
    rw [f2 j (Nat.zero_le _) hj]
    simp (disch := omega) only [uR]
  refine ⟨fun p hp => ?_, ?_, ?_, fun k hk => ?_, ⟨?_, fun k hk => ?_⟩, ⟨?_, fun k hk => ?_⟩, ⟨?_, fun k hk => ?_⟩, ⟨fun k hk => ?_, fun k hk => ?_⟩, ?_, fun k hk => ?_⟩
  all_goals (try simp (disch := omega) only [uR, uRs, uI, uIs, uU, uUs, uC, f1, f3, Nat.reduceAdd, and_self])

theorem cpl_83x1 : ∀ (r k : Nat), k + r = 50 → ∀ (I : Nat → Nat → Int32) (J : Nat → Nat → Int64) (D : Nat → Nat → UInt64), ∃ I', ex (5, 56, [.ref 84, .ref 2, .int (nI k)], [], mm I J D) = ex (5, 80, [.ref 84, .ref 2, dv], [], mm I' J D) ∧ (∀ p, p ≠ 88 → I' p = I p) ∧ (∀ j, j < k → I' 88 j = I 88 j) ∧ ∀ j, k ≤ j → j < 50 → I' 88 j = vp_nar .boolean (I 6 j) := by
  intro r
  induction r with
  | zero =>
    intro k hk I J D
    refine ⟨I, ?_, fun _ _ => rfl, fun _ _ => rfl, fun j h1 h2 => by omega⟩
    rw [e_5_56_84x2, show k = 50 by omega]
    rfl
  | succ r ih =>
    intro k hk I J D
    obtain ⟨I', e, h1, h2, h3⟩ := ih (k + 1) (by omega) (ups I 88 k (vp_nar .boolean (I 6 k))) J D
    refine ⟨I', ?_, fun p hp => (h1 p hp).trans (uI hp), fun j hj => ?_, fun j hj h5 => ?_⟩
    · rw [e_5_56_84x2, decide_eq_false (show ¬ (50 : Int32) ≤ nI k from nI_ge (a := k) (b := 50) (by omega) (by decide)), cond_false, e_5_62_84x2, inb_n (by omega) (by decide), cond_true, cond_true, nI_clamp (by omega), nI_1]
      exact e
    · rw [h2 j (by omega), uIs, uU (by omega)]
    · by_cases he : j = k
      · subst he
        rw [h2 j (by omega), uIs, uUs]
      · rw [h3 j (by omega) h5, uI (by decide)]
theorem cp_83x1 (I : Nat → Nat → Int32) (J : Nat → Nat → Int64) (D : Nat → Nat → UInt64) : ∃ I', ex (47, 0, [.ref 83, .ref 1], [], mm I J D) = some (.inl none, mm I' J D) ∧ CpOK 83 1 I I' := by
  rw [e_47_0_83x1, e_5_0_84x2]
  generalize hI1 : (upR (upR (upR I 85 _) 86 _) 87 _ : Nat → Nat → Int32) = I1
  obtain ⟨I2, e2, f1, -, f2⟩ := cpl_83x1 50 0 rfl I1 J D
  rw [show (.int 0 : Value) = .int (nI 0) from rfl, e2, e_5_80_84x2, cal_v]
  simp only [Option.toList_none, List.nil_append]
  rw [e_47_11_83x1, e_53_0_90x8, cal_v]
  simp only [Option.toList_none, List.nil_append]
  rw [e_47_22_83x1, e_62_0_92x10, cal_v]
  simp only [Option.toList_none, List.nil_append]
  rw [e_47_33_83x1, e_62_0_97x15, cal_v]
  simp only [Option.toList_none, List.nil_append]
  rw [e_47_44_83x1, e_77_0_102x20, cal_v]
  simp only [Option.toList_none, List.nil_append]
  rw [e_47_55_83x1, e_33_0_106x24, cal_v]
  simp only [Option.toList_none, List.nil_append]
  rw [e_47_66_83x1]
  refine ⟨_, rfl, ?_⟩
  subst hI1
  have f3 : ∀ j, j < 50 → I2 88 j = vp_nar .boolean (I 6 j) := fun j hj => by
    rw [f2 j (Nat.zero_le _) hj]
    simp (disch := omega) only [uR]
  refine ⟨fun p hp => ?_, ?_, ?_, fun k hk => ?_, ⟨?_, fun k hk => ?_⟩, ⟨?_, fun k hk => ?_⟩, ⟨?_, fun k hk => ?_⟩, ⟨fun k hk => ?_, fun k hk => ?_⟩, ?_, fun k hk => ?_⟩
  all_goals (try simp (disch := omega) only [uR, uRs, uI, uIs, uU, uUs, uC, f1, f3, Nat.reduceAdd, and_self])

theorem cpl_1x83 : ∀ (r k : Nat), k + r = 50 → ∀ (I : Nat → Nat → Int32) (J : Nat → Nat → Int64) (D : Nat → Nat → UInt64), ∃ I', ex (5, 56, [.ref 2, .ref 84, .int (nI k)], [], mm I J D) = ex (5, 80, [.ref 2, .ref 84, dv], [], mm I' J D) ∧ (∀ p, p ≠ 6 → I' p = I p) ∧ (∀ j, j < k → I' 6 j = I 6 j) ∧ ∀ j, k ≤ j → j < 50 → I' 6 j = vp_nar .boolean (I 88 j) := by
  intro r
  induction r with
  | zero =>
    intro k hk I J D
    refine ⟨I, ?_, fun _ _ => rfl, fun _ _ => rfl, fun j h1 h2 => by omega⟩
    rw [e_5_56_2x84, show k = 50 by omega]
    rfl
  | succ r ih =>
    intro k hk I J D
    obtain ⟨I', e, h1, h2, h3⟩ := ih (k + 1) (by omega) (ups I 6 k (vp_nar .boolean (I 88 k))) J D
    refine ⟨I', ?_, fun p hp => (h1 p hp).trans (uI hp), fun j hj => ?_, fun j hj h5 => ?_⟩
    · rw [e_5_56_2x84, decide_eq_false (show ¬ (50 : Int32) ≤ nI k from nI_ge (a := k) (b := 50) (by omega) (by decide)), cond_false, e_5_62_2x84, inb_n (by omega) (by decide), cond_true, cond_true, nI_clamp (by omega), nI_1]
      exact e
    · rw [h2 j (by omega), uIs, uU (by omega)]
    · by_cases he : j = k
      · subst he
        rw [h2 j (by omega), uIs, uUs]
      · rw [h3 j (by omega) h5, uI (by decide)]
theorem cp_1x83 (I : Nat → Nat → Int32) (J : Nat → Nat → Int64) (D : Nat → Nat → UInt64) : ∃ I', ex (47, 0, [.ref 1, .ref 83], [], mm I J D) = some (.inl none, mm I' J D) ∧ CpOK 1 83 I I' := by
  rw [e_47_0_1x83, e_5_0_2x84]
  generalize hI1 : (upR (upR (upR I 3 _) 4 _) 5 _ : Nat → Nat → Int32) = I1
  obtain ⟨I2, e2, f1, -, f2⟩ := cpl_1x83 50 0 rfl I1 J D
  rw [show (.int 0 : Value) = .int (nI 0) from rfl, e2, e_5_80_2x84, cal_v]
  simp only [Option.toList_none, List.nil_append]
  rw [e_47_11_1x83, e_53_0_8x90, cal_v]
  simp only [Option.toList_none, List.nil_append]
  rw [e_47_22_1x83, e_62_0_10x92, cal_v]
  simp only [Option.toList_none, List.nil_append]
  rw [e_47_33_1x83, e_62_0_15x97, cal_v]
  simp only [Option.toList_none, List.nil_append]
  rw [e_47_44_1x83, e_77_0_20x102, cal_v]
  simp only [Option.toList_none, List.nil_append]
  rw [e_47_55_1x83, e_33_0_24x106, cal_v]
  simp only [Option.toList_none, List.nil_append]
  rw [e_47_66_1x83]
  refine ⟨_, rfl, ?_⟩
  subst hI1
  have f3 : ∀ j, j < 50 → I2 6 j = vp_nar .boolean (I 88 j) := fun j hj => by
    rw [f2 j (Nat.zero_le _) hj]
    simp (disch := omega) only [uR]
  refine ⟨fun p hp => ?_, ?_, ?_, fun k hk => ?_, ⟨?_, fun k hk => ?_⟩, ⟨?_, fun k hk => ?_⟩, ⟨?_, fun k hk => ?_⟩, ⟨fun k hk => ?_, fun k hk => ?_⟩, ?_, fun k hk => ?_⟩
  all_goals (try simp (disch := omega) only [uR, uRs, uI, uIs, uU, uUs, uC, f1, f3, Nat.reduceAdd, and_self])

theorem cpl_110x1 : ∀ (r k : Nat), k + r = 50 → ∀ (I : Nat → Nat → Int32) (J : Nat → Nat → Int64) (D : Nat → Nat → UInt64), ∃ I', ex (5, 56, [.ref 111, .ref 2, .int (nI k)], [], mm I J D) = ex (5, 80, [.ref 111, .ref 2, dv], [], mm I' J D) ∧ (∀ p, p ≠ 115 → I' p = I p) ∧ (∀ j, j < k → I' 115 j = I 115 j) ∧ ∀ j, k ≤ j → j < 50 → I' 115 j = vp_nar .boolean (I 6 j) := by
  intro r
  induction r with
  | zero =>
    intro k hk I J D
    refine ⟨I, ?_, fun _ _ => rfl, fun _ _ => rfl, fun j h1 h2 => by omega⟩
    rw [e_5_56_111x2, show k = 50 by omega]
    rfl
  | succ r ih =>
    intro k hk I J D
    obtain ⟨I', e, h1, h2, h3⟩ := ih (k + 1) (by omega) (ups I 115 k (vp_nar .boolean (I 6 k))) J D
    refine ⟨I', ?_, fun p hp => (h1 p hp).trans (uI hp), fun j hj => ?_, fun j hj h5 => ?_⟩
    · rw [e_5_56_111x2, decide_eq_false (show ¬ (50 : Int32) ≤ nI k from nI_ge (a := k) (b := 50) (by omega) (by decide)), cond_false, e_5_62_111x2, inb_n (by omega) (by decide), cond_true, cond_true, nI_clamp (by omega), nI_1]
      exact e
    · rw [h2 j (by omega), uIs, uU (by omega)]
    · by_cases he : j = k
      · subst he
        rw [h2 j (by omega), uIs, uUs]
      · rw [h3 j (by omega) h5, uI (by decide)]
theorem cp_110x1 (I : Nat → Nat → Int32) (J : Nat → Nat → Int64) (D : Nat → Nat → UInt64) : ∃ I', ex (47, 0, [.ref 110, .ref 1], [], mm I J D) = some (.inl none, mm I' J D) ∧ CpOK 110 1 I I' := by
  rw [e_47_0_110x1, e_5_0_111x2]
  generalize hI1 : (upR (upR (upR I 112 _) 113 _) 114 _ : Nat → Nat → Int32) = I1
  obtain ⟨I2, e2, f1, -, f2⟩ := cpl_110x1 50 0 rfl I1 J D
  rw [show (.int 0 : Value) = .int (nI 0) from rfl, e2, e_5_80_111x2, cal_v]
  simp only [Option.toList_none, List.nil_append]
  rw [e_47_11_110x1, e_53_0_117x8, cal_v]
  simp only [Option.toList_none, List.nil_append]
  rw [e_47_22_110x1, e_62_0_119x10, cal_v]
  simp only [Option.toList_none, List.nil_append]
  rw [e_47_33_110x1, e_62_0_124x15, cal_v]
  simp only [Option.toList_none, List.nil_append]
  rw [e_47_44_110x1, e_77_0_129x20, cal_v]
  simp only [Option.toList_none, List.nil_append]
  rw [e_47_55_110x1, e_33_0_133x24, cal_v]
  simp only [Option.toList_none, List.nil_append]
  rw [e_47_66_110x1]
  refine ⟨_, rfl, ?_⟩
  subst hI1
  have f3 : ∀ j, j < 50 → I2 115 j = vp_nar .boolean (I 6 j) := fun j hj => by
    rw [f2 j (Nat.zero_le _) hj]
    simp (disch := omega) only [uR]
  refine ⟨fun p hp => ?_, ?_, ?_, fun k hk => ?_, ⟨?_, fun k hk => ?_⟩, ⟨?_, fun k hk => ?_⟩, ⟨?_, fun k hk => ?_⟩, ⟨fun k hk => ?_, fun k hk => ?_⟩, ?_, fun k hk => ?_⟩
  all_goals (try simp (disch := omega) only [uR, uRs, uI, uIs, uU, uUs, uC, f1, f3, Nat.reduceAdd, and_self])

theorem cpl_1x110 : ∀ (r k : Nat), k + r = 50 → ∀ (I : Nat → Nat → Int32) (J : Nat → Nat → Int64) (D : Nat → Nat → UInt64), ∃ I', ex (5, 56, [.ref 2, .ref 111, .int (nI k)], [], mm I J D) = ex (5, 80, [.ref 2, .ref 111, dv], [], mm I' J D) ∧ (∀ p, p ≠ 6 → I' p = I p) ∧ (∀ j, j < k → I' 6 j = I 6 j) ∧ ∀ j, k ≤ j → j < 50 → I' 6 j = vp_nar .boolean (I 115 j) := by
  intro r
  induction r with
  | zero =>
    intro k hk I J D
    refine ⟨I, ?_, fun _ _ => rfl, fun _ _ => rfl, fun j h1 h2 => by omega⟩
    rw [e_5_56_2x111, show k = 50 by omega]
    rfl
  | succ r ih =>
    intro k hk I J D
    obtain ⟨I', e, h1, h2, h3⟩ := ih (k + 1) (by omega) (ups I 6 k (vp_nar .boolean (I 115 k))) J D
    refine ⟨I', ?_, fun p hp => (h1 p hp).trans (uI hp), fun j hj => ?_, fun j hj h5 => ?_⟩
    · rw [e_5_56_2x111, decide_eq_false (show ¬ (50 : Int32) ≤ nI k from nI_ge (a := k) (b := 50) (by omega) (by decide)), cond_false, e_5_62_2x111, inb_n (by omega) (by decide), cond_true, cond_true, nI_clamp (by omega), nI_1]
      exact e
    · rw [h2 j (by omega), uIs, uU (by omega)]
    · by_cases he : j = k
      · subst he
        rw [h2 j (by omega), uIs, uUs]
      · rw [h3 j (by omega) h5, uI (by decide)]
theorem cp_1x110 (I : Nat → Nat → Int32) (J : Nat → Nat → Int64) (D : Nat → Nat → UInt64) : ∃ I', ex (47, 0, [.ref 1, .ref 110], [], mm I J D) = some (.inl none, mm I' J D) ∧ CpOK 1 110 I I' := by
  rw [e_47_0_1x110, e_5_0_2x111]
  generalize hI1 : (upR (upR (upR I 3 _) 4 _) 5 _ : Nat → Nat → Int32) = I1
  obtain ⟨I2, e2, f1, -, f2⟩ := cpl_1x110 50 0 rfl I1 J D
  rw [show (.int 0 : Value) = .int (nI 0) from rfl, e2, e_5_80_2x111, cal_v]
  simp only [Option.toList_none, List.nil_append]
  rw [e_47_11_1x110, e_53_0_8x117, cal_v]
  simp only [Option.toList_none, List.nil_append]
  rw [e_47_22_1x110, e_62_0_10x119, cal_v]
  simp only [Option.toList_none, List.nil_append]
  rw [e_47_33_1x110, e_62_0_15x124, cal_v]
  simp only [Option.toList_none, List.nil_append]
  rw [e_47_44_1x110, e_77_0_20x129, cal_v]
  simp only [Option.toList_none, List.nil_append]
  rw [e_47_55_1x110, e_33_0_24x133, cal_v]
  simp only [Option.toList_none, List.nil_append]
  rw [e_47_66_1x110]
  refine ⟨_, rfl, ?_⟩
  subst hI1
  have f3 : ∀ j, j < 50 → I2 6 j = vp_nar .boolean (I 115 j) := fun j hj => by
    rw [f2 j (Nat.zero_le _) hj]
    simp (disch := omega) only [uR]
  refine ⟨fun p hp => ?_, ?_, ?_, fun k hk => ?_, ⟨?_, fun k hk => ?_⟩, ⟨?_, fun k hk => ?_⟩, ⟨?_, fun k hk => ?_⟩, ⟨fun k hk => ?_, fun k hk => ?_⟩, ?_, fun k hk => ?_⟩
  all_goals (try simp (disch := omega) only [uR, uRs, uI, uIs, uU, uUs, uC, f1, f3, Nat.reduceAdd, and_self])

theorem cpl_137x1 : ∀ (r k : Nat), k + r = 50 → ∀ (I : Nat → Nat → Int32) (J : Nat → Nat → Int64) (D : Nat → Nat → UInt64), ∃ I', ex (5, 56, [.ref 138, .ref 2, .int (nI k)], [], mm I J D) = ex (5, 80, [.ref 138, .ref 2, dv], [], mm I' J D) ∧ (∀ p, p ≠ 142 → I' p = I p) ∧ (∀ j, j < k → I' 142 j = I 142 j) ∧ ∀ j, k ≤ j → j < 50 → I' 142 j = vp_nar .boolean (I 6 j) := by
  intro r
  induction r with
  | zero =>
    intro k hk I J D
    refine ⟨I, ?_, fun _ _ => rfl, fun _ _ => rfl, fun j h1 h2 => by omega⟩
    rw [e_5_56_138x2, show k = 50 by omega]
    rfl
  | succ r ih =>
    intro k hk I J D
    obtain ⟨I', e, h1, h2, h3⟩ := ih (k + 1) (by omega) (ups I 142 k (vp_nar .boolean (I 6 k))) J D
    refine ⟨I', ?_, fun p hp => (h1 p hp).trans (uI hp), fun j hj => ?_, fun j hj h5 => ?_⟩
    · rw [e_5_56_138x2, decide_eq_false (show ¬ (50 : Int32) ≤ nI k from nI_ge (a := k) (b := 50) (by omega) (by decide)), cond_false, e_5_62_138x2, inb_n (by omega) (by decide), cond_true, cond_true, nI_clamp (by omega), nI_1]
      exact e
    · rw [h2 j (by omega), uIs, uU (by omega)]
    · by_cases he : j = k
      · subst he
        rw [h2 j (by omega), uIs, uUs]
      · rw [h3 j (by omega) h5, uI (by decide)]
theorem cp_137x1 (I : Nat → Nat → Int32) (J : Nat → Nat → Int64) (D : Nat → Nat → UInt64) : ∃ I', ex (47, 0, [.ref 137, .ref 1], [], mm I J D) = some (.inl none, mm I' J D) ∧ CpOK 137 1 I I' := by
  rw [e_47_0_137x1, e_5_0_138x2]
  generalize hI1 : (upR (upR (upR I 139 _) 140 _) 141 _ : Nat → Nat → Int32) = I1
  obtain ⟨I2, e2, f1, -, f2⟩ := cpl_137x1 50 0 rfl I1 J D
  rw [show (.int 0 : Value) = .int (nI 0) from rfl, e2, e_5_80_138x2, cal_v]
  simp only [Option.toList_none, List.nil_append]
  rw [e_47_11_137x1, e_53_0_144x8, cal_v]
  simp only [Option.toList_none, List.nil_append]
  rw [e_47_22_137x1, e_62_0_146x10, cal_v]
  simp only [Option.toList_none, List.nil_append]
  rw [e_47_33_137x1, e_62_0_151x15, cal_v]
  simp only [Option.toList_none, List.nil_append]
  rw [e_47_44_137x1, e_77_0_156x20, cal_v]
  simp only [Option.toList_none, List.nil_append]
  rw [e_47_55_137x1, e_33_0_160x24, cal_v]
  simp only [Option.toList_none, List.nil_append]
  rw [e_47_66_137x1]
  refine ⟨_, rfl, ?_⟩
  subst hI1
  have f3 : ∀ j, j < 50 → I2 142 j = vp_nar .boolean (I 6 j) := fun j hj => by
    rw [f2 j (Nat.zero_le _) hj]
    simp (disch := omega) only [uR]
  refine ⟨fun p hp => ?_, ?_, ?_, fun k hk => ?_, ⟨?_, fun k hk => ?_⟩, ⟨?_, fun k hk => ?_⟩, ⟨?_, fun k hk => ?_⟩, ⟨fun k hk => ?_, fun k hk => ?_⟩, ?_, fun k hk => ?_⟩
  all_goals (try simp (disch := omega) only [uR, uRs, uI, uIs, uU, uUs, uC, f1, f3, Nat.reduceAdd, and_self])

theorem cpl_1x137 : ∀ (r k : Nat), k + r = 50 → ∀ (I : Nat → Nat → Int32) (J : Nat → Nat → Int64) (D : Nat → Nat → UInt64), ∃ I', ex (5, 56, [.ref 2, .ref 138, .int (nI k)], [], mm I J D) = ex (5, 80, [.ref 2, .ref 138, dv], [], mm I' J D) ∧ (∀ p, p ≠ 6 → I' p = I p) ∧ (∀ j, j < k → I' 6 j = I 6 j) ∧ ∀ j, k ≤ j → j < 50 → I' 6 j = vp_nar .boolean (I 142 j) := by
  intro r
  induction r with
  | zero =>
    intro k hk I J D
    refine ⟨I, ?_, fun _ _ => rfl, fun _ _ => rfl, fun j h1 h2 => by omega⟩
    rw [e_5_56_2x138, show k = 50 by omega]
    rfl
  | succ r ih =>
    intro k hk I J D
    obtain ⟨I', e, h1, h2, h3⟩ := ih (k + 1) (by omega) (ups I 6 k (vp_nar .boolean (I 142 k))) J D
    refine ⟨I', ?_, fun p hp => (h1 p hp).trans (uI hp), fun j hj => ?_, fun j hj h5 => ?_⟩
    · rw [e_5_56_2x138, decide_eq_false (show ¬ (50 : Int32) ≤ nI k from nI_ge (a := k) (b := 50) (by omega) (by decide)), cond_false, e_5_62_2x138, inb_n (by omega) (by decide), cond_true, cond_true, nI_clamp (by omega), nI_1]
      exact e
    · rw [h2 j (by omega), uIs, uU (by omega)]
    · by_cases he : j = k
      · subst he
        rw [h2 j (by omega), uIs, uUs]
      · rw [h3 j (by omega) h5, uI (by decide)]
theorem cp_1x137 (I : Nat → Nat → Int32) (J : Nat → Nat → Int64) (D : Nat → Nat → UInt64) : ∃ I', ex (47, 0, [.ref 1, .ref 137], [], mm I J D) = some (.inl none, mm I' J D) ∧ CpOK 1 137 I I' := by
  rw [e_47_0_1x137, e_5_0_2x138]
  generalize hI1 : (upR (upR (upR I 3 _) 4 _) 5 _ : Nat → Nat → Int32) = I1
  obtain ⟨I2, e2, f1, -, f2⟩ := cpl_1x137 50 0 rfl I1 J D
  rw [show (.int 0 : Value) = .int (nI 0) from rfl, e2, e_5_80_2x138, cal_v]
  simp only [Option.toList_none, List.nil_append]
  rw [e_47_11_1x137, e_53_0_8x144, cal_v]
  simp only [Option.toList_none, List.nil_append]
  rw [e_47_22_1x137, e_62_0_10x146, cal_v]
  simp only [Option.toList_none, List.nil_append]
  rw [e_47_33_1x137, e_62_0_15x151, cal_v]
  simp only [Option.toList_none, List.nil_append]
  rw [e_47_44_1x137, e_77_0_20x156, cal_v]
  simp only [Option.toList_none, List.nil_append]
  rw [e_47_55_1x137, e_33_0_24x160, cal_v]
  simp only [Option.toList_none, List.nil_append]
  rw [e_47_66_1x137]
  refine ⟨_, rfl, ?_⟩
  subst hI1
  have f3 : ∀ j, j < 50 → I2 6 j = vp_nar .boolean (I 142 j) := fun j hj => by
    rw [f2 j (Nat.zero_le _) hj]
    simp (disch := omega) only [uR]
  refine ⟨fun p hp => ?_, ?_, ?_, fun k hk => ?_, ⟨?_, fun k hk => ?_⟩, ⟨?_, fun k hk => ?_⟩, ⟨?_, fun k hk => ?_⟩, ⟨fun k hk => ?_, fun k hk => ?_⟩, ?_, fun k hk => ?_⟩
  all_goals (try simp (disch := omega) only [uR, uRs, uI, uIs, uU, uUs, uC, f1, f3, Nat.reduceAdd, and_self])

theorem cpl_164x1 : ∀ (r k : Nat), k + r = 50 → ∀ (I : Nat → Nat → Int32) (J : Nat → Nat → Int64) (D : Nat → Nat → UInt64), ∃ I', ex (5, 56, [.ref 165, .ref 2, .int (nI k)], [], mm I J D) = ex (5, 80, [.ref 165, .ref 2, dv], [], mm I' J D) ∧ (∀ p, p ≠ 169 → I' p = I p) ∧ (∀ j, j < k → I' 169 j = I 169 j) ∧ ∀ j, k ≤ j → j < 50 → I' 169 j = vp_nar .boolean (I 6 j) := by
  intro r
  induction r with
  | zero =>
    intro k hk I J D
    refine ⟨I, ?_, fun _ _ => rfl, fun _ _ => rfl, fun j h1 h2 => by omega⟩
    rw [e_5_56_165x2, show k = 50 by omega]
    rfl
  | succ r ih =>
    intro k hk I J D
    obtain ⟨I', e, h1, h2, h3⟩ := ih (k + 1) (by omega) (ups I 169 k (vp_nar .boolean (I 6 k))) J D
    refine ⟨I', ?_, fun p hp => (h1 p hp).trans (uI hp), fun j hj => ?_, fun j hj h5 => ?_⟩
    · rw [e_5_56_165x2, decide_eq_false (show ¬ (50 : Int32) ≤ nI k from nI_ge (a := k) (b := 50) (by omega) (by decide)), cond_false, e_5_62_165x2, inb_n (by omega) (by decide), cond_true, cond_true, nI_clamp (by omega), nI_1]
      exact e
    · rw [h2 j (by omega), uIs, uU (by omega)]
    · by_cases he : j = k
      · subst he
        rw [h2 j (by omega), uIs, uUs]
      · rw [h3 j (by omega) h5, uI (by decide)]
theorem cp_164x1 (I : Nat → Nat → Int32) (J : Nat → Nat → Int64) (D : Nat → Nat → UInt64) : ∃ I', ex (47, 0, [.ref 164, .ref 1], [], mm I J D) = some (.inl none, mm I' J D) ∧ CpOK 164 1 I I' := by
  rw [e_47_0_164x1, e_5_0_165x2]
  generalize hI1 : (upR (upR (upR I 166 _) 167 _) 168 _ : Nat → Nat → Int32) = I1
  obtain ⟨I2, e2, f1, -, f2⟩ := cpl_164x1 50 0 rfl I1 J D
  rw [show (.int 0 : Value) = .int (nI 0) from rfl, e2, e_5_80_165x2, cal_v]
  simp only [Option.toList_none, List.nil_append]
  rw [e_47_11_164x1, e_53_0_171x8, cal_v]
  simp only [Option.toList_none, List.nil_append]
  rw [e_47_22_164x1, e_62_0_173x10, cal_v]
  simp only [Option.toList_none, List.nil_append]
  rw [e_47_33_164x1, e_62_0_178x15, cal_v]
  simp only [Option.toList_none, List.nil_append]
  rw [e_47_44_164x1, e_77_0_183x20, cal_v]
  simp only [Option.toList_none, List.nil_append]
  rw [e_47_55_164x1, e_33_0_187x24, cal_v]
  simp only [Option.toList_none, List.nil_append]
  rw [e_47_66_164x1]
  refine ⟨_, rfl, ?_⟩
  subst hI1
  have f3 : ∀ j, j < 50 → I2 169 j = vp_nar .boolean (I 6 j) := fun j hj => by
    rw [f2 j (Nat.zero_le _) hj]
    simp (disch := omega) only [uR]
  refine ⟨fun p hp => ?_, ?_, ?_, fun k hk => ?_, ⟨?_, fun k hk => ?_⟩, ⟨?_, fun k hk => ?_⟩, ⟨?_, fun k hk => ?_⟩, ⟨fun k hk => ?_, fun k hk => ?_⟩, ?_, fun k hk => ?_⟩
  all_goals (try simp (disch := omega) only [uR, uRs, uI, uIs, uU, uUs, uC, f1, f3, Nat.reduceAdd, and_self])

theorem cpl_1x164 : ∀ (r k : Nat), k + r = 50 → ∀ (I : Nat → Nat → Int32) (J : Nat → Nat → Int64) (D : Nat → Nat → UInt64), ∃ I', ex (5, 56, [.ref 2, .ref 165, .int (nI k)], [], mm I J D) = ex (5, 80, [.ref 2, .ref 165, dv], [], mm I' J D) ∧ (∀ p, p ≠ 6 → I' p = I p) ∧ (∀ j, j < k → I' 6 j = I 6 j) ∧ ∀ j, k ≤ j → j < 50 → I' 6 j = vp_nar .boolean (I 169 j) := by
  intro r
  induction r with
  | zero =>
    intro k hk I J D
    refine ⟨I, ?_, fun _ _ => rfl, fun _ _ => rfl, fun j h1 h2 => by omega⟩
    rw [e_5_56_2x165, show k = 50 by omega]
    rfl
  | succ r ih =>
    intro k hk I J D
    obtain ⟨I', e, h1, h2, h3⟩ := ih (k + 1) (by omega) (ups I 6 k (vp_nar .boolean (I 169 k))) J D
    refine ⟨I', ?_, fun p hp => (h1 p hp).trans (uI hp), fun j hj => ?_, fun j hj h5 => ?_⟩
    · rw [e_5_56_2x165, decide_eq_false (show ¬ (50 : Int32) ≤ nI k from nI_ge (a := k) (b := 50) (by omega) (by decide)), cond_false, e_5_62_2x165, inb_n (by omega) (by decide), cond_true, cond_true, nI_clamp (by omega), nI_1]
      exact e
    · rw [h2 j (by omega), uIs, uU (by omega)]
    · by_cases he : j = k
      · subst he
        rw [h2 j (by omega), uIs, uUs]
      · rw [h3 j (by omega) h5, uI (by decide)]
theorem cp_1x164 (I : Nat → Nat → Int32) (J : Nat → Nat → Int64) (D : Nat → Nat → UInt64) : ∃ I', ex (47, 0, [.ref 1, .ref 164], [], mm I J D) = some (.inl none, mm I' J D) ∧ CpOK 1 164 I I' := by
  rw [e_47_0_1x164, e_5_0_2x165]
  generalize hI1 : (upR (upR (upR I 3 _) 4 _) 5 _ : Nat → Nat → Int32) = I1
  obtain ⟨I2, e2, f1, -, f2⟩ := cpl_1x164 50 0 rfl I1 J D
  rw [show (.int 0 : Value) = .int (nI 0) from rfl, e2, e_5_80_2x165, cal_v]
  simp only [Option.toList_none, List.nil_append]
  rw [e_47_11_1x164, e_53_0_8x171, cal_v]
  simp only [Option.toList_none, List.nil_append]
  rw [e_47_22_1x164, e_62_0_10x173, cal_v]
  simp only [Option.toList_none, List.nil_append]
  rw [e_47_33_1x164, e_62_0_15x178, cal_v]
  simp only [Option.toList_none, List.nil_append]
  rw [e_47_44_1x164, e_77_0_20x183, cal_v]
  simp only [Option.toList_none, List.nil_append]
  rw [e_47_55_1x164, e_33_0_24x187, cal_v]
  simp only [Option.toList_none, List.nil_append]
  rw [e_47_66_1x164]
  refine ⟨_, rfl, ?_⟩
  subst hI1
  have f3 : ∀ j, j < 50 → I2 6 j = vp_nar .boolean (I 169 j) := fun j hj => by
    rw [f2 j (Nat.zero_le _) hj]
    simp (disch := omega) only [uR]
  refine ⟨fun p hp => ?_, ?_, ?_, fun k hk => ?_, ⟨?_, fun k hk => ?_⟩, ⟨?_, fun k hk => ?_⟩, ⟨?_, fun k hk => ?_⟩, ⟨fun k hk => ?_, fun k hk => ?_⟩, ?_, fun k hk => ?_⟩
  all_goals (try simp (disch := omega) only [uR, uRs, uI, uIs, uU, uUs, uC, f1, f3, Nat.reduceAdd, and_self])

theorem cpl_191x1 : ∀ (r k : Nat), k + r = 50 → ∀ (I : Nat → Nat → Int32) (J : Nat → Nat → Int64) (D : Nat → Nat → UInt64), ∃ I', ex (5, 56, [.ref 192, .ref 2, .int (nI k)], [], mm I J D) = ex (5, 80, [.ref 192, .ref 2, dv], [], mm I' J D) ∧ (∀ p, p ≠ 196 → I' p = I p) ∧ (∀ j, j < k → I' 196 j = I 196 j) ∧ ∀ j, k ≤ j → j < 50 → I' 196 j = vp_nar .boolean (I 6 j) := by
  intro r
  induction r with
  | zero =>
    intro k hk I J D
    refine ⟨I, ?_, fun _ _ => rfl, fun _ _ => rfl, fun j h1 h2 => by omega⟩
    rw [e_5_56_192x2, show k = 50 by omega]
    rfl
  | succ r ih =>
    intro k hk I J D
    obtain ⟨I', e, h1, h2, h3⟩ := ih (k + 1) (by omega) (ups I 196 k (vp_nar .boolean (I 6 k))) J D
    refine ⟨I', ?_, fun p hp => (h1 p hp).trans (uI hp), fun j hj => ?_, fun j hj h5 => ?_⟩
    · rw [e_5_56_192x2, decide_eq_false (show ¬ (50 : Int32) ≤ nI k from nI_ge (a := k) (b := 50) (by omega) (by decide)), cond_false, e_5_62_192x2, inb_n (by omega) (by decide), cond_true, cond_true, nI_clamp (by omega), nI_1]
      exact e
    · rw [h2 j (by omega), uIs, uU (by omega)]
    · by_cases he : j = k
      · subst he
        rw [h2 j (by omega), uIs, uUs]
      · rw [h3 j (by omega) h5, uI (by decide)]
theorem cp_191x1 (I : Nat → Nat → Int32) (J : Nat → Nat → Int64) (D : Nat → Nat → UInt64) : ∃ I', ex (47, 0, [.ref 191, .ref 1], [], mm I J D) = some (.inl none, mm I' J D) ∧ CpOK 191 1 I I' := by
  rw [e_47_0_191x1, e_5_0_192x2]
  generalize hI1 : (upR (upR (upR I 193 _) 194 _) 195 _ : Nat → Nat → Int32) = I1
  obtain ⟨I2, e2, f1, -, f2⟩ := cpl_191x1 50 0 rfl I1 J D
  rw [show (.int 0 : Value) = .int (nI 0) from rfl, e2, e_5_80_192x2, cal_v]
  simp only [Option.toList_none, List.nil_append]
  rw [e_47_11_191x1, e_53_0_198x8, cal_v]
  simp only [Option.toList_none, List.nil_append]
  rw [e_47_22_191x1, e_62_0_200x10, cal_v]
  simp only [Option.toList_none, List.nil_append]
  rw [e_47_33_191x1, e_62_0_205x15, cal_v]
  simp only [Option.toList_none, List.nil_append]
  rw [e_47_44_191x1, e_77_0_210x20, cal_v]
  simp only [Option.toList_none, List.nil_append]
  rw [e_47_55_191x1, e_33_0_214x24, cal_v]
  simp only [Option.toList_none, List.nil_append]
  rw [e_47_66_191x1]
  refine ⟨_, rfl, ?_⟩
  subst hI1
  have f3 : ∀ j, j < 50 → I2 196 j = vp_nar .boolean (I 6 j) := fun j hj => by
    rw [f2 j (Nat.zero_le _) hj]
    simp (disch := omega) only [uR]
  refine ⟨fun p hp => ?_, ?_, ?_, fun k hk => ?_, ⟨?_, fun k hk => ?_⟩, ⟨?_, fun k hk => ?_⟩, ⟨?_, fun k hk => ?_⟩, ⟨fun k hk => ?_, fun k hk => ?_⟩, ?_, fun k hk => ?_⟩
  all_goals (try simp (disch := omega) only [uR, uRs, uI, uIs, uU, uUs, uC, f1, f3, Nat.reduceAdd, and_self])

theorem cpl_1x191 : ∀ (r k : Nat), k + r = 50 → ∀ (I : Nat → Nat → Int32) (J : Nat → Nat → Int64) (D : Nat → Nat → UInt64), ∃ I', ex (5, 56, [.ref 2, .ref 192, .int (nI k)], [], mm I J D) = ex (5, 80, [.ref 2, .ref 192, dv], [], mm I' J D) ∧ (∀ p, p ≠ 6 → I' p = I p) ∧ (∀ j, j < k → I' 6 j = I 6 j) ∧ ∀ j, k ≤ j → j < 50 → I' 6 j = vp_nar .boolean (I 196 j) := by
  intro r
  induction r with
  | zero =>
    intro k hk I J D
    refine ⟨I, ?_, fun _ _ => rfl, fun _ _ => rfl, fun j h1 h2 => by omega⟩
    rw [e_5_56_2x192, show k = 50 by omega]
    rfl
  | succ r ih =>
    intro k hk I J D
    obtain ⟨I', e, h1, h2, h3⟩ := ih (k + 1) (by omega) (ups I 6 k (vp_nar .boolean (I 196 k))) J D
    refine ⟨I', ?_, fun p hp => (h1 p hp).trans (uI hp), fun j hj => ?_, fun j hj h5 => ?_⟩
    · rw [e_5_56_2x192, decide_eq_false (show ¬ (50 : Int32) ≤ nI k from nI_ge (a := k) (b := 50) (by omega) (by decide)), cond_false, e_5_62_2x192, inb_n (by omega) (by decide), cond_true, cond_true, nI_clamp (by omega), nI_1]
      exact e
    · rw [h2 j (by omega), uIs, uU (by omega)]
    · by_cases he : j = k
      · subst he
        rw [h2 j (by omega), uIs, uUs]
      · rw [h3 j (by omega) h5, uI (by decide)]
theorem cp_1x191 (I : Nat → Nat → Int32) (J : Nat → Nat → Int64) (D : Nat → Nat → UInt64) : ∃ I', ex (47, 0, [.ref 1, .ref 191], [], mm I J D) = some (.inl none, mm I' J D) ∧ CpOK 1 191 I I' := by
  rw [e_47_0_1x191, e_5_0_2x192]
  generalize hI1 : (upR (upR (upR I 3 _) 4 _) 5 _ : Nat → Nat → Int32) = I1
  obtain ⟨I2, e2, f1, -, f2⟩ := cpl_1x191 50 0 rfl I1 J D
  rw [show (.int 0 : Value) = .int (nI 0) from rfl, e2, e_5_80_2x192, cal_v]
  simp only [Option.toList_none, List.nil_append]
  rw [e_47_11_1x191, e_53_0_8x198, cal_v]
  simp only [Option.toList_none, List.nil_append]
  rw [e_47_22_1x191, e_62_0_10x200, cal_v]
  simp only [Option.toList_none, List.nil_append]
  rw [e_47_33_1x191, e_62_0_15x205, cal_v]
  simp only [Option.toList_none, List.nil_append]
  rw [e_47_44_1x191, e_77_0_20x210, cal_v]
  simp only [Option.toList_none, List.nil_append]
  rw [e_47_55_1x191, e_33_0_24x214, cal_v]
  simp only [Option.toList_none, List.nil_append]
  rw [e_47_66_1x191]
  refine ⟨_, rfl, ?_⟩
  subst hI1
  have f3 : ∀ j, j < 50 → I2 6 j = vp_nar .boolean (I 196 j) := fun j hj => by
    rw [f2 j (Nat.zero_le _) hj]
    simp (disch := omega) only [uR]
  refine ⟨fun p hp => ?_, ?_, ?_, fun k hk => ?_, ⟨?_, fun k hk => ?_⟩, ⟨?_, fun k hk => ?_⟩, ⟨?_, fun k hk => ?_⟩, ⟨fun k hk => ?_, fun k hk => ?_⟩, ?_, fun k hk => ?_⟩
  all_goals (try simp (disch := omega) only [uR, uRs, uI, uIs, uU, uUs, uC, f1, f3, Nat.reduceAdd, and_self])

theorem cpl_218x1 : ∀ (r k : Nat), k + r = 50 → ∀ (I : Nat → Nat → Int32) (J : Nat → Nat → Int64) (D : Nat → Nat → UInt64), ∃ I', ex (5, 56, [.ref 219, .ref 2, .int (nI k)], [], mm I J D) = ex (5, 80, [.ref 219, .ref 2, dv], [], mm I' J D) ∧ (∀ p, p ≠ 223 → I' p = I p) ∧ (∀ j, j < k → I' 223 j = I 223 j) ∧ ∀ j, k ≤ j → j < 50 → I' 223 j = vp_nar .boolean (I 6 j) := by
  intro r
  induction r with
  | zero =>
    intro k hk I J D
    refine ⟨I, ?_, fun _ _ => rfl, fun _ _ => rfl, fun j h1 h2 => by omega⟩
    rw [e_5_56_219x2, show k = 50 by omega]
    rfl
  | succ r ih =>
    intro k hk I J D
    obtain ⟨I', e, h1, h2, h3⟩ := ih (k + 1) (by omega) (ups I 223 k (vp_nar .boolean (I 6 k))) J D
    refine ⟨I', ?_, fun p hp => (h1 p hp).trans (uI hp), fun j hj => ?_, fun j hj h5 => ?_⟩
    · rw [e_5_56_219x2, decide_eq_false (show ¬ (50 : Int32) ≤ nI k from nI_ge (a := k) (b := 50) (by omega) (by decide)), cond_false, e_5_62_219x2, inb_n (by omega) (by decide), cond_true, cond_true, nI_clamp (by omega), nI_1]
      exact e
    · rw [h2 j (by omega), uIs, uU (by omega)]
    · by_cases he : j = k
      · subst he
        rw [h2 j (by omega), uIs, uUs]
      · rw [h3 j (by omega) h5, uI (by decide)]
theorem cp_218x1 (I : Nat → Nat → Int32) (J : Nat → Nat → Int64) (D : Nat → Nat → UInt64) : ∃ I', ex (47, 0, [.ref 218, .ref 1], [], mm I J D) = some (.inl none, mm I' J D) ∧ CpOK 218 1 I I' := by
  rw [e_47_0_218x1, e_5_0_219x2]
  generalize hI1 : (upR (upR (upR I 220 _) 221 _) 222 _ : Nat → Nat → Int32) = I1
  obtain ⟨I2, e2, f1, -, f2⟩ := cpl_218x1 50 0 rfl I1 J D
  rw [show (.int 0 : Value) = .int (nI 0) from rfl, e2, e_5_80_219x2, cal_v]
  simp only [Option.toList_none, List.nil_append]
  rw [e_47_11_218x1, e_53_0_225x8, cal_v]
  simp only [Option.toList_none, List.nil_append]
  rw [e_47_22_218x1, e_62_0_227x10, cal_v]
  simp only [Option.toList_none, List.nil_append]
  rw [e_47_33_218x1, e_62_0_232x15, cal_v]
  simp only [Option.toList_none, List.nil_append]
  rw [e_47_44_218x1, e_77_0_237x20, cal_v]
  simp only [Option.toList_none, List.nil_append]
  rw [e_47_55_218x1, e_33_0_241x24, cal_v]
  simp only [Option.toList_none, List.nil_append]
  rw [e_47_66_218x1]
  refine ⟨_, rfl, ?_⟩
  subst hI1
  have f3 : ∀ j, j < 50 → I2 223 j = vp_nar .boolean (I 6 j) := fun j hj => by
    rw [f2 j (Nat.zero_le _) hj]
    simp (disch := omega) only [uR]
  refine ⟨fun p hp => ?_, ?_, ?_, fun k hk => ?_, ⟨?_, fun k hk => ?_⟩, ⟨?_, fun k hk => ?_⟩, ⟨?_, fun k hk => ?_⟩, ⟨fun k hk => ?_, fun k hk => ?_⟩, ?_, fun k hk => ?_⟩
  all_goals (try simp (disch := omega) only [uR, uRs, uI, uIs, uU, uUs, uC, f1, f3, Nat.reduceAdd, and_self])

theorem cpl_1x218 : ∀ (r k : Nat), k + r = 50 → ∀ (I : Nat → Nat → Int32) (J : Nat → Nat → Int64) (D : Nat → Nat → UInt64), ∃ I', ex (5, 56, [.ref 2, .ref 219, .int (nI k)], [], mm I J D) = ex (5, 80, [.ref 2, .ref 219, dv], [], mm I' J D) ∧ (∀ p, p ≠ 6 → I' p = I p) ∧ (∀ j, j < k → I' 6 j = I 6 j) ∧ ∀ j, k ≤ j → j < 50 → I' 6 j = vp_nar .boolean (I 223 j) := by
  intro r
  induction r with
  | zero =>
    intro k hk I J D
    refine ⟨I, ?_, fun _ _ => rfl, fun _ _ => rfl, fun j h1 h2 => by omega⟩
    rw [e_5_56_2x219, show k = 50 by omega]
    rfl
  | succ r ih =>
    intro k hk I J D
    obtain ⟨I', e, h1, h2, h3⟩ := ih (k + 1) (by omega) (ups I 6 k (vp_nar .boolean (I 223 k))) J D
    refine ⟨I', ?_, fun p hp => (h1 p hp).trans (uI hp), fun j hj => ?_, fun j hj h5 => ?_⟩
    · rw [e_5_56_2x219, decide_eq_false (show ¬ (50 : Int32) ≤ nI k from nI_ge (a := k) (b := 50) (by omega) (by decide)), cond_false, e_5_62_2x219, inb_n (by omega) (by decide), cond_true, cond_true, nI_clamp (by omega), nI_1]
      exact e
    · rw [h2 j (by omega), uIs, uU (by omega)]
    · by_cases he : j = k
      · subst he
        rw [h2 j (by omega), uIs, uUs]
      · rw [h3 j (by omega) h5, uI (by decide)]
theorem cp_1x218 (I : Nat → Nat → Int32) (J : Nat → Nat → Int64) (D : Nat → Nat → UInt64) : ∃ I', ex (47, 0, [.ref 1, .ref 218], [], mm I J D) = some (.inl none, mm I' J D) ∧ CpOK 1 218 I I' := by
  rw [e_47_0_1x218, e_5_0_2x219]
  generalize hI1 : (upR (upR (upR I 3 _) 4 _) 5 _ : Nat → Nat → Int32) = I1
  obtain ⟨I2, e2, f1, -, f2⟩ := cpl_1x218 50 0 rfl I1 J D
  rw [show (.int 0 : Value) = .int (nI 0) from rfl, e2, e_5_80_2x219, cal_v]
  simp only [Option.toList_none, List.nil_append]
  rw [e_47_11_1x218, e_53_0_8x225, cal_v]
  simp only [Option.toList_none, List.nil_append]
  rw [e_47_22_1x218, e_62_0_10x227, cal_v]
  simp only [Option.toList_none, List.nil_append]
  rw [e_47_33_1x218, e_62_0_15x232, cal_v]
  simp only [Option.toList_none, List.nil_append]
  rw [e_47_44_1x218, e_77_0_20x237, cal_v]
  simp only [Option.toList_none, List.nil_append]
  rw [e_47_55_1x218, e_33_0_24x241, cal_v]
  simp only [Option.toList_none, List.nil_append]
  rw [e_47_66_1x218]
  refine ⟨_, rfl, ?_⟩
  subst hI1
  have f3 : ∀ j, j < 50 → I2 6 j = vp_nar .boolean (I 223 j) := fun j hj => by
    rw [f2 j (Nat.zero_le _) hj]
    simp (disch := omega) only [uR]
  refine ⟨fun p hp => ?_, ?_, ?_, fun k hk => ?_, ⟨?_, fun k hk => ?_⟩, ⟨?_, fun k hk => ?_⟩, ⟨?_, fun k hk => ?_⟩, ⟨fun k hk => ?_, fun k hk => ?_⟩, ?_, fun k hk => ?_⟩
  all_goals (try simp (disch := omega) only [uR, uRs, uI, uIs, uU, uUs, uC, f1, f3, Nat.reduceAdd, and_self])

