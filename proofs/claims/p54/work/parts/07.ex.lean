/-! 'ex' goes by the steps -/
theorem ex_some {n : Nat} {c : Cf} {o : Ou} (h : run n c = some o) : ex c = some o := by
  have h0 : ∃ n o, run n c = some o := ⟨n, o, h⟩
  unfold ex
  rw [dif_pos h0]
  have h1 := Classical.choose_spec (Classical.choose_spec h0)
  have h2 := run_le (Nat.le_max_left n (Classical.choose h0)) h
  have h3 := run_le (Nat.le_max_right n (Classical.choose h0)) h1
  rw [h2] at h3
  exact h3.symm
theorem ex_run {c : Cf} {o : Ou} (h : ex c = some o) : ∃ n, run n c = some o := by
  unfold ex at h
  by_cases h0 : ∃ n o, run n c = some o
  · rw [dif_pos h0] at h
    exact ⟨Classical.choose h0, by rw [← h]; exact Classical.choose_spec (Classical.choose_spec h0)⟩
  · rw [dif_neg h0] at h
    cases h
theorem acK_run {c0 : Cf} {a : Ac} {o : Ou} (h : acK ex ex c0 a = some o) : ∃ n, acK (run n) (run n) c0 a = some o := by
  rcases a with ⟨b, c, d⟩ | ⟨μ', as, c, ls0⟩ | ⟨b, o'⟩
  · cases b with
    | true => exact ex_run h
    | false =>
      cases d with
      | none => exact absurd h (by simp [acK])
      | some c => exact ex_run h
  · simp only [acK] at h
    generalize hx : ex (μ', 0, pad (mxl μ') (ent as), [], cIn μ' c.2.2.2.2) = x at h
    cases x with
    | none => exact absurd h (by simp)
    | some o1 =>
      obtain ⟨n1, h1⟩ := ex_run hx
      rcases o1 with ⟨v | E | s, M'⟩
      · obtain ⟨n2, h2⟩ := ex_run h
        refine ⟨max n1 n2, ?_⟩
        simp only [acK]
        rw [run_le (Nat.le_max_left n1 n2) h1]
        exact run_le (Nat.le_max_right n1 n2) h2
      · dsimp only at h
        cases hc : ctc c0.1 c0.2.1 E with
        | none =>
          rw [hc] at h
          refine ⟨n1, ?_⟩
          simp only [acK]
          rw [h1]
          simp only [hc]
          exact h
        | some q =>
          rw [hc] at h
          obtain ⟨n2, h2⟩ := ex_run h
          refine ⟨max n1 n2, ?_⟩
          simp only [acK]
          rw [run_le (Nat.le_max_left n1 n2) h1]
          simp only [hc]
          exact run_le (Nat.le_max_right n1 n2) h2
      · exact absurd h (by simp)
  · exact ⟨0, h⟩
theorem ex_fix (c : Cf) : ex c = acK ex ex c (st1 c) := by
  have key : ∀ o, ex c = some o ↔ acK ex ex c (st1 c) = some o := by
    intro o
    constructor
    · intro h
      obtain ⟨n, hn⟩ := ex_run h
      cases n with
      | zero => exact absurd hn (by simp [run])
      | succ n => exact acK_mono (fun _ _ => ex_some) (fun _ _ => ex_some) c _ o hn
    · intro h
      obtain ⟨n, hn⟩ := acK_run h
      exact ex_some (n := n + 1) hn
  cases h1 : ex c with
  | some o => exact ((key o).mp h1).symm
  | none =>
    cases h2 : acK ex ex c (st1 c) with
    | none => rfl
    | some o => rw [(key o).mpr h2] at h1; cases h1
theorem ex_itr : ∀ (k : Nat) (c : Cf), ex c = itr k ex c
  | 0, _ => rfl
  | k + 1, c => by
    have h : itr k ex = ex := funext fun c => (ex_itr k c).symm
    show ex c = acK ex (itr k ex) c (st1 c)
    rw [h]
    exact ex_fix c
