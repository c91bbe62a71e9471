/-! the law's walk over all ways finds what the book's table says -/
section GO
def encM (o : Option Nat) : Int32 := match o with
  | none => 2147483647
  | some v => nI v
def shO (p : Nat) (o : Option Nat) : Option Nat := o.map (fun r => p + r)
theorem stW_z {v : Nat} {w : Int64} {s : Option Nat × Int64} : stW (some v) (0 + w) s = stW (some v) w s := by rw [Int64.zero_add]
theorem stW_as {o : Option Nat} {w : Int64} {a s : Option Nat × Int64} {p : Nat} : stW (shO p o) w (stW (shO p a.1) a.2 s) = stW (shO p (stW o w a).1) (stW o w a).2 s := by
  obtain ⟨a1, a2⟩ := a
  obtain ⟨s1, s2⟩ := s
  cases o with
  | none => rfl
  | some v =>
    cases a1 with
    | none =>
      show stW (some (p + v)) w (s1, s2) = stW (some (p + v)) (0 + w) (s1, s2)
      rw [stW_z]
    | some b =>
      rcases Nat.lt_trichotomy v b with h | h | h
      · have e : stW (some v) w (some b, a2) = (some v, 0 + w) := by unfold stW; simp [h]
        rw [e]
        show stW (some (p + v)) w (stW (some (p + b)) a2 (s1, s2)) = stW (some (p + v)) (0 + w) (s1, s2)
        rw [stW_z]
        cases s1 with
        | none =>
          unfold stW
          simp only
          rw [if_pos (by omega)]
        | some m =>
          rcases Nat.lt_trichotomy (p + b) m with h2 | h2 | h2
          · unfold stW
            simp only [if_pos h2]
            rw [if_pos (by omega), if_pos (by omega)]
          · unfold stW
            simp only [if_neg (show ¬ p + b < m by omega), if_pos h2]
            rw [if_pos (by omega), if_pos (by omega)]
          · unfold stW
            simp only [if_neg (show ¬ p + b < m by omega), if_neg (show ¬ p + b = m by omega)]
      · subst h
        have e : stW (some v) w (some v, a2) = (some v, a2 + w) := by unfold stW; simp
        rw [e]
        show stW (some (p + v)) w (stW (some (p + v)) a2 (s1, s2)) = stW (some (p + v)) (a2 + w) (s1, s2)
        cases s1 with
        | none =>
          unfold stW
          simp only
          rw [if_neg (by omega), if_pos trivial, Int64.zero_add, Int64.zero_add]
        | some m =>
          rcases Nat.lt_trichotomy (p + v) m with h2 | h2 | h2
          · unfold stW
            simp only [if_pos h2]
            rw [if_neg (by omega), if_pos trivial, Int64.zero_add, Int64.zero_add]
          · unfold stW
            simp only [if_neg (show ¬ p + v < m by omega), if_pos h2]
            rw [Int64.add_assoc]
          · unfold stW
            simp only [if_neg (show ¬ p + v < m by omega), if_neg (show ¬ p + v = m by omega)]
      · have e : stW (some v) w (some b, a2) = (some b, a2) := by unfold stW; simp only; rw [if_neg (by omega), if_neg (by omega)]
        rw [e]
        show stW (some (p + v)) w (stW (some (p + b)) a2 (s1, s2)) = stW (some (p + b)) a2 (s1, s2)
        cases s1 with
        | none =>
          unfold stW
          simp only
          rw [if_neg (by omega), if_neg (by omega)]
        | some m =>
          rcases Nat.lt_trichotomy (p + b) m with h2 | h2 | h2
          · unfold stW
            simp only [if_pos h2]
            rw [if_neg (by omega), if_neg (by omega)]
          · unfold stW
            simp only [if_neg (show ¬ p + b < m by omega), if_pos h2]
            rw [if_neg (by omega), if_neg (by omega)]
          · unfold stW
            simp only [if_neg (show ¬ p + b < m by omega), if_neg (show ¬ p + b = m by omega)]
            rw [if_neg (by omega), if_neg (by omega)]
variable {G : Nat → Nat → Int32} {n0 n1 : Nat}
/-- the law's own rows of bands and ties -/
def LawB (G : Nat → Nat → Int32) (n0 n1 : Nat) (I : Nat → Nat → Int32) : Prop := (I 326 0 = nI n0 ∧ I 326 1 = nI n1) ∧ (∀ k, k < n0 → I 321 k = G 11 k ∧ I 324 k = G 12 k ∧ I 327 k = G 13 k) ∧ ∀ k, k < n1 → I 322 k = G 16 k ∧ I 325 k = G 17 k
theorem LawB.go {I I2 : Nat → Nat → Int32} (h : LawB G n0 n1 I) (e : ∀ p, 321 ≤ p → p < 328 → I2 p = I p) : LawB G n0 n1 I2 := by
  obtain ⟨⟨h1, h2⟩, h3, h4⟩ := h
  unfold LawB
  rw [e 326 (by decide) (by decide), e 321 (by decide) (by decide), e 324 (by decide) (by decide), e 327 (by decide) (by decide), e 322 (by decide) (by decide), e 325 (by decide) (by decide)]
  exact ⟨⟨h1, h2⟩, h3, h4⟩
/-- what is fixed while the law walks -/
def GoE (G : Nat → Nat → Int32) (n0 n1 : Nat) : Prop := (n0 ≤ 5 ∧ n1 ≤ 5) ∧ LayG G n0 n1 ∧ TX n0 n1 (G 13) (G 18) ∧ G 1 6 = 4 ∧ G 1 7 = 2 ∧ G 1 8 = 3
def GoM (G : Nat → Nat → Int32) (n0 n1 : Nat) (s : Option Nat × Int64) (I : Nat → Nat → Int32) (J : Nat → Nat → Int64) : Prop := (I 0 11 = encM s.1 ∧ J 0 12 = s.2) ∧ Bnd 8000 s.1 ∧ (∃ c, c ≤ 100000 ∧ I iCRD 0 = nI c) ∧ LawB G n0 n1 I
theorem GoM.put {s s2 : Option Nat × Int64} {I : Nat → Nat → Int32} {J : Nat → Nat → Int64} (h : GoM G n0 n1 s I J) (b : Bnd 8000 s2.1) : GoM G n0 n1 s2 (ups I 0 11 (encM s2.1)) (upsL J 0 12 s2.2) := by
  obtain ⟨-, -, ⟨c, h3, h4⟩, h5⟩ := h
  exact ⟨⟨w_us, upsL_s⟩, b, ⟨c, h3, by rw [w_un (by decide)]; exact h4⟩, h5.go fun p hp _ => w_un (by omega)⟩
theorem ups_id {I : Nat → Nat → Int32} {p k : Nat} {x : Int32} (h : I p k = x) : ups I p k x = I := by
  subst h
  funext q j
  by_cases h1 : q = p
  · subst h1
    by_cases h2 : j = k
    · subst h2; rw [w_us]
    · rw [w_uk h2]
  · rw [w_un h1]
theorem upsL_id {J : Nat → Nat → Int64} {p k : Nat} {x : Int64} (h : J p k = x) : upsL J p k x = J := by
  subst h
  funext q j
  by_cases h1 : q = p ∧ j = k
  · obtain ⟨rfl, rfl⟩ := h1; rw [uJs]
  · rw [uJn (by omega)]
theorem ups_cm {I : Nat → Nat → Int32} {p k q j : Nat} {x y : Int32} (h : p ≠ q) : ups (ups I p k x) q j y = ups (ups I q j y) p k x := by
  funext r i
  by_cases h1 : r = p
  · subst h1
    rw [w_un h]
    by_cases h2 : i = k
    · subst h2; rw [w_us, w_us]
    · rw [w_uk h2, w_uk h2, w_un h]
  · rw [w_un (I := ups I q j y) h1]
    by_cases h3 : r = q
    · subst h3
      by_cases h2 : i = j
      · subst h2; rw [w_us, w_us]
      · rw [w_uk h2, w_uk h2, w_un h1]
    · rw [w_un h3, w_un h3, w_un h1]
theorem stW_b8 {o : Option Nat} {w : Int64} {s : Option Nat × Int64} (h1 : Bnd 8000 o) (h2 : Bnd 8000 s.1) : Bnd 8000 (stW o w s).1 := stW_bd h1 h2
theorem PP_end (e : GoE G n0 n1) : PP G n0 n1 (-1) (-1) n0 n1 = (some 0, 1) := by
  rw [PP_eq (by have := e.1.1; omega) (by have := e.1.2; omega) (Nat.le_refl _) (Nat.le_refl _)]
  have key : ∀ k, cellK G n0 n1 (-1) (-1) (PP G n0 n1 (-1) (-1)) n0 n1 k = (some 0, 1) := by
    intro k
    induction k with
    | zero => show (if n0 = n0 ∧ n1 = n1 then _ else _) = _; rw [if_pos ⟨rfl, rfl⟩]
    | succ k ih =>
      show stW _ _ (cellK G n0 n1 (-1) (-1) (PP G n0 n1 (-1) (-1)) n0 n1 k) = _
      have : okB G n0 n1 (-1) (-1) k n0 n1 = false := by
        unfold okB
        rw [decide_eq_false (by have := tk_pos (k := k); omega)]; rfl
      rw [this, ih]
      rfl
  exact key 5
theorem encM_le {s : Option Nat} {p : Nat} (hs : Bnd 8000 s) (hp : p ≤ 8000) : encM s ≤ nI p ↔ ∃ b, s = some b ∧ b ≤ p := by
  cases s with
  | none =>
    refine ⟨fun h => ?_, fun ⟨b, h, _⟩ => by cases h⟩
    have h : (2147483647 : Int32) ≤ nI p := h
    rw [Int32.le_iff_toInt_le, nI_toInt (by omega), show (2147483647 : Int32).toInt = 2147483647 from rfl] at h
    omega
  | some b =>
    have := hs b rfl
    refine ⟨fun h => ⟨b, rfl, (nI_leI (by omega) (by omega)).mp h⟩, fun ⟨b2, h, h2⟩ => ?_⟩
    cases h
    exact (nI_leI (by omega) (by omega)).mpr h2
/-- at the end of a way -/
theorem g_end {μ : Nat} (B : GB μ) (e : GoE G n0 n1) {s : Option Nat × Int64} {I : Nat → Nat → Int32} {J : Nat → Nat → Int64} {D : Nat → Nat → UInt64} (m : GoM G n0 n1 s I J) {p : Nat} (hp : p ≤ 2000) :
    ex (μ, 0, [.ref 0, .int (nI n0), .int (nI n1), .int (nI p), dv, dv, dv], [], mC I J D) = some (.inl none, mC (ups I 0 11 (encM (stW (some p) 1 s).1)) (upsL J 0 12 (stW (some p) 1 s).2) D) := by
  obtain ⟨⟨m1, m2⟩, m3, -, m5⟩ := m
  rw [B.h0, m5.1.1, decide_eq_false (fun h => h rfl), cond_false, B.h10, m5.1.2, decide_eq_false (fun h => h rfl), cond_false, B.h20, m1]
  obtain ⟨s1, s2⟩ := s
  cases s1 with
  | none =>
    have q : ¬ encM none ≤ nI p := fun h => by
      obtain ⟨b, h1, _⟩ := (encM_le m3 (by omega)).mp h
      cases h1
    have q2 : nI p < encM none := Int32.not_le.mp q
    rw [decide_eq_false q, cond_false, B.h28, B.h33, w_us, m1, if_pos q2, decide_eq_false (fun h => h rfl), cond_false, B.h53, B.h63, uJs, uuJ]
    rfl
  | some b =>
    have b8 := m3 b rfl
    rcases Nat.lt_trichotomy p b with h | h | h
    · have q : ¬ encM (some b) ≤ nI p := fun w => by
        obtain ⟨b2, h1, h2⟩ := (encM_le m3 (by omega)).mp w
        cases h1; omega
      have q2 : nI p < encM (some b) := Int32.not_le.mp q
      have es : stW (some p) 1 (some b, s2) = (some p, 0 + 1) := by unfold stW; simp only; rw [if_pos h]
      rw [decide_eq_false q, cond_false, B.h28, B.h33, w_us, m1, if_pos q2, decide_eq_false (fun h => h rfl), cond_false, B.h53, B.h63, uJs, uuJ, es]
      rfl
    · subst h
      have q : encM (some p) ≤ nI p := Int32.le_refl _
      have es : stW (some p) 1 (some p, s2) = (some p, s2 + 1) := by unfold stW; simp
      have e9 : (if nI p < encM (some p) then nI p else encM (some p)) = nI p := by
        rw [if_neg (Int32.not_lt.mpr q)]; rfl
      rw [decide_eq_true q, cond_true, B.h33, w_us, m1, e9, decide_eq_false (fun h => h rfl), cond_false, B.h53, B.h63, m2, es]
      rfl
    · have q : encM (some b) ≤ nI p := (encM_le m3 (by omega)).mpr ⟨b, rfl, by omega⟩
      have es : stW (some p) 1 (some b, s2) = (some b, s2) := by unfold stW; simp only; rw [if_neg (by omega), if_neg (by omega)]
      have e9 : (if nI p < encM (some b) then nI p else encM (some b)) = encM (some b) := if_neg (Int32.not_lt.mpr q)
      rw [decide_eq_true q, cond_true, B.h33, w_us, m1, e9, decide_eq_true (show nI p ≠ encM (some b) from fun w => by have := (nI_eq (a := p) (b := b) (by omega) (by omega)).mp w; omega), cond_true, B.h63, es, upsL_id m2]
/-- is a band of the second row free -/
theorem g_loose (e : GoE G n0 n1) {I : Nat → Nat → Int32} {J : Nat → Nat → Int64} {D : Nat → Nat → UInt64} (m : LawB G n0 n1 I) {j : Nat} (hj : j < n1) : ex (346, 0, [.ref 0, .int (nI j), dv], [], mC I J D) = some (.inl (some (.int (bI (decide (G 18 j = -1))))), mC I J D) := by
  obtain ⟨⟨e0, e1⟩, -, ⟨tx1, tx2, -⟩, -⟩ := e
  by_cases q : ∃ k, k < n0 ∧ G 13 k = nI j
  · obtain ⟨k0, -, ⟨k1, k2⟩, k3⟩ := least_ex (P := fun k => k < n0 ∧ G 13 k = nI j) q.choose q.choose (Nat.le_refl _) q.choose_spec
    have hz : decide (G 18 j = -1) = false := by
      refine decide_eq_false fun h => ?_
      rcases tx1 k0 k1 with h1 | ⟨j2, h1, h2, h3⟩
      · rw [k2] at h1; exact ne_m1 (by omega) h1
      · rw [k2] at h2
        have : j = j2 := (nI_eq (by omega) (by omega)).mp h2
        subst this
        rw [h] at h3; exact ne_m1 (show k0 < 1000 by omega) h3.symm
    have loop : ∀ r k, k + r = k0 → ex (346, 2, [.ref 0, .int (nI j), .int (nI k)], [], mC I J D) = some (.inl (some (.int 0)), mC I J D) := by
      intro r
      induction r with
      | zero =>
        intro k hk
        have hk : k = k0 := by omega
        subst hk
        rw [eC_346_2, m.1.1, decide_eq_false (show ¬ nI n0 ≤ nI k from nI_ge (by omega) (by omega)), cond_false, eC_346_12, inb_n (show k < 5 by omega) (by decide), cond_true, nI_clamp (by omega), (m.2.1 k k1).2.2, k2, decide_eq_false (fun h => h rfl), cond_false, eC_346_22]
      | succ r ih =>
        intro k hk
        rw [eC_346_2, m.1.1, decide_eq_false (show ¬ nI n0 ≤ nI k from nI_ge (by omega) (by omega)), cond_false, eC_346_12, inb_n (show k < 5 by omega) (by decide), cond_true, nI_clamp (by omega), (m.2.1 k (by omega)).2.2, decide_eq_true (show G 13 k ≠ nI j from fun h => k3 k (by omega) ⟨by omega, h⟩), cond_true, eC_346_24, nI_1]
        exact ih (k + 1) (by omega)
    rw [hz, eC_346_0]
    exact loop k0 0 (by omega)
  · have hz : decide (G 18 j = -1) = true := by
      refine decide_eq_true ?_
      rcases tx2 j hj with h | ⟨k, h1, h2, h3⟩
      · exact h
      · exact absurd ⟨k, h1, h3⟩ q
    have loop : ∀ r k, k + r = n0 → ex (346, 2, [.ref 0, .int (nI j), .int (nI k)], [], mC I J D) = some (.inl (some (.int 1)), mC I J D) := by
      intro r
      induction r with
      | zero =>
        intro k hk
        have hk : k = n0 := by omega
        subst hk
        rw [eC_346_2, m.1.1, decide_eq_true ((nI_leI (by omega) (by omega)).mpr (Nat.le_refl k)), cond_true, eC_346_30]
      | succ r ih =>
        intro k hk
        rw [eC_346_2, m.1.1, decide_eq_false (show ¬ nI n0 ≤ nI k from nI_ge (by omega) (by omega)), cond_false, eC_346_12, inb_n (show k < 5 by omega) (by decide), cond_true, nI_clamp (by omega), (m.2.1 k (by omega)).2.2, decide_eq_true (show G 13 k ≠ nI j from fun h => q ⟨k, by omega, h⟩), cond_true, eC_346_24, nI_1]
        exact ih (k + 1) (by omega)
    rw [hz, eC_346_0]
    exact loop n0 0 (by omega)
theorem g_looseC {μ pc : Nat} {ls st : List Value} (hμ : 318 ≤ μ) (e : GoE G n0 n1) {s : Option Nat × Int64} {I : Nat → Nat → Int32} {J : Nat → Nat → Int64} {D : Nat → Nat → UInt64} (m : GoM G n0 n1 s I J) {j : Nat} (hj : j < n1) :
    (bif cG μ 346 I then (calK μ pc ls st (mC (cI μ 346 I) J D) (ex (346, 0, [.ref 0, .int (nI j), dv], [], cIn 346 (mC (cI μ 346 I) J D)))) else none) = ex (μ, pc, ls, .int (bI (decide (G 18 j = -1))) :: st, mC I J D) := by
  obtain ⟨-, -, ⟨c, h3, h4⟩, h5⟩ := m
  exact goZ hμ (by decide) rfl h4 h3 (g_loose e (h5.go fun p h1 h2 => w_un (by unfold iCRD; omega)) hj) h4
end GO
