/-! the law's walk: its five kinds of step -/
section GP
variable {G : Nat → Nat → Int32} {n0 n1 : Nat} {μ μ2 kk i j p : Nat} {s : Option Nat × Int64} {I : Nat → Nat → Int32} {J : Nat → Nat → Int64} {D : Nat → Nat → UInt64}
/-- the walk from a place on, by a copy that is deep enough -/
def Rec (G : Nat → Nat → Int32) (n0 n1 μ k : Nat) : Prop := ∀ (i j p : Nat) (s : Option Nat × Int64) (I : Nat → Nat → Int32) (J : Nat → Nat → Int64) (D : Nat → Nat → UInt64), i ≤ n0 → j ≤ n1 → (n0 - i) + (n1 - j) ≤ k → p + 100 * ((n0 - i) + (n1 - j)) ≤ 2000 → GoM G n0 n1 s I J →
  ex (μ, 0, [.ref 0, .int (nI i), .int (nI j), .int (nI p), dv, dv, dv], [], mC I J D) = some (.inl none, mC (ups I 0 11 (encM (stW (shO p (PP G n0 n1 (-1) (-1) i j).1) (PP G n0 n1 (-1) (-1) i j).2 s).1)) (upsL J 0 12 (stW (shO p (PP G n0 n1 (-1) (-1) i j).1) (PP G n0 n1 (-1) (-1) i j).2 s).2) D)
def nxS (G : Nat → Nat → Int32) (n0 n1 i j p k : Nat) (s : Option Nat × Int64) : Option Nat × Int64 := stW (shO p (whN (PP G n0 n1 (-1) (-1) (i + tk0 k) (j + tk1 k)).1 (okB G n0 n1 (-1) (-1) k i j) (spN G k i j))) (PP G n0 n1 (-1) (-1) (i + tk0 k) (j + tk1 k)).2 s
theorem nx_ok {k : Nat} (h : okB G n0 n1 (-1) (-1) k i j = true) : nxS G n0 n1 i j p k s = stW (shO (p + spN G k i j) (PP G n0 n1 (-1) (-1) (i + tk0 k) (j + tk1 k)).1) (PP G n0 n1 (-1) (-1) (i + tk0 k) (j + tk1 k)).2 s := by
  unfold nxS whN
  rw [h, cond_true]
  congr 1
  unfold shO
  cases (PP G n0 n1 (-1) (-1) (i + tk0 k) (j + tk1 k)).1 with
  | none => rfl
  | some v => show some (p + (spN G k i j + v)) = some (p + spN G k i j + v); rw [Nat.add_assoc]
theorem nx_no {k : Nat} (h : okB G n0 n1 (-1) (-1) k i j = false) : nxS G n0 n1 i j p k s = s := by
  unfold nxS whN
  rw [h]
  rfl
theorem sh_b8 {q : Nat} (e : GoE G n0 n1) (hq : q ≤ 4000) {x y : Nat} : Bnd 8000 (shO q (PP G n0 n1 (-1) (-1) x y).1) := fun v hv => by
  have b := PP_bd (b0 := -1) (b1 := -1) e.2.1 x y
  unfold shO at hv
  cases hp : (PP G n0 n1 (-1) (-1) x y).1 with
  | none => rw [hp] at hv; cases hv
  | some r =>
    rw [hp] at hv
    have hv : some (q + r) = some v := hv
    have := b r hp
    have := Option.some.inj hv
    omega
theorem nx_b8 {k : Nat} (e : GoE G n0 n1) (hk : k < 5) (hp : p ≤ 2000) (hs : Bnd 8000 s.1) : Bnd 8000 (nxS G n0 n1 i j p k s).1 := by
  cases h : okB G n0 n1 (-1) (-1) k i j with
  | false => rw [nx_no h]; exact hs
  | true =>
    rw [nx_ok h]
    have h1 := sp_le (k := k) (i := i) (j := j) e.2.1 (ok_r h).1.1 (ok_r h).1.2 hk
    exact stW_b8 (sh_b8 e (by omega)) hs
/-- a step that can't be made -/
theorem g_no {k pc : Nat} {ls : List Value} (h : okB G n0 n1 (-1) (-1) k i j = false) (m : GoM G n0 n1 s I J) : ex (μ, pc, ls, [], mC I J D) = ex (μ, pc, ls, [], mC (ups I 0 11 (encM (nxS G n0 n1 i j p k s).1)) (upsL J 0 12 (nxS G n0 n1 i j p k s).2) D) := by
  rw [nx_no h, ups_id m.1.1, upsL_id m.1.2]
/-- a step that can be made -/
theorem g_go {k pc : Nat} {ls : List Value} (l : 318 ≤ μ ∧ 318 ≤ μ2 ∧ cK μ2 = 0) (rc : Rec G n0 n1 μ2 kk) (e : GoE G n0 n1) (hk : k < 5) (hm : (n0 - i) + (n1 - j) ≤ kk + 1) (hp : p + 100 * ((n0 - i) + (n1 - j)) ≤ 2000) (h : okB G n0 n1 (-1) (-1) k i j = true) (m : GoM G n0 n1 s I J) {i2 j2 p2 : Nat} (hi2 : i2 = i + tk0 k) (hj2 : j2 = j + tk1 k) (hp2 : p2 = p + spN G k i j) :
    (bif cG μ μ2 I then (calK μ pc ls [] (mC (cI μ μ2 I) J D) (ex (μ2, 0, [.ref 0, .int (nI i2), .int (nI j2), .int (nI p2), dv, dv, dv], [], cIn μ2 (mC (cI μ μ2 I) J D)))) else none) = ex (μ, pc, ls, [], mC (ups I 0 11 (encM (nxS G n0 n1 i j p k s).1)) (upsL J 0 12 (nxS G n0 n1 i j p k s).2) D) := by
  subst hi2; subst hj2; subst hp2
  obtain ⟨l1, l2, l3⟩ := l
  have h1 := sp_le (k := k) (i := i) (j := j) e.2.1 (ok_r h).1.1 (ok_r h).1.2 hk
  have h2 := (ok_r h).1
  have h3 := tk_pos (k := k)
  obtain ⟨⟨m1, m2⟩, mb, ⟨c, m3, m4⟩, m5⟩ := id m
  have m0 : GoM G n0 n1 s (ups I iCRD 0 (nI 0)) J := ⟨⟨by rw [w_un (by decide)]; exact m1, m2⟩, mb, ⟨0, by omega, w_us⟩, m5.go fun p h1 h2 => w_un (by unfold iCRD; omega)⟩
  have q := rc (i + tk0 k) (j + tk1 k) (p + spN G k i j) s (ups I iCRD 0 (nI 0)) J D h2.1 h2.2 (by omega) (by omega) m0
  rw [← nx_ok h] at q
  rw [ups_cm (show iCRD ≠ 0 by decide)] at q
  exact goZ l1 l2 l3 m4 m3 q (by rw [w_un (by decide)]; exact m4)
def fr0 (G : Nat → Nat → Int32) (n0 i : Nat) : Bool := decide (i < n0) && decide (G 13 i = -1)
def fr1 (G : Nat → Nat → Int32) (n1 j : Nat) : Bool := decide (j < n1) && decide (G 18 j = -1)
theorem bI_t {b : Bool} (h : b = true) : ¬ bI b = 0 := by rw [h]; decide
theorem bI_f {b : Bool} (h : b = false) : bI b = 0 := by rw [h]; rfl
theorem tie_ge (e : GoE G n0 n1) {k : Nat} (hk : k < n0) : (0 ≤ G 13 k) ↔ ¬ G 13 k = -1 := by
  obtain ⟨⟨e0, e1⟩, -, ⟨tx1, -, -⟩, -⟩ := e
  rcases tx1 k hk with h | ⟨j, h1, h2, -⟩
  · rw [h]
    exact ⟨fun q => absurd q (by decide), fun q => absurd rfl q⟩
  · rw [h2]
    exact ⟨fun _ => ne_m1 (by omega), fun _ => nI_pos' (by omega)⟩
/-- to where the kinds begin -/
theorem g_pre (B : GB μ) (R : GR μ μ2) (e : GoE G n0 n1) (hi : i ≤ n0) (hj : j ≤ n1) (hne : ¬ (i = n0 ∧ j = n1)) (m : GoM G n0 n1 s I J) :
    ex (μ, 0, [.ref 0, .int (nI i), .int (nI j), .int (nI p), dv, dv, dv], [], mC I J D) = ex (μ, 113, [.ref 0, .int (nI i), .int (nI j), .int (nI p), .int (bI (fr0 G n0 i)), dv, dv], [.int (bI (fr1 G n1 j))], mC I J D) := by
  obtain ⟨⟨e0, e1⟩, -⟩ := id e
  have mb := m.2.2.2
  have e64 : ex (μ, 0, [.ref 0, .int (nI i), .int (nI j), .int (nI p), dv, dv, dv], [], mC I J D) = ex (μ, 64, [.ref 0, .int (nI i), .int (nI j), .int (nI p), dv, dv, dv], [], mC I J D) := by
    rw [B.h0, mb.1.1]
    by_cases q : i = n0
    · subst q
      rw [decide_eq_false (fun h => h rfl), cond_false, B.h10, mb.1.2, decide_eq_true (show nI j ≠ nI n1 from fun h => hne ⟨rfl, (nI_eq (by omega) (by omega)).mp h⟩), cond_true]
    · rw [decide_eq_true (show nI i ≠ nI n0 from fun h => q ((nI_eq (by omega) (by omega)).mp h)), cond_true]
  have e88 : ex (μ, 64, [.ref 0, .int (nI i), .int (nI j), .int (nI p), dv, dv, dv], [], mC I J D) = ex (μ, 88, [.ref 0, .int (nI i), .int (nI j), .int (nI p), dv, dv, dv], [.int (bI (fr0 G n0 i))], mC I J D) := by
    unfold fr0
    rw [R.h64, mb.1.1]
    by_cases q : i < n0
    · rw [decide_eq_false (show ¬ nI n0 ≤ nI i from nI_ge q (by omega)), cond_false, R.h74, inb_n (show i < 5 by omega) (by decide), cond_true, nI_clamp (by omega), (mb.2.1 i q).2.2, decide_eq_true q, Bool.true_and]
      by_cases w : G 13 i = -1
      · rw [decide_eq_false (fun h => (tie_ge e q).mp h w), cond_false, R.h83, decide_eq_true w]; rfl
      · rw [decide_eq_true ((tie_ge e q).mpr w), cond_true, R.h87, decide_eq_false w]; rfl
    · rw [decide_eq_true ((nI_leI (by omega) (by omega)).mpr (show n0 ≤ i by omega)), cond_true, R.h87, decide_eq_false q]; rfl
  rw [e64, e88, R.h88, mb.1.2]
  unfold fr1
  by_cases q : j < n1
  · rw [decide_eq_false (show ¬ nI n1 ≤ nI j from nI_ge q (by omega)), cond_false, R.h100, g_looseC R.lo.1 e m q, R.h105, decide_eq_true q, Bool.true_and]
    by_cases w : G 18 j = -1
    · rw [decide_eq_true w, decide_eq_false (show ¬ bI true = 0 by decide), cond_false, R.h108]; rfl
    · rw [decide_eq_false w, decide_eq_true (show bI false = 0 from rfl), cond_true, R.h112]; rfl
  · rw [decide_eq_true ((nI_leI (by omega) (by omega)).mpr (show n1 ≤ j by omega)), cond_true, R.h112, decide_eq_false q]; rfl
theorem t9 (e : GoE G n0 n1) {k : Nat} (hk : k < n0) : ∃ a, a ≤ 9 ∧ G 11 k = nI a ∧ rN (G 11 k) = a := by
  obtain ⟨a, h1, h2⟩ := e.2.1.2.1 k hk
  exact ⟨a, h1, h2, by rw [h2, rN_nI (by omega)]⟩
theorem u9 (e : GoE G n0 n1) {k : Nat} (hk : k < n1) : ∃ a, a ≤ 9 ∧ G 16 k = nI a ∧ rN (G 16 k) = a := by
  obtain ⟨a, h1, h2⟩ := e.2.1.2.2.1 k hk
  exact ⟨a, h1, h2, by rw [h2, rN_nI (by omega)]⟩
theorem sub3 : ∀ a, a < 10 → ∀ b, b < 10 → ∀ c, c < 10 → nI a - nI b - nI c = nI a - nI (b + c) := by decide +kernel
theorem pr_val (e : GoE G n0 n1) : rN (G 1 6) = 4 ∧ rN (G 1 7) = 2 ∧ rN (G 1 8) = 3 := by
  obtain ⟨-, -, -, h1, h2, h3⟩ := e
  rw [h1, h2, h3]
  exact ⟨rfl, rfl, rfl⟩
theorem ok0_iff (e : GoE G n0 n1) : okB G n0 n1 (-1) (-1) 0 i j = true ↔ (i < n0 ∧ j < n1) ∧ (G 13 i = nI j ∨ (G 13 i = -1 ∧ G 18 j = -1)) := by
  unfold okB
  rw [Bool.and_eq_true, decide_eq_true_eq]
  constructor
  · rintro ⟨⟨h1, h2⟩, h3⟩
    have q : i < n0 ∧ j < n1 := ⟨h1, h2⟩
    rw [ok_tog e.2.2.1 ⟨by have := e.1.1; omega, by have := e.1.2; omega⟩ q.1 q.2, decide_eq_true_eq] at h3
    exact ⟨q, h3⟩
  · rintro ⟨q, h3⟩
    refine ⟨⟨q.1, q.2⟩, ?_⟩
    rw [ok_tog e.2.2.1 ⟨by have := e.1.1; omega, by have := e.1.2; omega⟩ q.1 q.2, decide_eq_true_eq]
    exact h3
theorem g_k0 (R : GR μ μ2) (rc : Rec G n0 n1 μ2 kk) (e : GoE G n0 n1) (hi : i ≤ n0) (hj : j ≤ n1) (hm : (n0 - i) + (n1 - j) ≤ kk + 1) (hp : p + 100 * ((n0 - i) + (n1 - j)) ≤ 2000) (m : GoM G n0 n1 s I J) :
    ex (μ, 113, [.ref 0, .int (nI i), .int (nI j), .int (nI p), .int (bI (fr0 G n0 i)), dv, dv], [.int (bI (fr1 G n1 j))], mC I J D) = ex (μ, 212, [.ref 0, .int (nI i), .int (nI j), .int (nI p), .int (bI (fr0 G n0 i)), .int (bI (fr1 G n1 j)), dv], [], mC (ups I 0 11 (encM (nxS G n0 n1 i j p 0 s).1)) (upsL J 0 12 (nxS G n0 n1 i j p 0 s).2) D) := by
  obtain ⟨⟨e0, e1⟩, -⟩ := id e
  have mb := m.2.2.2
  rw [R.h113, mb.1.1]
  by_cases q1 : i < n0
  · rw [decide_eq_false (show ¬ nI n0 ≤ nI i from nI_ge q1 (by omega)), cond_false, R.h125, mb.1.2]
    by_cases q2 : j < n1
    · rw [decide_eq_false (show ¬ nI n1 ≤ nI j from nI_ge q2 (by omega)), cond_false]
      have yes : okB G n0 n1 (-1) (-1) 0 i j = true → ex (μ, 155, [.ref 0, .int (nI i), .int (nI j), .int (nI p), .int (bI (fr0 G n0 i)), .int (bI (fr1 G n1 j)), dv], [], mC I J D) = ex (μ, 212, [.ref 0, .int (nI i), .int (nI j), .int (nI p), .int (bI (fr0 G n0 i)), .int (bI (fr1 G n1 j)), dv], [], mC (ups I 0 11 (encM (nxS G n0 n1 i j p 0 s).1)) (upsL J 0 12 (nxS G n0 n1 i j p 0 s).2) D) := fun ok => by
        obtain ⟨a, a1, a2, a3⟩ := t9 e q1
        obtain ⟨b, b1, b2, b3⟩ := u9 e q2
        obtain ⟨x1, x2, x3⟩ := mb.2.1 i q1
        obtain ⟨y1, y2⟩ := mb.2.2 j q2
        have esp : spN G 0 i j = dsN a b + (if G 12 i = G 17 j then 0 else 3) := by
          show dsN (rN (G 11 i)) (rN (G 16 j)) + (if G 12 i = G 17 j then 0 else rN (G 1 8)) = _
          rw [a3, b3, (pr_val e).2.2]
        rw [R.h155, inb_n (show i < 5 by omega) (by decide), cond_true, inb_n (show j < 5 by omega) (by decide), cond_true, cond_true, cond_true, nI_clamp (show i < 2 ^ 31 by omega), nI_clamp (show j < 2 ^ 31 by omega), x1, x2, y1, y2, a2, b2, abs_n (show a < 1000 by omega) (show b < 1000 by omega)]
        by_cases w : G 12 i = G 17 j
        · rw [if_pos w] at esp
          rw [decide_eq_false (fun h => h w), cond_false, R.h203, R.h208, nI_1, nI_1, nI_add, show (0 : Int32) = nI 0 from rfl, nI_add]
          exact g_go R.lo rc e (by decide) hm hp ok m rfl rfl (by rw [esp]; omega)
        · rw [if_neg w] at esp
          rw [decide_eq_true w, cond_true, R.h207, R.h208, nI_1, nI_1, nI_add, show (3 : Int32) = nI 3 from rfl, nI_add]
          exact g_go R.lo rc e (by decide) hm hp ok m rfl rfl (by rw [esp]; omega)
      rw [R.h135, inb_n (show i < 5 by omega) (by decide), cond_true, nI_clamp (show i < 2 ^ 31 by omega), (mb.2.1 i q1).2.2]
      by_cases w : G 13 i = nI j
      · rw [decide_eq_true w, cond_true]
        exact yes ((ok0_iff e).mpr ⟨⟨q1, q2⟩, Or.inl w⟩)
      · rw [decide_eq_false w, cond_false, R.h145]
        cases f0 : fr0 G n0 i with
        | false =>
          rw [decide_eq_true (show bI false = 0 from rfl), cond_true]
          refine g_no ?_ m
          cases h : okB G n0 n1 (-1) (-1) 0 i j with
          | false => rfl
          | true =>
            obtain ⟨-, h1 | ⟨h1, -⟩⟩ := (ok0_iff e).mp h
            · exact absurd h1 w
            · unfold fr0 at f0
              rw [decide_eq_true q1, decide_eq_true h1] at f0; cases f0
        | true =>
          rw [decide_eq_false (show ¬ bI true = 0 by decide), cond_false, R.h150]
          cases f1 : fr1 G n1 j with
          | false =>
            rw [decide_eq_true (show bI false = 0 from rfl), cond_true]
            refine g_no ?_ m
            cases h : okB G n0 n1 (-1) (-1) 0 i j with
            | false => rfl
            | true =>
              obtain ⟨-, h1 | ⟨-, h1⟩⟩ := (ok0_iff e).mp h
              · exact absurd h1 w
              · unfold fr1 at f1
                rw [decide_eq_true q2, decide_eq_true h1] at f1; cases f1
          | true =>
            rw [decide_eq_false (show ¬ bI true = 0 by decide), cond_false]
            rw [f0, f1] at yes
            unfold fr0 at f0
            unfold fr1 at f1
            rw [Bool.and_eq_true, decide_eq_true_eq, decide_eq_true_eq] at f0 f1
            exact yes ((ok0_iff e).mpr ⟨⟨q1, q2⟩, Or.inr ⟨f0.2, f1.2⟩⟩)
    · rw [decide_eq_true ((nI_leI (by omega) (by omega)).mpr (show n1 ≤ j by omega)), cond_true]
      refine g_no ?_ m
      cases h : okB G n0 n1 (-1) (-1) 0 i j with
      | false => rfl
      | true => exact absurd ((ok0_iff e).mp h).1.2 q2
  · rw [decide_eq_true ((nI_leI (by omega) (by omega)).mpr (show n0 ≤ i by omega)), cond_true]
    refine g_no ?_ m
    cases h : okB G n0 n1 (-1) (-1) 0 i j with
    | false => rfl
    | true => exact absurd ((ok0_iff e).mp h).1.1 q1
theorem ok1_e : okB G n0 n1 (-1) (-1) 1 i j = (decide (j ≤ n1) && fr0 G n0 i) := by
  unfold okB okS fr0
  rw [Bool.eq_iff_iff]
  simp only [Bool.and_eq_true, decide_eq_true_eq]
  have : tk0 1 = 1 ∧ tk1 1 = 0 := ⟨rfl, rfl⟩
  rw [this.1, this.2]
  exact ⟨fun ⟨⟨h1, h2⟩, h3⟩ => ⟨h2, h1, h3⟩, fun ⟨h1, h2, h3⟩ => ⟨⟨h2, h1⟩, h3⟩⟩
theorem ok2_e : okB G n0 n1 (-1) (-1) 2 i j = (decide (i ≤ n0) && fr1 G n1 j) := by
  unfold okB okS fr1
  rw [Bool.eq_iff_iff]
  simp only [Bool.and_eq_true, decide_eq_true_eq]
  have : tk0 2 = 0 ∧ tk1 2 = 1 := ⟨rfl, rfl⟩
  rw [this.1, this.2]
  exact ⟨fun ⟨⟨h1, h2⟩, h3⟩ => ⟨h1, h2, h3⟩, fun ⟨h1, h2, h3⟩ => ⟨⟨h1, h2⟩, h3⟩⟩
theorem g_k1 (R : GR μ μ2) (rc : Rec G n0 n1 μ2 kk) (e : GoE G n0 n1) (hj : j ≤ n1) (hm : (n0 - i) + (n1 - j) ≤ kk + 1) (hp : p + 100 * ((n0 - i) + (n1 - j)) ≤ 2000) (m : GoM G n0 n1 s I J) :
    ex (μ, 212, [.ref 0, .int (nI i), .int (nI j), .int (nI p), .int (bI (fr0 G n0 i)), .int (bI (fr1 G n1 j)), dv], [], mC I J D) = ex (μ, 228, [.ref 0, .int (nI i), .int (nI j), .int (nI p), .int (bI (fr0 G n0 i)), .int (bI (fr1 G n1 j)), dv], [], mC (ups I 0 11 (encM (nxS G n0 n1 i j p 1 s).1)) (upsL J 0 12 (nxS G n0 n1 i j p 1 s).2) D) := by
  have ok := ok1_e (G := G) (n0 := n0) (n1 := n1) (i := i) (j := j)
  rw [decide_eq_true hj, Bool.true_and] at ok
  rw [R.h212]
  cases f0 : fr0 G n0 i with
  | false =>
    rw [decide_eq_true (show bI false = 0 from rfl), cond_true]
    exact g_no (ok.trans f0) m
  | true =>
    rw [decide_eq_false (show ¬ bI true = 0 by decide), cond_false, R.h217, nI_1, show (4 : Int32) = nI 4 from rfl, nI_add]
    exact g_go R.lo rc e (by decide) hm hp (ok.trans f0) m rfl rfl (by show p + 4 = p + rN (G 1 6); rw [(pr_val e).1])
theorem g_k2 (R : GR μ μ2) (rc : Rec G n0 n1 μ2 kk) (e : GoE G n0 n1) (hi : i ≤ n0) (hm : (n0 - i) + (n1 - j) ≤ kk + 1) (hp : p + 100 * ((n0 - i) + (n1 - j)) ≤ 2000) (m : GoM G n0 n1 s I J) :
    ex (μ, 228, [.ref 0, .int (nI i), .int (nI j), .int (nI p), .int (bI (fr0 G n0 i)), .int (bI (fr1 G n1 j)), dv], [], mC I J D) = ex (μ, 244, [.ref 0, .int (nI i), .int (nI j), .int (nI p), .int (bI (fr0 G n0 i)), .int (bI (fr1 G n1 j)), dv], [], mC (ups I 0 11 (encM (nxS G n0 n1 i j p 2 s).1)) (upsL J 0 12 (nxS G n0 n1 i j p 2 s).2) D) := by
  have ok := ok2_e (G := G) (n0 := n0) (n1 := n1) (i := i) (j := j)
  rw [decide_eq_true hi, Bool.true_and] at ok
  rw [R.h228]
  cases f0 : fr1 G n1 j with
  | false =>
    rw [decide_eq_true (show bI false = 0 from rfl), cond_true]
    exact g_no (ok.trans f0) m
  | true =>
    rw [decide_eq_false (show ¬ bI true = 0 by decide), cond_false, R.h233, nI_1, show (4 : Int32) = nI 4 from rfl, nI_add]
    exact g_go R.lo rc e (by decide) hm hp (ok.trans f0) m rfl rfl (by show p + 4 = p + rN (G 1 6); rw [(pr_val e).1])
theorem ok3_iff : okB G n0 n1 (-1) (-1) 3 i j = true ↔ (fr0 G n0 i = true ∧ fr1 G n1 j = true) ∧ j + 1 < n1 ∧ G 18 (j + 1) = -1 := by
  unfold okB okS fr0 fr1
  simp only [Bool.and_eq_true, decide_eq_true_eq]
  have : tk0 3 = 1 ∧ tk1 3 = 2 := ⟨rfl, rfl⟩
  rw [this.1, this.2]
  exact ⟨fun ⟨⟨h1, h2⟩, h3, h4, h5⟩ => ⟨⟨⟨by omega, h3⟩, by omega, h4⟩, by omega, h5⟩, fun ⟨⟨⟨h1, h2⟩, h3, h4⟩, h5, h6⟩ => ⟨⟨by omega, by omega⟩, h2, h4, h6⟩⟩
theorem ok4_iff : okB G n0 n1 (-1) (-1) 4 i j = true ↔ (fr0 G n0 i = true ∧ fr1 G n1 j = true) ∧ i + 1 < n0 ∧ G 13 (i + 1) = -1 := by
  unfold okB okS fr0 fr1
  simp only [Bool.and_eq_true, decide_eq_true_eq]
  have : tk0 4 = 2 ∧ tk1 4 = 1 := ⟨rfl, rfl⟩
  rw [this.1, this.2]
  exact ⟨fun ⟨⟨h1, h2⟩, h3, h4, h5⟩ => ⟨⟨⟨by omega, h4⟩, by omega, h3⟩, by omega, h5⟩, fun ⟨⟨⟨h1, h2⟩, h3, h4⟩, h5, h6⟩ => ⟨⟨by omega, by omega⟩, h4, h2, h6⟩⟩
theorem g_k3 (R : GR μ μ2) (rc : Rec G n0 n1 μ2 kk) (e : GoE G n0 n1) (hm : (n0 - i) + (n1 - j) ≤ kk + 1) (hp : p + 100 * ((n0 - i) + (n1 - j)) ≤ 2000) (m : GoM G n0 n1 s I J) :
    ex (μ, 244, [.ref 0, .int (nI i), .int (nI j), .int (nI p), .int (bI (fr0 G n0 i)), .int (bI (fr1 G n1 j)), dv], [], mC I J D) = ex (μ, 379, [.ref 0, .int (nI i), .int (nI j), .int (nI p), .int (bI (fr0 G n0 i)), .int (bI (fr1 G n1 j)), dv], [], mC (ups I 0 11 (encM (nxS G n0 n1 i j p 3 s).1)) (upsL J 0 12 (nxS G n0 n1 i j p 3 s).2) D) := by
  obtain ⟨⟨e0, e1⟩, -⟩ := id e
  have mb := m.2.2.2
  have no : ¬ ((fr0 G n0 i = true ∧ fr1 G n1 j = true) ∧ j + 1 < n1 ∧ G 18 (j + 1) = -1) → ex (μ, 379, [.ref 0, .int (nI i), .int (nI j), .int (nI p), .int (bI (fr0 G n0 i)), .int (bI (fr1 G n1 j)), dv], [], mC I J D) = ex (μ, 379, [.ref 0, .int (nI i), .int (nI j), .int (nI p), .int (bI (fr0 G n0 i)), .int (bI (fr1 G n1 j)), dv], [], mC (ups I 0 11 (encM (nxS G n0 n1 i j p 3 s).1)) (upsL J 0 12 (nxS G n0 n1 i j p 3 s).2) D) := fun h => g_no (by
    cases q : okB G n0 n1 (-1) (-1) 3 i j with
    | false => rfl
    | true => exact absurd (ok3_iff.mp q) h) m
  rw [R.h244]
  by_cases f0 : fr0 G n0 i = true
  · rw [decide_eq_false (bI_t f0), cond_false, R.h249]
    by_cases f1 : fr1 G n1 j = true
    · have q1 : i < n0 := by unfold fr0 at f0; rw [Bool.and_eq_true, decide_eq_true_eq] at f0; exact f0.1
      have q2 : j < n1 := by unfold fr1 at f1; rw [Bool.and_eq_true, decide_eq_true_eq] at f1; exact f1.1
      rw [decide_eq_false (bI_t f1), cond_false, R.h254, mb.1.2, nI_1]
      by_cases q3 : j + 1 < n1
      · rw [decide_eq_false (show ¬ nI n1 ≤ nI (j + 1) from nI_ge q3 (by omega)), cond_false, R.h266, nI_1, g_looseC R.lo.1 e m q3, R.h273]
        by_cases w : G 18 (j + 1) = -1
        · have ok := ok3_iff.mpr ⟨⟨f0, f1⟩, q3, w⟩
          obtain ⟨a, a1, a2, a3⟩ := t9 e q1
          obtain ⟨b, b1, b2, b3⟩ := u9 e q2
          obtain ⟨c, c1, c2, c3⟩ := u9 e q3
          obtain ⟨x1, x2, x3⟩ := mb.2.1 i q1
          obtain ⟨y1, y2⟩ := mb.2.2 j q2
          obtain ⟨z1, z2⟩ := mb.2.2 (j + 1) q3
          have esp : spN G 3 i j = 2 + dsN a (b + c) + (if G 12 i = G 17 j ∨ G 12 i = G 17 (j + 1) then 0 else 3) := by
            show rN (G 1 7) + dsN (rN (G 11 i)) (rN (G 16 j) + rN (G 16 (j + 1))) + (if G 12 i = G 17 j ∨ G 12 i = G 17 (j + 1) then 0 else rN (G 1 8)) = _
            rw [a3, b3, c3, (pr_val e).2.2, (pr_val e).2.1]
          have e321 : ∀ s0 : Int32, (s0 = 0 ∨ s0 = 1) → (s0 = 1 ↔ (G 12 i = G 17 j ∨ G 12 i = G 17 (j + 1))) → ex (μ, 321, [.ref 0, .int (nI i), .int (nI j), .int (nI p), .int (bI (fr0 G n0 i)), .int (bI (fr1 G n1 j)), dv], [.int s0], mC I J D) = ex (μ, 379, [.ref 0, .int (nI i), .int (nI j), .int (nI p), .int (bI (fr0 G n0 i)), .int (bI (fr1 G n1 j)), dv], [], mC (ups I 0 11 (encM (nxS G n0 n1 i j p 3 s).1)) (upsL J 0 12 (nxS G n0 n1 i j p 3 s).2) D) := fun s0 h01 hs0 => by
            rw [R.h321, inb_n (show i < 5 by omega) (by decide), cond_true, inb_n (show j < 5 by omega) (by decide), cond_true, nI_1, inb_n (show j + 1 < 5 by omega) (by decide), cond_true, nI_clamp (show i < 2 ^ 31 by omega), nI_clamp (show j < 2 ^ 31 by omega), nI_clamp (show j + 1 < 2 ^ 31 by omega), x1, y1, z1, a2, b2, c2, sub3 a (by omega) b (by omega) c (by omega), abs_n (show a < 1000 by omega) (show b + c < 1000 by omega), show (2 : Int32) = nI 2 from rfl, nI_add, nI_add, nI_add]
            rcases h01 with rfl | rfl
            · rw [if_neg (fun h => absurd (hs0.mpr h) (by decide))] at esp
              rw [decide_eq_true rfl, cond_true, R.h374, R.h375, nI_1, show (3 : Int32) = nI 3 from rfl, nI_add]
              exact g_go R.lo rc e (by decide) hm hp ok m rfl rfl (by rw [esp]; omega)
            · rw [if_pos (hs0.mp rfl)] at esp
              rw [decide_eq_false (show ¬ (1 : Int32) = 0 by decide), cond_false, R.h370, R.h375, nI_1, show (0 : Int32) = nI 0 from rfl, nI_add]
              exact g_go R.lo rc e (by decide) hm hp ok m rfl rfl (by rw [esp]; omega)
          rw [decide_eq_true w, decide_eq_false (show ¬ bI true = 0 by decide), cond_false, R.h276, inb_n (show i < 5 by omega) (by decide), cond_true, inb_n (show j < 5 by omega) (by decide), cond_true, nI_clamp (show i < 2 ^ 31 by omega), nI_clamp (show j < 2 ^ 31 by omega), x2, y2]
          by_cases v1 : G 12 i = G 17 j
          · rw [decide_eq_true v1, cond_true, R.h316]
            exact e321 1 (Or.inr rfl) ⟨fun _ => Or.inl v1, fun _ => rfl⟩
          · rw [decide_eq_false v1, cond_false, R.h295, inb_n (show i < 5 by omega) (by decide), cond_true, nI_1, inb_n (show j + 1 < 5 by omega) (by decide), cond_true, nI_clamp (show i < 2 ^ 31 by omega), nI_clamp (show j + 1 < 2 ^ 31 by omega), x2, z2]
            by_cases v2 : G 12 i = G 17 (j + 1)
            · rw [decide_eq_false (fun h => h v2), cond_false, R.h316]
              exact e321 1 (Or.inr rfl) ⟨fun _ => Or.inr v2, fun _ => rfl⟩
            · rw [decide_eq_true v2, cond_true, R.h320]
              exact e321 0 (Or.inl rfl) ⟨fun h => absurd h (by decide), fun h => (h.elim v1 v2).elim⟩
        · rw [decide_eq_false w, decide_eq_true (show bI false = 0 from rfl), cond_true]
          exact no fun h => w h.2.2
      · rw [decide_eq_true ((nI_leI (by omega) (by omega)).mpr (show n1 ≤ j + 1 by omega)), cond_true]
        exact no fun h => q3 h.2.1
    · rw [decide_eq_true (bI_f (Bool.eq_false_iff.mpr f1)), cond_true]
      exact no fun h => f1 h.1.2
  · rw [decide_eq_true (bI_f (Bool.eq_false_iff.mpr f0)), cond_true]
    exact no fun h => f0 h.1.1
theorem g_k4 (R : GR μ μ2) (rc : Rec G n0 n1 μ2 kk) (e : GoE G n0 n1) (hm : (n0 - i) + (n1 - j) ≤ kk + 1) (hp : p + 100 * ((n0 - i) + (n1 - j)) ≤ 2000) (m : GoM G n0 n1 s I J) :
    ex (μ, 379, [.ref 0, .int (nI i), .int (nI j), .int (nI p), .int (bI (fr0 G n0 i)), .int (bI (fr1 G n1 j)), dv], [], mC I J D) = some (.inl none, mC (ups I 0 11 (encM (nxS G n0 n1 i j p 4 s).1)) (upsL J 0 12 (nxS G n0 n1 i j p 4 s).2) D) := by
  obtain ⟨⟨e0, e1⟩, -⟩ := id e
  have mb := m.2.2.2
  have no : ¬ ((fr0 G n0 i = true ∧ fr1 G n1 j = true) ∧ i + 1 < n0 ∧ G 13 (i + 1) = -1) → ex (μ, 515, [dv, dv, dv, dv, dv, dv, dv], [], mC I J D) = some (.inl none, mC (ups I 0 11 (encM (nxS G n0 n1 i j p 4 s).1)) (upsL J 0 12 (nxS G n0 n1 i j p 4 s).2) D) := fun h => by
    rw [g_no (p := p) (i := i) (j := j) (G := G) (n0 := n0) (n1 := n1) (k := 4) (by
      cases q : okB G n0 n1 (-1) (-1) 4 i j with
      | false => rfl
      | true => exact absurd (ok4_iff.mp q) h) m, R.h515]
  rw [R.h379]
  by_cases f0 : fr0 G n0 i = true
  · rw [decide_eq_false (bI_t f0), cond_false, R.h384]
    by_cases f1 : fr1 G n1 j = true
    · have q1 : i < n0 := by unfold fr0 at f0; rw [Bool.and_eq_true, decide_eq_true_eq] at f0; exact f0.1
      have q2 : j < n1 := by unfold fr1 at f1; rw [Bool.and_eq_true, decide_eq_true_eq] at f1; exact f1.1
      rw [decide_eq_false (bI_t f1), cond_false, R.h389, mb.1.1, nI_1]
      by_cases q3 : i + 1 < n0
      · rw [decide_eq_false (show ¬ nI n0 ≤ nI (i + 1) from nI_ge q3 (by omega)), cond_false, R.h401, nI_1, inb_n (show i + 1 < 5 by omega) (by decide), cond_true, nI_clamp (show i + 1 < 2 ^ 31 by omega), (mb.2.1 (i + 1) q3).2.2]
        by_cases w : G 13 (i + 1) = -1
        · have ok := ok4_iff.mpr ⟨⟨f0, f1⟩, q3, w⟩
          obtain ⟨a, a1, a2, a3⟩ := u9 e q2
          obtain ⟨b, b1, b2, b3⟩ := t9 e q1
          obtain ⟨c, c1, c2, c3⟩ := t9 e q3
          obtain ⟨x1, x2, x3⟩ := mb.2.1 i q1
          obtain ⟨y1, y2⟩ := mb.2.2 j q2
          obtain ⟨z1, z2, z3⟩ := mb.2.1 (i + 1) q3
          have esp : spN G 4 i j = 2 + dsN a (b + c) + (if G 17 j = G 12 i ∨ G 17 j = G 12 (i + 1) then 0 else 3) := by
            show rN (G 1 7) + dsN (rN (G 16 j)) (rN (G 11 i) + rN (G 11 (i + 1))) + (if G 17 j = G 12 i ∨ G 17 j = G 12 (i + 1) then 0 else rN (G 1 8)) = _
            rw [a3, b3, c3, (pr_val e).2.2, (pr_val e).2.1]
          have e457 : ∀ s0 : Int32, (s0 = 0 ∨ s0 = 1) → (s0 = 1 ↔ (G 17 j = G 12 i ∨ G 17 j = G 12 (i + 1))) → ex (μ, 457, [.ref 0, .int (nI i), .int (nI j), .int (nI p), dv, dv, dv], [.int s0], mC I J D) = some (.inl none, mC (ups I 0 11 (encM (nxS G n0 n1 i j p 4 s).1)) (upsL J 0 12 (nxS G n0 n1 i j p 4 s).2) D) := fun s0 h01 hs0 => by
            rw [R.h457, inb_n (show j < 5 by omega) (by decide), cond_true, inb_n (show i < 5 by omega) (by decide), cond_true, nI_1, inb_n (show i + 1 < 5 by omega) (by decide), cond_true, nI_clamp (show i < 2 ^ 31 by omega), nI_clamp (show j < 2 ^ 31 by omega), nI_clamp (show i + 1 < 2 ^ 31 by omega), x1, y1, z1, a2, b2, c2, sub3 a (by omega) b (by omega) c (by omega), abs_n (show a < 1000 by omega) (show b + c < 1000 by omega), show (2 : Int32) = nI 2 from rfl, nI_add, nI_add, nI_add, nI_1]
            rcases h01 with rfl | rfl
            · rw [if_neg (fun h => absurd (hs0.mpr h) (by decide))] at esp
              rw [decide_eq_true rfl, cond_true, R.h510, R.h511, show (3 : Int32) = nI 3 from rfl, nI_add]
              exact (g_go R.lo rc e (k := 4) (i := i) (j := j) (p := p) (by decide) hm hp ok m rfl rfl (by rw [esp]; omega)).trans (R.h515 _ _ _)
            · rw [if_pos (hs0.mp rfl)] at esp
              rw [decide_eq_false (show ¬ (1 : Int32) = 0 by decide), cond_false, R.h506, R.h511, show (0 : Int32) = nI 0 from rfl, nI_add]
              exact (g_go R.lo rc e (k := 4) (i := i) (j := j) (p := p) (by decide) hm hp ok m rfl rfl (by rw [esp]; omega)).trans (R.h515 _ _ _)
          rw [decide_eq_false (show ¬ 0 ≤ G 13 (i + 1) by rw [w]; decide), cond_false, R.h412, inb_n (show j < 5 by omega) (by decide), cond_true, inb_n (show i < 5 by omega) (by decide), cond_true, nI_clamp (show i < 2 ^ 31 by omega), nI_clamp (show j < 2 ^ 31 by omega), x2, y2]
          by_cases v1 : G 17 j = G 12 i
          · rw [decide_eq_true v1, cond_true, R.h452]
            exact e457 1 (Or.inr rfl) ⟨fun _ => Or.inl v1, fun _ => rfl⟩
          · rw [decide_eq_false v1, cond_false, R.h431, inb_n (show j < 5 by omega) (by decide), cond_true, nI_1, inb_n (show i + 1 < 5 by omega) (by decide), cond_true, nI_clamp (show j < 2 ^ 31 by omega), nI_clamp (show i + 1 < 2 ^ 31 by omega), y2, z2]
            by_cases v2 : G 17 j = G 12 (i + 1)
            · rw [decide_eq_false (fun h => h v2), cond_false, R.h452]
              exact e457 1 (Or.inr rfl) ⟨fun _ => Or.inr v2, fun _ => rfl⟩
            · rw [decide_eq_true v2, cond_true, R.h456]
              exact e457 0 (Or.inl rfl) ⟨fun h => absurd h (by decide), fun h => (h.elim v1 v2).elim⟩
        · rw [decide_eq_true ((tie_ge e q3).mpr w), cond_true]
          exact no fun h => w h.2.2
      · rw [decide_eq_true ((nI_leI (by omega) (by omega)).mpr (show n0 ≤ i + 1 by omega)), cond_true]
        exact no fun h => q3 h.2.1
    · rw [decide_eq_true (bI_f (Bool.eq_false_iff.mpr f1)), cond_true]
      exact no fun h => f1 h.1.2
  · rw [decide_eq_true (bI_f (Bool.eq_false_iff.mpr f0)), cond_true]
    exact no fun h => f0 h.1.1
theorem nx_cell (hne : ¬ (i = n0 ∧ j = n1)) : ∀ k, Nat.rec (motive := fun _ => Option Nat × Int64) s (fun k t => nxS G n0 n1 i j p k t) k = stW (shO p (cellK G n0 n1 (-1) (-1) (PP G n0 n1 (-1) (-1)) i j k).1) (cellK G n0 n1 (-1) (-1) (PP G n0 n1 (-1) (-1)) i j k).2 s
  | 0 => by
    show s = stW (shO p (if i = n0 ∧ j = n1 then (some 0, 1) else (none, 0) : Option Nat × Int64).1) _ s
    rw [if_neg hne]
    rfl
  | k + 1 => by
    show nxS G n0 n1 i j p k (Nat.rec (motive := fun _ => Option Nat × Int64) s (fun k t => nxS G n0 n1 i j p k t) k) = _
    rw [nx_cell hne k]
    unfold nxS
    rw [stW_as]
    rfl
theorem g_all (e : GoE G n0 n1) : ∀ k μ, GCh k μ → Rec G n0 n1 μ k := by
  intro k
  induction k with
  | zero =>
    intro μ B i j p s I J D hi hj hk hp m
    have h1 : i = n0 := by omega
    have h2 : j = n1 := by omega
    subst h1; subst h2
    rw [PP_end e]
    exact g_end (gch_b B) e m (by omega)
  | succ k ih =>
    intro μ hch i j p s I J D hi hj hk hp m
    by_cases hne : i = n0 ∧ j = n1
    · obtain ⟨rfl, rfl⟩ := hne
      rw [PP_end e]
      exact g_end hch.1 e m (by omega)
    · obtain ⟨B, R, hch2⟩ := hch
      have rc := ih (μ + 1) hch2
      have e16 := e.1
      have p2 : p ≤ 2000 := by omega
      have m1 := m.put (nx_b8 (i := i) (j := j) (p := p) (k := 0) e (by decide) p2 m.2.1)
      have m2 := m1.put (nx_b8 (i := i) (j := j) (p := p) (k := 1) e (by decide) p2 m1.2.1)
      have m3 := m2.put (nx_b8 (i := i) (j := j) (p := p) (k := 2) e (by decide) p2 m2.2.1)
      have m4 := m3.put (nx_b8 (i := i) (j := j) (p := p) (k := 3) e (by decide) p2 m3.2.1)
      rw [g_pre B R e hi hj hne m, g_k0 R rc e hi hj hk hp m, g_k1 R rc e hj hk hp m1, g_k2 R rc e hi hk hp m2, g_k3 R rc e hk hp m3, g_k4 R rc e hk hp m4]
      have key := nx_cell (G := G) (n0 := n0) (n1 := n1) (i := i) (j := j) (p := p) (s := s) hne 5
      rw [← PP_eq (by omega) (by omega) hi hj] at key
      rw [← key]
      rw [w_uu, w_uu, w_uu, w_uu, uuJ, uuJ, uuJ, uuJ]
      rfl
/-- the law's walk from the start -/
theorem g_law (e : GoE G n0 n1) {s : Option Nat × Int64} (m : GoM G n0 n1 s I J) : ex (335, 0, [.ref 0, .int 0, .int 0, .int 0, dv, dv, dv], [], mC I J D) = some (.inl none, mC (ups I 0 11 (encM (stW (PP G n0 n1 (-1) (-1) 0 0).1 (PP G n0 n1 (-1) (-1) 0 0).2 s).1)) (upsL J 0 12 (stW (PP G n0 n1 (-1) (-1) 0 0).1 (PP G n0 n1 (-1) (-1) 0 0).2 s).2) D) := by
  have h := gch_n 0 (by decide)
  have e16 := e.1
  have key := g_all e (10 - 0) 335 h 0 0 0 s I J D (by omega) (by omega) (by omega) (by omega) m
  have : shO 0 (PP G n0 n1 (-1) (-1) 0 0).1 = (PP G n0 n1 (-1) (-1) 0 0).1 := by
    unfold shO
    cases (PP G n0 n1 (-1) (-1) 0 0).1 with
    | none => rfl
    | some v => show some (0 + v) = some v; rw [Nat.zero_add]
  rw [this] at key
  exact key
end GP
