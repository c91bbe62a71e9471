/-! flow: the numbers of a step -/
def offN (b a : Nat → Int32) (f t : Nat) : Int32 := if a f / 2 < (if (b f + a f) - (b t + a t) < 0 then 0 else (b f + a f) - (b t + a t)) / 4 then a f / 2 else (if (b f + a f) - (b t + a t) < 0 then 0 else (b f + a f) - (b t + a t)) / 4
def inL (b a : Nat → Int32) (j : Nat) : Int32 := if j = 0 then 0 else offN b a (j - 1) j - offN b a j (j - 1)
def ouR (b a : Nat → Int32) (j : Nat) : Int32 := if j < 11 then offN b a j (j + 1) - offN b a (j + 1) j else 0
def mvN (b a : Nat → Int32) (j : Nat) : Int32 := if j < 12 then a j + (inL b a j - ouR b a j) else a j
def gnN (b a : Nat → Int32) (l s m : Int32) (j : Nat) : Int32 := if b j + a j < l then -(if a j < m then a j else m) else s
def wtN (b a : Nat → Int32) (l s m : Int32) (j : Nat) : Int32 := if j < 12 then a j + gnN b a l s m j else a j
def gsN (b a : Nat → Int32) (l s m g : Int32) : Nat → Int32
  | 0 => g
  | n + 1 => gsN b a l s m g n + gnN b a l s m n
/-- a step: the amounts, what is won -/
def stA1 (b : Nat → Int32) (l s m : Int32) (x : (Nat → Int32) × Int32) : (Nat → Int32) × Int32 := (wtN b (mvN b x.1) l s m, gsN b (mvN b x.1) l s m x.2 12)
def itA (b : Nat → Int32) (l s m : Int32) : Nat → (Nat → Int32) × Int32 → (Nat → Int32) × Int32
  | 0, x => x
  | n + 1, x => stA1 b l s m (itA b l s m n x)
def totN (a : Nat → Int32) : Nat → Int32
  | 0 => 0
  | n + 1 => totN a n + a n
def IceOK (b a : Nat → Int32) (S : Int) : Prop := (∀ j, j < 12 → rg 0 999 (b j)) ∧ (∀ j, j < 12 → 0 ≤ (a j).toInt) ∧ sumN (fun c => (a c).toInt) 12 ≤ S
theorem sum_at {f : Nat → Int} : ∀ {n : Nat}, (∀ j, j < n → 0 ≤ f j) → ∀ j, j < n → f j ≤ sumN f n ∧ 0 ≤ sumN f n
  | 0, _, j, h => by omega
  | n + 1, h, j, hj => by
    have h0 := h n (by omega)
    have e : sumN f (n + 1) = sumN f n + f n := rfl
    by_cases e1 : j = n
    · subst e1
      by_cases hn : 0 < j
      · have := sum_at (f := f) (n := j) (fun k hk => h k (by omega)) 0 hn
        omega
      · have : j = 0 := by omega
        subst this
        have e2 : sumN f 0 = 0 := rfl
        omega
    · have := sum_at (f := f) (n := n) (fun k hk => h k (by omega)) j (by omega)
      omega
theorem IceOK.a {b a : Nat → Int32} {S : Int} (h : IceOK b a S) {j : Nat} (hj : j < 12) : rg 0 S (a j) := ⟨h.2.1 j hj, by
  have := sum_at (f := fun c => (a c).toInt) h.2.1 j hj
  have := h.2.2
  show (a j).toInt ≤ S
  have e : (fun c => (a c).toInt) j = (a j).toInt := rfl
  omega⟩
theorem div_rg {a b : Int32} {q : Int} (h0 : 0 ≤ a.toInt) (hb : b.toInt = q) (hq : 1 < q) : (a / b).toInt = a.toInt / q := by
  have h1 : (a / b).toInt = (a.toInt.tdiv b.toInt).bmod (2 ^ 32) := Int32.toInt_div a b
  have h2 := Int32.toInt_lt a
  rw [h1, hb, Int.tdiv_eq_ediv_of_nonneg h0]
  have h3 : a.toInt / q ≤ a.toInt := Int.ediv_le_self _ h0
  have h4 : 0 ≤ a.toInt / q := Int.ediv_nonneg h0 (by omega)
  generalize a.toInt / q = z at h3 h4 ⊢
  rw [Int.bmod_eq_of_le (by omega) (by omega)]
/-- what flows on: never more than half of what is there -/
theorem off_rg {b a : Nat → Int32} {S : Int} (h : IceOK b a S) (hS : S ≤ 100000000) {f t : Nat} (hf : f < 12) (ht : t < 12) :
    ∃ z : Int, (offN b a f t).toInt = z ∧ 0 ≤ z ∧ 2 * z ≤ (a f).toInt ∧ ((b f + a f ≤ b t + a t) → offN b a f t = 0) := by
  have af := h.a hf
  have at' := h.a ht
  have s1 := add_rg (h.1 f hf) af (by omega)
  have s2 := add_rg (h.1 t ht) at' (by omega)
  have d := sub_rg s1.2 s2.2 (by omega)
  have half := div_rg (a := a f) (b := 2) (q := 2) af.1 rfl (by decide)
  have hl := Int32.lt_iff_toInt_lt (x := b f + a f - (b t + a t)) (y := 0)
  have z0 : (0 : Int32).toInt = 0 := rfl
  rw [z0] at hl
  have hm : (0 : Int) ≤ (if (b f + a f) - (b t + a t) < 0 then (0 : Int32) else (b f + a f) - (b t + a t)).toInt := by
    by_cases q : (b f + a f) - (b t + a t) < 0
    · rw [if_pos q]; decide
    · rw [if_neg q]
      have := (not_congr hl).mp q
      omega
  have quart := div_rg (a := if (b f + a f) - (b t + a t) < 0 then (0 : Int32) else (b f + a f) - (b t + a t)) (b := 4) (q := 4) hm rfl (by decide)
  have l1 := af.1
  have hh : 0 ≤ (a f).toInt / 2 ∧ 2 * ((a f).toInt / 2) ≤ (a f).toInt := by omega
  unfold offN
  have le0 : b f + a f ≤ b t + a t → (if (b f + a f) - (b t + a t) < 0 then (0 : Int32) else (b f + a f) - (b t + a t)) = 0 := by
    intro hle
    by_cases q : (b f + a f) - (b t + a t) < 0
    · rw [if_pos q]
    · rw [if_neg q]
      have h1 := Int32.le_iff_toInt_le.mp hle
      have h2 := (not_congr hl).mp q
      exact Int32.toInt_inj.mp (by rw [d.1, z0]; omega)
  generalize (if (b f + a f) - (b t + a t) < 0 then (0 : Int32) else (b f + a f) - (b t + a t)) = m at hm quart le0 ⊢
  have hc := Int32.lt_iff_toInt_lt (x := a f / 2) (y := m / 4)
  by_cases q : a f / 2 < m / 4
  · rw [if_pos q]
    refine ⟨_, rfl, by rw [half]; exact hh.1, by rw [half]; exact hh.2, fun hle => ?_⟩
    have h1 := hc.mp q
    have h2 := le0 hle
    rw [h2] at h1
    have h3 : ((0 : Int32) / 4).toInt = 0 := by decide
    rw [h3, half] at h1
    omega
  · rw [if_neg q]
    have h1 := (not_congr hc).mp q
    rw [half] at h1
    refine ⟨_, rfl, by rw [quart]; omega, by omega, fun hle => ?_⟩
    rw [le0 hle]; rfl
theorem mv_int {b a : Nat → Int32} {S : Int} (h : IceOK b a S) (hS : S ≤ 100000000) {j : Nat} (hj : j < 12) :
    (mvN b a j).toInt = (a j).toInt + ((if j = 0 then 0 else (offN b a (j - 1) j).toInt - (offN b a j (j - 1)).toInt) - (if j < 11 then (offN b a j (j + 1)).toInt - (offN b a (j + 1) j).toInt else 0)) ∧ 0 ≤ (mvN b a j).toInt := by
  have haj := h.a hj
  have hl : ∃ z : Int, (inL b a j).toInt = z ∧ z = (if j = 0 then 0 else (offN b a (j - 1) j).toInt - (offN b a j (j - 1)).toInt) ∧ rg (-S) S (inL b a j) ∧ -((a j).toInt / 2) ≤ z := by
    unfold inL
    by_cases q : j = 0
    · rw [if_pos q, if_pos q]
      exact ⟨0, rfl, rfl, ⟨by have := haj.1; have := haj.2; show _ ≤ (0 : Int); omega, by have := haj.1; have := haj.2; show (0 : Int) ≤ _; omega⟩, by have := haj.1; omega⟩
    · rw [if_neg q, if_neg q]
      obtain ⟨z1, e1, p1, p2, -⟩ := off_rg h hS (f := j - 1) (t := j) (by omega) hj
      obtain ⟨z2, e2, q1, q2, -⟩ := off_rg h hS (f := j) (t := j - 1) hj (by omega)
      have b1 := h.a (j := j - 1) (by omega)
      have b2 := haj
      have r1 : rg 0 S (offN b a (j - 1) j) := ⟨by omega, by have := b1.1; have := b1.2; omega⟩
      have r2 : rg 0 S (offN b a j (j - 1)) := ⟨by omega, by have := b2.1; have := b2.2; omega⟩
      have s := sub_rg r1 r2 (by omega)
      refine ⟨_, rfl, s.1, ⟨by have := s.2.1; omega, by have := s.2.2; omega⟩, ?_⟩
      rw [s.1]; omega
  have hr : ∃ z : Int, (ouR b a j).toInt = z ∧ z = (if j < 11 then (offN b a j (j + 1)).toInt - (offN b a (j + 1) j).toInt else 0) ∧ rg (-S) S (ouR b a j) ∧ z ≤ (a j).toInt / 2 := by
    unfold ouR
    by_cases q : j < 11
    · rw [if_pos q, if_pos q]
      obtain ⟨z1, e1, p1, p2, -⟩ := off_rg h hS (f := j) (t := j + 1) hj (by omega)
      obtain ⟨z2, e2, q1, q2, -⟩ := off_rg h hS (f := j + 1) (t := j) (by omega) hj
      have b1 := haj
      have b2 := h.a (j := j + 1) (by omega)
      have r1 : rg 0 S (offN b a j (j + 1)) := ⟨by omega, by have := b1.1; have := b1.2; omega⟩
      have r2 : rg 0 S (offN b a (j + 1) j) := ⟨by omega, by have := b2.1; have := b2.2; omega⟩
      have s := sub_rg r1 r2 (by omega)
      refine ⟨_, rfl, s.1, ⟨by have := s.2.1; omega, by have := s.2.2; omega⟩, ?_⟩
      rw [s.1]; omega
    · rw [if_neg q, if_neg q]
      exact ⟨0, rfl, rfl, ⟨by have := haj.1; have := haj.2; show _ ≤ (0 : Int); omega, by have := haj.1; have := haj.2; show (0 : Int) ≤ _; omega⟩, by have := haj.1; omega⟩
  obtain ⟨z1, e1, f1, g1, k1⟩ := hl
  obtain ⟨z2, e2, f2, g2, k2⟩ := hr
  have d := sub_rg g1 g2 (by omega)
  have s := add_rg haj d.2 (by omega)
  have e : mvN b a j = a j + (inL b a j - ouR b a j) := by unfold mvN; rw [if_pos hj]
  rw [e, s.1, d.1, e1, e2, f1, f2]
  refine ⟨rfl, ?_⟩
  rw [← f1, ← f2]
  have := haj.1
  omega
theorem mv_ok {b a : Nat → Int32} {S : Int} (h : IceOK b a S) (hS : S ≤ 100000000) : IceOK b (mvN b a) S := by
  refine ⟨h.1, fun j hj => (mv_int h hS hj).2, ?_⟩
  have q := h.2.2
  have e : ∀ j, j < 12 → (mvN b a j).toInt = (a j).toInt + ((if j = 0 then 0 else (offN b a (j - 1) j).toInt - (offN b a j (j - 1)).toInt) - (if j < 11 then (offN b a j (j + 1)).toInt - (offN b a (j + 1) j).toInt else 0)) := fun j hj => (mv_int h hS hj).1

  have e0 := e 0 (by decide)
  have e1 := e 1 (by decide)
  have e2 := e 2 (by decide)
  have e3 := e 3 (by decide)
  have e4 := e 4 (by decide)
  have e5 := e 5 (by decide)
  have e6 := e 6 (by decide)
  have e7 := e 7 (by decide)
  have e8 := e 8 (by decide)
  have e9 := e 9 (by decide)
  have e10 := e 10 (by decide)
  have e11 := e 11 (by decide)
  simp only [if_true, show (11 : Nat) < 11 ↔ False from by decide, if_false, show ((1 : Nat) = 0) ↔ False from by decide, show ((2 : Nat) = 0) ↔ False from by decide, show ((3 : Nat) = 0) ↔ False from by decide, show ((4 : Nat) = 0) ↔ False from by decide, show ((5 : Nat) = 0) ↔ False from by decide, show ((6 : Nat) = 0) ↔ False from by decide, show ((7 : Nat) = 0) ↔ False from by decide, show ((8 : Nat) = 0) ↔ False from by decide, show ((9 : Nat) = 0) ↔ False from by decide, show ((10 : Nat) = 0) ↔ False from by decide, show ((11 : Nat) = 0) ↔ False from by decide, show ((0 : Nat) < 11) ↔ True from by decide, show ((1 : Nat) < 11) ↔ True from by decide, show ((2 : Nat) < 11) ↔ True from by decide, show ((3 : Nat) < 11) ↔ True from by decide, show ((4 : Nat) < 11) ↔ True from by decide, show ((5 : Nat) < 11) ↔ True from by decide, show ((6 : Nat) < 11) ↔ True from by decide, show ((7 : Nat) < 11) ↔ True from by decide, show ((8 : Nat) < 11) ↔ True from by decide, show ((9 : Nat) < 11) ↔ True from by decide, show ((10 : Nat) < 11) ↔ True from by decide, Nat.reduceAdd, Nat.reduceSub] at e0 e1 e2 e3 e4 e5 e6 e7 e8 e9 e10 e11
  simp only [sumN] at q ⊢
  omega

theorem gn_int {b a : Nat → Int32} {S : Int} {l s m : Int32} (h : IceOK b a S) (hs : rg 0 20 s) (hm : rg 0 20 m) {j : Nat} (hj : j < 12) : -(a j).toInt ≤ (gnN b a l s m j).toInt ∧ (gnN b a l s m j).toInt ≤ 20 ∧ -20 ≤ (gnN b a l s m j).toInt := by
  have haj := (h.a hj).1
  unfold gnN
  by_cases q : b j + a j < l
  · rw [if_pos q]
    have hc := Int32.lt_iff_toInt_lt (x := a j) (y := m)
    have key : ∀ x : Int32, rg 0 20 x → x.toInt ≤ (a j).toInt → -(a j).toInt ≤ (-x).toInt ∧ (-x).toInt ≤ 20 ∧ -20 ≤ (-x).toInt := by
      intro x hx hxa
      have e : (-x).toInt = -x.toInt := by
        have := sub_rg (a := 0) (b := x) (p := 0) (q := 0) ⟨by decide, by decide⟩ hx (by omega)
        rw [Int32.zero_sub] at this
        have z : (0 : Int32).toInt = 0 := rfl
        rw [this.1, z]; omega
      obtain ⟨h1, h2⟩ := hx
      omega
    by_cases r : a j < m
    · rw [if_pos r]
      have := hc.mp r
      exact key _ ⟨haj, by have := hm.2; omega⟩ (Int.le_refl _)
    · rw [if_neg r]
      have := (not_congr hc).mp r
      exact key _ hm (by omega)
  · rw [if_neg q]
    obtain ⟨h1, h2⟩ := hs
    omega
theorem sum_le {f g : Nat → Int} {c : Int} : ∀ {n : Nat}, (∀ j, j < n → f j ≤ g j + c) → sumN f n ≤ sumN g n + n * c
  | 0, _ => by show (0 : Int) ≤ 0 + ((0 : Nat) : Int) * c; rw [show ((0 : Nat) : Int) = 0 from rfl, Int.zero_mul]; exact Int.le_refl _
  | n + 1, h => by
    have := sum_le (f := f) (g := g) (c := c) (n := n) (fun j hj => h j (by omega))
    have h1 := h n (by omega)
    show sumN f n + f n ≤ sumN g n + g n + _
    rw [show ((n + 1 : Nat) : Int) = (n : Int) + 1 from rfl, Int.add_mul, Int.one_mul]
    omega
theorem wt_ok {b a : Nat → Int32} {S : Int} {l s m : Int32} (h : IceOK b a S) (hS : S ≤ 100000000) (hs : rg 0 20 s) (hm : rg 0 20 m) : IceOK b (wtN b a l s m) (S + 240) := by
  have e : ∀ j, j < 12 → (wtN b a l s m j).toInt = (a j).toInt + (gnN b a l s m j).toInt ∧ 0 ≤ (wtN b a l s m j).toInt ∧ (wtN b a l s m j).toInt ≤ (a j).toInt + 20 := by
    intro j hj
    have g := gn_int (l := l) h hs hm hj
    have haj := h.a hj
    have sm := add_rg haj (show rg (-20) 20 (gnN b a l s m j) from ⟨g.2.2, g.2.1⟩) (by omega)
    have e : wtN b a l s m j = a j + gnN b a l s m j := by unfold wtN; rw [if_pos hj]
    rw [e, sm.1]
    omega
  refine ⟨h.1, fun j hj => (e j hj).2.1, ?_⟩
  have := sum_le (f := fun c => (wtN b a l s m c).toInt) (g := fun c => (a c).toInt) (c := 20) (n := 12) (fun j hj => (e j hj).2.2)
  have := h.2.2
  omega
theorem ice_ok {b : Nat → Int32} {x : (Nat → Int32) × Int32} {S : Int} {l s m : Int32} (h : IceOK b x.1 S) (hS : S ≤ 100000000) (hs : rg 0 20 s) (hm : rg 0 20 m) : IceOK b (stA1 b l s m x).1 (S + 240) := wt_ok (mv_ok h hS) hS hs hm
theorem it_ok {b : Nat → Int32} {x : (Nat → Int32) × Int32} {S : Int} {l s m : Int32} (h : IceOK b x.1 S) (hS : S ≤ 90000000) (hs : rg 0 20 s) (hm : rg 0 20 m) : ∀ n, n ≤ 50 → IceOK b (itA b l s m n x).1 (S + 240 * n)
  | 0, _ => by rw [show S + 240 * ((0 : Nat) : Int) = S by omega]; exact h
  | n + 1, hn => by
    have := ice_ok (l := l) (s := s) (m := m) (it_ok (l := l) h hS hs hm n (by omega)) (by omega) hs hm
    rw [show S + 240 * ((n + 1 : Nat) : Int) = S + 240 * (n : Int) + 240 by omega]
    exact this
/-- the same numbers where it matters -/
theorem off_c {b b2 a a2 : Nat → Int32} (hb : ∀ j, j < 12 → b2 j = b j) (ha : ∀ j, j < 12 → a2 j = a j) {f t : Nat} (hf : f < 12) (ht : t < 12) : offN b2 a2 f t = offN b a f t := by
  unfold offN
  rw [hb f hf, hb t ht, ha f hf, ha t ht]

