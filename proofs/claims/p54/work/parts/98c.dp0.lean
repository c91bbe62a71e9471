/-! laying both rows beside each other: the numbers -/
def tk0 : Nat → Nat
  | 2 => 0
  | 4 => 2
  | _ => 1
def tk1 : Nat → Nat
  | 1 => 0
  | 3 => 2
  | _ => 1
def dsN (a b : Nat) : Nat := (a - b) + (b - a)
/-- may a step be made there, leaving aside how many bands are left -/
def okS (G : Nat → Nat → Int32) (b0 b1 : Int32) (k i j : Nat) : Bool := match k with
  | 0 => decide ((G 13 i = -1 ∨ G 13 i = nI j) ∧ (G 18 j = -1 ∨ G 18 j = nI i) ∧ ¬ (nI i = b0 ∧ nI j = b1))
  | 1 => decide (G 13 i = -1)
  | 2 => decide (G 18 j = -1)
  | 3 => decide (G 13 i = -1 ∧ G 18 j = -1 ∧ G 18 (j + 1) = -1)
  | _ => decide (G 18 j = -1 ∧ G 13 i = -1 ∧ G 13 (i + 1) = -1)
def okB (G : Nat → Nat → Int32) (n0 n1 : Nat) (b0 b1 : Int32) (k i j : Nat) : Bool := decide (i + tk0 k ≤ n0 ∧ j + tk1 k ≤ n1) && okS G b0 b1 k i j
def spN (G : Nat → Nat → Int32) (k i j : Nat) : Nat := match k with
  | 0 => dsN (rN (G 11 i)) (rN (G 16 j)) + (if G 12 i = G 17 j then 0 else rN (G 1 8))
  | 1 => rN (G 1 6)
  | 2 => rN (G 1 6)
  | 3 => rN (G 1 7) + dsN (rN (G 11 i)) (rN (G 16 j) + rN (G 16 (j + 1))) + (if G 12 i = G 17 j ∨ G 12 i = G 17 (j + 1) then 0 else rN (G 1 8))
  | _ => rN (G 1 7) + dsN (rN (G 16 j)) (rN (G 11 i) + rN (G 11 (i + 1))) + (if G 17 j = G 12 i ∨ G 17 j = G 12 (i + 1) then 0 else rN (G 1 8))
def whN (nx : Option Nat) (ok : Bool) (sp : Nat) : Option Nat := bif ok then nx.map (fun r => sp + r) else none
def stW (wh : Option Nat) (ways : Int64) (s : Option Nat × Int64) : Option Nat × Int64 := match wh with
  | none => s
  | some v => match s.1 with
    | none => (some v, 0 + ways)
    | some b => if v < b then (some v, 0 + ways) else if v = b then (some b, s.2 + ways) else s
def cellK (G : Nat → Nat → Int32) (n0 n1 : Nat) (b0 b1 : Int32) (T : Nat → Nat → Option Nat × Int64) (i j : Nat) : Nat → Option Nat × Int64
  | 0 => if i = n0 ∧ j = n1 then (some 0, 1) else (none, 0)
  | k + 1 => stW (whN (T (i + tk0 k) (j + tk1 k)).1 (okB G n0 n1 b0 b1 k i j) (spN G k i j)) (T (i + tk0 k) (j + tk1 k)).2 (cellK G n0 n1 b0 b1 T i j k)
def PW (G : Nat → Nat → Int32) (n0 n1 : Nat) (b0 b1 : Int32) : Nat → Nat → Nat → Option Nat × Int64
  | 0 => fun _ _ => (none, 0)
  | f + 1 => fun i j => cellK G n0 n1 b0 b1 (PW G n0 n1 b0 b1 f) i j 5
section DP
variable {G : Nat → Nat → Int32} {n0 n1 : Nat} {b0 b1 : Int32}
theorem tk_pos {k : Nat} : 1 ≤ tk0 k + tk1 k := by
  unfold tk0 tk1
  split <;> split <;> omega
theorem cell_cg {T U : Nat → Nat → Option Nat × Int64} {i j : Nat} (h : ∀ k, i + tk0 k ≤ n0 → j + tk1 k ≤ n1 → T (i + tk0 k) (j + tk1 k) = U (i + tk0 k) (j + tk1 k)) : ∀ k, cellK G n0 n1 b0 b1 T i j k = cellK G n0 n1 b0 b1 U i j k
  | 0 => rfl
  | k + 1 => by
    show stW _ _ _ = stW _ _ _
    rw [cell_cg h k]
    by_cases q : i + tk0 k ≤ n0 ∧ j + tk1 k ≤ n1
    · rw [h k q.1 q.2]
    · have : okB G n0 n1 b0 b1 k i j = false := by unfold okB; rw [decide_eq_false q]; rfl
      rw [this]; rfl
theorem PW_st : ∀ m i j, i ≤ n0 → j ≤ n1 → (n0 - i) + (n1 - j) ≤ m → ∀ f g, (n0 - i) + (n1 - j) < f → (n0 - i) + (n1 - j) < g → PW G n0 n1 b0 b1 f i j = PW G n0 n1 b0 b1 g i j
  | m, i, j, hi, hj, hm, f, g, hf, hg => by
    cases f with
    | zero => omega
    | succ f =>
      cases g with
      | zero => omega
      | succ g =>
        show cellK G n0 n1 b0 b1 (PW G n0 n1 b0 b1 f) i j 5 = cellK G n0 n1 b0 b1 (PW G n0 n1 b0 b1 g) i j 5
        refine cell_cg (fun k h1 h2 => ?_) 5
        have hp := tk_pos (k := k)
        cases m with
        | zero => omega
        | succ m => exact PW_st m _ _ h1 h2 (by omega) f g (by omega) (by omega)
/-- the least price and the ways from a place on -/
def PP (G : Nat → Nat → Int32) (n0 n1 : Nat) (b0 b1 : Int32) : Nat → Nat → Option Nat × Int64 := PW G n0 n1 b0 b1 40
theorem PP_eq {i j : Nat} (h0 : n0 ≤ 16) (h1 : n1 ≤ 16) (hi : i ≤ n0) (hj : j ≤ n1) : PP G n0 n1 b0 b1 i j = cellK G n0 n1 b0 b1 (PP G n0 n1 b0 b1) i j 5 := by
  show cellK G n0 n1 b0 b1 (PW G n0 n1 b0 b1 39) i j 5 = _
  refine cell_cg (fun k h2 h3 => ?_) 5
  exact PW_st _ _ _ h2 h3 (Nat.le_refl _) 39 40 (by omega) (by omega)
/-- what the numbers of a page are -/
def LayG (G : Nat → Nat → Int32) (n0 n1 : Nat) : Prop := (n0 ≤ 16 ∧ n1 ≤ 16) ∧ (∀ k, k < n0 → ∃ a, a ≤ 9 ∧ G 11 k = nI a) ∧ (∀ k, k < n1 → ∃ a, a ≤ 9 ∧ G 16 k = nI a) ∧ (∃ a, a ≤ 20 ∧ G 1 6 = nI a) ∧ (∃ a, a ≤ 20 ∧ G 1 7 = nI a) ∧ ∃ a, a ≤ 20 ∧ G 1 8 = nI a
theorem rN9 {x : Int32} {b : Nat} (h : ∃ a, a ≤ b ∧ x = nI a) (hb : b < 2 ^ 31) : x = nI (rN x) ∧ rN x ≤ b := by
  obtain ⟨a, ha, rfl⟩ := h
  rw [rN_nI (by omega)]
  exact ⟨rfl, ha⟩
theorem dsN_le {a b c : Nat} (h : a ≤ c) (k : b ≤ c) : dsN a b ≤ c := by unfold dsN; omega
theorem sp_le (g : LayG G n0 n1) {k i j : Nat} (hi : i + tk0 k ≤ n0) (hj : j + tk1 k ≤ n1) (hk : k < 5) : spN G k i j ≤ 100 := by
  obtain ⟨⟨h0, h1⟩, g0, g1, p1, p2, p3⟩ := g
  have q1 := (rN9 p1 (by decide)).2
  have q2 := (rN9 p2 (by decide)).2
  have q3 := (rN9 p3 (by decide)).2
  have iu : ∀ (c : Prop) [Decidable c], (if c then 0 else rN (G 1 8)) ≤ 20 := fun c _ => by
    by_cases h : c
    · rw [if_pos h]; omega
    · rw [if_neg h]; exact q3
  rcases (show k = 0 ∨ k = 1 ∨ k = 2 ∨ k = 3 ∨ k = 4 by omega) with rfl | rfl | rfl | rfl | rfl
  · have hi : i + 1 ≤ n0 := hi
    have hj : j + 1 ≤ n1 := hj
    have a := (rN9 (g0 i (by omega)) (by decide)).2
    have b := (rN9 (g1 j (by omega)) (by decide)).2
    have d := dsN_le (c := 9) a b
    have u := iu (G 12 i = G 17 j)
    show _ + _ ≤ 100
    omega
  · show rN (G 1 6) ≤ 100; omega
  · show rN (G 1 6) ≤ 100; omega
  · have hi : i + 1 ≤ n0 := hi
    have hj : j + 2 ≤ n1 := hj
    have a := (rN9 (g0 i (by omega)) (by decide)).2
    have b := (rN9 (g1 j (by omega)) (by decide)).2
    have b2 := (rN9 (g1 (j + 1) (by omega)) (by decide)).2
    have d := dsN_le (a := rN (G 11 i)) (b := rN (G 16 j) + rN (G 16 (j + 1))) (c := 18) (by omega) (by omega)
    have u := iu (G 12 i = G 17 j ∨ G 12 i = G 17 (j + 1))
    show _ + _ + _ ≤ 100
    omega
  · have hi : i + 2 ≤ n0 := hi
    have hj : j + 1 ≤ n1 := hj
    have a := (rN9 (g1 j (by omega)) (by decide)).2
    have b := (rN9 (g0 i (by omega)) (by decide)).2
    have b2 := (rN9 (g0 (i + 1) (by omega)) (by decide)).2
    have d := dsN_le (a := rN (G 16 j)) (b := rN (G 11 i) + rN (G 11 (i + 1))) (c := 18) (by omega) (by omega)
    have u := iu (G 17 j = G 12 i ∨ G 17 j = G 12 (i + 1))
    show _ + _ + _ ≤ 100
    omega
def Bnd (B : Nat) (o : Option Nat) : Prop := ∀ v, o = some v → v ≤ B
theorem stW_bd {B : Nat} {wh : Option Nat} {w : Int64} {s : Option Nat × Int64} (h1 : Bnd B wh) (h2 : Bnd B s.1) : Bnd B (stW wh w s).1 := by
  unfold stW
  cases wh with
  | none => exact h2
  | some v =>
    have hv := h1 v rfl
    cases e : s.1 with
    | none => intro x hx; cases hx; exact hv
    | some b =>
      have hb := h2 b e
      show Bnd B (if v < b then (some v, 0 + w) else if v = b then (some b, s.2 + w) else s).1
      by_cases q : v < b
      · rw [if_pos q]; intro x hx; cases hx; exact hv
      · rw [if_neg q]
        by_cases q2 : v = b
        · rw [if_pos q2]; intro x hx; cases hx; exact hb
        · rw [if_neg q2]; exact h2
theorem wh_bd {B sp : Nat} {nx : Option Nat} {ok : Bool} (h : ok = true → sp ≤ 100 ∧ Bnd B nx) : Bnd (B + 100) (whN nx ok sp) := by
  intro v hv
  unfold whN at hv
  cases ok with
  | false => cases hv
  | true =>
    obtain ⟨h1, h2⟩ := h rfl
    cases nx with
    | none => cases hv
    | some r =>
      have := h2 r rfl
      have e : some (sp + r) = some v := hv
      cases e
      omega
theorem ok_r {k i j : Nat} (h : okB G n0 n1 b0 b1 k i j = true) : (i + tk0 k ≤ n0 ∧ j + tk1 k ≤ n1) ∧ okS G b0 b1 k i j = true := by
  unfold okB at h
  rw [Bool.and_eq_true, decide_eq_true_eq] at h
  exact h
theorem cell_bd (g : LayG G n0 n1) {T : Nat → Nat → Option Nat × Int64} {i j B : Nat} (h : ∀ k, i + tk0 k ≤ n0 → j + tk1 k ≤ n1 → Bnd B (T (i + tk0 k) (j + tk1 k)).1) : ∀ k, k ≤ 5 → Bnd (B + 100) (cellK G n0 n1 b0 b1 T i j k).1
  | 0, _ => by
    show Bnd (B + 100) (if i = n0 ∧ j = n1 then (some 0, (1 : Int64)) else (none, 0)).1
    by_cases q : i = n0 ∧ j = n1
    · rw [if_pos q]; intro v hv; cases hv; omega
    · rw [if_neg q]; intro v hv; cases hv
  | k + 1, hk => stW_bd (wh_bd (fun e => ⟨sp_le g (ok_r e).1.1 (ok_r e).1.2 (by omega), h k (ok_r e).1.1 (ok_r e).1.2⟩)) (cell_bd g h k (by omega))
theorem PW_bd (g : LayG G n0 n1) : ∀ f i j, Bnd (100 * f) (PW G n0 n1 b0 b1 f i j).1
  | 0, i, j => fun v hv => by cases hv
  | f + 1, i, j => by
    have := cell_bd (b0 := b0) (b1 := b1) g (T := PW G n0 n1 b0 b1 f) (i := i) (j := j) (B := 100 * f) (fun k _ _ => PW_bd g f _ _) 5 (by omega)
    show Bnd (100 * (f + 1)) _
    rw [show 100 * (f + 1) = 100 * f + 100 by omega]
    exact this
theorem PP_bd (g : LayG G n0 n1) (i j : Nat) : Bnd 4000 (PP G n0 n1 b0 b1 i j).1 := PW_bd g 40 i j
theorem cellP_bd (g : LayG G n0 n1) (i j k : Nat) (hk : k ≤ 5) : Bnd 4100 (cellK G n0 n1 b0 b1 (PP G n0 n1 b0 b1) i j k).1 := cell_bd g (fun k _ _ => PP_bd g _ _) k hk
theorem whP_bd (g : LayG G n0 n1) (i j k : Nat) (hk : k < 5) : Bnd 4100 (whN (PP G n0 n1 b0 b1 (i + tk0 k) (j + tk1 k)).1 (okB G n0 n1 b0 b1 k i j) (spN G k i j)) := wh_bd (fun e => ⟨sp_le g (ok_r e).1.1 (ok_r e).1.2 hk, PP_bd g _ _⟩)
/-- as a number: what can't be is far -/
def encO (F : Int32) (o : Option Nat) : Int32 := match o with
  | none => F
  | some v => nI v

/-- the first kind of step that is best there; 5 if none is -/
noncomputable def fsk (G : Nat → Nat → Int32) (n0 n1 : Nat) (i j : Nat) : Nat → Nat → Nat
  | 0, k => k
  | f + 1, k => @ite _ ((PP G n0 n1 (-1) (-1) i j).1 ≠ none ∧ whN (PP G n0 n1 (-1) (-1) (i + tk0 k) (j + tk1 k)).1 (okB G n0 n1 (-1) (-1) k i j) (spN G k i j) = (PP G n0 n1 (-1) (-1) i j).1) (Classical.propDecidable _) k (fsk G n0 n1 i j f (k + 1))
theorem cell_some {T : Nat → Nat → Option Nat × Int64} {i j b : Nat} : ∀ {k : Nat}, (cellK G n0 n1 b0 b1 T i j k).1 = some b → (i = n0 ∧ j = n1 ∧ b = 0) ∨ ∃ m, m < k ∧ whN (T (i + tk0 m) (j + tk1 m)).1 (okB G n0 n1 b0 b1 m i j) (spN G m i j) = some b
  | 0, h => by
    have h : (if i = n0 ∧ j = n1 then (some 0, (1 : Int64)) else (none, 0)).1 = some b := h
    by_cases q : i = n0 ∧ j = n1
    · rw [if_pos q] at h
      have h : some 0 = some b := h
      cases h
      exact Or.inl ⟨q.1, q.2, rfl⟩
    · rw [if_neg q] at h; cases h
  | k + 1, h => by
    have h : (stW (whN (T (i + tk0 k) (j + tk1 k)).1 (okB G n0 n1 b0 b1 k i j) (spN G k i j)) (T (i + tk0 k) (j + tk1 k)).2 (cellK G n0 n1 b0 b1 T i j k)).1 = some b := h
    have rec_ : (cellK G n0 n1 b0 b1 T i j k).1 = some b → (i = n0 ∧ j = n1 ∧ b = 0) ∨ ∃ m, m < k + 1 ∧ whN (T (i + tk0 m) (j + tk1 m)).1 (okB G n0 n1 b0 b1 m i j) (spN G m i j) = some b := fun e => by
      rcases cell_some e with w | ⟨m, h1, h2⟩
      · exact Or.inl w
      · exact Or.inr ⟨m, by omega, h2⟩
    cases hw : whN (T (i + tk0 k) (j + tk1 k)).1 (okB G n0 n1 b0 b1 k i j) (spN G k i j) with
    | none => rw [hw] at h; exact rec_ h
    | some v =>
      rw [hw] at h
      unfold stW at h
      cases hs : (cellK G n0 n1 b0 b1 T i j k).1 with
      | none =>
        rw [hs] at h
        have h : some v = some b := h
        cases h
        exact Or.inr ⟨k, by omega, hw⟩
      | some c =>
        rw [hs] at h
        have h : (if v < c then (some v, 0 + (T (i + tk0 k) (j + tk1 k)).2) else if v = c then (some c, (cellK G n0 n1 b0 b1 T i j k).2 + (T (i + tk0 k) (j + tk1 k)).2) else cellK G n0 n1 b0 b1 T i j k).1 = some b := h
        by_cases q : v < c
        · rw [if_pos q] at h
          have h : some v = some b := h
          cases h
          exact Or.inr ⟨k, by omega, hw⟩
        · rw [if_neg q] at h
          by_cases q2 : v = c
          · rw [if_pos q2] at h
            have h : some c = some b := h
            cases h
            exact rec_ hs
          · rw [if_neg q2] at h
            exact rec_ h
theorem cell_mono {T : Nat → Nat → Option Nat × Int64} {i j : Nat} : ∀ d k, (cellK G n0 n1 b0 b1 T i j k).1 ≠ none → (cellK G n0 n1 b0 b1 T i j (k + d)).1 ≠ none
  | 0, _, h => h
  | d + 1, k, h => by
    have ih := cell_mono d k h
    show (stW _ _ (cellK G n0 n1 b0 b1 T i j (k + d))).1 ≠ none
    unfold stW
    split
    · exact ih
    · rename_i v _
      cases hs : (cellK G n0 n1 b0 b1 T i j (k + d)).1 with
      | none => intro hh; cases hh
      | some c =>
        show (if v < c then (some v, 0 + _) else if v = c then (some c, _) else cellK G n0 n1 b0 b1 T i j (k + d)).1 ≠ none
        by_cases q : v < c
        · rw [if_pos q]; intro hh; cases hh
        · rw [if_neg q]
          by_cases q2 : v = c
          · rw [if_pos q2]; intro hh; cases hh
          · rw [if_neg q2]; exact ih
theorem cell_ne {T : Nat → Nat → Option Nat × Int64} {i j k : Nat} (hk : k < 5) (h : whN (T (i + tk0 k) (j + tk1 k)).1 (okB G n0 n1 b0 b1 k i j) (spN G k i j) ≠ none) : (cellK G n0 n1 b0 b1 T i j 5).1 ≠ none := by
  have h1 : (cellK G n0 n1 b0 b1 T i j (k + 1)).1 ≠ none := by
    show (stW _ _ (cellK G n0 n1 b0 b1 T i j k)).1 ≠ none
    unfold stW
    split
    · rename_i e; exact absurd e h
    · rename_i v e
      cases hs : (cellK G n0 n1 b0 b1 T i j k).1 with
      | none => intro hh; cases hh
      | some c =>
        show (if v < c then (some v, 0 + _) else if v = c then (some c, _) else cellK G n0 n1 b0 b1 T i j k).1 ≠ none
        by_cases q : v < c
        · rw [if_pos q]; intro hh; cases hh
        · rw [if_neg q]
          by_cases q2 : v = c
          · rw [if_pos q2]; intro hh; cases hh
          · rw [if_neg q2, hs]; intro hh; cases hh
  have := cell_mono (4 - k) (k + 1) h1
  rw [show k + 1 + (4 - k) = 5 by omega] at this
  exact this
end DP

