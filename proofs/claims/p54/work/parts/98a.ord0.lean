/-! the first order, depths -/
/-- ready: not placed, all above placed -/
def Rdy (R : Nat → Nat → Bool) (S : Nat → Bool) (a : Nat) : Prop := S a = false ∧ ∀ c, R c a = true → S c = true
def Fst (R : Nat → Nat → Bool) (n : Nat) (S : Nat → Bool) (a : Nat) : Prop := (1 ≤ a ∧ a ≤ n) ∧ Rdy R S a ∧ ∀ b, 1 ≤ b → b < a → ¬ Rdy R S b
theorem rdy_ex {R : Nat → Nat → Bool} {n : Nat} {S : Nat → Bool} (hin : In n R) {r : Nat → Nat} (hr : ∀ a b, R a b = true → r a < r b) : ∀ m x, r x ≤ m → (1 ≤ x ∧ x ≤ n) → S x = false → ∃ a, (1 ≤ a ∧ a ≤ n) ∧ Rdy R S a
  | m, x, hm, hx, hs => by
    by_cases q : ∀ c, R c x = true → S c = true
    · exact ⟨x, hx, hs, q⟩
    · have q2 : ∃ c, R c x = true ∧ S c = false := Classical.byContradiction (fun hn => q (fun c hc => by
        cases e : S c with
        | true => rfl
        | false => exact absurd ⟨c, hc, e⟩ hn))
      obtain ⟨c, hc, e⟩ := q2
      have h1 := hr c x hc
      cases m with
      | zero => omega
      | succ m => exact rdy_ex hin hr m c (by omega) (hin c x hc).1 e
theorem least_ex {P : Nat → Prop} : ∀ m a, a ≤ m → P a → ∃ b, b ≤ a ∧ P b ∧ ∀ c, c < b → ¬ P c
  | m, a, hm, h => by
    by_cases q : ∃ c, c < a ∧ P c
    · obtain ⟨c, h1, h2⟩ := q
      cases m with
      | zero => omega
      | succ m =>
        obtain ⟨b, b1, b2, b3⟩ := least_ex m c (by omega) h2
        exact ⟨b, by omega, b2, b3⟩
    · exact ⟨a, Nat.le_refl _, h, fun c h1 h2 => q ⟨c, h1, h2⟩⟩
theorem fst_ex {R : Nat → Nat → Bool} {n : Nat} {S : Nat → Bool} (hin : In n R) {r : Nat → Nat} (hr : ∀ a b, R a b = true → r a < r b) {x : Nat} (hx : 1 ≤ x ∧ x ≤ n) (hs : S x = false) : ∃ a, Fst R n S a := by
  obtain ⟨a, ha, h1⟩ := rdy_ex (S := S) hin hr (r x) x (Nat.le_refl _) hx hs
  obtain ⟨b, b1, b2, b3⟩ := least_ex (P := fun a => 1 ≤ a ∧ Rdy R S a) a a (Nat.le_refl _) ⟨ha.1, h1⟩
  exact ⟨b, ⟨b2.1, by omega⟩, b2.2, fun c c1 c2 c3 => b3 c c2 ⟨c1, c3⟩⟩
noncomputable def nxt (R : Nat → Nat → Bool) (n : Nat) (S : Nat → Bool) : Nat := @dite _ (∃ a, Fst R n S a) (Classical.propDecidable _) (fun h => Classical.choose h) (fun _ => 0)
theorem nxt_ok {R : Nat → Nat → Bool} {n : Nat} {S : Nat → Bool} (h : ∃ a, Fst R n S a) : Fst R n S (nxt R n S) := by
  unfold nxt
  rw [dif_pos h]
  exact Classical.choose_spec h
noncomputable def plc (R : Nat → Nat → Bool) (n : Nat) : Nat → Nat → Bool
  | 0 => fun _ => false
  | k + 1 => fun x => plc R n k x || decide (x = nxt R n (plc R n k))
noncomputable def ord (R : Nat → Nat → Bool) (n k : Nat) : Nat := nxt R n (plc R n k)
theorem cnt_lt {f : Nat → Bool} : ∀ {n : Nat}, cntN f n < n → ∃ i, i < n ∧ f i = false
  | 0, h => absurd h (Nat.not_lt_zero _)
  | n + 1, h => by
    have h' : cntN f n + (bif f n then 1 else 0) < n + 1 := h
    cases e : f n with
    | false => exact ⟨n, by omega, e⟩
    | true =>
      rw [e] at h'
      have h'' : cntN f n + 1 < n + 1 := h'
      obtain ⟨i, h1, h2⟩ := cnt_lt (f := f) (n := n) (by omega)
      exact ⟨i, by omega, h2⟩
theorem cnt_all {f : Nat → Bool} : ∀ {n : Nat}, cntN f n = n → ∀ i, i < n → f i = true
  | 0, _, i, h => absurd h (Nat.not_lt_zero _)
  | n + 1, h, i, hi => by
    have h' : cntN f n + (bif f n then 1 else 0) = n + 1 := h
    have := cnt_bd (f := f) n
    cases e : f n with
    | false => rw [e] at h'; have h'' : cntN f n + 0 = n + 1 := h'; omega
    | true =>
      rw [e] at h'
      have h'' : cntN f n + 1 = n + 1 := h'
      by_cases q : i = n
      · subst q; exact e
      · exact cnt_all (f := f) (n := n) (by omega) i (by omega)
theorem cnt_put {f g : Nat → Bool} {c : Nat} (hg : ∀ k, k ≠ c → g k = f k) (hf : f c = false) (hc : g c = true) : ∀ {n : Nat}, c < n → cntN g n = cntN f n + 1
  | n + 1, h => by
    show cntN g n + (bif g n then 1 else 0) = cntN f n + (bif f n then 1 else 0) + 1
    by_cases e : n = c
    · subst e
      rw [cnt_cg (f := g) (g := f) (fun k hk => hg k (by omega)), hf, hc]; rfl
    · have := cnt_put hg hf hc (n := n) (by omega)
      rw [hg n e]; omega
section OR
variable {R : Nat → Nat → Bool} {n : Nat} {r : Nat → Nat}
theorem plc_in (hin : In n R) (hr : ∀ a b, R a b = true → r a < r b) : ∀ k, k ≤ n → cntN (fun i => plc R n k (i + 1)) n = k ∧ plc R n k 0 = false
  | 0, _ => ⟨cnt_0 (fun _ _ => rfl), rfl⟩
  | k + 1, h => by
    obtain ⟨h1, h2⟩ := plc_in hin hr k (by omega)
    obtain ⟨i, hi, e⟩ := cnt_lt (f := fun i => plc R n k (i + 1)) (n := n) (by omega)
    have hf := nxt_ok (fst_ex (S := plc R n k) hin hr (x := i + 1) (by omega) e)
    obtain ⟨⟨f1, f2⟩, f3, -⟩ := hf
    constructor
    · have g1 : ∀ j, j ≠ nxt R n (plc R n k) - 1 → plc R n (k + 1) (j + 1) = plc R n k (j + 1) := fun j hj => by
        show (plc R n k (j + 1) || decide (j + 1 = nxt R n (plc R n k))) = plc R n k (j + 1)
        rw [decide_eq_false (by omega), Bool.or_false]
      have g2 : plc R n k (nxt R n (plc R n k) - 1 + 1) = false := by
        rw [show nxt R n (plc R n k) - 1 + 1 = nxt R n (plc R n k) by omega]
        exact f3.1
      have g3 : plc R n (k + 1) (nxt R n (plc R n k) - 1 + 1) = true := by
        show (plc R n k (nxt R n (plc R n k) - 1 + 1) || decide (nxt R n (plc R n k) - 1 + 1 = nxt R n (plc R n k))) = true
        rw [decide_eq_true (by omega), Bool.or_true]
      rw [cnt_put (f := fun i => plc R n k (i + 1)) (g := fun i => plc R n (k + 1) (i + 1)) (c := nxt R n (plc R n k) - 1) g1 g2 g3 (by omega), h1]
    · show (plc R n k 0 || decide (0 = nxt R n (plc R n k))) = false
      rw [h2, decide_eq_false (by omega)]; rfl
theorem ord_ok (hin : In n R) (hr : ∀ a b, R a b = true → r a < r b) {k : Nat} (hk : k < n) : Fst R n (plc R n k) (ord R n k) := by
  obtain ⟨h1, h2⟩ := plc_in hin hr k (by omega)
  obtain ⟨i, hi, e⟩ := cnt_lt (f := fun i => plc R n k (i + 1)) (n := n) (by omega)
  exact nxt_ok (fst_ex (S := plc R n k) hin hr (x := i + 1) (by omega) e)
theorem plc_all (hin : In n R) (hr : ∀ a b, R a b = true → r a < r b) {x : Nat} (hx : 1 ≤ x ∧ x ≤ n) : plc R n n x = true := by
  have := cnt_all (plc_in hin hr n (Nat.le_refl _)).1 (x - 1) (by omega)
  rw [show x - 1 + 1 = x by omega] at this
  exact this
theorem plc_s {k x : Nat} : plc R n (k + 1) x = (plc R n k x || decide (x = ord R n k)) := rfl
theorem plc_of : ∀ {k x : Nat}, plc R n k x = true → ∃ j, j < k ∧ x = ord R n j
  | 0, x, h => by cases h
  | k + 1, x, h => by
    rw [plc_s, Bool.or_eq_true, decide_eq_true_eq] at h
    rcases h with h | h
    · obtain ⟨j, h1, h2⟩ := plc_of h
      exact ⟨j, by omega, h2⟩
    · exact ⟨k, by omega, h⟩
/-- the greatest depth above, and one -/
def mxD (R : Nat → Nat → Bool) (d : Nat → Nat) (x : Nat) : Nat → Nat
  | 0 => 0
  | m + 1 => if R (m + 1) x = true ∧ mxD R d x m < d (m + 1) + 1 then d (m + 1) + 1 else mxD R d x m
def dpF (R : Nat → Nat → Bool) (n : Nat) : Nat → Nat → Nat
  | 0, _ => 0
  | f + 1, x => mxD R (dpF R n f) x n
theorem mxD_cg {d e : Nat → Nat} {x : Nat} (h : ∀ a, R a x = true → d a = e a) : ∀ m, mxD R d x m = mxD R e x m
  | 0 => rfl
  | m + 1 => by
    show (if R (m + 1) x = true ∧ mxD R d x m < d (m + 1) + 1 then d (m + 1) + 1 else mxD R d x m) = (if R (m + 1) x = true ∧ mxD R e x m < e (m + 1) + 1 then e (m + 1) + 1 else mxD R e x m)
    rw [mxD_cg h m]
    by_cases q : R (m + 1) x = true
    · rw [h _ q]
    · rw [if_neg (fun p => q p.1), if_neg (fun p => q p.1)]
theorem mxD_le {d : Nat → Nat} {x b : Nat} (h : ∀ a, R a x = true → d a + 1 ≤ b) : ∀ m, mxD R d x m ≤ b
  | 0 => Nat.zero_le _
  | m + 1 => by
    have := mxD_le h m
    show (if R (m + 1) x = true ∧ mxD R d x m < d (m + 1) + 1 then d (m + 1) + 1 else mxD R d x m) ≤ b
    by_cases q : R (m + 1) x = true ∧ mxD R d x m < d (m + 1) + 1
    · rw [if_pos q]; exact h _ q.1
    · rw [if_neg q]; exact this
theorem mxD_ge {d : Nat → Nat} {x a : Nat} : ∀ {m : Nat}, 1 ≤ a → a ≤ m → R a x = true → d a + 1 ≤ mxD R d x m
  | 0, h1, h2, _ => by omega
  | m + 1, h1, h2, h => by
    show d a + 1 ≤ (if R (m + 1) x = true ∧ mxD R d x m < d (m + 1) + 1 then d (m + 1) + 1 else mxD R d x m)
    by_cases e : a = m + 1
    · subst e
      by_cases q : R (m + 1) x = true ∧ mxD R d x m < d (m + 1) + 1
      · rw [if_pos q]; exact Nat.le_refl _
      · rw [if_neg q]
        have : ¬ mxD R d x m < d (m + 1) + 1 := fun p => q ⟨h, p⟩
        omega
    · have := mxD_ge (d := d) (m := m) h1 (by omega) h
      by_cases q : R (m + 1) x = true ∧ mxD R d x m < d (m + 1) + 1
      · rw [if_pos q]; omega
      · rw [if_neg q]; exact this
theorem dpF_le : ∀ f x, dpF R n f x ≤ f
  | 0, _ => Nat.le_refl _
  | f + 1, x => mxD_le (fun a _ => by have := dpF_le f a; omega) n
theorem dpF_st (hin : In n R) (hr : ∀ a b, R a b = true → r a < r b) : ∀ m k, k ≤ m → k < n → ∀ f g, k + 1 ≤ f → k + 1 ≤ g → dpF R n f (ord R n k) = dpF R n g (ord R n k)
  | m, k, hm, hk, f, g, hf, hg => by
    have key : ∀ f' g', k ≤ f' → k ≤ g' → ∀ a, R a (ord R n k) = true → dpF R n f' a = dpF R n g' a := by
      intro f' g' h1 h2 a ha
      have hp := (ord_ok hin hr hk).2.1.2 a ha
      obtain ⟨j, hj, rfl⟩ := plc_of hp
      cases m with
      | zero => omega
      | succ m => exact dpF_st hin hr m j (by omega) (by omega) f' g' (by omega) (by omega)
    cases f with
    | zero => omega
    | succ f =>
      cases g with
      | zero => omega
      | succ g => exact mxD_cg (key f g (by omega) (by omega)) n
/-- how deep a layer lies -/
def dep (R : Nat → Nat → Bool) (n : Nat) : Nat → Nat := dpF R n 16
theorem dep_ok (hin : In n R) (hr : ∀ a b, R a b = true → r a < r b) (h16 : n ≤ 16) (x : Nat) : dep R n x = mxD R (dep R n) x n := by
  by_cases hx : 1 ≤ x ∧ x ≤ n
  · obtain ⟨k, hk, rfl⟩ := plc_of (plc_all hin hr hx)
    show mxD R (dpF R n 15) (ord R n k) n = _
    refine mxD_cg (fun a ha => ?_) n
    obtain ⟨j, hj, rfl⟩ := plc_of ((ord_ok hin hr hk).2.1.2 a ha)
    exact dpF_st hin hr j j (Nat.le_refl _) (by omega) 15 16 (by omega) (by omega)
  · have e : ∀ (d : Nat → Nat) m, mxD R d x m = 0 := fun d m => by
      have := mxD_le (R := R) (d := d) (x := x) (b := 0) (fun a ha => absurd (hin a x ha).2 hx) m
      omega
    show mxD R (dpF R n 15) x n = _
    rw [e, e]
theorem dep_16 {x : Nat} : dep R n x ≤ 16 := dpF_le 16 x
theorem dep_lt (hin : In n R) (hr : ∀ a b, R a b = true → r a < r b) (h16 : n ≤ 16) {a x : Nat} (h : R a x = true) : dep R n a + 1 ≤ dep R n x := by
  rw [dep_ok hin hr h16 x]
  exact mxD_ge (hin a x h).1.1 (hin a x h).1.2 h
end OR
/-! one relaxation, many -/
/-- what the model has found so far: never too much, enough for those of less depth -/
def RelOK (R : Nat → Nat → Bool) (n t : Nat) (g : Nat → Nat) : Prop := (∀ x, g x ≤ dep R n x) ∧ ∀ x, dep R n x < t → g x = dep R n x
/-- in the midst of a round: those above that were looked at have counted -/
def RelMid (R : Nat → Nat → Bool) (n t a b : Nat) (g : Nat → Nat) : Prop := RelOK R n t g ∧ ∀ c x, (c < a ∨ (c = a ∧ x < b)) → R c x = true → dep R n c < t → dep R n c + 1 ≤ g x
theorem rel_s {R : Nat → Nat → Bool} {n t a b : Nat} {g : Nat → Nat} {r : Nat → Nat} (hin : In n R) (hr : ∀ a b, R a b = true → r a < r b) (h16 : n ≤ 16) (h : RelMid R n t a b g) : RelMid R n t a (b + 1) (fun x => if x = b ∧ (R a b = true ∧ g b < g a + 1) then g a + 1 else g x) := by
  obtain ⟨⟨h1, h2⟩, h3⟩ := h
  have up : ∀ x, g x ≤ (if x = b ∧ (R a b = true ∧ g b < g a + 1) then g a + 1 else g x) := fun x => by
    by_cases q : x = b ∧ (R a b = true ∧ g b < g a + 1)
    · rw [if_pos q, q.1]; omega
    · rw [if_neg q]; exact Nat.le_refl _
  have bd : ∀ x, (if x = b ∧ (R a b = true ∧ g b < g a + 1) then g a + 1 else g x) ≤ dep R n x := fun x => by
    by_cases q : x = b ∧ (R a b = true ∧ g b < g a + 1)
    · rw [if_pos q, q.1]
      have := dep_lt hin hr h16 q.2.1
      have := h1 a
      omega
    · rw [if_neg q]; exact h1 x
  refine ⟨⟨bd, fun x hx => ?_⟩, fun c x hc hR hd => ?_⟩
  · have e1 := h2 x hx
    have e2 := up x
    have e3 := bd x
    show (if x = b ∧ (R a b = true ∧ g b < g a + 1) then g a + 1 else g x) = dep R n x
    omega
  · by_cases q : c < a ∨ (c = a ∧ x < b)
    · exact Nat.le_trans (h3 c x q hR hd) (up x)
    · show dep R n c + 1 ≤ (if x = b ∧ (R a b = true ∧ g b < g a + 1) then g a + 1 else g x)
      have : c = a ∧ x = b := by omega
      obtain ⟨rfl, rfl⟩ := this
      have e := h2 c hd
      by_cases q2 : x = x ∧ (R c x = true ∧ g x < g c + 1)
      · rw [if_pos q2]; omega
      · rw [if_neg q2]
        have : ¬ g x < g c + 1 := fun p => q2 ⟨rfl, hR, p⟩
        omega
theorem rel_0 {R : Nat → Nat → Bool} {n t : Nat} {g : Nat → Nat} (hin : In n R) (h : RelOK R n t g) : RelMid R n t 1 0 g := ⟨h, fun c x hc hR _ => by have := hin c x hR; omega⟩
theorem rel_1 {R : Nat → Nat → Bool} {n t a : Nat} {g : Nat → Nat} (hin : In n R) (h : RelMid R n t a 0 g) : RelMid R n t a 1 g := ⟨h.1, fun c x hc hR hd => h.2 c x (by have := hin c x hR; omega) hR hd⟩
theorem rel_17 {R : Nat → Nat → Bool} {n t a : Nat} {g : Nat → Nat} (hin : In n R) (h16 : n ≤ 16) (h : RelMid R n t a 17 g) : RelMid R n t (a + 1) 0 g := ⟨h.1, fun c x hc hR hd => h.2 c x (by have := hin c x hR; omega) hR hd⟩
theorem rel_e {R : Nat → Nat → Bool} {n t : Nat} {g : Nat → Nat} {r : Nat → Nat} (hin : In n R) (hr : ∀ a b, R a b = true → r a < r b) (h16 : n ≤ 16) (h : RelMid R n t 17 0 g) : RelOK R n (t + 1) g := by
  obtain ⟨⟨h1, h2⟩, h3⟩ := h
  refine ⟨h1, fun x hx => Nat.le_antisymm (h1 x) ?_⟩
  rw [dep_ok hin hr h16 x]
  refine mxD_le (fun a ha => ?_) n
  have hd := dep_lt hin hr h16 ha
  exact h3 a x (by have := hin a x ha; omega) ha (by omega)
theorem rel_i {R : Nat → Nat → Bool} {n : Nat} : RelOK R n 0 (fun _ => 0) := ⟨fun _ => Nat.zero_le _, fun x h => absurd h (Nat.not_lt_zero _)⟩
theorem rel_all {R : Nat → Nat → Bool} {n : Nat} {g : Nat → Nat} (h : RelOK R n 17 g) (x : Nat) : g x = dep R n x := h.2 x (by have := dep_16 (R := R) (n := n) (x := x); omega)

