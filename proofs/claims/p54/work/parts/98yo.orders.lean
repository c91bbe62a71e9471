/-! the law's counting of orders: from the top, where the book's goes from the bottom -/
section OC
variable {R : Nat → Nat → Bool} {n : Nat}
def adS (S : Nat → Bool) (a j : Nat) : Bool := S j || decide (j = a)
/-- orders from a set to another one, the last layer looked at first -/
noncomputable def NB (R : Nat → Nat → Bool) (n : Nat) : Nat → (Nat → Bool) → (Nat → Bool) → Nat
  | 0, _, _ => 1
  | k + 1, S, T => sN (fun i => bif (T i && !(S i)) && prB R T i then NB R n k S (rem T i) else 0) n
/-- the first layer looked at first -/
noncomputable def FT (R : Nat → Nat → Bool) (n : Nat) : Nat → (Nat → Bool) → (Nat → Bool) → Nat
  | 0, _, _ => 1
  | k + 1, S, T => sN (fun a => bif (T a && !(S a)) && prB R S a then FT R n k (adS S a) T else 0) n
theorem sN_add {f g : Nat → Nat} : ∀ {m : Nat}, sN (fun i => f i + g i) m = sN f m + sN g m
  | 0 => rfl
  | m + 1 => by
    show sN (fun i => f i + g i) m + (f m + g m) = (sN f m + f m) + (sN g m + g m)
    rw [sN_add]; omega
theorem sN_z : ∀ {m : Nat}, sN (fun _ => 0) m = 0
  | 0 => rfl
  | m + 1 => by show sN (fun _ => 0) m + 0 = 0; rw [sN_z]
theorem sN_swap {f : Nat → Nat → Nat} : ∀ {m k : Nat}, sN (fun i => sN (fun j => f i j) k) m = sN (fun j => sN (fun i => f i j) m) k
  | 0, k => by show 0 = sN (fun _ => 0) k; rw [sN_z]
  | m + 1, k => by
    show sN (fun i => sN (fun j => f i j) k) m + sN (fun j => f m j) k = sN (fun j => sN (fun i => f i j) m + f m j) k
    rw [sN_add, sN_swap]
theorem bif_sN {b : Bool} {f : Nat → Nat} {m : Nat} : (bif b then sN f m else 0) = sN (fun i => bif b then f i else 0) m := by
  cases b with
  | true => rfl
  | false => exact sN_z.symm
theorem bq1 (t s d : Bool) : ((t && !s) && !d) = ((t && !d) && !s) := by cases t <;> cases s <;> cases d <;> rfl
theorem bq2 (t s d : Bool) : ((t && !s) && !d) = (t && !(s || d)) := by cases t <;> cases s <;> cases d <;> rfl
/-- one layer is left -/
theorem nb_1 (hin : In n R) (hir : ∀ a, R a a = false) {S T : Nat → Bool} (hsub : ∀ j, S j = true → T j = true) (hc : cntN (fun i => T i && !(S i)) n = 1) {i : Nat} (hi : i < n) (h : (T i && !(S i)) = true) : prB R T i = prB R S i := by
  refine prB_cg fun j hj => ?_
  have hjn := hin _ _ hj
  have hji : j ≠ i := fun e => by
    subst e
    rw [hir] at hj; cases hj
  have hz : (T j && !(S j)) = false := by
    cases e : (T j && !(S j)) with
    | false => rfl
    | true =>
      have h1 := cnt_rem (f := fun i => T i && !(S i)) (n := n) hi h
      rw [hc] at h1
      have h2 : cntN (rem (fun i => T i && !(S i)) i) n = 0 := by omega
      have h3 := cnt_z h2 (i := j) (by omega)
      rw [rem_n hji] at h3
      rw [e] at h3; cases h3
  cases es : S j with
  | true => exact hsub j es
  | false =>
    rw [es, Bool.not_false, Bool.and_true] at hz
    exact hz
theorem nb_ft (hin : In n R) (hir : ∀ a, R a a = false) : ∀ k S T, (∀ j, S j = true → T j = true) → cntN (fun i => T i && !(S i)) n = k → NB R n k S T = FT R n k S T := by
  intro k
  induction k using Nat.strongRecOn with
  | ind k ih =>
    intro S T hsub hc
    cases k with
    | zero => rfl
    | succ k =>
      cases k with
      | zero =>
        refine sN_cg fun i hi => ?_
        cases e : (T i && !(S i)) with
        | false => rfl
        | true => rw [nb_1 hin hir hsub hc hi e]; rfl
      | succ k =>
        have e1 : NB R n (k + 2) S T = sN (fun i => sN (fun a => bif ((T i && !(S i)) && prB R T i) && ((rem T i a && !(S a)) && prB R S a) then FT R n k (adS S a) (rem T i) else 0) n) n := by
          refine sN_cg fun i hi => ?_
          cases e : ((T i && !(S i)) && prB R T i) with
          | false => simp only [Bool.false_and, cond_false]; exact sN_z.symm
          | true =>
            have e0 : (T i && !(S i)) = true := by rw [Bool.and_eq_true] at e; exact e.1
            have hsub2 : ∀ j, S j = true → rem T i j = true := fun j hj => by
              have : j ≠ i := fun q => by rw [← q, hj] at e0; simp at e0
              rw [rem_n this]; exact hsub j hj
            have hc2 : cntN (fun j => rem T i j && !(S j)) n = k + 1 := by
              have h1 := cnt_rem (f := fun i => T i && !(S i)) (n := n) hi e0
              rw [hc] at h1
              have h2 : cntN (rem (fun i => T i && !(S i)) i) n = cntN (fun j => rem T i j && !(S j)) n := cnt_congr fun j hj => bq1 _ _ _
              omega
            show NB R n (k + 1) S (rem T i) = _
            rw [ih (k + 1) (by omega) S (rem T i) hsub2 hc2]
            simp only [Bool.true_and]
            rfl
        have e2 : FT R n (k + 2) S T = sN (fun a => sN (fun i => bif ((T i && !(S i)) && prB R T i) && ((rem T i a && !(S a)) && prB R S a) then FT R n k (adS S a) (rem T i) else 0) n) n := by
          refine sN_cg fun a ha => ?_
          cases e : ((T a && !(S a)) && prB R S a) with
          | false =>
            symm
            rw [show (fun i => bif ((T i && !(S i)) && prB R T i) && ((rem T i a && !(S a)) && prB R S a) then FT R n k (adS S a) (rem T i) else 0) = fun _ => 0 from funext fun i => ?_]
            · exact sN_z
            · unfold rem
              revert e
              cases T a <;> cases S a <;> cases prB R S a <;> simp
          | true =>
            have e0 : (T a && !(S a)) = true := by rw [Bool.and_eq_true] at e; exact e.1
            have ep : prB R S a = true := by rw [Bool.and_eq_true] at e; exact e.2
            have hsub2 : ∀ j, adS S a j = true → T j = true := fun j hj => by
              unfold adS at hj
              rw [Bool.or_eq_true, decide_eq_true_eq] at hj
              rcases hj with hj | rfl
              · exact hsub j hj
              · rw [Bool.and_eq_true] at e0; exact e0.1
            have hc2 : cntN (fun j => T j && !(adS S a j)) n = k + 1 := by
              have h1 := cnt_rem (f := fun i => T i && !(S i)) (n := n) ha e0
              rw [hc] at h1
              have h2 : cntN (rem (fun i => T i && !(S i)) a) n = cntN (fun j => T j && !(adS S a j)) n := cnt_congr fun j hj => bq2 _ _ _
              omega
            show FT R n (k + 1) (adS S a) T = _
            rw [← ih (k + 1) (by omega) (adS S a) T hsub2 hc2]
            refine sN_cg fun i hi => ?_
            have hx : ((T i && !(adS S a i)) && prB R T i) = (((T i && !(S i)) && prB R T i) && ((rem T i a && !(S a)) && prB R S a)) := by
              unfold rem adS
              rw [ep]
              by_cases q : i = a
              · subst q; simp
              · rw [decide_eq_false q, decide_eq_false (fun w => q w.symm)]
                revert e0
                cases T a <;> cases S a <;> simp
            rw [hx]
            cases e3 : (((T i && !(S i)) && prB R T i) && ((rem T i a && !(S a)) && prB R S a)) with
            | false => rfl
            | true =>
              rw [← hx, Bool.and_eq_true] at e3
              have e4 := e3.1
              have h1 := cnt_rem (f := fun j => T j && !(adS S a j)) (n := n) hi e4
              rw [hc2] at h1
              have h2 : cntN (rem (fun j => T j && !(adS S a j)) i) n = cntN (fun j => rem T i j && !(adS S a j)) n := cnt_congr fun j hj => bq1 _ _ _
              show NB R n k (adS S a) (rem T i) = _
              refine ih k (by omega) (adS S a) (rem T i) (fun j hj => ?_) (by omega)
              have : j ≠ i := fun q => by rw [← q, hj] at e4; simp at e4
              rw [rem_n this]; exact hsub2 j hj
        rw [e1, e2, sN_swap]
theorem nb_ef : ∀ k T, NB R n k (fun _ => false) T = EF R n k T
  | 0, _ => rfl
  | k + 1, T => by
    refine sN_cg fun i hi => ?_
    rw [Bool.not_false, Bool.and_true, nb_ef k]
theorem ee_ft (hin : In n R) (hir : ∀ a, R a a = false) : EE R n (fun j => decide (j < n)) = FT R n n (fun _ => false) (fun j => decide (j < n)) := by
  have hc : cntN (fun j => decide (j < n)) n = n := by
    have : ∀ m, m ≤ n → cntN (fun j => decide (j < n)) m = m := by
      intro m
      induction m with
      | zero => exact fun _ => rfl
      | succ m ih =>
        intro hm
        show cntN _ m + (bif decide (m < n) then 1 else 0) = m + 1
        rw [ih (by omega), decide_eq_true (show m < n by omega)]; rfl
    exact this n (Nat.le_refl _)
  unfold EE
  rw [hc, ← nb_ef, nb_ft hin hir n _ _ (fun j h => by cases h)]
  rw [cnt_congr (g := fun j => decide (j < n)) (fun k _ => by simp), hc]
end OC
/-! the law's method, over its copies by depth -/
def OB (μ : Nat) : Prop :=
  (∀ I J D (v2 : Int32), ex (μ, 0, [.ref 0, .ref 329, .int v2, dv, dv, dv, dv, dv, dv], [], mC I J D) = ex (μ, 8, [.ref 0, .ref 329, .int v2, .long 0, dv, .int 1, .int 1, dv, dv], [], mC I J D)) ∧
  (∀ I J D (v2 : Int32) (v3 : Int64) (v5 v6 : Int32), ex (μ, 8, [.ref 0, .ref 329, .int v2, .long v3, dv, .int v5, .int v6, dv, dv], [], mC I J D) = bif decide ((I 0 6) < v6) then ex (μ, 110, [dv, dv, dv, .long v3, dv, .int v5, dv, dv, dv], [], mC I J D) else ex (μ, 17, [.ref 0, .ref 329, .int v2, .long v3, dv, .int v5, .int v6, dv, dv], [], mC I J D)) ∧
  (∀ I J D (v2 : Int32) (v3 : Int64) (v5 v6 : Int32), ex (μ, 17, [.ref 0, .ref 329, .int v2, .long v3, dv, .int v5, .int v6, dv, dv], [], mC I J D) = bif decide (((v2 >>> (v6 &&& 31)) &&& 1) ≠ 1) then ex (μ, 30, [.ref 0, .ref 329, .int v2, .long v3, dv, dv, .int v6, dv, dv], [], mC I J D) else ex (μ, 27, [.ref 0, .ref 329, .int v2, .long v3, dv, .int v5, .int v6, dv, dv], [], mC I J D)) ∧
  (∀ I J D (v2 : Int32) (v3 : Int64) (v5 v6 : Int32), ex (μ, 27, [.ref 0, .ref 329, .int v2, .long v3, dv, .int v5, .int v6, dv, dv], [], mC I J D) = ex (μ, 104, [.ref 0, .ref 329, .int v2, .long v3, dv, .int v5, .int v6, dv, dv], [], mC I J D)) ∧
  (∀ I J D (v2 : Int32) (v3 : Int64) (v6 : Int32), ex (μ, 30, [.ref 0, .ref 329, .int v2, .long v3, dv, dv, .int v6, dv, dv], [], mC I J D) = ex (μ, 39, [.ref 0, .ref 329, .int v2, .long v3, dv, .int 0, .int v6, .int 1, .int 1], [], mC I J D)) ∧
  (∀ I J D (v2 : Int32) (v3 : Int64) (v5 v6 v7 v8 : Int32), ex (μ, 39, [.ref 0, .ref 329, .int v2, .long v3, dv, .int v5, .int v6, .int v7, .int v8], [], mC I J D) = bif decide ((I 0 6) < v8) then ex (μ, 85, [.ref 0, .ref 329, .int v2, .long v3, dv, .int v5, .int v6, .int v7, dv], [], mC I J D) else ex (μ, 48, [.ref 0, .ref 329, .int v2, .long v3, dv, .int v5, .int v6, .int v7, .int v8], [], mC I J D)) ∧
  (∀ I J D (v2 : Int32) (v3 : Int64) (v5 v6 v7 v8 : Int32), ex (μ, 48, [.ref 0, .ref 329, .int v2, .long v3, dv, .int v5, .int v6, .int v7, .int v8], [], mC I J D) = bif decide (v7 = 0) then ex (μ, 76, [.ref 0, .ref 329, .int v2, .long v3, dv, .int v5, .int v6, dv, .int v8], [], mC I J D) else ex (μ, 53, [.ref 0, .ref 329, .int v2, .long v3, dv, .int v5, .int v6, dv, .int v8], [], mC I J D)) ∧
  (∀ I J D (v2 : Int32) (v3 : Int64) (v5 v6 v8 : Int32), ex (μ, 53, [.ref 0, .ref 329, .int v2, .long v3, dv, .int v5, .int v6, dv, .int v8], [], mC I J D) = bif inb v8 17 then (bif inb v6 17 then (bif decide ((I (330 + v8.toNatClampNeg) v6.toNatClampNeg) = 0) then ex (μ, 72, [.ref 0, .ref 329, .int v2, .long v3, dv, .int v5, .int v6, dv, .int v8], [], mC I J D) else ex (μ, 63, [.ref 0, .ref 329, .int v2, .long v3, dv, .int v5, .int v6, dv, .int v8], [], mC I J D)) else none) else none) ∧
  (∀ I J D (v2 : Int32) (v3 : Int64) (v5 v6 v8 : Int32), ex (μ, 63, [.ref 0, .ref 329, .int v2, .long v3, dv, .int v5, .int v6, dv, .int v8], [], mC I J D) = bif decide (((v2 >>> (v8 &&& 31)) &&& 1) = 0) then ex (μ, 76, [.ref 0, .ref 329, .int v2, .long v3, dv, .int v5, .int v6, dv, .int v8], [], mC I J D) else ex (μ, 72, [.ref 0, .ref 329, .int v2, .long v3, dv, .int v5, .int v6, dv, .int v8], [], mC I J D)) ∧
  (∀ I J D (v2 : Int32) (v3 : Int64) (v5 v6 v8 : Int32), ex (μ, 72, [.ref 0, .ref 329, .int v2, .long v3, dv, .int v5, .int v6, dv, .int v8], [], mC I J D) = ex (μ, 77, [.ref 0, .ref 329, .int v2, .long v3, dv, .int v5, .int v6, dv, .int v8], [.int 1], mC I J D)) ∧
  (∀ I J D (v2 : Int32) (v3 : Int64) (v5 v6 v8 : Int32), ex (μ, 76, [.ref 0, .ref 329, .int v2, .long v3, dv, .int v5, .int v6, dv, .int v8], [], mC I J D) = ex (μ, 77, [.ref 0, .ref 329, .int v2, .long v3, dv, .int v5, .int v6, dv, .int v8], [.int 0], mC I J D)) ∧
  (∀ I J D (v2 : Int32) (v3 : Int64) (v5 v6 v8 s0 : Int32), ex (μ, 77, [.ref 0, .ref 329, .int v2, .long v3, dv, .int v5, .int v6, dv, .int v8], [.int s0], mC I J D) = ex (μ, 39, [.ref 0, .ref 329, .int v2, .long v3, dv, .int v5, .int v6, .int s0, .int (v8 + 1)], [], mC I J D)) ∧
  (∀ I J D (v2 : Int32) (v3 : Int64) (v5 v6 : Int32), ex (μ, 104, [.ref 0, .ref 329, .int v2, .long v3, dv, .int v5, .int v6, dv, dv], [], mC I J D) = ex (μ, 8, [.ref 0, .ref 329, .int v2, .long v3, dv, .int v5, .int (v6 + 1), dv, dv], [], mC I J D)) ∧
  (∀ I J D (v3 : Int64) (v5 : Int32), ex (μ, 110, [dv, dv, dv, .long v3, dv, .int v5, dv, dv, dv], [], mC I J D) = bif decide (v5 = 0) then ex (μ, 119, [dv, dv, dv, .long v3, dv, dv, dv, dv, dv], [], mC I J D) else ex (μ, 115, [dv, dv, dv, dv, dv, dv, dv, dv, dv], [], mC I J D)) ∧
  (∀ I J D, ex (μ, 115, [dv, dv, dv, dv, dv, dv, dv, dv, dv], [], mC I J D) = ex (μ, 120, [dv, dv, dv, dv, dv, dv, dv, dv, dv], [.long 1], mC I J D)) ∧
  (∀ I J D (v3 : Int64), ex (μ, 119, [dv, dv, dv, .long v3, dv, dv, dv, dv, dv], [], mC I J D) = ex (μ, 120, [dv, dv, dv, dv, dv, dv, dv, dv, dv], [.long v3], mC I J D)) ∧
  (∀ I J D (s0 : Int64), ex (μ, 120, [dv, dv, dv, dv, dv, dv, dv, dv, dv], [.long s0], mC I J D) = some (.inl (some (.long s0)), mC I J D))
theorem OB.h0 {μ : Nat} (h : OB μ) : ∀ I J D (v2 : Int32), ex (μ, 0, [.ref 0, .ref 329, .int v2, dv, dv, dv, dv, dv, dv], [], mC I J D) = ex (μ, 8, [.ref 0, .ref 329, .int v2, .long 0, dv, .int 1, .int 1, dv, dv], [], mC I J D) := h.1
theorem OB.h8 {μ : Nat} (h : OB μ) : ∀ I J D (v2 : Int32) (v3 : Int64) (v5 v6 : Int32), ex (μ, 8, [.ref 0, .ref 329, .int v2, .long v3, dv, .int v5, .int v6, dv, dv], [], mC I J D) = bif decide ((I 0 6) < v6) then ex (μ, 110, [dv, dv, dv, .long v3, dv, .int v5, dv, dv, dv], [], mC I J D) else ex (μ, 17, [.ref 0, .ref 329, .int v2, .long v3, dv, .int v5, .int v6, dv, dv], [], mC I J D) := h.2.1
theorem OB.h17 {μ : Nat} (h : OB μ) : ∀ I J D (v2 : Int32) (v3 : Int64) (v5 v6 : Int32), ex (μ, 17, [.ref 0, .ref 329, .int v2, .long v3, dv, .int v5, .int v6, dv, dv], [], mC I J D) = bif decide (((v2 >>> (v6 &&& 31)) &&& 1) ≠ 1) then ex (μ, 30, [.ref 0, .ref 329, .int v2, .long v3, dv, dv, .int v6, dv, dv], [], mC I J D) else ex (μ, 27, [.ref 0, .ref 329, .int v2, .long v3, dv, .int v5, .int v6, dv, dv], [], mC I J D) := h.2.2.1
theorem OB.h27 {μ : Nat} (h : OB μ) : ∀ I J D (v2 : Int32) (v3 : Int64) (v5 v6 : Int32), ex (μ, 27, [.ref 0, .ref 329, .int v2, .long v3, dv, .int v5, .int v6, dv, dv], [], mC I J D) = ex (μ, 104, [.ref 0, .ref 329, .int v2, .long v3, dv, .int v5, .int v6, dv, dv], [], mC I J D) := h.2.2.2.1
theorem OB.h30 {μ : Nat} (h : OB μ) : ∀ I J D (v2 : Int32) (v3 : Int64) (v6 : Int32), ex (μ, 30, [.ref 0, .ref 329, .int v2, .long v3, dv, dv, .int v6, dv, dv], [], mC I J D) = ex (μ, 39, [.ref 0, .ref 329, .int v2, .long v3, dv, .int 0, .int v6, .int 1, .int 1], [], mC I J D) := h.2.2.2.2.1
theorem OB.h39 {μ : Nat} (h : OB μ) : ∀ I J D (v2 : Int32) (v3 : Int64) (v5 v6 v7 v8 : Int32), ex (μ, 39, [.ref 0, .ref 329, .int v2, .long v3, dv, .int v5, .int v6, .int v7, .int v8], [], mC I J D) = bif decide ((I 0 6) < v8) then ex (μ, 85, [.ref 0, .ref 329, .int v2, .long v3, dv, .int v5, .int v6, .int v7, dv], [], mC I J D) else ex (μ, 48, [.ref 0, .ref 329, .int v2, .long v3, dv, .int v5, .int v6, .int v7, .int v8], [], mC I J D) := h.2.2.2.2.2.1
theorem OB.h48 {μ : Nat} (h : OB μ) : ∀ I J D (v2 : Int32) (v3 : Int64) (v5 v6 v7 v8 : Int32), ex (μ, 48, [.ref 0, .ref 329, .int v2, .long v3, dv, .int v5, .int v6, .int v7, .int v8], [], mC I J D) = bif decide (v7 = 0) then ex (μ, 76, [.ref 0, .ref 329, .int v2, .long v3, dv, .int v5, .int v6, dv, .int v8], [], mC I J D) else ex (μ, 53, [.ref 0, .ref 329, .int v2, .long v3, dv, .int v5, .int v6, dv, .int v8], [], mC I J D) := h.2.2.2.2.2.2.1
theorem OB.h53 {μ : Nat} (h : OB μ) : ∀ I J D (v2 : Int32) (v3 : Int64) (v5 v6 v8 : Int32), ex (μ, 53, [.ref 0, .ref 329, .int v2, .long v3, dv, .int v5, .int v6, dv, .int v8], [], mC I J D) = bif inb v8 17 then (bif inb v6 17 then (bif decide ((I (330 + v8.toNatClampNeg) v6.toNatClampNeg) = 0) then ex (μ, 72, [.ref 0, .ref 329, .int v2, .long v3, dv, .int v5, .int v6, dv, .int v8], [], mC I J D) else ex (μ, 63, [.ref 0, .ref 329, .int v2, .long v3, dv, .int v5, .int v6, dv, .int v8], [], mC I J D)) else none) else none := h.2.2.2.2.2.2.2.1
theorem OB.h63 {μ : Nat} (h : OB μ) : ∀ I J D (v2 : Int32) (v3 : Int64) (v5 v6 v8 : Int32), ex (μ, 63, [.ref 0, .ref 329, .int v2, .long v3, dv, .int v5, .int v6, dv, .int v8], [], mC I J D) = bif decide (((v2 >>> (v8 &&& 31)) &&& 1) = 0) then ex (μ, 76, [.ref 0, .ref 329, .int v2, .long v3, dv, .int v5, .int v6, dv, .int v8], [], mC I J D) else ex (μ, 72, [.ref 0, .ref 329, .int v2, .long v3, dv, .int v5, .int v6, dv, .int v8], [], mC I J D) := h.2.2.2.2.2.2.2.2.1
theorem OB.h72 {μ : Nat} (h : OB μ) : ∀ I J D (v2 : Int32) (v3 : Int64) (v5 v6 v8 : Int32), ex (μ, 72, [.ref 0, .ref 329, .int v2, .long v3, dv, .int v5, .int v6, dv, .int v8], [], mC I J D) = ex (μ, 77, [.ref 0, .ref 329, .int v2, .long v3, dv, .int v5, .int v6, dv, .int v8], [.int 1], mC I J D) := h.2.2.2.2.2.2.2.2.2.1
theorem OB.h76 {μ : Nat} (h : OB μ) : ∀ I J D (v2 : Int32) (v3 : Int64) (v5 v6 v8 : Int32), ex (μ, 76, [.ref 0, .ref 329, .int v2, .long v3, dv, .int v5, .int v6, dv, .int v8], [], mC I J D) = ex (μ, 77, [.ref 0, .ref 329, .int v2, .long v3, dv, .int v5, .int v6, dv, .int v8], [.int 0], mC I J D) := h.2.2.2.2.2.2.2.2.2.2.1
theorem OB.h77 {μ : Nat} (h : OB μ) : ∀ I J D (v2 : Int32) (v3 : Int64) (v5 v6 v8 s0 : Int32), ex (μ, 77, [.ref 0, .ref 329, .int v2, .long v3, dv, .int v5, .int v6, dv, .int v8], [.int s0], mC I J D) = ex (μ, 39, [.ref 0, .ref 329, .int v2, .long v3, dv, .int v5, .int v6, .int s0, .int (v8 + 1)], [], mC I J D) := h.2.2.2.2.2.2.2.2.2.2.2.1
theorem OB.h104 {μ : Nat} (h : OB μ) : ∀ I J D (v2 : Int32) (v3 : Int64) (v5 v6 : Int32), ex (μ, 104, [.ref 0, .ref 329, .int v2, .long v3, dv, .int v5, .int v6, dv, dv], [], mC I J D) = ex (μ, 8, [.ref 0, .ref 329, .int v2, .long v3, dv, .int v5, .int (v6 + 1), dv, dv], [], mC I J D) := h.2.2.2.2.2.2.2.2.2.2.2.2.1
theorem OB.h110 {μ : Nat} (h : OB μ) : ∀ I J D (v3 : Int64) (v5 : Int32), ex (μ, 110, [dv, dv, dv, .long v3, dv, .int v5, dv, dv, dv], [], mC I J D) = bif decide (v5 = 0) then ex (μ, 119, [dv, dv, dv, .long v3, dv, dv, dv, dv, dv], [], mC I J D) else ex (μ, 115, [dv, dv, dv, dv, dv, dv, dv, dv, dv], [], mC I J D) := h.2.2.2.2.2.2.2.2.2.2.2.2.2.1
theorem OB.h115 {μ : Nat} (h : OB μ) : ∀ I J D, ex (μ, 115, [dv, dv, dv, dv, dv, dv, dv, dv, dv], [], mC I J D) = ex (μ, 120, [dv, dv, dv, dv, dv, dv, dv, dv, dv], [.long 1], mC I J D) := h.2.2.2.2.2.2.2.2.2.2.2.2.2.2.1
theorem OB.h119 {μ : Nat} (h : OB μ) : ∀ I J D (v3 : Int64), ex (μ, 119, [dv, dv, dv, .long v3, dv, dv, dv, dv, dv], [], mC I J D) = ex (μ, 120, [dv, dv, dv, dv, dv, dv, dv, dv, dv], [.long v3], mC I J D) := h.2.2.2.2.2.2.2.2.2.2.2.2.2.2.2.1
theorem OB.h120 {μ : Nat} (h : OB μ) : ∀ I J D (s0 : Int64), ex (μ, 120, [dv, dv, dv, dv, dv, dv, dv, dv, dv], [.long s0], mC I J D) = some (.inl (some (.long s0)), mC I J D) := h.2.2.2.2.2.2.2.2.2.2.2.2.2.2.2.2
def OR (μ μ2 : Nat) : Prop :=
  (∀ I J D (v2 : Int32) (v3 : Int64) (v5 v6 v7 : Int32), ex (μ, 85, [.ref 0, .ref 329, .int v2, .long v3, dv, .int v5, .int v6, .int v7, dv], [], mC I J D) = bif decide (v7 = 0) then ex (μ, 104, [.ref 0, .ref 329, .int v2, .long v3, dv, .int v5, .int v6, dv, dv], [], mC I J D) else ex (μ, 90, [.ref 0, .ref 329, .int v2, .long v3, dv, .int v5, .int v6, dv, dv], [], mC I J D)) ∧
  (∀ I J D (v2 : Int32) (v3 : Int64) (v5 v6 : Int32), ex (μ, 90, [.ref 0, .ref 329, .int v2, .long v3, dv, .int v5, .int v6, dv, dv], [], mC I J D) = bif cG μ μ2 I then (calK μ 102 [.ref 0, .ref 329, .int v2, dv, dv, .int v5, .int v6, dv, dv] [.long v3] (mC (cI μ μ2 I) J D) (ex (μ2, 0, [.ref 0, .ref 329, .int (v2 ||| ((1 : Int32) <<< (v6 &&& 31))), dv, dv, dv, dv, dv, dv], [], cIn μ2 (mC (cI μ μ2 I) J D)))) else none) ∧
  (∀ I J D (v2 v5 v6 : Int32) (s0 s1 : Int64), ex (μ, 102, [.ref 0, .ref 329, .int v2, dv, dv, .int v5, .int v6, dv, dv], [.long s0, .long s1], mC I J D) = ex (μ, 104, [.ref 0, .ref 329, .int v2, .long (s1 + s0), dv, .int v5, .int v6, dv, dv], [], mC I J D)) ∧
  (318 ≤ μ ∧ 318 ≤ μ2 ∧ cK μ2 = 0)
theorem OR.h85 {μ μ2 : Nat} (h : OR μ μ2) : ∀ I J D (v2 : Int32) (v3 : Int64) (v5 v6 v7 : Int32), ex (μ, 85, [.ref 0, .ref 329, .int v2, .long v3, dv, .int v5, .int v6, .int v7, dv], [], mC I J D) = bif decide (v7 = 0) then ex (μ, 104, [.ref 0, .ref 329, .int v2, .long v3, dv, .int v5, .int v6, dv, dv], [], mC I J D) else ex (μ, 90, [.ref 0, .ref 329, .int v2, .long v3, dv, .int v5, .int v6, dv, dv], [], mC I J D) := h.1
theorem OR.h90 {μ μ2 : Nat} (h : OR μ μ2) : ∀ I J D (v2 : Int32) (v3 : Int64) (v5 v6 : Int32), ex (μ, 90, [.ref 0, .ref 329, .int v2, .long v3, dv, .int v5, .int v6, dv, dv], [], mC I J D) = bif cG μ μ2 I then (calK μ 102 [.ref 0, .ref 329, .int v2, dv, dv, .int v5, .int v6, dv, dv] [.long v3] (mC (cI μ μ2 I) J D) (ex (μ2, 0, [.ref 0, .ref 329, .int (v2 ||| ((1 : Int32) <<< (v6 &&& 31))), dv, dv, dv, dv, dv, dv], [], cIn μ2 (mC (cI μ μ2 I) J D)))) else none := h.2.1
theorem OR.h102 {μ μ2 : Nat} (h : OR μ μ2) : ∀ I J D (v2 v5 v6 : Int32) (s0 s1 : Int64), ex (μ, 102, [.ref 0, .ref 329, .int v2, dv, dv, .int v5, .int v6, dv, dv], [.long s0, .long s1], mC I J D) = ex (μ, 104, [.ref 0, .ref 329, .int v2, .long (s1 + s0), dv, .int v5, .int v6, dv, dv], [], mC I J D) := h.2.2.1
theorem OR.lo {μ μ2 : Nat} (h : OR μ μ2) : 318 ≤ μ ∧ 318 ≤ μ2 ∧ cK μ2 = 0 := h.2.2.2
theorem ob_327 : OB 327 := ⟨eC_327_0, eC_327_8, eC_327_17, eC_327_27, eC_327_30, eC_327_39, eC_327_48, eC_327_53, eC_327_63, eC_327_72, eC_327_76, eC_327_77, eC_327_104, eC_327_110, eC_327_115, eC_327_119, eC_327_120⟩
theorem ob_328 : OB 328 := ⟨eC_328_0, eC_328_8, eC_328_17, eC_328_27, eC_328_30, eC_328_39, eC_328_48, eC_328_53, eC_328_63, eC_328_72, eC_328_76, eC_328_77, eC_328_104, eC_328_110, eC_328_115, eC_328_119, eC_328_120⟩
theorem ob_329 : OB 329 := ⟨eC_329_0, eC_329_8, eC_329_17, eC_329_27, eC_329_30, eC_329_39, eC_329_48, eC_329_53, eC_329_63, eC_329_72, eC_329_76, eC_329_77, eC_329_104, eC_329_110, eC_329_115, eC_329_119, eC_329_120⟩
theorem ob_330 : OB 330 := ⟨eC_330_0, eC_330_8, eC_330_17, eC_330_27, eC_330_30, eC_330_39, eC_330_48, eC_330_53, eC_330_63, eC_330_72, eC_330_76, eC_330_77, eC_330_104, eC_330_110, eC_330_115, eC_330_119, eC_330_120⟩
theorem ob_331 : OB 331 := ⟨eC_331_0, eC_331_8, eC_331_17, eC_331_27, eC_331_30, eC_331_39, eC_331_48, eC_331_53, eC_331_63, eC_331_72, eC_331_76, eC_331_77, eC_331_104, eC_331_110, eC_331_115, eC_331_119, eC_331_120⟩
theorem ob_332 : OB 332 := ⟨eC_332_0, eC_332_8, eC_332_17, eC_332_27, eC_332_30, eC_332_39, eC_332_48, eC_332_53, eC_332_63, eC_332_72, eC_332_76, eC_332_77, eC_332_104, eC_332_110, eC_332_115, eC_332_119, eC_332_120⟩
theorem ob_333 : OB 333 := ⟨eC_333_0, eC_333_8, eC_333_17, eC_333_27, eC_333_30, eC_333_39, eC_333_48, eC_333_53, eC_333_63, eC_333_72, eC_333_76, eC_333_77, eC_333_104, eC_333_110, eC_333_115, eC_333_119, eC_333_120⟩
theorem or_327 : OR 327 328 := ⟨eC_327_85, eC_327_90, eC_327_102, by decide, by decide, rfl⟩
theorem or_328 : OR 328 329 := ⟨eC_328_85, eC_328_90, eC_328_102, by decide, by decide, rfl⟩
theorem or_329 : OR 329 330 := ⟨eC_329_85, eC_329_90, eC_329_102, by decide, by decide, rfl⟩
theorem or_330 : OR 330 331 := ⟨eC_330_85, eC_330_90, eC_330_102, by decide, by decide, rfl⟩
theorem or_331 : OR 331 332 := ⟨eC_331_85, eC_331_90, eC_331_102, by decide, by decide, rfl⟩
theorem or_332 : OR 332 333 := ⟨eC_332_85, eC_332_90, eC_332_102, by decide, by decide, rfl⟩
def OCh : Nat → Nat → Prop
  | 0, μ => OB μ
  | k + 1, μ => OB μ ∧ OR μ (μ + 1) ∧ OCh k (μ + 1)
theorem och_b : ∀ {k μ : Nat}, OCh k μ → OB μ
  | 0, _, h => h
  | _ + 1, _, h => h.1
theorem och_s : ∀ {k μ : Nat}, OCh (k + 1) μ → OCh k μ
  | 0, _, h => h.1
  | _ + 1, _, h => ⟨h.1, h.2.1, och_s h.2.2⟩
theorem och_6 : OCh 6 327 := ⟨ob_327, or_327, ob_328, or_328, ob_329, or_329, ob_330, or_330, ob_331, or_331, ob_332, or_332, ob_333⟩
theorem och_n : ∀ d, d ≤ 6 → OCh (6 - d) 327
  | 0, _ => och_6
  | d + 1, h => by
    have := och_n d (by omega)
    rw [show 6 - d = 6 - (d + 1) + 1 by omega] at this
    exact och_s this
theorem sh1 : ∀ s, s < 128 → ∀ c, c < 7 → ((nI s >>> (nI c &&& 31)) &&& 1) = bI (s.testBit c) := by decide +kernel
theorem sh2 : ∀ s, s < 128 → ∀ c, c < 7 → nI s ||| ((1 : Int32) <<< (nI c &&& 31)) = nI (s ||| 2 ^ c) ∧ (s ||| 2 ^ c) < 128 := by decide +kernel
theorem or_tb {s c i : Nat} : (s ||| 2 ^ c).testBit i = (s.testBit i || decide (i = c)) := by
  rw [Nat.testBit_or, Nat.testBit_two_pow]
  congr 1
  by_cases q : c = i
  · subst q; rfl
  · rw [decide_eq_false q, decide_eq_false (fun e => q e.symm)]
def fS (s : Nat) (j : Nat) : Bool := s.testBit (j + 1)
theorem fS_or {s a : Nat} : fS (s ||| 2 ^ (a + 1)) = adS (fS s) a := by
  funext j
  unfold fS adS
  rw [or_tb]
  congr 1
  by_cases q : j = a
  · subst q; rw [decide_eq_true rfl, decide_eq_true rfl]
  · rw [decide_eq_false q, decide_eq_false (fun e => q (by omega))]
/-- a call of the law's that costs nothing, over any memory -/
theorem goZ {n : Nat} {S : Nat → Nat × Nat} {R : Nat → Nat → Option Nat} {μ a pc c : Nat} {ls st as : List Value} {v : Option Value} {I : Nat → Nat → Int32} {J J2 : Nat → Nat → Int64} {D : Nat → Nat → UInt64} {I2 : Nat → Nat → Int32} (hμ : 318 ≤ μ) (ha : 318 ≤ a) (hk : cK a = 0) (hc : I iCRD 0 = nI c) (h9 : c ≤ 100000)
    (he : ex (a, 0, as, [], n, S, R, ups I iCRD 0 (nI 0), J, D) = some (.inl v, n, S, R, ups I2 iCRD 0 (nI 0), J2, D)) (h2 : I2 iCRD 0 = nI c) :
    (bif cG μ a I then (calK μ pc ls st (n, S, R, cI μ a I, J, D) (ex (a, 0, as, [], cIn a (n, S, R, cI μ a I, J, D)))) else none) = ex (μ, pc, ls, v.toList ++ st, n, S, R, I2, J2, D) := by
  have hg : cG μ a I = true := by
    unfold cG
    rw [Nat.ble_eq.mpr hμ, cond_true, hk, hc]
    exact crd_ge (Nat.zero_le _) h9
  rw [hg, cond_true, cI_0 hk]
  have hin : cIn a (n, S, R, I, J, D) = (n, S, R, ups I iCRD 0 (nI 0), J, D) := by
    unfold cIn
    rw [Nat.ble_eq.mpr ha, cond_true, hk]
    rfl
  rw [hin, he]
  show ex (μ, pc, ls, v.toList ++ st, cOut μ (n, S, R, I, J, D) (n, S, R, ups I2 iCRD 0 (nI 0), J2, D)) = _
  have hout : cOut μ (n, S, R, I, J, D) (n, S, R, ups I2 iCRD 0 (nI 0), J2, D) = (n, S, R, I2, J2, D) := by
    unfold cOut
    rw [Nat.ble_eq.mpr hμ, cond_true]
    show (n, S, R, ups (ups I2 iCRD 0 (nI 0)) iCRD 0 (I iCRD 0), J2, D) = _
    rw [w_uu, hc, ← h2]
    have e : ups I2 iCRD 0 (I2 iCRD 0) = I2 := by
      funext q j
      by_cases h1 : q = iCRD
      · subst h1
        by_cases h3 : j = 0
        · subst h3; rw [w_us]
        · rw [w_uk h3]
      · rw [w_un h1]
    rw [e]
  rw [hout]
section OL
variable {R : Nat → Nat → Bool} {n : Nat}
/-- what the law's rows say of what is above what -/
def AbR (n : Nat) (R : Nat → Nat → Bool) (I : Nat → Nat → Int32) : Prop := I 0 6 = nI n ∧ ∀ x y, x < 17 → y < 17 → I (330 + x) y = b2i (R x y)
noncomputable def rdB (R : Nat → Nat → Bool) (S : Nat → Bool) (i m : Nat) : Bool := @decide (∀ j, j < m → R (j + 1) (i + 1) = true → S j = true) (Classical.propDecidable _)
theorem rdB_0 {S : Nat → Bool} {i : Nat} : rdB R S i 0 = true := by unfold rdB; exact @decide_eq_true _ (Classical.propDecidable _) (fun j h => absurd h (Nat.not_lt_zero _))
theorem rdB_s {S : Nat → Bool} {i m : Nat} : rdB R S i (m + 1) = (rdB R S i m && !(R (m + 1) (i + 1) && !(S m))) := by
  rw [Bool.eq_iff_iff]
  unfold rdB
  rw [Bool.and_eq_true, @decide_eq_true_iff _ (Classical.propDecidable _), @decide_eq_true_iff _ (Classical.propDecidable _)]
  constructor
  · intro h
    refine ⟨fun j hj => h j (by omega), ?_⟩
    have := h m (by omega)
    cases e : R (m + 1) (i + 1) with
    | false => rfl
    | true => rw [this e]; rfl
  · rintro ⟨h1, h2⟩ j hj hr
    by_cases q : j = m
    · subst q
      rw [hr] at h2
      simpa using h2
    · exact h1 j (by omega) hr
theorem rdB_e {S : Nat → Bool} {i : Nat} (hin : In n R) : rdB R S i n = prB R S i := by
  rw [Bool.eq_iff_iff]
  unfold rdB prB
  rw [@decide_eq_true_iff _ (Classical.propDecidable _), @decide_eq_true_iff _ (Classical.propDecidable _)]
  exact ⟨fun h j hr => h j (by have := hin _ _ hr; omega) hr, fun h j _ hr => h j hr⟩
theorem bI_ne {b : Bool} : (bI b = 0) ↔ b = false := by cases b <;> decide
theorem o_rdy {μ : Nat} (B : OB μ) (hin : In n R) (h6 : n ≤ 6) {I : Nat → Nat → Int32} {J : Nat → Nat → Int64} {D : Nat → Nat → UInt64} (hR : AbR n R I) {s i : Nat} (hs : s < 128) (hi : i < n) {v3 : Int64} {v5 : Int32} :
    ∀ r m, m + r = n → ex (μ, 39, [.ref 0, .ref 329, .int (nI s), .long v3, dv, .int v5, .int (nI (i + 1)), .int (bI (rdB R (fS s) i m)), .int (nI (m + 1))], [], mC I J D) = ex (μ, 85, [.ref 0, .ref 329, .int (nI s), .long v3, dv, .int v5, .int (nI (i + 1)), .int (bI (prB R (fS s) i)), dv], [], mC I J D) := by
  intro r
  induction r with
  | zero =>
    intro m hm
    have hm : m = n := by omega
    subst hm
    rw [B.h39, hR.1, decide_eq_true ((nI_ltI (by omega) (by omega)).mpr (show m < m + 1 by omega)), cond_true, rdB_e hin]
  | succ r ih =>
    intro m hm
    have ih := ih (m + 1) (by omega)
    rw [rdB_s] at ih
    rw [B.h39, hR.1, decide_eq_false (show ¬ nI n < nI (m + 1) from nI_nlt (by omega) (by omega)), cond_false, B.h48]
    cases e : rdB R (fS s) i m with
    | false =>
      rw [e, Bool.false_and] at ih
      rw [decide_eq_true (show bI false = 0 from rfl), cond_true, B.h76, B.h77, nI_1]
      exact ih
    | true =>
      rw [e, Bool.true_and] at ih
      rw [decide_eq_false (show ¬ bI true = 0 by decide), cond_false, B.h53, inb_n (show m + 1 < 17 by omega) (by decide), cond_true, inb_n (show i + 1 < 17 by omega) (by decide), cond_true, nI_clamp (show m + 1 < 2 ^ 31 by omega), nI_clamp (show i + 1 < 2 ^ 31 by omega), hR.2 (m + 1) (i + 1) (by omega) (by omega)]
      cases e2 : R (m + 1) (i + 1) with
      | false =>
        rw [e2, Bool.false_and] at ih
        rw [decide_eq_true (show b2i false = 0 from rfl), cond_true, B.h72, B.h77, nI_1]
        exact ih
      | true =>
        rw [e2, Bool.true_and] at ih
        rw [decide_eq_false (show ¬ b2i true = 0 by decide), cond_false, B.h63, sh1 s hs (m + 1) (by omega)]
        cases e3 : s.testBit (m + 1) with
        | false =>
          rw [show fS s m = false from e3] at ih
          rw [decide_eq_true (show bI false = 0 from rfl), cond_true, B.h76, B.h77, nI_1]
          exact ih
        | true =>
          rw [show fS s m = true from e3] at ih
          rw [decide_eq_false (show ¬ bI true = 0 by decide), cond_false, B.h72, B.h77, nI_1]
          exact ih
theorem o_all (hin : In n R) (h6 : n ≤ 6) : ∀ k μ, OCh k μ → ∀ s, s < 128 → cntN (fun j => decide (j < n) && !(fS s j)) n = k → ∀ (I : Nat → Nat → Int32) (J : Nat → Nat → Int64) (D : Nat → Nat → UInt64) c, AbR n R I → I iCRD 0 = nI c → c ≤ 100000 →
    ex (μ, 0, [.ref 0, .ref 329, .int (nI s), dv, dv, dv, dv, dv, dv], [], mC I J D) = some (.inl (some (.long (lN (FT R n k (fS s) (fun j => decide (j < n)))))), mC I J D) := by
  intro k
  induction k with
  | zero =>
    intro μ B s hs hk I J D c hR hc h9
    have B : OB μ := B
    have hset : ∀ j, j < n → fS s j = true := fun j hj => by
      have := cnt_z hk hj
      rw [decide_eq_true hj, Bool.true_and] at this
      simpa using this
    have loop : ∀ r i, i + r = n → ex (μ, 8, [.ref 0, .ref 329, .int (nI s), .long 0, dv, .int 1, .int (nI (i + 1)), dv, dv], [], mC I J D) = some (.inl (some (.long 1)), mC I J D) := by
      intro r
      induction r with
      | zero =>
        intro i hi
        have hi : i = n := by omega
        subst hi
        rw [B.h8, hR.1, decide_eq_true ((nI_ltI (by omega) (by omega)).mpr (show i < i + 1 by omega)), cond_true, B.h110, decide_eq_false (show ¬ (1 : Int32) = 0 by decide), cond_false, B.h115, B.h120]
      | succ r ih =>
        intro i hi
        rw [B.h8, hR.1, decide_eq_false (show ¬ nI n < nI (i + 1) from nI_nlt (by omega) (by omega)), cond_false, B.h17, sh1 s hs (i + 1) (by omega), show s.testBit (i + 1) = true from hset i (by omega), decide_eq_false (show ¬ bI true ≠ 1 by decide), cond_false, B.h27, B.h104, nI_1]
        exact ih (i + 1) (by omega)
    rw [B.h0]
    exact loop n 0 (by omega)
  | succ k ih =>
    intro μ hch s hs hk I J D c hR hc h9
    obtain ⟨B, Rr, hch2⟩ := hch
    obtain ⟨l1, l2, l3⟩ := Rr.lo
    have hR1 : AbR n R (ups I iCRD 0 (nI 0)) := by
      refine ⟨by rw [w_un (by decide)]; exact hR.1, fun x y hx hy => ?_⟩
      rw [w_un (show 330 + x ≠ iCRD by unfold iCRD; omega)]
      exact hR.2 x y hx hy
    obtain ⟨g, hg⟩ : ∃ g : Nat → Nat, g = fun a => bif (decide (a < n) && !(fS s a)) && prB R (fS s) a then FT R n k (adS (fS s) a) (fun j => decide (j < n)) else 0 := ⟨_, rfl⟩
    have eF : FT R n (k + 1) (fS s) (fun j => decide (j < n)) = sN g n := by rw [hg]; rfl
    have loop : ∀ r i, i + r = n → ∀ b : Bool, (b = true ↔ ∀ j, j < i → fS s j = true) → ex (μ, 8, [.ref 0, .ref 329, .int (nI s), .long (lN (sN g i)), dv, .int (bI b), .int (nI (i + 1)), dv, dv], [], mC I J D) = some (.inl (some (.long (lN (sN g n)))), mC I J D) := by
      intro r
      induction r with
      | zero =>
        intro i hi b hb
        have hi : i = n := by omega
        subst hi
        have hb0 : b = false := by
          cases e : b with
          | false => rfl
          | true =>
            have h1 := hb.mp e
            have h2 : cntN (fun j => decide (j < i) && !(fS s j)) i = 0 := cnt_0 fun j hj => by rw [h1 j hj]; simp
            omega
        subst hb0
        rw [B.h8, hR.1, decide_eq_true ((nI_ltI (by omega) (by omega)).mpr (show i < i + 1 by omega)), cond_true, B.h110, decide_eq_true (show bI false = 0 from rfl), cond_true, B.h119, B.h120]
      | succ r ihl =>
        intro i hi b hb
        rw [B.h8, hR.1, decide_eq_false (show ¬ nI n < nI (i + 1) from nI_nlt (by omega) (by omega)), cond_false, B.h17, sh1 s hs (i + 1) (by omega)]
        have es : sN g (i + 1) = sN g i + g i := rfl
        cases e : s.testBit (i + 1) with
        | true =>
          have e9 : fS s i = true := e
          have eg : g i = 0 := by rw [hg]; show (bif (decide (i < n) && !(fS s i)) && prB R (fS s) i then _ else 0) = 0; rw [e9]; simp
          rw [decide_eq_false (show ¬ bI true ≠ 1 by decide), cond_false, B.h27, B.h104, nI_1]
          have := ihl (i + 1) (by omega) b (by
            rw [hb]
            refine ⟨fun h j hj => ?_, fun h j hj => h j (by omega)⟩
            by_cases q : j = i
            · subst q; exact e9
            · exact h j (by omega))
          rw [es, eg, Nat.add_zero] at this
          exact this
        | false =>
          have e9 : fS s i = false := e
          have hi2 : i < n := by omega
          rw [decide_eq_true (show bI false ≠ 1 by decide), cond_true, B.h30]
          have ord := o_rdy B hin h6 (J := J) (D := D) hR hs hi2 (v3 := lN (sN g i)) (v5 := 0) n 0 (by omega)
          rw [rdB_0] at ord
          rw [show (1 : Int32) = bI true from rfl]
          rw [show ex (μ, 39, [.ref 0, .ref 329, .int (nI s), .long (lN (sN g i)), dv, .int 0, .int (nI (i + 1)), .int (bI true), .int (bI true)], [], mC I J D) = _ from ord, Rr.h85]
          have next := ihl (i + 1) (by omega) false ⟨fun h => (by cases h), fun h => (by have := h i (by omega); rw [e9] at this; cases this)⟩
          cases ep : prB R (fS s) i with
          | false =>
            have eg : g i = 0 := by rw [hg]; show (bif (decide (i < n) && !(fS s i)) && prB R (fS s) i then _ else 0) = 0; rw [ep]; simp
            rw [es, eg, Nat.add_zero] at next
            rw [decide_eq_true (show bI false = 0 from rfl), cond_true, B.h104, nI_1]
            exact next
          | true =>
            have eg : g i = FT R n k (adS (fS s) i) (fun j => decide (j < n)) := by rw [hg]; show (bif (decide (i < n) && !(fS s i)) && prB R (fS s) i then _ else 0) = _; rw [ep, e9, decide_eq_true hi2]; rfl
            rw [es, eg, ← lN_add] at next
            rw [decide_eq_false (show ¬ bI true = 0 by decide), cond_false, Rr.h90]
            obtain ⟨s2, s3⟩ := sh2 s hs (i + 1) (by omega)
            rw [s2]
            have hcnt : cntN (fun j => decide (j < n) && !(fS (s ||| 2 ^ (i + 1)) j)) n = k := by
              have h1 := cnt_rem (f := fun j => decide (j < n) && !(fS s j)) (n := n) hi2 (by rw [decide_eq_true hi2, e9]; rfl)
              rw [hk] at h1
              have h2 : cntN (rem (fun j => decide (j < n) && !(fS s j)) i) n = cntN (fun j => decide (j < n) && !(fS (s ||| 2 ^ (i + 1)) j)) n := cnt_congr fun j hj => by
                rw [fS_or]
                exact bq2 _ _ _
              omega
            have key := ih (μ + 1) hch2 (s ||| 2 ^ (i + 1)) s3 hcnt (ups I iCRD 0 (nI 0)) J D 0 hR1 w_us (by omega)
            rw [fS_or] at key
            rw [goZ l1 l2 l3 hc h9 key hc]
            show ex (μ, 102, [.ref 0, .ref 329, .int (nI s), dv, dv, .int 0, .int (nI (i + 1)), dv, dv], [.long (lN (FT R n k (adS (fS s) i) (fun j => decide (j < n)))), .long (lN (sN g i))], mC I J D) = _
            rw [Rr.h102, B.h104, nI_1]
            exact next
    rw [B.h0, eF]
    exact loop n 0 (by omega) true ⟨fun _ j h => absurd h (Nat.not_lt_zero _), fun _ => rfl⟩
theorem o_law (hin : In n R) (h6 : n ≤ 6) (hir : ∀ a, R a a = false) (I : Nat → Nat → Int32) (J : Nat → Nat → Int64) (D : Nat → Nat → UInt64) {c : Nat} (hR : AbR n R I) (hc : I iCRD 0 = nI c) (h9 : c ≤ 100000) :
    ex (327, 0, [.ref 0, .ref 329, .int 0, dv, dv, dv, dv, dv, dv], [], mC I J D) = some (.inl (some (.long (lN (EE R n (fun j => decide (j < n)))))), mC I J D) := by
  have hch := och_n (6 - n) (by omega)
  rw [show 6 - (6 - n) = n by omega] at hch
  have f0 : fS 0 = fun _ => false := by
    funext j
    unfold fS
    rw [Nat.zero_testBit]
  have := o_all hin h6 n 327 hch 0 (by decide) (by
    rw [f0]
    have : ∀ m, m ≤ n → cntN (fun j => decide (j < n) && !false) m = m := by
      intro m
      induction m with
      | zero => exact fun _ => rfl
      | succ m ih =>
        intro hm
        show cntN _ m + (bif (decide (m < n) && !false) then 1 else 0) = m + 1
        rw [ih (by omega), decide_eq_true (show m < n by omega)]; rfl
    exact this n (Nat.le_refl _)) I J D c hR hc h9
  rw [f0, ← ee_ft hin hir] at this
  exact this
end OL
