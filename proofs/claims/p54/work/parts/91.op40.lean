/-! flow: the code, the turn -/
theorem us_R {I : Nat → Nat → Int32} {p k : Nat} {f : Nat → Int32} {x : Int32} : ups (upR I p f) p k x = upR I p (upd f k x) := by
  funext q
  by_cases hq : q = p
  · subst hq; rw [uIs, uRs, uRs]
  · rw [uI hq, uR hq, uR hq]
theorem us_R0 {I : Nat → Nat → Int32} {p k : Nat} {x : Int32} : ups I p k x = upR I p (upd (I p) k x) := rfl
theorem upR_f {I : Nat → Nat → Int32} {p : Nat} {f g : Nat → Int32} (h : f = g) : upR I p f = upR I p g := by rw [h]
theorem upR_me {I : Nat → Nat → Int32} {p : Nat} : upR I p (I p) = I := by
  funext q
  by_cases hq : q = p
  · subst hq; rw [uRs]
  · rw [uR hq]
/-- a loop's table: the first k are new -/
def lpN (n : Nat → Int32) (f : Nat → Int32) (k : Nat) : Nat → Int32 := fun j => if j < k then n j else f j
theorem lpN_0 {n f : Nat → Int32} : lpN n f 0 = f := by funext j; unfold lpN; rw [if_neg (by omega)]
theorem lpN_at {n f : Nat → Int32} {k : Nat} : lpN n f k k = f k := by unfold lpN; rw [if_neg (by omega)]
theorem lpN_s {n f : Nat → Int32} {k : Nat} : upd (lpN n f k) k (n k) = lpN n f (k + 1) := by
  funext j
  by_cases h : j = k
  · subst h; rw [uUs]; unfold lpN; rw [if_pos (by omega)]
  · rw [uU h]; unfold lpN
    by_cases h2 : j < k
    · rw [if_pos h2, if_pos (by omega)]
    · rw [if_neg h2, if_neg (by omega)]
section FL
variable {I : Nat → Nat → Int32} {J : Nat → Nat → Int64} {D : Nat → Nat → UInt64}
theorem x_fill {q N : Nat} (hS : S0 q = (20, N)) (hq : q < 337) (hN : N < 10000) (v : Int32) : ∀ r k, k + r = N → ex (311, 5, [.ref q, .int v, .int (nI k), .int (nI N)], [], mm (upR I q (lpN (fun _ => v) (I q) k)) J D) = some (.inl none, mm (upR I q (lpN (fun _ => v) (I q) N)) J D)
  | 0, k, h => by
    have : k = N := by omega
    subst this
    rw [e_311_5 (hv0 := hS) (kv0 := hq), decide_eq_true ((nI_leI (by omega) (by omega)).mpr (Nat.le_refl _)), cond_true, e_311_20]
  | r + 1, k, h => by
    have ih := x_fill hS hq hN v r (k + 1) (by omega)
    rw [e_311_5 (hv0 := hS) (kv0 := hq), decide_eq_false (show ¬ nI N ≤ nI k from nI_ge (a := k) (b := N) (by omega) (by omega)), cond_false, e_311_10 (hv0 := hS) (kv0 := hq), inb_n (by omega) (by omega), cond_true, nI_clamp (by omega), us_R, nI_1]
    rw [← lpN_s] at ih
    exact ih
theorem x_fill0 {q N : Nat} (hS : S0 q = (20, N)) (hq : q < 337) (hN : N < 10000) (v : Int32) : ex (311, 0, [.ref q, .int v, dv, dv], [], mm I J D) = some (.inl none, mm (upR I q (lpN (fun _ => v) (I q) N)) J D) := by
  have := x_fill (I := I) (J := J) (D := D) hS hq hN v N 0 (by omega)
  rw [lpN_0, upR_me] at this
  rw [e_311_0 (hv0 := hS) (kv0 := hq)]
  exact this
theorem c_sur {j : Nat} {b a : Nat → Int32} (h1 : I 25 = b) (h2 : I 26 = a) (hj : j < 12) : ex (28, 0, [.ref 24, .int (nI j)], [], mm I J D) = some (.inl (some (.int (b j + a j))), mm I J D) := by
  rw [e_28_0, inb_n hj (by decide), cond_true, cond_true, nI_clamp (by omega), h1, h2]
theorem c_off {f t : Nat} {b a : Nat → Int32} (h1 : I 25 = b) (h2 : I 26 = a) (hf : f < 12) (ht : t < 12) : ex (30, 0, [.ref 24, .int (nI f), .int (nI t), dv], [], mm I J D) = some (.inl (some (.int (offN b a f t))), mm I J D) := by
  rw [e_30_0, c_sur h1 h2 hf, cal_v, ka, e_30_5, c_sur h1 h2 ht, cal_v, ka, e_30_10, inb_n hf (by decide), cond_true, nI_clamp (by omega), h2]
  rfl
/-- changes, the first k cells looked at -/
def chK (b a f : Nat → Int32) (k j : Nat) : Int32 := if j < k then inL b a j - ouR b a j else if j = k then inL b a j else f j
theorem chK_0 {b a f : Nat → Int32} (h : f 0 = 0) : chK b a f 0 = f := by
  funext j; unfold chK
  rw [if_neg (by omega)]
  by_cases q : j = 0
  · subst q; rw [if_pos rfl, h]; rfl
  · rw [if_neg q]
theorem chK_s {b a f : Nat → Int32} {k : Nat} (hk : k < 11) (h : f (k + 1) = 0) : upd (upd (chK b a f k) k (chK b a f k k - (offN b a k (k + 1) - offN b a (k + 1) k))) (k + 1) (upd (chK b a f k) k (chK b a f k k - (offN b a k (k + 1) - offN b a (k + 1) k)) (k + 1) + (offN b a k (k + 1) - offN b a (k + 1) k)) = chK b a f (k + 1) := by
  have ho : ouR b a k = offN b a k (k + 1) - offN b a (k + 1) k := by unfold ouR; rw [if_pos hk]
  have hl : inL b a (k + 1) = offN b a k (k + 1) - offN b a (k + 1) k := by unfold inL; rw [if_neg (by omega), show k + 1 - 1 = k by omega]
  have hk0 : chK b a f k k = inL b a k := by unfold chK; rw [if_neg (by omega), if_pos rfl]
  have hk1 : chK b a f k (k + 1) = 0 := by unfold chK; rw [if_neg (by omega), if_neg (by omega), h]
  rw [hk0, ← ho]
  funext j
  by_cases h1 : j = k + 1
  · subst h1
    rw [uUs, uU (by omega), hk1]
    unfold chK
    rw [if_neg (by omega), if_pos rfl, hl, ho, Int32.zero_add]
  · rw [uU h1]
    by_cases h2 : j = k
    · subst h2
      rw [uUs]; unfold chK; rw [if_pos (by omega)]
    · rw [uU h2]; unfold chK
      by_cases h3 : j < k
      · rw [if_pos h3, if_pos (by omega)]
      · simp only [if_neg h3, if_neg h2, if_neg (show ¬ j < k + 1 by omega), if_neg h1]
theorem c_mv1 {b a f : Nat → Int32} (h1 : I 25 = b) (h2 : I 26 = a) (hf : ∀ j, j < 12 → f j = 0) : ∀ r k, k + r = 11 → ex (29, 10, [.ref 24, .int (nI k), dv], [], mm (upR I 27 (chK b a f k)) J D) = ex (29, 64, [.ref 24, dv, dv], [], mm (upR I 27 (chK b a f 11)) J D)
  | 0, k, h => by
    have : k = 11 := by omega
    subst this
    rw [e_29_10, decide_eq_true (show (12 : Int32) ≤ nI 11 + 1 by decide), cond_true]
  | r + 1, k, h => by
    have ih := c_mv1 h1 h2 hf r (k + 1) (by omega)
    rw [e_29_10, nI_1, decide_eq_false (show ¬ (12 : Int32) ≤ nI (k + 1) from nI_ge (a := k + 1) (b := 12) (by omega) (by decide)), cond_false, e_29_18, nI_1, c_off (I := upR I 27 (chK b a f k)) (b := b) (a := a) h1 h2 (by omega) (by omega), cal_v, ka, e_29_26, nI_1, c_off (I := upR I 27 (chK b a f k)) (b := b) (a := a) h1 h2 (by omega) (by omega), cal_v, ka, e_29_34, nI_1, inb_n (by omega) (by decide), cond_true, cond_true, inb_n (by omega) (by decide), cond_true, cond_true, nI_clamp (by omega), nI_clamp (by omega), uRs, us_R, uRs, us_R, chK_s (by omega) (hf _ (by omega))]
    exact ih
theorem c_mv2 {a c : Nat → Int32} : ∀ r k, k + r = 12 → ex (29, 66, [.ref 24, .int (nI k), dv], [], mm (upR (upR I 27 c) 26 (lpN (fun j => a j + c j) a k)) J D) = some (.inl none, mm (upR (upR I 27 c) 26 (lpN (fun j => a j + c j) a 12)) J D)
  | 0, k, h => by
    have : k = 12 := by omega
    subst this
    rw [e_29_66, decide_eq_true (show (12 : Int32) ≤ nI 12 by decide), cond_true, e_29_93]
  | r + 1, k, h => by
    have ih := c_mv2 (a := a) (c := c) r (k + 1) (by omega)
    rw [e_29_66, decide_eq_false (show ¬ (12 : Int32) ≤ nI k from nI_ge (a := k) (b := 12) (by omega) (by decide)), cond_false, e_29_72, inb_n (by omega) (by decide), cond_true, cond_true, cond_true, nI_clamp (by omega), uRs, us_R, uR (by decide), uRs, lpN_at, nI_1]
    rw [← lpN_s] at ih
    exact ih
theorem c_move {b a : Nat → Int32} (h1 : I 25 = b) (h2 : I 26 = a) : ∃ c, ex (29, 0, [.ref 24, dv, dv], [], mm I J D) = some (.inl none, mm (upR (upR I 27 c) 26 (mvN b a)) J D) := by
  have f0 : ∀ j, j < 12 → lpN (fun _ => (0 : Int32)) (I 27) 12 j = 0 := fun j hj => by unfold lpN; rw [if_pos hj]
  have l1 := c_mv1 (I := I) (J := J) (D := D) h1 h2 f0 11 0 (by omega)
  rw [chK_0 (f0 0 (by decide))] at l1
  have l2 := c_mv2 (I := I) (J := J) (D := D) (a := a) (c := chK b a (lpN (fun _ => (0 : Int32)) (I 27) 12) 11) 12 0 (by omega)
  have e3 : lpN (fun j => a j + chK b a (lpN (fun _ => (0 : Int32)) (I 27) 12) 11 j) a 12 = mvN b a := by
    funext j
    unfold lpN mvN
    by_cases q : j < 12
    · rw [if_pos q, if_pos q]
      unfold chK
      dsimp only
      by_cases q2 : j < 11
      · rw [if_pos q2]
      · rw [if_neg q2, if_pos (by omega)]
        have : ouR b a j = 0 := by unfold ouR; rw [if_neg q2]
        rw [this, Int32.sub_zero]
    · rw [if_neg q, if_neg q]
  rw [e3, lpN_0] at l2
  refine ⟨chK b a (lpN (fun _ => (0 : Int32)) (I 27) 12) 11, ?_⟩
  rw [e_29_0, x_fill0 (q := 27) (N := 12) rfl (by decide) (by decide), cal_v, kn, e_29_8]
  refine l1.trans ?_
  rw [e_29_64]
  have m0 : upR (upR I 27 (chK b a (lpN (fun _ => (0 : Int32)) (I 27) 12) 11)) 26 a = upR I 27 (chK b a (lpN (fun _ => (0 : Int32)) (I 27) 12) 11) := by
    have := upR_me (I := upR I 27 (chK b a (lpN (fun _ => (0 : Int32)) (I 27) 12) 11)) (p := 26)
    rw [uR (by decide), h2] at this
    exact this
  rw [m0] at l2
  exact l2
theorem c_sn1 {b a h : Nat → Int32} {g l s m : Int32} (h1 : I 25 = b) : ∀ r k, k + r = 12 → ex (31, 3, [.ref 24, .int l, .int s, .int m, .int (nI k), dv], [], mm (upR (upR I 26 (lpN (fun j => a j + gnN b a l s m j) a k)) 24 (upd h 3 (gsN b a l s m g k))) J D) = some (.inl none, mm (upR (upR I 26 (lpN (fun j => a j + gnN b a l s m j) a 12)) 24 (upd h 3 (gsN b a l s m g 12))) J D)
  | 0, k, hk => by
    have : k = 12 := by omega
    subst this
    rw [e_31_3, decide_eq_true (show (12 : Int32) ≤ nI 12 by decide), cond_true, e_31_67]
  | r + 1, k, hk => by
    have ih := c_sn1 (a := a) (h := h) (g := g) (l := l) (s := s) (m := m) h1 r (k + 1) (by omega)
    rw [← lpN_s] at ih
    have hs : gsN b a l s m g (k + 1) = gsN b a l s m g k + gnN b a l s m k := rfl
    have hu : ∀ x y : Int32, upd (upd h 3 x) 3 y = upd h 3 y := fun x y => by
      funext j
      by_cases hj : j = 3
      · subst hj; rw [uUs, uUs]
      · rw [uU hj, uU hj, uU hj]
    have hcm : ∀ (x y : Nat → Int32) (v : Int32), ups (upR (upR I 26 x) 24 y) 26 k v = upR (upR I 26 (upd x k v)) 24 y := fun x y v => by
      funext q
      by_cases q1 : q = 26
      · subst q1; rw [uIs, uR (by decide), uRs, uR (by decide), uRs]
      · rw [uI q1]
        by_cases q2 : q = 24
        · subst q2; rw [uRs, uRs]
        · rw [uR q2, uR q2, uR q1, uR q1]
    have s26 : ∀ x y : Nat → Int32, (upR (upR I 26 x) 24 y) 26 = x := fun x y => by rw [uR (by decide), uRs]
    have s25 : ∀ x y : Nat → Int32, (upR (upR I 26 x) 24 y) 25 = b := fun x y => by rw [uR (by decide), uR (by decide), h1]
    rw [e_31_3, decide_eq_false (show ¬ (12 : Int32) ≤ nI k from nI_ge (a := k) (b := 12) (by omega) (by decide)), cond_false, e_31_10, c_sur (s25 _ _) (s26 _ _) (by omega), cal_v, ka, e_31_16, lpN_at]
    by_cases q : b k + a k < l
    · have hg : gnN b a l s m k = -(if a k < m then a k else m) := by unfold gnN; rw [if_pos q]
      rw [decide_eq_true q, cond_true, e_31_24, inb_n (by omega) (by decide), cond_true, nI_clamp (by omega), s26, lpN_at, e_31_36, inb_n (by omega) (by decide), cond_true, cond_true, nI_clamp (by omega), s26, lpN_at, hcm, uRs, us_R, uUs, hu, nI_1]
      rw [hs, hg] at ih
      exact ih
    · have hg : gnN b a l s m k = s := by unfold gnN; rw [if_neg q]
      rw [decide_eq_false q, cond_false, e_31_20, e_31_36, inb_n (by omega) (by decide), cond_true, cond_true, nI_clamp (by omega), s26, lpN_at, hcm, uRs, us_R, uUs, hu, nI_1]
      rw [hs, hg] at ih
      exact ih

theorem c_step {b a : Nat → Int32} {l s m : Int32} (h1 : I 25 = b) (h2 : I 26 = a) : ∃ I', (∀ ls : Unit, True) ∧ (ex (29, 0, [.ref 24, dv, dv], [], mm I J D) = some (.inl none, mm I' J D) ∧ ∃ I2, ex (31, 0, [.ref 24, .int l, .int s, .int m, dv, dv], [], mm I' J D) = some (.inl none, mm I2 J D) ∧ (∀ p, p ≠ 24 → p ≠ 26 → p ≠ 27 → I2 p = I p) ∧ (∀ k, k ≠ 3 → I2 24 k = I 24 k) ∧ I2 26 = (stA1 b l s m (a, I 24 3)).1 ∧ I2 24 3 = (stA1 b l s m (a, I 24 3)).2) := by
  obtain ⟨c, e1⟩ := c_move (J := J) (D := D) h1 h2
  refine ⟨_, fun _ => trivial, e1, ?_⟩
  have l := c_sn1 (I := upR (upR I 27 c) 26 (mvN b a)) (J := J) (D := D) (b := b) (a := mvN b a) (h := I 24) (g := I 24 3) (l := l) (s := s) (m := m) (by rw [uR (by decide), uR (by decide), h1]) 12 0 (by omega)
  have u3 : upd (I 24) 3 (I 24 3) = I 24 := by
    funext j
    by_cases hj : j = 3
    · subst hj; rw [uUs]
    · rw [uU hj]
  rw [lpN_0, show gsN b (mvN b a) _ _ _ (I 24 3) 0 = I 24 3 from rfl, u3] at l
  have m0 : upR (upR (upR (upR I 27 c) 26 (mvN b a)) 26 (mvN b a)) 24 (I 24) = upR (upR I 27 c) 26 (mvN b a) := by
    funext q
    by_cases q1 : q = 24
    · subst q1; rw [uRs, uR (by decide), uR (by decide)]
    · rw [uR q1]
      by_cases q2 : q = 26
      · subst q2; rw [uRs, uRs]
      · rw [uR q2]
  rw [m0] at l
  refine ⟨_, by rw [e_31_0]; exact l, fun p p1 p2 p3 => ?_, fun k hk => ?_, ?_, ?_⟩
  · rw [uR p1, uR p2, uR p2, uR p3]
  · rw [uRs, uU hk]
  · rw [uR (by decide), uRs]
    funext j
    show lpN _ _ 12 j = wtN b (mvN b a) _ _ _ j
    unfold lpN wtN
    rfl
  · rw [uRs, uUs]; rfl
theorem c_steps {b a : Nat → Int32} {l s m : Int32} {g : Int32} {N : Nat} (hN : N ≤ 50) : ∀ r k, k + r = N → ∀ I : Nat → Nat → Int32, I 25 = b → I 26 = (itA b l s m k (a, g)).1 → I 24 3 = (itA b l s m k (a, g)).2 →
    ∃ I', ex (130, 37, [.ref 0, .int (nI N), .int l, .int s, .int m, .int (nI k)], [], mm I J D) = ex (130, 73, [.ref 0, dv, dv, dv, dv, dv], [], mm I' J D) ∧ (∀ p, p ≠ 24 → p ≠ 26 → p ≠ 27 → I' p = I p) ∧ (∀ k, k ≠ 3 → I' 24 k = I 24 k) ∧ I' 26 = (itA b l s m N (a, g)).1 ∧ I' 24 3 = (itA b l s m N (a, g)).2
  | 0, k, h, I, _, h2, h3 => by
    have : k = N := by omega
    subst this
    exact ⟨I, by rw [e_130_37, decide_eq_true ((nI_leI (by omega) (by omega)).mpr (Nat.le_refl _)), cond_true], fun _ _ _ _ => rfl, fun _ _ => rfl, h2, h3⟩
  | r + 1, k, h, I, h1, h2, h3 => by
    obtain ⟨I1, -, e1, I2, e2, o1, o2, o3, o4⟩ := c_step (J := J) (D := D) (l := l) (s := s) (m := m) h1 h2
    rw [h3] at o3 o4
    obtain ⟨I', e3, p1, p2, p3, p4⟩ := c_steps (a := a) (g := g) (l := l) (s := s) (m := m) hN r (k + 1) (by omega) I2 (by rw [o1 25 (by decide) (by decide) (by decide), h1]) o3 o4
    refine ⟨I', ?_, fun p q1 q2 q3 => (p1 p q1 q2 q3).trans (o1 p q1 q2 q3), fun k hk => (p2 k hk).trans (o2 k hk), p3, p4⟩
    rw [e_130_37, decide_eq_false (show ¬ nI N ≤ nI k from nI_ge (a := k) (b := N) (by omega) (by omega)), cond_false, e_130_43, e1, cal_v, kn, e_130_53, e2, cal_v, kn, e_130_67, nI_1]
    exact e3
theorem c_tot {a : Nat → Int32} (h2 : ∀ j, j < 12 → I 26 j = a j) : ∀ r k, k + r = 12 → ex (32, 4, [.ref 24, .int (totN a k), .int (nI k)], [], mm I J D) = some (.inl (some (.int (totN a 12))), mm I J D)
  | 0, k, h => by
    have : k = 12 := by omega
    subst this
    rw [e_32_4, decide_eq_true (show (12 : Int32) ≤ nI 12 by decide), cond_true, e_32_25]
  | r + 1, k, h => by
    have ih := c_tot h2 r (k + 1) (by omega)
    rw [e_32_4, decide_eq_false (show ¬ (12 : Int32) ≤ nI k from nI_ge (a := k) (b := 12) (by omega) (by decide)), cond_false, e_32_10, inb_n (by omega) (by decide), cond_true, nI_clamp (by omega), h2 k (by omega), nI_1]
    exact ih
/-! the model's step -/
def Bd (b a : Nat → Int32) (I : Nat → Nat → Int32) : Prop := ∀ j, j < 12 → I 317 (800 + j) = b j ∧ I 317 (812 + j) = a j
theorem m_st1 {v1 v2 v3 : Int32} {b a x z : Nat → Int32} (h : Bd b a I) : ∀ r k, k + r = 12 → ex (247, 3, [.ref 316, .int v1, .int v2, .int v3, .int (nI k), dv, dv], [], mm (upR (upR I 331 (lpN (fun j => b j + a j) x k)) 332 (lpN (fun _ => 0) z k)) J D) = ex (247, 54, [.ref 316, .int v1, .int v2, .int v3, dv, dv, dv], [], mm (upR (upR I 331 (lpN (fun j => b j + a j) x 12)) 332 (lpN (fun _ => 0) z 12)) J D)
  | 0, k, hk => by
    have : k = 12 := by omega
    subst this
    rw [e_247_3, decide_eq_true (show (12 : Int32) ≤ nI 12 by decide), cond_true]
  | r + 1, k, hk => by
    have ih := m_st1 (v1 := v1) (v2 := v2) (v3 := v3) (x := x) (z := z) h r (k + 1) (by omega)
    rw [← lpN_s, ← lpN_s] at ih
    have hcm : ∀ (f g : Nat → Int32) (y : Int32), ups (upR (upR I 331 f) 332 g) 331 k y = upR (upR I 331 (upd f k y)) 332 g := fun f g y => by
      funext q
      by_cases q1 : q = 331
      · subst q1; rw [uIs, uR (by decide), uRs, uR (by decide), uRs]
      · rw [uI q1]
        by_cases q2 : q = 332
        · subst q2; rw [uRs, uRs]
        · rw [uR q2, uR q2, uR q1, uR q1]
    have s17 : ∀ f g : Nat → Int32, (upR (upR I 331 f) 332 g) 317 = I 317 := fun f g => by rw [uR (by decide), uR (by decide)]
    rw [e_247_3, decide_eq_false (show ¬ (12 : Int32) ≤ nI k from nI_ge (a := k) (b := 12) (by omega) (by decide)), cond_false, e_247_10, show (800 : Int32) + nI k = nI (800 + k) from nI_add 800 k, show (812 : Int32) + nI k = nI (812 + k) from nI_add 812 k, inb_n (by omega) (by decide), cond_true, inb_n (by omega) (by decide), cond_true, inb_n (by omega) (by decide), cond_true, cond_true, nI_clamp (by omega), nI_clamp (by omega), nI_clamp (by omega), s17, (h k (by omega)).1, (h k (by omega)).2, hcm, us_R, nI_1]
    exact ih
/-- one goes -/
theorem m_goF {f : Nat} {t : Int32} (ht : ¬ (0 ≤ t ∧ t ≤ 11)) : ex (246, 0, [.ref 316, .int (nI f), .int t, dv, dv, dv], [], mm I J D) = some (.inl none, mm I J D) := by
  rw [e_246_0, x_inF ht, cal_v, ka, e_246_7, d00, cond_true, e_246_25]
theorem m_go {S : Int} {b a : Nat → Int32} (ok : IceOK b a S) (hS : S ≤ 100000000) {f t : Nat} (hf : f < 12) (ht : t < 12) (hw : I 317 (812 + f) = a f) (sf : I 331 f = b f + a f) (st : I 331 t = b t + a t) :
    ex (246, 0, [.ref 316, .int (nI f), .int (nI t), dv, dv, dv], [], mm I J D) = some (.inl none, mm (upR I 332 (upd (upd (I 332) f (I 332 f - offN b a f t)) t (upd (I 332) f (I 332 f - offN b a f t) t + offN b a f t))) J D) := by
  have hti : (0 : Int32) ≤ nI t ∧ nI t ≤ 11 := ⟨(nI_leI (a := 0) (by decide) (by omega)).mpr (Nat.zero_le _), (nI_leI (b := 11) (by omega) (by decide)).mpr (by omega)⟩
  obtain ⟨z, ez, -, -, z0⟩ := off_rg ok hS hf ht
  rw [e_246_0, x_inT hti, cal_v, ka, e_246_7, d10, cond_false, e_246_10, inb_n ht (by decide), cond_true, inb_n hf (by decide), cond_true, nI_clamp (by omega), nI_clamp (by omega), sf, st]
  by_cases q : b t + a t < b f + a f
  · rw [decide_eq_true q, cond_true, e_246_26, inb_n hf (by decide), cond_true, inb_n ht (by decide), cond_true, show (812 : Int32) + nI f = nI (812 + f) from nI_add 812 f, inb_n (by omega) (by decide), cond_true, nI_clamp (by omega), nI_clamp (by omega), nI_clamp (by omega), hw, sf, st]
    have s1 := add_rg (ok.1 f hf) (ok.a hf) (by omega)
    have s2 := add_rg (ok.1 t ht) (ok.a ht) (by omega)
    have d := sub_rg s1.2 s2.2 (by omega)
    have qi := Int32.lt_iff_toInt_lt.mp q
    have nn : ¬ (b f + a f) - (b t + a t) < 0 := by
      intro w
      have := Int32.lt_iff_toInt_lt.mp w
      have z0 : (0 : Int32).toInt = 0 := rfl
      rw [d.1, z0] at this
      omega
    have ho : offN b a f t = if a f / 2 < ((b f + a f) - (b t + a t)) / 4 then a f / 2 else ((b f + a f) - (b t + a t)) / 4 := by unfold offN; rw [if_neg nn]
    have hend : ∀ y : Int32, y = offN b a f t → ex (246, 68, [.ref 316, .int (nI f), .int (nI t), dv, dv, dv], [.int y], mm I J D) = some (.inl none, mm (upR I 332 (upd (upd (I 332) f (I 332 f - offN b a f t)) t (upd (I 332) f (I 332 f - offN b a f t) t + offN b a f t))) J D) := by
      intro y hy
      subst hy
      rw [e_246_68, inb_n hf (by decide), cond_true, cond_true, inb_n ht (by decide), cond_true, cond_true, nI_clamp (by omega), nI_clamp (by omega), us_R0 (I := I) (p := 332) (k := f), us_R, uRs]
    by_cases r : a f / 2 ≤ ((b f + a f) - (b t + a t)) / 4
    · rw [decide_eq_true r, cond_true, e_246_66]
      refine hend _ ?_
      rw [ho]
      by_cases r2 : a f / 2 < ((b f + a f) - (b t + a t)) / 4
      · rw [if_pos r2]
      · rw [if_neg r2]; exact Int32.le_antisymm r (Int32.not_lt.mp r2)
    · rw [decide_eq_false r, cond_false, e_246_62]
      refine hend _ ?_
      rw [ho, if_neg (fun r2 => r (Int32.le_of_lt r2))]
  · have h0 := z0 (Int32.not_lt.mp q)
    have hu : ∀ (F : Nat → Int32) j, upd F j (F j) = F := fun F j => by
      funext i
      by_cases hi : i = j
      · subst hi; rw [uUs]
      · rw [uU hi]
    rw [decide_eq_false q, cond_false, e_246_25, h0, Int32.sub_zero, hu, Int32.add_zero, hu, upR_me]

def mIn (b a : Nat → Int32) (j : Nat) : Int32 := if j = 0 then 0 else offN b a (j - 1) j
def mLo (b a : Nat → Int32) (j : Nat) : Int32 := if j = 0 then 0 else offN b a j (j - 1)
def mRo (b a : Nat → Int32) (j : Nat) : Int32 := if j < 11 then offN b a j (j + 1) else 0
/-- flowing, the first k cells looked at -/
def flK (b a f : Nat → Int32) (k j : Nat) : Int32 := if j + 1 < k then ((mIn b a j - mLo b a j) - mRo b a j) + offN b a (j + 1) j else if j + 1 = k then (mIn b a j - mLo b a j) - mRo b a j else if j = k then mIn b a j else f j
theorem flK_0 {b a f : Nat → Int32} (h : f 0 = 0) : flK b a f 0 = f := by
  funext j; unfold flK
  rw [if_neg (by omega), if_neg (by omega)]
  by_cases q : j = 0
  · subst q; rw [if_pos rfl, h]; rfl
  · rw [if_neg q]
/-- half a turn: to the left -/
def flH (b a f : Nat → Int32) (k j : Nat) : Int32 := if j + 1 < k then ((mIn b a j - mLo b a j) - mRo b a j) + offN b a (j + 1) j else if j + 1 = k then ((mIn b a j - mLo b a j) - mRo b a j) + offN b a (j + 1) j else if j = k then mIn b a j - mLo b a j else f j
theorem flK_l {b a f : Nat → Int32} {k : Nat} : upd (upd (flK b a f (k + 1)) (k + 1) (flK b a f (k + 1) (k + 1) - offN b a (k + 1) k)) k (upd (flK b a f (k + 1)) (k + 1) (flK b a f (k + 1) (k + 1) - offN b a (k + 1) k) k + offN b a (k + 1) k) = flH b a f (k + 1) := by
  funext j
  by_cases h1 : j = k
  · subst h1
    rw [uUs, uU (by omega)]
    unfold flK flH
    rw [if_neg (by omega), if_pos rfl, if_neg (by omega), if_pos rfl]
  · rw [uU h1]
    by_cases h2 : j = k + 1
    · subst h2
      rw [uUs]
      unfold flK flH
      rw [if_neg (by omega), if_neg (by omega), if_pos rfl, if_neg (by omega), if_neg (by omega), if_pos rfl]
      congr 1
    · rw [uU h2]
      unfold flK flH
      by_cases h3 : j + 1 < k + 1
      · rw [if_pos h3, if_pos h3]
      · simp only [if_neg h3, if_neg (show ¬ j + 1 = k + 1 by omega), if_neg h2]
theorem flH_0 {b a f : Nat → Int32} : flH b a f 0 = flK b a f 0 := by
  funext j; unfold flK flH
  simp only [if_neg (show ¬ j + 1 < 0 by omega), if_neg (show ¬ j + 1 = 0 by omega)]
  by_cases q : j = 0
  · subst q; simp only [if_true]; show (0 : Int32) - 0 = 0; rfl
  · simp only [if_neg q]
theorem flK_r {b a f : Nat → Int32} {k : Nat} (hk : k < 11) (hf : f (k + 1) = 0) : upd (upd (flH b a f k) k (flH b a f k k - offN b a k (k + 1))) (k + 1) (upd (flH b a f k) k (flH b a f k k - offN b a k (k + 1)) (k + 1) + offN b a k (k + 1)) = flK b a f (k + 1) := by
  have hr : mRo b a k = offN b a k (k + 1) := by unfold mRo; rw [if_pos hk]
  funext j
  by_cases h1 : j = k + 1
  · subst h1
    rw [uUs, uU (by omega)]
    unfold flK flH
    rw [if_neg (by omega), if_neg (by omega), if_neg (by omega), if_neg (by omega), if_neg (by omega), if_pos rfl, hf, Int32.zero_add]
    unfold mIn
    rw [if_neg (by omega), show k + 1 - 1 = k by omega]
  · rw [uU h1]
    by_cases h2 : j = k
    · subst h2
      rw [uUs]
      unfold flK flH
      rw [if_neg (by omega), if_neg (by omega), if_pos rfl, if_neg (by omega), if_pos rfl, hr]
    · rw [uU h2]
      unfold flK flH
      by_cases h3 : j + 1 < k
      · rw [if_pos h3, if_pos (by omega)]
      · by_cases h4 : j + 1 = k
        · rw [if_neg h3, if_pos h4, if_pos (by omega)]
        · rw [if_neg h3, if_neg h4, if_neg h2, if_neg (by omega), if_neg (by omega), if_neg h1]
/-- the last cell has no right -/
theorem flK_e {b a f : Nat → Int32} : flH b a f 11 = flK b a f 12 ∨ True := Or.inr trivial
theorem fl_end {b a f : Nat → Int32} {j : Nat} (hj : j < 12) : flH b a f 11 j = inL b a j - ouR b a j := by
  unfold flH inL ouR
  by_cases h0 : j < 11
  · have hx : (((mIn b a j - mLo b a j) - mRo b a j) + offN b a (j + 1) j) = (if j = 0 then 0 else offN b a (j - 1) j - offN b a j (j - 1)) - (if j < 11 then offN b a j (j + 1) - offN b a (j + 1) j else 0) := by
      have h1 : mIn b a j - mLo b a j = (if j = 0 then 0 else offN b a (j - 1) j - offN b a j (j - 1)) := by
        unfold mIn mLo
        by_cases q : j = 0
        · rw [if_pos q, if_pos q, if_pos q]; rfl
        · rw [if_neg q, if_neg q, if_neg q]
      have h2 : mRo b a j = offN b a j (j + 1) := by unfold mRo; rw [if_pos h0]
      rw [h1, h2, if_pos h0]
      simp only [Int32.sub_eq_add_neg, Int32.neg_add, Int32.neg_neg]
      ac_rfl
    rw [hx]
    by_cases h1 : j + 1 < 11
    · rw [if_pos h1]
    · rw [if_neg h1, if_pos (by omega)]
  · have : j = 11 := by omega
    subst this
    rw [if_neg (by decide), if_neg (by decide), if_pos rfl, if_neg (by decide), if_neg (by decide), Int32.sub_zero]
    rfl
theorem m_st2 {v1 v2 v3 : Int32} {b a z : Nat → Int32} {S : Int} (ok : IceOK b a S) (hS : S ≤ 100000000) (h : Bd b a I) (hs : ∀ j, j < 12 → I 331 j = b j + a j) (hz : ∀ j, j < 12 → z j = 0) : ∀ r k, k + r = 11 → ex (247, 57, [.ref 316, .int v1, .int v2, .int v3, .int (nI k), dv, dv], [], mm (upR I 332 (flK b a z k)) J D) = ex (247, 90, [.ref 316, .int v1, .int v2, .int v3, dv, dv, dv], [], mm (upR I 332 (flH b a z 11)) J D) := by
  have gl : ∀ k, k < 12 → ∀ F : Nat → Int32, F = flK b a z k → ex (246, 0, [.ref 316, .int (nI k), .int (nI k - 1), dv, dv, dv], [], mm (upR I 332 F) J D) = some (.inl none, mm (upR I 332 (flH b a z k)) J D) := by
    intro k hk F hF
    subst hF
    cases k with
    | zero => rw [m_goF (by decide), flH_0]
    | succ k =>
      rw [show nI (k + 1) - 1 = nI k by rw [← nI_1, Int32.add_sub_cancel], m_go ok hS (f := k + 1) (t := k) hk (by omega) (by rw [uR (by decide)]; exact (h _ hk).2) (by rw [uR (by decide)]; exact hs _ hk) (by rw [uR (by decide)]; exact hs _ (by omega)), uRs, flK_l]
      refine congrArg some (congrArg (Prod.mk _) ?_)
      congr 1
      funext q
      by_cases hq : q = 332
      · subst hq; rw [uRs, uRs]
      · rw [uR hq, uR hq, uR hq]
  intro r
  induction r with
  | zero =>
    intro k hk
    have : k = 11 := by omega
    subst this
    rw [e_247_57, decide_eq_false (show ¬ (12 : Int32) ≤ nI 11 by decide), cond_false, e_247_64, gl 11 (by decide) _ rfl, cal_v, kn, e_247_74, m_goF (by decide), cal_v, kn, e_247_84, e_247_57, decide_eq_true (show (12 : Int32) ≤ nI 11 + 1 by decide), cond_true]
  | succ r ih =>
    intro k hk
    have ih := ih (k + 1) (by omega)
    rw [e_247_57, decide_eq_false (show ¬ (12 : Int32) ≤ nI k from nI_ge (a := k) (b := 12) (by omega) (by decide)), cond_false, e_247_64, gl k (by omega) _ rfl, cal_v, kn, e_247_74, nI_1, m_go ok hS (f := k) (t := k + 1) (by omega) (by omega) (by rw [uR (by decide)]; exact (h _ (by omega)).2) (by rw [uR (by decide)]; exact hs _ (by omega)) (by rw [uR (by decide)]; exact hs _ (by omega)), uRs, flK_r (by omega) (hz _ (by omega)), cal_v, kn, e_247_84, nI_1]
    rw [show upR (upR I 332 (flH b a z k)) 332 (flK b a z (k + 1)) = upR I 332 (flK b a z (k + 1)) from by
      funext q
      by_cases hq : q = 332
      · subst hq; rw [uRs, uRs]
      · rw [uR hq, uR hq, uR hq]]
    exact ih
def w3 (b a : Nat → Int32) (l s m g : Int32) (w : Nat → Int32) (k y : Nat) : Int32 := if 812 ≤ y ∧ y < 812 + k then a (y - 812) + gnN b a l s m (y - 812) else if y = 824 then gsN b a l s m g k else w y
theorem m_st3 {b a c : Nat → Int32} {w : Nat → Int32} {l s m g : Int32} (hb : ∀ j, j < 12 → w (800 + j) = b j) (ha : ∀ j, j < 12 → w (812 + j) + c j = a j) (hc : ∀ j, j < 12 → I 332 j = c j) : ∀ r k, k + r = 12 → ex (247, 93, [.ref 316, .int l, .int s, .int m, .int (nI k), dv, dv], [], mm (upR I 317 (w3 b a l s m g w k)) J D) = some (.inl none, mm (upR I 317 (w3 b a l s m g w 12)) J D)
  | 0, k, hk => by
    have : k = 12 := by omega
    subst this
    rw [e_247_93, decide_eq_true (show (12 : Int32) ≤ nI 12 by decide), cond_true, e_247_224]
  | r + 1, k, hk => by
    have ih := m_st3 (l := l) (s := s) (m := m) (g := g) hb ha hc r (k + 1) (by omega)
    have f0 : w3 b a l s m g w k (812 + k) = w (812 + k) := by unfold w3; rw [if_neg (by omega), if_neg (by omega)]
    have f8 : ∀ W : Nat → Int32, W = upd (w3 b a l s m g w k) (812 + k) (a k) → W (800 + k) = b k := fun W hW => by
      rw [hW, uU (by omega)]; unfold w3; rw [if_neg (by omega), if_neg (by omega), hb k (by omega)]
    have f4 : w3 b a l s m g w k 824 = gsN b a l s m g k := by unfold w3; rw [if_neg (by omega), if_pos rfl]
    have fs : upd (upd (upd (w3 b a l s m g w k) (812 + k) (a k)) (812 + k) (a k + gnN b a l s m k)) 824 (gsN b a l s m g k + gnN b a l s m k) = w3 b a l s m g w (k + 1) := by
      funext y
      by_cases h1 : y = 824
      · subst h1
        rw [uUs]; unfold w3; rw [if_neg (by omega), if_pos rfl]; rfl
      · rw [uU h1]
        by_cases h2 : y = 812 + k
        · subst h2
          rw [uUs]; unfold w3; rw [if_pos (by omega), show 812 + k - 812 = k by omega]
        · rw [uU h2, uU h2]; unfold w3
          by_cases h3 : 812 ≤ y ∧ y < 812 + k
          · rw [if_pos h3, if_pos (by omega)]
          · rw [if_neg h3, if_neg h1, if_neg (by omega), if_neg h1]
    rw [e_247_93, decide_eq_false (show ¬ (12 : Int32) ≤ nI k from nI_ge (a := k) (b := 12) (by omega) (by decide)), cond_false, e_247_100, show (812 : Int32) + nI k = nI (812 + k) from nI_add 812 k, inb_n (show 812 + k < 850 by omega) (by decide), cond_true, inb_n (by omega) (by decide), cond_true, cond_true, cond_true, nI_clamp (by omega), nI_clamp (by omega), uRs, f0, uR (by decide), hc k (by omega), ha k (by omega), us_R, uRs, uUs]
    obtain ⟨mm1, hm1⟩ : ∃ x : Int32, x = if a k < m then a k else m := ⟨_, rfl⟩
    have go2 : ex (247, 151, [.ref 316, .int l, .int s, .int m, .int (nI k), dv, dv], [.int mm1], mm (upR I 317 (upd (w3 b a l s m g w k) (812 + k) (a k))) J D) = some (.inl none, mm (upR I 317 (w3 b a l s m g w 12)) J D) := by
      rw [e_247_151, show (800 : Int32) + nI k = nI (800 + k) from nI_add 800 k, show (812 : Int32) + nI k = nI (812 + k) from nI_add 812 k, inb_n (by omega) (by decide), cond_true, inb_n (by omega) (by decide), cond_true, nI_clamp (by omega), nI_clamp (by omega), uRs, f8 _ rfl, uUs]
      by_cases q : b k + a k < l
      · have hg : gnN b a l s m k = -mm1 := by unfold gnN; rw [if_pos q, hm1]
        rw [hg] at fs
        rw [decide_eq_true q, cond_true, e_247_184, e_247_187, show (812 : Int32) + nI k = nI (812 + k) from nI_add 812 k, inb_n (by omega) (by decide), cond_true, cond_true, nI_clamp (by omega), uRs, uUs, us_R, uRs, uU (show 824 ≠ 812 + k by omega), uU (show 824 ≠ 812 + k by omega), f4, us_R, fs, nI_1]
        exact ih
      · have hg : gnN b a l s m k = s := by unfold gnN; rw [if_neg q]
        rw [hg] at fs
        rw [decide_eq_false q, cond_false, e_247_180, e_247_187, show (812 : Int32) + nI k = nI (812 + k) from nI_add 812 k, inb_n (by omega) (by decide), cond_true, cond_true, nI_clamp (by omega), uRs, uUs, us_R, uRs, uU (show 824 ≠ 812 + k by omega), uU (show 824 ≠ 812 + k by omega), f4, us_R, fs, nI_1]
        exact ih
    by_cases q : a k ≤ m
    · have h1 : mm1 = a k := by
        rw [hm1]
        by_cases q2 : a k < m
        · rw [if_pos q2]
        · rw [if_neg q2]; exact Int32.le_antisymm (Int32.not_lt.mp q2) q
      rw [decide_eq_true q, cond_true, e_247_140, show (812 : Int32) + nI k = nI (812 + k) from nI_add 812 k, inb_n (by omega) (by decide), cond_true, nI_clamp (by omega), uRs, uUs]
      rw [h1] at go2
      exact go2
    · have h1 : mm1 = m := by rw [hm1, if_neg (fun q2 => q (Int32.le_of_lt q2))]
      rw [decide_eq_false q, cond_false, e_247_136]
      rw [h1] at go2
      exact go2
theorem m_step {b a : Nat → Int32} {S : Int} {l s m : Int32} (ok : IceOK b a S) (hS : S ≤ 100000000) (h : Bd b a I) : ∃ I2, ex (247, 0, [.ref 316, .int l, .int s, .int m, dv, dv, dv], [], mm I J D) = some (.inl none, mm I2 J D) ∧ (∀ p, p ≠ 317 → p ≠ 331 → p ≠ 332 → I2 p = I p) ∧ (∀ y, y < 812 → I2 317 y = I 317 y) ∧ Bd b (stA1 b l s m (a, I 317 824)).1 I2 ∧ I2 317 824 = (stA1 b l s m (a, I 317 824)).2 := by
  have l1 := m_st1 (v1 := l) (v2 := s) (v3 := m) (J := J) (D := D) (x := I 331) (z := I 332) h 12 0 (by omega)
  rw [lpN_0, lpN_0, show upR (upR I 331 (I 331)) 332 (I 332) = I by rw [upR_me, upR_me]] at l1
  have z0 : ∀ j, j < 12 → lpN (fun _ => (0 : Int32)) (I 332) 12 j = 0 := fun j hj => by unfold lpN; rw [if_pos hj]
  have l2 := m_st2 (I := upR I 331 (lpN (fun j => b j + a j) (I 331) 12)) (v1 := l) (v2 := s) (v3 := m) (J := J) (D := D) ok hS (fun j hj => by rw [uR (by decide)]; exact h j hj) (fun j hj => by rw [uRs]; unfold lpN; rw [if_pos hj]) z0 11 0 (by omega)
  rw [flK_0 (z0 0 (by decide))] at l2
  obtain ⟨I1, hI1⟩ : ∃ I1, I1 = upR (upR I 331 (lpN (fun j => b j + a j) (I 331) 12)) 332 (flH b a (lpN (fun _ => (0 : Int32)) (I 332) 12) 11) := ⟨_, rfl⟩
  rw [← hI1] at l2
  have i17 : I1 317 = I 317 := by rw [hI1, uR (by decide), uR (by decide)]
  have l3 := m_st3 (I := I1) (J := J) (D := D) (b := b) (a := mvN b a) (c := fun j => inL b a j - ouR b a j) (w := I 317) (l := l) (s := s) (m := m) (g := I 317 824) (fun j hj => (h j hj).1) (fun j hj => by rw [(h j hj).2]; unfold mvN; rw [if_pos hj]) (fun j hj => by rw [hI1, uRs, fl_end hj]) 12 0 (by omega)
  have w0 : w3 b (mvN b a) l s m (I 317 824) (I 317) 0 = I 317 := by
    funext y; unfold w3
    rw [if_neg (by omega)]
    by_cases hy : y = 824
    · subst hy; rw [if_pos rfl]; rfl
    · rw [if_neg hy]
  rw [w0, show upR I1 317 (I 317) = I1 by rw [← i17]; exact upR_me] at l3
  refine ⟨_, by rw [e_247_0]; exact l1.trans (by rw [e_247_54]; exact l2.trans (by rw [e_247_90]; exact l3)), fun p p1 p2 p3 => ?_, fun y hy => ?_, fun j hj => ⟨?_, ?_⟩, ?_⟩
  · rw [uR p1, hI1, uR p3, uR p2]
  · rw [uRs]; unfold w3; rw [if_neg (by omega), if_neg (by omega)]
  · rw [uRs]; unfold w3; rw [if_neg (by omega), if_neg (by omega)]; exact (h j hj).1
  · rw [uRs]; unfold w3; rw [if_pos (by omega), show 812 + j - 812 = j by omega]
    show _ = wtN b (mvN b a) l s m j
    unfold wtN; rw [if_pos hj]
  · rw [uRs]; unfold w3; rw [if_neg (by omega), if_pos rfl]; rfl
theorem m_steps {b a : Nat → Int32} {S : Int} {l s m : Int32} {g : Int32} {N : Nat} (hN : N ≤ 50) (ok : IceOK b a S) (hS : S ≤ 90000000) (hs : rg 0 20 s) (hm : rg 0 20 m) : ∀ r k, k + r = N → ∀ I : Nat → Nat → Int32, Bd b (itA b l s m k (a, g)).1 I → I 317 824 = (itA b l s m k (a, g)).2 →
    ∃ I', ex (248, 64, [.ref 316, .int (nI N), .int l, .int s, .int m, .int (nI k), dv], [], mm I J D) = ex (248, 84, [.ref 316, dv, dv, dv, dv, dv, dv], [], mm I' J D) ∧ (∀ p, p ≠ 317 → p ≠ 331 → p ≠ 332 → I' p = I p) ∧ (∀ y, y < 812 → I' 317 y = I 317 y) ∧ Bd b (itA b l s m N (a, g)).1 I' ∧ I' 317 824 = (itA b l s m N (a, g)).2
  | 0, k, h, I, h2, h3 => by
    have : k = N := by omega
    subst this
    exact ⟨I, by rw [e_248_64, decide_eq_true ((nI_leI (by omega) (by omega)).mpr (Nat.le_refl _)), cond_true], fun _ _ _ _ => rfl, fun _ _ => rfl, h2, h3⟩
  | r + 1, k, h, I, h2, h3 => by
    have ok2 := it_ok (x := (a, g)) (l := l) ok hS hs hm k (by omega)
    obtain ⟨I2, e2, o1, o2, o3, o4⟩ := m_step (J := J) (D := D) (l := l) (s := s) (m := m) ok2 (by omega) h2
    rw [h3] at o3 o4
    obtain ⟨I', e3, p1, p2, p3, p4⟩ := m_steps (a := a) (g := g) (l := l) (s := s) (m := m) hN ok hS hs hm r (k + 1) (by omega) I2 o3 o4
    refine ⟨I', ?_, fun p q1 q2 q3 => (p1 p q1 q2 q3).trans (o1 p q1 q2 q3), fun y hy => (p2 y hy).trans (o2 y hy), p3, p4⟩
    rw [e_248_64, decide_eq_false (show ¬ nI N ≤ nI k from nI_ge (a := k) (b := N) (by omega) (by omega)), cond_false, e_248_70, e2, cal_v, kn, e_248_78, nI_1]
    exact e3
theorem m_tot {a : Nat → Int32} (h2 : ∀ j, j < 12 → I 317 (812 + j) = a j) : ∀ r k, k + r = 12 → ex (248, 90, [.ref 316, dv, dv, dv, dv, .int (totN a k), .int (nI k)], [], mm I J D) = some (.inl (some (.int (totN a 12))), mm I J D)
  | 0, k, h => by
    have : k = 12 := by omega
    subst this
    rw [e_248_90, decide_eq_true (show (12 : Int32) ≤ nI 12 by decide), cond_true, e_248_119]
  | r + 1, k, h => by
    have ih := m_tot h2 r (k + 1) (by omega)
    rw [e_248_90, decide_eq_false (show ¬ (12 : Int32) ≤ nI k from nI_ge (a := k) (b := 12) (by omega) (by decide)), cond_false, e_248_97, show (812 : Int32) + nI k = nI (812 + k) from nI_add 812 k, inb_n (by omega) (by decide), cond_true, nI_clamp (by omega), h2 k (by omega), nI_1]
    exact ih
end FL
theorem sum_cg {f g : Nat → Int} : ∀ {n : Nat}, (∀ j, j < n → f j = g j) → sumN f n = sumN g n
  | 0, _ => rfl
  | n + 1, h => by
    show sumN f n + f n = sumN g n + g n
    rw [sum_cg (n := n) (fun k hk => h k (by omega)), h n (by omega)]
theorem inv_ice {kk : Nat} {I : Nat → Nat → Int32} (h : PgRel kk (pgF I 1) (I 317)) : IceOK (I 25) (I 26) (12000 * ((kk : Int) + 2)) ∧ Bd (I 25) (I 26) I ∧ I 317 824 = I 24 3 := by
  obtain ⟨h1, h2, h3⟩ := h.2.2.2.2.2.2
  have e24 : ∀ c, c < 12 → nrm (pgF I 1) 24 c = I 25 c := fun c hc => nrm_at (show rl 24 c = true from Nat.blt_eq.mpr hc)
  have e25 : ∀ c, c < 12 → nrm (pgF I 1) 25 c = I 26 c := fun c hc => nrm_at (show rl 25 c = true from Nat.blt_eq.mpr hc)
  refine ⟨⟨fun j hj => ?_, fun j hj => ?_, ?_⟩, fun j hj => ⟨?_, ?_⟩, ?_⟩
  · have := (h1 j hj).1.2
    rw [e24 j hj] at this; exact this
  · have := (h1 j hj).2.2
    rw [e25 j hj] at this; exact this
  · rw [sum_cg (g := fun c => (nrm (pgF I 1) 25 c).toInt) (fun j hj => by rw [e25 j hj])]
    exact h2
  · have := (h1 j hj).1.1
    rw [e24 j hj, nrw_at (by omega)] at this; exact this
  · have := (h1 j hj).2.1
    rw [e25 j hj, nrw_at (by omega)] at this; exact this
  · rw [nrw_at (by decide)] at h3
    rw [h3]
    exact nrm_at (show rl 23 3 = true from rfl)
theorem cfar_of {I I' : Nat → Nat → Int32} (h : ∀ p, p ≠ 24 → p ≠ 26 → p ≠ 27 → I' p = I p) : CFar I I' :=
  ⟨⟨by rw [h 0 (by decide) (by decide) (by decide)], by rw [h 0 (by decide) (by decide) (by decide)]⟩, fun p h1 _ => h p (by omega) (by omega) (by omega), ⟨by rw [h 245 (by decide) (by decide) (by decide)], h 264 (by decide) (by decide) (by decide), by rw [h 312 (by decide) (by decide) (by decide)], h 313 (by decide) (by decide) (by decide)⟩, fun p h1 => h p (by omega) (by omega) (by omega)⟩
theorem mfar_of {I I' : Nat → Nat → Int32} (h : ∀ p, p < 317 ∨ p = 318 ∨ p = 319 ∨ p = 320 ∨ p = iSCL → I' p = I p) : MFar I I' :=
  ⟨fun p hp => h p (Or.inl (by omega)), fun j _ => by rw [h 316 (Or.inl (by decide))], h 318 (by simp), h 319 (by simp), h 320 (by simp), by rw [h iSCL (by simp)]⟩
theorem pg_ice {kk : Nat} {I I2 I5 : Nat → Nat → Int32} {x : (Nat → Int32) × Int32} {S : Int} (h : PgRel kk (pgF I 1) (I 317)) (h1 : ∀ p, 1 ≤ p → p < 29 → p ≠ 24 → p ≠ 26 → p ≠ 27 → I2 p = I p) (h2 : I2 26 = x.1) (h3 : I2 24 3 = x.2) (h4 : ∀ y, y < 812 → I5 317 y = I 317 y) (h5 : Bd (I 25) x.1 I5) (h6 : I5 317 824 = x.2) (ok : IceOK (I 25) x.1 S) (hS : S ≤ 12000 * (((kk + 1 : Nat) : Int) + 2)) : PgRel (kk + 1) (pgF I2 1) (I5 317) := by
  have e0 : ∀ o k, rl o k = true → nrm (pgF I2 1) o k = I2 (1 + o) k := fun o k hr => nrm_at hr
  have e23 : nrm (pgF I2 1) 23 3 = x.2 := by rw [e0 23 3 rfl, h3]
  have e24 : ∀ c, c < 12 → nrm (pgF I2 1) 24 c = I 25 c := fun c hc => by rw [e0 24 c (Nat.blt_eq.mpr hc), h1 25 (by decide) (by decide) (by decide) (by decide) (by decide)]
  have e25 : ∀ c, c < 12 → nrm (pgF I2 1) 25 c = x.1 c := fun c hc => by rw [e0 25 c (Nat.blt_eq.mpr hc), h2]
  refine pgx_ice h (fun o ho => ?_) (fun y hy => ?_) ⟨fun c hc => ⟨⟨?_, ?_⟩, ?_, ?_⟩, ?_, ?_⟩
  · funext k
    unfold nrm
    cases hr : rl o k with
    | false => rfl
    | true =>
      have := rl_lt hr
      by_cases h26 : o = 26
      · subst h26; rw [rl26] at hr; cases hr
      · show I2 (1 + o) k = I (1 + o) k
        rw [h1 (1 + o) (by omega) (by omega) (by omega) (by omega) (by omega)]
  · unfold nrw
    rw [show Nat.blt y 825 = true from Nat.blt_eq.mpr (by omega)]
    by_cases hy2 : y < 812
    · exact h4 y hy2
    · omega
  · rw [nrw_at (by omega), e24 c hc]; exact (h5 c hc).1
  · rw [e24 c hc]; exact ok.1 c hc
  · rw [nrw_at (by omega), e25 c hc]; exact (h5 c hc).2
  · rw [e25 c hc]; exact ok.2.1 c hc
  · rw [sum_cg (g := fun c => (x.1 c).toInt) (fun j hj => by rw [e25 j hj])]
    have := ok.2.2
    omega
  · rw [nrw_at (by decide), e23]; exact h6
theorem t_40 {L kk : Nat} {I : Nat → Nat → Int32} {J : Nat → Nat → Int64} {D : Nat → Nat → UInt64} (v : Int32) (h : Inv L kk I J D) (sc : ScOK v I) (hkk : kk ≤ 6000) : Turn L kk 2615 v I J D := by
  obtain ⟨x, hx1⟩ : ∃ q, I 1000002 (v + 1).toNatClampNeg = q := ⟨_, rfl⟩
  obtain ⟨y, hx2⟩ : ∃ q, I 1000002 (v + 2).toNatClampNeg = q := ⟨_, rfl⟩
  obtain ⟨z, hx3⟩ : ∃ q, I 1000002 (v + 3).toNatClampNeg = q := ⟨_, rfl⟩
  obtain ⟨u, hx4⟩ : ∃ q, I 1000002 (v + 4).toNatClampNeg = q := ⟨_, rfl⟩
  by_cases h1 : 1 ≤ x ∧ x ≤ 50
  · by_cases h2 : 0 ≤ y ∧ y ≤ 2000
    · by_cases h3 : 0 ≤ z ∧ z ≤ 20
      · by_cases h4 : 0 ≤ u ∧ u ≤ 20
        · obtain ⟨N, hN, rfl⟩ := rg_nI (b := 50) (v := x) ⟨Int.le_trans (by decide) (rgl h1).1, (rgl h1).2⟩ (by decide)
          obtain ⟨ok, bd, g0⟩ := inv_ice h.2.1
          obtain ⟨I1, e1, lo, hi, nx⟩ := act_all (inv_to h) J D
          obtain ⟨I2, e2, o1, o2, o3, o4⟩ := c_steps (b := I 25) (a := I 26) (g := I 24 3) (l := y) (s := z) (m := u) (J := J) (D := D) hN N 0 (by omega) I1 (lo 25 (by decide) (by decide)) (lo 26 (by decide) (by decide)) (by rw [lo 24 (by decide) (by decide)]; rfl)
          obtain ⟨r, hr⟩ : ∃ r, r = totN (itA (I 25) y z u N (I 26, I 24 3)).1 12 := ⟨_, rfl⟩
          obtain ⟨I4, e3, w4, r4, s4, fin⟩ := nx I2 (cfar_of o1) (upsL J 335 0 r.toInt64) D
          obtain ⟨I5, e4, p1, p2, p3, p4⟩ := m_steps (b := I 25) (a := I 26) (g := I 24 3) (l := y) (s := z) (m := u) (J := upsL J 335 0 r.toInt64) (D := D) hN ok (by omega) (rgl h3) (rgl h4) N 0 (by omega) I4 (fun j hj => by rw [w4]; exact bd j hj) (by rw [w4, g0]; rfl)
          have ok2 := it_ok (x := (I 26, I 24 3)) (l := y) ok (by omega) (rgl h3) (rgl h4) N hN
          refine tk_40 (r := r) (I1 := I2) (J1 := J) (D1 := D) (I2 := I5) (J2 := upsL J 335 0 r.toInt64) (D2 := D) sc hx1 hx2 hx3 hx4 ?_ ?_ ?_ ?_ ?_ upsL_s ?_
          · have ht := c_tot (I := I2) (J := J) (D := D) (a := (itA (I 25) y z u N (I 26, I 24 3)).1) (fun j _ => by rw [o3]) 12 0 (by omega)
            rw [e_130_0, x_nr h1, cal_v, kn, e_130_7, x_nr h2, cal_v, kn, e_130_15, x_nr h3, cal_v, kn, e_130_22, x_nr h4, cal_v, kn, e_130_30, e1, cal_v, kn, e_130_34, show (Value.int 0) = Value.int (nI 0) from rfl, e2, e_130_73, e_32_0]
            have ht2 : ex (32, 4, [.ref 24, .int 0, .int 0], [], mm I2 J D) = _ := ht
            rw [ht2, cal_v, ka, e_130_83, hr]
          · rw [o1 iSCL (by decide) (by decide) (by decide), hi _ (by decide)]
          · rw [o1 1000002 (by decide) (by decide) (by decide), hi _ (by decide)]
          · have ht := m_tot (I := I5) (J := upsL J 335 0 r.toInt64) (D := D) (a := (itA (I 25) y z u N (I 26, I 24 3)).1) (fun j hj => (p3 j hj).2) 12 0 (by omega)
            rw [e_248_0, x_inT h1, cal_v, ka, e_248_8, d10, cond_false, e_248_11, x_inT h2, cal_v, ka, e_248_19, d10, cond_false, e_248_22, x_inT h3, cal_v, ka, e_248_29, d10, cond_false, e_248_32, x_inT h4, cal_v, ka, e_248_40, d10, cond_false, e_248_43, e_248_48, x_canT, cal_v, ka, e_248_52, d11, cond_true, e_248_57, e3, cal_v, kn, e_248_61, show (Value.int 0) = Value.int (nI 0) from rfl, e4, e_248_84]
            rw [show (ex (248, 90, [.ref 316, dv, dv, dv, dv, .int 0, .int 0], [], mm I5 (upsL J 335 0 r.toInt64) D)) = some (.inl (some (.int r)), mm I5 (upsL J 335 0 r.toInt64) D) from by rw [hr]; rw [hr] at ht; exact ht]
          · rw [p1 316 (by decide) (by decide) (by decide)]; exact r4
          · refine inv_of h (fin _ (mfar_of (fun p hp => p1 p ?_ ?_ ?_)) ?_)
            · rcases hp with hp | hp | hp | hp | hp <;> first | omega | (subst hp; decide)
            · rcases hp with hp | hp | hp | hp | hp <;> first | omega | (subst hp; decide)
            · rcases hp with hp | hp | hp | hp | hp <;> first | omega | (subst hp; decide)
            · exact pg_ice h.2.1 (fun p h1 h2 h3 h4 h5 => (o1 p h3 h4 h5).trans (lo p (by omega) h2)) o3 o4 (fun y hy => (p2 y hy).trans (by rw [w4])) p3 p4 ok2 (by omega)
        · refine te_40_1 (s := 0) (I1 := I) (J1 := J) (D1 := D) (I2 := ups I 316 0 1) (J2 := J) (D2 := D) sc hx1 hx2 hx3 hx4 ?_ rfl rfl ?_ ?_ (inv_r h)
          · rw [e_130_0, x_nr h1, cal_v, kn, e_130_7, x_nr h2, cal_v, kn, e_130_15, x_nr h3, cal_v, kn, e_130_22, x_nr1 h4, cal_e]
          · rw [e_248_0, x_inT h1, cal_v, ka, e_248_8, d10, cond_false, e_248_11, x_inT h2, cal_v, ka, e_248_19, d10, cond_false, e_248_22, x_inT h3, cal_v, ka, e_248_29, d10, cond_false, e_248_32, x_inF h4, cal_v, ka, e_248_40, d00, cond_true, e_248_47, e_248_48, x_canF, cal_v, ka, e_248_52, d01, cond_false, e_248_55]
          · rw [uIs, uUs]
      · refine te_40_1 (s := 0) (I1 := I) (J1 := J) (D1 := D) (I2 := ups I 316 0 1) (J2 := J) (D2 := D) sc hx1 hx2 hx3 hx4 ?_ rfl rfl ?_ ?_ (inv_r h)
        · rw [e_130_0, x_nr h1, cal_v, kn, e_130_7, x_nr h2, cal_v, kn, e_130_15, x_nr1 h3, cal_e]
        · rw [e_248_0, x_inT h1, cal_v, ka, e_248_8, d10, cond_false, e_248_11, x_inT h2, cal_v, ka, e_248_19, d10, cond_false, e_248_22, x_inF h3, cal_v, ka, e_248_29, d00, cond_true, e_248_47, e_248_48, x_canF, cal_v, ka, e_248_52, d01, cond_false, e_248_55]
        · rw [uIs, uUs]
    · refine te_40_1 (s := 0) (I1 := I) (J1 := J) (D1 := D) (I2 := ups I 316 0 1) (J2 := J) (D2 := D) sc hx1 hx2 hx3 hx4 ?_ rfl rfl ?_ ?_ (inv_r h)
      · rw [e_130_0, x_nr h1, cal_v, kn, e_130_7, x_nr1 h2, cal_e]
      · rw [e_248_0, x_inT h1, cal_v, ka, e_248_8, d10, cond_false, e_248_11, x_inF h2, cal_v, ka, e_248_19, d00, cond_true, e_248_47, e_248_48, x_canF, cal_v, ka, e_248_52, d01, cond_false, e_248_55]
      · rw [uIs, uUs]
  · refine te_40_1 (s := 0) (I1 := I) (J1 := J) (D1 := D) (I2 := ups I 316 0 1) (J2 := J) (D2 := D) sc hx1 hx2 hx3 hx4 ?_ rfl rfl ?_ ?_ (inv_r h)
    · rw [e_130_0, x_nr1 h1, cal_e]
    · rw [e_248_0, x_inF h1, cal_v, ka, e_248_8, d00, cond_true, e_248_47, e_248_48, x_canF, cal_v, ka, e_248_52, d01, cond_false, e_248_55]
    · rw [uIs, uUs]

