/-! the words of the text, by both -/
def skp (c : Nat → Nat) : Nat → Nat → Nat
  | 0, a => a
  | f + 1, a => if c a = 32 then a else skp c f (a + 1)
/-- words from a place on: where they begin, where they end -/
def wl (c : Nat → Nat) (n : Nat) : Nat → Nat → List (Nat × Nat)
  | 0, _ => []
  | f + 1, a => if a < n then (if c a = 32 then wl c n f (a + 1) else (a, skp c (n - a) a) :: wl c n f (skp c (n - a) a + 1)) else []
def wss (c : Nat → Nat) (n : Nat) : List (Nat × Nat) := wl c n (n + 1) 0
def wSb (c : Nat → Nat) (n j : Nat) : Nat := ((wss c n).getD j (0, 0)).1
def wEn (c : Nat → Nat) (n j : Nat) : Nat := ((wss c n).getD j (0, 0)).2
def Txt (c : Nat → Nat) (n : Nat) (f : Nat → Int32) : Prop := ∀ i, i < n → f i = nI (c i)
def ChO (c : Nat → Nat) (n : Nat) : Prop := n ≤ 80 ∧ ∀ i, i < n → 32 ≤ c i ∧ c i ≤ 126
section WL
variable {c : Nat → Nat} {n : Nat}
theorem skp_b : ∀ f a, a ≤ skp c f a ∧ skp c f a ≤ a + f ∧ (skp c f a < a + f → c (skp c f a) = 32)
  | 0, a => ⟨Nat.le_refl _, Nat.le_refl _, fun h => absurd h (Nat.lt_irrefl _)⟩
  | f + 1, a => by
    have ih := skp_b f (a + 1)
    show a ≤ (if c a = 32 then a else skp c f (a + 1)) ∧ (if c a = 32 then a else skp c f (a + 1)) ≤ a + (f + 1) ∧ ((if c a = 32 then a else skp c f (a + 1)) < a + (f + 1) → c (if c a = 32 then a else skp c f (a + 1)) = 32)
    by_cases q : c a = 32
    · rw [if_pos q]; exact ⟨by omega, by omega, fun _ => q⟩
    · rw [if_neg q]; exact ⟨by omega, by omega, fun h => ih.2.2 (by omega)⟩
theorem skp_in : ∀ f a i, a ≤ i → i < skp c f a → c i ≠ 32
  | 0, a, i, h1, h2 => by
    have h2 : i < a := h2
    omega
  | f + 1, a, i, h1, h2 => by
    have h2 : i < (if c a = 32 then a else skp c f (a + 1)) := h2
    by_cases q : c a = 32
    · rw [if_pos q] at h2; omega
    · rw [if_neg q] at h2
      by_cases e : i = a
      · subst e; exact q
      · exact skp_in f (a + 1) i (by omega) h2
theorem skp_w {a : Nat} (ha : a < n) (q : c a ≠ 32) : skp c (n - a) a = skp c (n - (a + 1)) (a + 1) ∧ a + 1 ≤ skp c (n - a) a ∧ skp c (n - a) a ≤ n := by
  have e : skp c (n - a) a = skp c (n - (a + 1)) (a + 1) := by
    rw [show n - a = (n - (a + 1)) + 1 by omega]
    exact if_neg q
  have := skp_b (c := c) (n - (a + 1)) (a + 1)
  rw [e]
  exact ⟨rfl, this.1, by omega⟩
theorem wl_s {f a : Nat} : wl c n (f + 1) a = if a < n then (if c a = 32 then wl c n f (a + 1) else (a, skp c (n - a) a) :: wl c n f (skp c (n - a) a + 1)) else [] := rfl
theorem wl_end : ∀ {f a : Nat}, n ≤ a → wl c n f a = []
  | 0, _, _ => rfl
  | f + 1, a, h => if_neg (by omega)
theorem wl_ok : ∀ f a i, i < (wl c n f a).length → ((wl c n f a).getD i (0, 0)).1 < ((wl c n f a).getD i (0, 0)).2 ∧ ((wl c n f a).getD i (0, 0)).2 ≤ n
  | 0, a, i, h => absurd h (Nat.not_lt_zero _)
  | f + 1, a, i, h => by
    rw [wl_s] at h ⊢
    by_cases q : a < n
    · rw [if_pos q] at h ⊢
      by_cases q2 : c a = 32
      · rw [if_pos q2] at h ⊢
        exact wl_ok f (a + 1) i h
      · rw [if_neg q2] at h ⊢
        have s := skp_w q q2
        cases i with
        | zero => exact ⟨by show a < skp c (n - a) a; omega, s.2.2⟩
        | succ i => exact wl_ok f (skp c (n - a) a + 1) i (by simpa using h)
    · rw [if_neg q] at h; exact absurd h (Nat.not_lt_zero _)
theorem wl_len : ∀ f a, a ≤ n + 1 → 2 * (wl c n f a).length ≤ n + 1 - a
  | 0, a, _ => Nat.zero_le _
  | f + 1, a, h => by
    rw [wl_s]
    by_cases q : a < n
    · rw [if_pos q]
      by_cases q2 : c a = 32
      · rw [if_pos q2]
        have := wl_len f (a + 1) (by omega)
        omega
      · rw [if_neg q2]
        have s := skp_w q q2
        have := wl_len f (skp c (n - a) a + 1) (by omega)
        show 2 * ((wl c n f (skp c (n - a) a + 1)).length + 1) ≤ _
        omega
    · rw [if_neg q]; exact Nat.zero_le _
end WL
section WB
variable {J : Nat → Nat → Int64} {D : Nat → Nat → UInt64} {c : Nat → Nat} {n : Nat}
theorem nc32 {c : Nat → Nat} {n i : Nat} (ch : ChO c n) (hi : i < n) : (nI (c i) = 32) ↔ c i = 32 := nI_eq (b := 32) (by have := ch.2 i hi; omega) (by decide)
/-- the book goes on in a word -/
theorem b_in (ch : ChO c n) {w : Nat} (hw : w < 40) : ∀ f a (I : Nat → Nat → Int32), a + f = n → I 312 3 = nI n → I 312 4 = nI (w + 1) → Txt c n (I 313) → I 315 w = nI a →
    ∃ I', ex (82, 9, [.ref 312, .int 1, .int (nI a), dv], [], mm I J D) = ex (82, 9, [.ref 312, .int 1, .int (nI (skp c f a)), dv], [], mm I' J D) ∧ (∀ p, p ≠ 315 → I' p = I p) ∧ (∀ j, j ≠ w → I' 315 j = I 315 j) ∧ I' 315 w = nI (skp c f a)
  | 0, a, I, h, h3, h4, ht, h5 => ⟨I, rfl, fun _ _ => rfl, fun _ _ => rfl, h5⟩
  | f + 1, a, I, h, h3, h4, ht, h5 => by
    have n80 := ch.1
    have es : skp c (f + 1) a = if c a = 32 then a else skp c f (a + 1) := rfl
    rw [es]
    by_cases q : c a = 32
    · rw [if_pos q]
      exact ⟨I, rfl, fun _ _ => rfl, fun _ _ => rfl, h5⟩
    · rw [if_neg q]
      obtain ⟨I', g1, g2, g3, g4⟩ := b_in ch hw f (a + 1) (ups I 315 w (nI (a + 1))) (by omega) (by rw [uI (by decide)]; exact h3) (by rw [uI (by decide)]; exact h4) (by rw [uI (by decide)]; exact ht) (by rw [uIs, uUs])
      refine ⟨I', ?_, fun p hp => by rw [g2 p hp, uI hp], fun j hj => by rw [g3 j hj, uIs, uU hj], g4⟩
      rw [e_82_9, h3, decide_eq_false (show ¬ nI n ≤ nI a from nI_ge (by omega) (by omega)), cond_false, e_82_17, inb_n (show a < 80 by omega) (by decide), cond_true, nI_clamp (by omega), ht a (by omega), decide_eq_true (show nI (c a) ≠ 32 from fun e => q ((nc32 ch (by omega)).mp e)), cond_true, e_82_32, e_82_33, d01, cond_false, e_82_38, d11, cond_true, e_82_71, d01, cond_false, e_82_75, h4, decide_eq_false (show ¬ nI (w + 1) ≤ 0 from nI_nle (by omega) (by omega)), cond_false, e_82_82, h4, nI_pred, inb_n (show w < 40 by omega) (by decide), cond_true, nI_clamp (by omega), nI_1, e_82_96, d01, cond_false, e_82_100, e_82_105, nI_1]
      exact g1
/-- the book's words -/
theorem b_pt (ch : ChO c n) : ∀ f a w (I : Nat → Nat → Int32), n + 1 ≤ a + f → 2 * w ≤ a → a ≤ n + 1 → I 312 3 = nI n → I 312 4 = nI w → Txt c n (I 313) →
    ∃ I', ex (82, 9, [.ref 312, .int 0, .int (nI a), dv], [], mm I J D) = some (.inl none, mm I' J D) ∧ (∀ p, p ≠ 312 → p ≠ 314 → p ≠ 315 → I' p = I p) ∧ (∀ j, j ≠ 4 → I' 312 j = I 312 j) ∧ I' 312 4 = nI (w + (wl c n f a).length) ∧ (∀ j, j < w → I' 314 j = I 314 j ∧ I' 315 j = I 315 j) ∧ ∀ i, i < (wl c n f a).length → I' 314 (w + i) = nI ((wl c n f a).getD i (0, 0)).1 ∧ I' 315 (w + i) = nI ((wl c n f a).getD i (0, 0)).2
  | 0, a, w, I, h, hw, ha, h3, h4, ht => by
    have n80 := ch.1
    exact ⟨I, by rw [e_82_9, h3, decide_eq_true ((nI_leI (by omega) (by omega)).mpr (by omega)), cond_true, e_82_112], fun _ _ _ _ => rfl, fun _ _ => rfl, h4, fun _ _ => ⟨rfl, rfl⟩, fun i hi => absurd hi (Nat.not_lt_zero _)⟩
  | f + 1, a, w, I, h, hw, ha, h3, h4, ht => by
    have n80 := ch.1
    rw [wl_s]
    by_cases q : a < n
    · rw [if_pos q]
      have lt : ¬ nI n ≤ nI a := nI_ge (by omega) (by omega)
      by_cases q2 : c a = 32
      · rw [if_pos q2]
        obtain ⟨I', g1, g2⟩ := b_pt ch f (a + 1) w I (by omega) (by omega) (by omega) h3 h4 ht
        refine ⟨I', ?_, g2⟩
        rw [e_82_9, h3, decide_eq_false lt, cond_false, e_82_17, inb_n (show a < 80 by omega) (by decide), cond_true, nI_clamp (by omega), ht a q, decide_eq_false (show ¬ nI (c a) ≠ 32 from fun e => e ((nc32 ch q).mpr q2)), cond_false, e_82_28, e_82_33, d11, cond_true, e_82_71, d11, cond_true, e_82_96, d11, cond_true, e_82_104, e_82_105, nI_1]
        exact g1
      · rw [if_neg q2]
        obtain ⟨s1, s2, s3⟩ := skp_w q q2
        obtain ⟨e, he⟩ : ∃ e, e = skp c (n - a) a := ⟨_, rfl⟩
        rw [← he] at s1 s2 s3 ⊢
        have w40 : w < 40 := by omega
        obtain ⟨I1, hI1⟩ : ∃ I1, I1 = ups (ups (ups I 314 w (nI a)) 312 4 (nI (w + 1))) 315 w (nI (a + 1)) := ⟨_, rfl⟩
        have i3 : I1 312 3 = nI n := by rw [hI1, uI (by decide), uIs, uU (by decide), uI (by decide)]; exact h3
        have i4 : I1 312 4 = nI (w + 1) := by rw [hI1, uI (by decide), uIs, uUs]
        have i13 : I1 313 = I 313 := by rw [hI1, uI (by decide), uI (by decide), uI (by decide)]
        obtain ⟨I2, g1, g2, g3, g4⟩ := b_in (J := J) (D := D) ch w40 (n - (a + 1)) (a + 1) I1 (by omega) i3 i4 (by rw [i13]; exact ht) (by rw [hI1, uIs, uUs])
        rw [← s1] at g1 g4
        obtain ⟨I3, k1, k2, k3, k4, k5, k6⟩ := b_pt ch f (e + 1) (w + 1) I2 (by omega) (by omega) (by omega) (by rw [g2 312 (by decide)]; exact i3) (by rw [g2 312 (by decide)]; exact i4) (by rw [g2 313 (by decide), i13]; exact ht)
        have first : ex (82, 9, [.ref 312, .int 0, .int (nI a), dv], [], mm I J D) = ex (82, 9, [.ref 312, .int 1, .int (nI (a + 1)), dv], [], mm I1 J D) := by
          rw [e_82_9, h3, decide_eq_false lt, cond_false, e_82_17, inb_n (show a < 80 by omega) (by decide), cond_true, nI_clamp (by omega), ht a q, decide_eq_true (show nI (c a) ≠ 32 from fun e => q2 ((nc32 ch q).mp e)), cond_true, e_82_32, e_82_33, d01, cond_false, e_82_38, d01, cond_false, e_82_42, h4, decide_eq_false (show ¬ (40 : Int32) ≤ nI w from nI_ge (a := w) (b := 40) w40 (by decide)), cond_false, e_82_51, h4, inb_n w40 (by decide), cond_true, nI_clamp (show w < 2 ^ 31 by omega), uI (show 312 ≠ 314 by decide), h4, nI_1, e_82_71, d01, cond_false, e_82_75, uIs, uUs, decide_eq_false (show ¬ nI (w + 1) ≤ 0 from nI_nle (by omega) (by omega)), cond_false, e_82_82, uIs, uUs, nI_pred, inb_n w40 (by decide), cond_true, nI_clamp (show w < 2 ^ 31 by omega), nI_1, ← hI1, e_82_96, d01, cond_false, e_82_100, e_82_105, nI_1]
        have last : ex (82, 9, [.ref 312, .int 1, .int (nI e), dv], [], mm I2 J D) = ex (82, 9, [.ref 312, .int 0, .int (nI (e + 1)), dv], [], mm I2 J D) := by
          have i23 : I2 312 3 = nI n := by rw [g2 312 (by decide)]; exact i3
          by_cases q3 : e = n
          · subst q3
            rw [e_82_9, i23, decide_eq_true ((nI_leI (by omega) (by omega)).mpr (Nat.le_refl _)), cond_true, e_82_112, e_82_9, i23, decide_eq_true ((nI_leI (by omega) (by omega)).mpr (by omega)), cond_true, e_82_112]
          · have b32 : c e = 32 := by
              have := (skp_b (c := c) (n - a) a).2.2
              rw [← he] at this
              exact this (by omega)
            rw [e_82_9, i23, decide_eq_false (show ¬ nI n ≤ nI e from nI_ge (by omega) (by omega)), cond_false, e_82_17, inb_n (show e < 80 by omega) (by decide), cond_true, nI_clamp (by omega), g2 313 (by decide), i13, ht e (by omega), decide_eq_false (show ¬ nI (c e) ≠ 32 from fun z => z ((nc32 ch (by omega)).mpr b32)), cond_false, e_82_28, e_82_33, d11, cond_true, e_82_71, d11, cond_true, e_82_96, d11, cond_true, e_82_104, e_82_105, nI_1]
        have far : ∀ p, p ≠ 312 → p ≠ 314 → p ≠ 315 → I2 p = I p := fun p h1 h2 h3 => by rw [g2 p h3, hI1, uI h3, uI h1, uI h2]
        have i14 : I2 314 = upd (I 314) w (nI a) := by rw [g2 314 (by decide), hI1, uI (by decide), uI (by decide), uIs]
        refine ⟨I3, by rw [first, g1, last]; exact k1, fun p h1 h2 h3 => by rw [k2 p h1 h2 h3, far p h1 h2 h3], fun j hj => ?_, ?_, fun j hj => ⟨?_, ?_⟩, fun i hi => ?_⟩
        · rw [k3 j hj, g2 312 (by decide), hI1, uI (by decide), uIs, uU hj, uI (by decide)]
        · rw [k4]
          show _ = nI (w + ((wl c n f (e + 1)).length + 1))
          congr 1; omega
        · rw [(k5 j (by omega)).1, i14, uU (by omega)]
        · rw [(k5 j (by omega)).2, g3 j (by omega), hI1, uIs, uU (by omega), uI (by decide), uI (by decide)]
        · cases i with
          | zero => exact ⟨by rw [Nat.add_zero, (k5 w (by omega)).1, i14, uUs]; rfl, by rw [Nat.add_zero, (k5 w (by omega)).2, g4]; rfl⟩
          | succ i =>
            have := k6 i (by simpa using hi)
            rw [show w + (i + 1) = w + 1 + i by omega]
            exact this
    · rw [if_neg q]
      exact ⟨I, by rw [e_82_9, h3, decide_eq_true ((nI_leI (by omega) (by omega)).mpr (by omega)), cond_true, e_82_112], fun _ _ _ _ => rfl, fun _ _ => rfl, h4, fun _ _ => ⟨rfl, rfl⟩, fun i hi => absurd hi (Nat.not_lt_zero _)⟩
/-- the model goes to a word's end -/
theorem m_in (ch : ChO c n) {I : Nat → Nat → Int32} (h8 : I 316 8 = nI n) (ht : Txt c n (I 320)) : ∀ f a, a + f = n → ex (252, 42, [.ref 316, .int (nI a)], [], mm I J D) = ex (252, 67, [.ref 316, .int (nI (skp c f a))], [], mm I J D)
  | 0, a, h => by
    have n80 := ch.1
    have : a = n := by omega
    subst this
    rw [e_252_42, h8, decide_eq_true ((nI_leI (by omega) (by omega)).mpr (Nat.le_refl _)), cond_true]
    rfl
  | f + 1, a, h => by
    have n80 := ch.1
    have es : skp c (f + 1) a = if c a = 32 then a else skp c f (a + 1) := rfl
    rw [es, e_252_42, h8, decide_eq_false (show ¬ nI n ≤ nI a from nI_ge (by omega) (by omega)), cond_false, e_252_50, inb_n (show a < 80 by omega) (by decide), cond_true, nI_clamp (by omega), ht a (by omega)]
    by_cases q : c a = 32
    · rw [if_pos q, decide_eq_true ((nc32 ch (by omega)).mpr q), cond_true]
    · rw [if_neg q, decide_eq_false (fun e => q ((nc32 ch (by omega)).mp e)), cond_false, e_252_61, nI_1]
      exact m_in ch h8 ht f (a + 1) (by omega)
theorem m_pt (ch : ChO c n) : ∀ f a w (I : Nat → Nat → Int32), n + 1 ≤ a + f → 2 * w ≤ a → a ≤ n + 1 → I 316 8 = nI n → I 316 23 = nI w → Txt c n (I 320) →
    ∃ I', ex (252, 7, [.ref 316, .int (nI a)], [], mm I J D) = some (.inl none, mm I' J D) ∧ (∀ p, p ≠ 316 → p ≠ 333 → p ≠ 334 → I' p = I p) ∧ (∀ j, j ≠ 23 → I' 316 j = I 316 j) ∧ I' 316 23 = nI (w + (wl c n f a).length) ∧ (∀ j, j < w → I' 333 j = I 333 j ∧ I' 334 j = I 334 j) ∧ ∀ i, i < (wl c n f a).length → I' 333 (w + i) = nI ((wl c n f a).getD i (0, 0)).1 ∧ I' 334 (w + i) = nI ((wl c n f a).getD i (0, 0)).2
  | 0, a, w, I, h, hw, ha, h3, h4, ht => by
    have n80 := ch.1
    exact ⟨I, by rw [e_252_7, h3, decide_eq_true ((nI_leI (by omega) (by omega)).mpr (by omega)), cond_true, e_252_90], fun _ _ _ _ => rfl, fun _ _ => rfl, h4, fun _ _ => ⟨rfl, rfl⟩, fun i hi => absurd hi (Nat.not_lt_zero _)⟩
  | f + 1, a, w, I, h, hw, ha, h3, h4, ht => by
    have n80 := ch.1
    rw [wl_s]
    by_cases q : a < n
    · rw [if_pos q]
      have lt : ¬ nI n ≤ nI a := nI_ge (by omega) (by omega)
      by_cases q2 : c a = 32
      · rw [if_pos q2]
        obtain ⟨I', g1, g2⟩ := m_pt ch f (a + 1) w I (by omega) (by omega) (by omega) h3 h4 ht
        refine ⟨I', ?_, g2⟩
        rw [e_252_7, h3, decide_eq_false lt, cond_false, e_252_15, inb_n (show a < 80 by omega) (by decide), cond_true, nI_clamp (by omega), ht a q, decide_eq_false (show ¬ nI (c a) ≠ 32 from fun e => e ((nc32 ch q).mpr q2)), cond_false, e_252_26, nI_1]
        exact g1
      · rw [if_neg q2]
        obtain ⟨s1, s2, s3⟩ := skp_w q q2
        have mi := m_in (J := J) (D := D) ch (I := ups I 333 w (nI a)) (by rw [uI (by decide)]; exact h3) (by rw [uI (by decide)]; exact ht) (n - a) a (by omega)
        obtain ⟨e, he⟩ : ∃ e, e = skp c (n - a) a := ⟨_, rfl⟩
        rw [← he] at s1 s2 s3 mi ⊢
        have w40 : w < 40 := by omega
        obtain ⟨I2, hI2⟩ : ∃ I2, I2 = ups (ups (ups I 333 w (nI a)) 334 w (nI e)) 316 23 (nI (w + 1)) := ⟨_, rfl⟩
        have i23 : I2 316 8 = nI n := by rw [hI2, uIs, uU (by decide), uI (by decide), uI (by decide)]; exact h3
        have i20 : I2 320 = I 320 := by rw [hI2, uI (by decide), uI (by decide), uI (by decide)]
        obtain ⟨I3, k1, k2, k3, k4, k5, k6⟩ := m_pt ch f (e + 1) (w + 1) I2 (by omega) (by omega) (by omega) i23 (by rw [hI2, uIs, uUs]) (by rw [i20]; exact ht)
        have first : ex (252, 7, [.ref 316, .int (nI a)], [], mm I J D) = ex (252, 7, [.ref 316, .int (nI e)], [], mm I2 J D) := by
          rw [e_252_7, h3, decide_eq_false lt, cond_false, e_252_15, inb_n (show a < 80 by omega) (by decide), cond_true, nI_clamp (by omega), ht a q, decide_eq_true (show nI (c a) ≠ 32 from fun e => q2 ((nc32 ch q).mp e)), cond_true, e_252_32, h4, inb_n (show w < 80 by omega) (by decide), cond_true, nI_clamp (show w < 2 ^ 31 by omega), mi, e_252_67, uI (show 316 ≠ 333 by decide), h4, inb_n (show w < 80 by omega) (by decide), cond_true, nI_clamp (show w < 2 ^ 31 by omega), uI (show 316 ≠ 334 by decide), uI (show 316 ≠ 333 by decide), h4, nI_1, ← hI2]
        have last : ex (252, 7, [.ref 316, .int (nI e)], [], mm I2 J D) = ex (252, 7, [.ref 316, .int (nI (e + 1))], [], mm I2 J D) := by
          by_cases q3 : e = n
          · subst q3
            rw [e_252_7, i23, decide_eq_true ((nI_leI (by omega) (by omega)).mpr (Nat.le_refl _)), cond_true, e_252_90, e_252_7, i23, decide_eq_true ((nI_leI (by omega) (by omega)).mpr (by omega)), cond_true, e_252_90]
          · have b32 : c e = 32 := by
              have := (skp_b (c := c) (n - a) a).2.2
              rw [← he] at this
              exact this (by omega)
            rw [e_252_7, i23, decide_eq_false (show ¬ nI n ≤ nI e from nI_ge (by omega) (by omega)), cond_false, e_252_15, inb_n (show e < 80 by omega) (by decide), cond_true, nI_clamp (by omega), i20, ht e (by omega), decide_eq_false (show ¬ nI (c e) ≠ 32 from fun z => z ((nc32 ch (by omega)).mpr b32)), cond_false, e_252_26, nI_1]
        refine ⟨I3, by rw [first, last]; exact k1, fun p h1 h2 h3 => by rw [k2 p h1 h2 h3, hI2, uI h1, uI h3, uI h2], fun j hj => ?_, ?_, fun j hj => ⟨?_, ?_⟩, fun i hi => ?_⟩
        · rw [k3 j hj, hI2, uIs, uU hj, uI (by decide), uI (by decide)]
        · rw [k4]
          show _ = nI (w + ((wl c n f (e + 1)).length + 1))
          congr 1; omega
        · rw [(k5 j (by omega)).1, hI2, uI (by decide), uI (by decide), uIs, uU (by omega)]
        · rw [(k5 j (by omega)).2, hI2, uI (by decide), uIs, uU (by omega), uI (by decide)]
        · cases i with
          | zero => exact ⟨by rw [Nat.add_zero, (k5 w (by omega)).1, hI2, uI (by decide), uI (by decide), uIs, uUs]; rfl, by rw [Nat.add_zero, (k5 w (by omega)).2, hI2, uI (by decide), uIs, uUs]; rfl⟩
          | succ i =>
            have := k6 i (by simpa using hi)
            rw [show w + (i + 1) = w + 1 + i by omega]
            exact this
    · rw [if_neg q]
      exact ⟨I, by rw [e_252_7, h3, decide_eq_true ((nI_leI (by omega) (by omega)).mpr (by omega)), cond_true, e_252_90], fun _ _ _ _ => rfl, fun _ _ => rfl, h4, fun _ _ => ⟨rfl, rfl⟩, fun i hi => absurd hi (Nat.not_lt_zero _)⟩
end WB
def WdB (c : Nat → Nat) (n : Nat) (I : Nat → Nat → Int32) : Prop := I 312 4 = nI (wss c n).length ∧ ∀ j, j < (wss c n).length → I 314 j = nI (wSb c n j) ∧ I 315 j = nI (wEn c n j)
def WdM (c : Nat → Nat) (n : Nat) (I : Nat → Nat → Int32) : Prop := I 316 23 = nI (wss c n).length ∧ ∀ j, j < (wss c n).length → I 333 j = nI (wSb c n j) ∧ I 334 j = nI (wEn c n j)
section WX
variable {I : Nat → Nat → Int32} {J : Nat → Nat → Int64} {D : Nat → Nat → UInt64} {c : Nat → Nat} {n : Nat}
theorem ws_b (ch : ChO c n) : (wss c n).length ≤ 40 := by
  have := wl_len (c := c) (n := n) (n + 1) 0 (by omega)
  have n80 := ch.1
  show (wl c n (n + 1) 0).length ≤ 40
  omega
theorem ws_ok {j : Nat} (hj : j < (wss c n).length) : wSb c n j < wEn c n j ∧ wEn c n j ≤ n := wl_ok (n + 1) 0 j hj
theorem c_words (ch : ChO c n) (h3 : I 312 3 = nI n) (ht : Txt c n (I 313)) : ∃ I', ex (82, 0, [.ref 312, dv, dv, dv], [], mm I J D) = some (.inl none, mm I' J D) ∧ (∀ p, p ≠ 312 → p ≠ 314 → p ≠ 315 → I' p = I p) ∧ (∀ j, j ≠ 4 → I' 312 j = I 312 j) ∧ WdB c n I' := by
  obtain ⟨I', g1, g2, g3, g4, g5, g6⟩ := b_pt (J := J) (D := D) ch (n + 1) 0 0 (ups I 312 4 0) (by omega) (by omega) (by omega) (by rw [uIs, uU (by decide)]; exact h3) (by rw [uIs, uUs]; rfl) (by rw [uI (by decide)]; exact ht)
  refine ⟨I', by rw [e_82_0]; exact g1, fun p h1 h2 h3 => by rw [g2 p h1 h2 h3, uI h1], fun j hj => by rw [g3 j hj, uIs, uU hj], by rw [g4, Nat.zero_add]; rfl, fun j hj => ?_⟩
  have := g6 j hj
  rw [Nat.zero_add] at this
  exact this
theorem m_words (ch : ChO c n) (h3 : I 316 8 = nI n) (ht : Txt c n (I 320)) : ∃ I', ex (252, 0, [.ref 316, dv], [], mm I J D) = some (.inl none, mm I' J D) ∧ (∀ p, p ≠ 316 → p ≠ 333 → p ≠ 334 → I' p = I p) ∧ (∀ j, j ≠ 23 → I' 316 j = I 316 j) ∧ WdM c n I' := by
  obtain ⟨I', g1, g2, g3, g4, g5, g6⟩ := m_pt (J := J) (D := D) ch (n + 1) 0 0 (ups I 316 23 0) (by omega) (by omega) (by omega) (by rw [uIs, uU (by decide)]; exact h3) (by rw [uIs, uUs]; rfl) (by rw [uI (by decide)]; exact ht)
  refine ⟨I', by rw [e_252_0]; exact g1, fun p h1 h2 h3 => by rw [g2 p h1 h2 h3, uI h1], fun j hj => by rw [g3 j hj, uIs, uU hj], by rw [g4, Nat.zero_add]; rfl, fun j hj => ?_⟩
  have := g6 j hj
  rw [Nat.zero_add] at this
  exact this
end WX
theorem inv_txt0 {I : Nat → Nat → Int32} (h : RTxt I) : ∃ n c, ChO c n ∧ I 312 3 = nI n ∧ I 316 8 = nI n ∧ Txt c n (I 313) ∧ Txt c n (I 320) := by
  obtain ⟨t1, t2, t3⟩ := h
  obtain ⟨n, hn, en⟩ := rg_nI (b := 80) t2 (by decide)
  rw [en, rN_nI (by omega)] at t3
  have r : ∀ x : Int32, rg 32 126 x → x = nI (rN x) ∧ 32 ≤ rN x ∧ rN x ≤ 126 := fun x hx => by
    obtain ⟨a, ha, rfl⟩ := rg_nI (b := 126) (v := x) ⟨by have := hx.1; omega, hx.2⟩ (by decide)
    have := hx.1
    rw [nI_toInt (by omega)] at this
    rw [rN_nI (by omega)]
    exact ⟨rfl, by omega, by omega⟩
  exact ⟨n, fun i => rN (I 313 i), ⟨hn, fun i hi => (r _ (t3 i hi).2).2⟩, en, t1.trans en, fun i hi => (r _ (t3 i hi).2).1, fun i hi => by rw [(t3 i hi).1]; exact (r _ (t3 i hi).2).1⟩
