/-! setCell: its page -/
theorem sumN_set (f : Nat → Int) (c : Nat) (x : Int) : ∀ n, sumN (fun k => if k = c then x else f k) n = sumN f n + (if c < n then x - f c else 0) := by
  intro n
  induction n with
  | zero => simp [sumN]
  | succ n ih =>
    show sumN _ n + (if n = c then x else f n) = (sumN f n + f n) + _
    rw [ih]
    by_cases h1 : n = c
    · subst h1
      rw [if_neg (Nat.lt_irrefl _), if_pos rfl, if_pos (Nat.lt_succ_self _)]
      omega
    · rw [if_neg h1]
      by_cases h2 : c < n
      · rw [if_pos h2, if_pos (by omega)]; omega
      · rw [if_neg h2, if_neg (by omega)]; omega
theorem pg_cell {kk c : Nat} {G : Nat → Nat → Int32} {w : Nat → Int32} {x y : Int32} (h : PgR kk G w) (hc : c < 12) (hx : rg 0 999 x) (hy : rg 0 999 y) : PgR (kk + 1) (ups (ups G 24 c x) 25 c y) (upd (upd w (800 + c) x) (812 + c) y) := by
  obtain ⟨a, b, c9, ⟨d1, d2, d3⟩, e1, e2, e3, e4, e5⟩ := h
  have hG : ∀ o, o ≠ 24 → o ≠ 25 → ups (ups G 24 c x) 25 c y o = G o := fun o h1 h2 => by rw [uI h2, uI h1]
  have hw : ∀ k, k < 800 → upd (upd w (800 + c) x) (812 + c) y k = w k := fun k h1 => by rw [uU (by omega), uU (by omega)]
  refine ⟨fr_lay a (hG 7 (by decide) (by decide)) (hw 0 (by decide)), fr_bou b (fun o ho => hG o (by omega) (by omega)) (fun k _ h2 => hw k (by omega)), fr_pil c9 (hG 7 (by decide) (by decide)) (hG 8 (by decide) (by decide)) (fun k _ h2 => hw k (by omega)),
    ⟨fr_row (by decide) d1 (fun o _ h2 => hG o (by omega) (by omega)) (fun k _ h2 => hw k (by omega)), fr_row (by decide) d2 (fun o _ h2 => hG o (by omega) (by omega)) (fun k _ h2 => hw k (by omega)), fr_tie d3 (fun o ho => hG o (by omega) (by omega))⟩,
    fr_pri e1 (hG 0 (by decide) (by decide)) (fun k _ h2 => hw k (by omega)), fr_sta e2 (fun o ho => hG o (by omega) (by omega)) (fun k _ h2 => hw k (by omega)), fun k hk => ?_, ?_, ?_⟩
  · have q4 : ups (ups G 24 c x) 25 c y 24 k = upd (G 24) c x k := by rw [uI (by decide), uIs]
    have q5 : ups (ups G 24 c x) 25 c y 25 k = upd (G 25) c y k := by rw [uIs, uI (by decide)]
    rw [q4, q5]
    obtain ⟨⟨p1, p2⟩, p3, p4⟩ := e3 k hk
    by_cases hkc : k = c
    · subst hkc
      rw [uUs, uUs, uU (by omega), uUs, uUs]
      exact ⟨⟨rfl, hx⟩, rfl, hy.1⟩
    · rw [uU hkc, uU hkc, uU (by omega), uU (by omega), uU (by omega), uU (by omega)]
      exact ⟨⟨p1, p2⟩, p3, p4⟩
  · have e : (fun k => (ups (ups G 24 c x) 25 c y 25 k).toInt) = fun k => if k = c then y.toInt else (G 25 k).toInt := by
      funext k
      rw [uIs, uI (by decide)]
      by_cases hkc : k = c
      · subst hkc; rw [uUs, if_pos rfl]
      · rw [uU hkc, if_neg hkc]
    rw [e, sumN_set (fun k => (G 25 k).toInt) c y.toInt 12, if_pos hc]
    have := (e3 c hc).2.2
    have := hy.2
    omega
  · rw [uU (by omega), uU (by omega), hG 23 (by decide) (by decide)]; exact e5
