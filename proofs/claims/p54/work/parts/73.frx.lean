/-! a page of which one part alone changes -/
section FX
variable {kk : Nat} {G G' : Nat → Nat → Int32} {w w' : Nat → Int32}
theorem pgx_sta (h : PgR kk G w) (hG : ∀ o, o ≠ 20 → o ≠ 21 → o ≠ 22 → G' o = G o) (hw : ∀ y, y < 825 → y < 624 ∨ 800 ≤ y → w' y = w y) (s : RSta G' w') : PgR (kk + 1) G' w' := by
  obtain ⟨a, b, c9, ⟨d1, d2, d3⟩, e1, e2, e3⟩ := h
  exact ⟨fr_lay a (hG 7 (by decide) (by decide) (by decide)) (hw 0 (by decide) (by decide)), fr_bou b (fun o ho => hG o (by omega) (by omega) (by omega)) (fun k _ h2 => hw k (by omega) (by omega)), fr_pil c9 (hG 7 (by decide) (by decide) (by decide)) (hG 8 (by decide) (by decide) (by decide)) (fun k _ h2 => hw k (by omega) (by omega)),
    ⟨fr_row (by decide) d1 (fun o _ h2 => hG o (by omega) (by omega) (by omega)) (fun k _ h2 => hw k (by omega) (by omega)), fr_row (by decide) d2 (fun o _ h2 => hG o (by omega) (by omega) (by omega)) (fun k _ h2 => hw k (by omega) (by omega)), fr_tie d3 (fun o ho => hG o (by omega) (by omega) (by omega))⟩,
    fr_pri e1 (hG 0 (by decide) (by decide) (by decide)) (fun k _ h2 => hw k (by omega) (by omega)), s, fr_ice e3 (fun o ho => hG o (by omega) (by omega) (by omega)) (fun k _ h2 => hw k (by omega) (by omega))⟩
theorem pgx_row (h : PgR kk G w) (hG : ∀ o, o < 9 ∨ 19 ≤ o → G' o = G o) (hw : ∀ y, y < 825 → y < 491 ∨ 621 ≤ y → w' y = w y) (s : RRow G' w' 0 ∧ RRow G' w' 1 ∧ RTie G') : PgR (kk + 1) G' w' := by
  obtain ⟨a, b, c9, ⟨d1, d2, d3⟩, e1, e2, e3⟩ := h
  exact ⟨fr_lay a (hG 7 (by decide)) (hw 0 (by decide) (by decide)), fr_bou b (fun o ho => hG o (by omega)) (fun k _ h2 => hw k (by omega) (by omega)), fr_pil c9 (hG 7 (by decide)) (hG 8 (by decide)) (fun k _ h2 => hw k (by omega) (by omega)),
    s, fr_pri e1 (hG 0 (by decide)) (fun k _ h2 => hw k (by omega) (by omega)), fr_sta e2 (fun o ho => hG o (by omega)) (fun k _ h2 => hw k (by omega) (by omega)), fr_ice e3 (fun o ho => hG o (by omega)) (fun k _ h2 => hw k (by omega) (by omega))⟩
theorem pgx_bou (h : PgR kk G w) (hG : ∀ o, o < 1 ∨ 6 ≤ o → G' o = G o) (hw : ∀ y, y < 825 → y < 1 ∨ 202 ≤ y → w' y = w y) (s : RBou G' w') : PgR (kk + 1) G' w' := by
  obtain ⟨a, b, c9, ⟨d1, d2, d3⟩, e1, e2, e3⟩ := h
  exact ⟨fr_lay a (hG 7 (by decide)) (hw 0 (by decide) (by decide)), s, fr_pil c9 (hG 7 (by decide)) (hG 8 (by decide)) (fun k _ h2 => hw k (by omega) (by omega)),
    ⟨fr_row (by decide) d1 (fun o _ h2 => hG o (by omega)) (fun k _ h2 => hw k (by omega) (by omega)), fr_row (by decide) d2 (fun o _ h2 => hG o (by omega)) (fun k _ h2 => hw k (by omega) (by omega)), fr_tie d3 (fun o ho => hG o (by omega))⟩,
    fr_pri e1 (hG 0 (by decide)) (fun k _ h2 => hw k (by omega) (by omega)), fr_sta e2 (fun o ho => hG o (by omega)) (fun k _ h2 => hw k (by omega) (by omega)), fr_ice e3 (fun o ho => hG o (by omega)) (fun k _ h2 => hw k (by omega) (by omega))⟩
theorem pgx_pil (h : PgR kk G w) (hG : ∀ o, o ≠ 8 → G' o = G o) (hw : ∀ y, y < 825 → y < 202 ∨ 491 ≤ y → w' y = w y) (s : RPil G' w') : PgR (kk + 1) G' w' := by
  obtain ⟨a, b, c9, ⟨d1, d2, d3⟩, e1, e2, e3⟩ := h
  exact ⟨fr_lay a (hG 7 (by decide)) (hw 0 (by decide) (by decide)), fr_bou b (fun o ho => hG o (by omega)) (fun k _ h2 => hw k (by omega) (by omega)), s,
    ⟨fr_row (by decide) d1 (fun o _ h2 => hG o (by omega)) (fun k _ h2 => hw k (by omega) (by omega)), fr_row (by decide) d2 (fun o _ h2 => hG o (by omega)) (fun k _ h2 => hw k (by omega) (by omega)), fr_tie d3 (fun o ho => hG o (by omega))⟩,
    fr_pri e1 (hG 0 (by decide)) (fun k _ h2 => hw k (by omega) (by omega)), fr_sta e2 (fun o ho => hG o (by omega)) (fun k _ h2 => hw k (by omega) (by omega)), fr_ice e3 (fun o ho => hG o (by omega)) (fun k _ h2 => hw k (by omega) (by omega))⟩
theorem pgx_ice (h : PgR kk G w) (hG : ∀ o, o < 23 ∨ 26 ≤ o → G' o = G o) (hw : ∀ y, y < 800 → w' y = w y) (s : RIce (kk + 1) G' w') : PgR (kk + 1) G' w' := by
  obtain ⟨a, b, c9, ⟨d1, d2, d3⟩, e1, e2, e3⟩ := h
  exact ⟨fr_lay a (hG 7 (by decide)) (hw 0 (by decide)), fr_bou b (fun o ho => hG o (by omega)) (fun k _ h2 => hw k (by omega)), fr_pil c9 (hG 7 (by decide)) (hG 8 (by decide)) (fun k _ h2 => hw k (by omega)),
    ⟨fr_row (by decide) d1 (fun o _ h2 => hG o (by omega)) (fun k _ h2 => hw k (by omega)), fr_row (by decide) d2 (fun o _ h2 => hG o (by omega)) (fun k _ h2 => hw k (by omega)), fr_tie d3 (fun o ho => hG o (by omega))⟩,
    fr_pri e1 (hG 0 (by decide)) (fun k _ h2 => hw k (by omega)), fr_sta e2 (fun o ho => hG o (by omega)) (fun k _ h2 => hw k (by omega)), s⟩
theorem pg_zone {z : Nat} {x y : Int32} (h : PgR kk G w) (hz : z < 8) (hx : rg 1 99 x) (hy : rg 0 3 y) : PgR (kk + 1) (ups (ups G 20 z x) 21 z y) (upd (upd w (624 + z) x) (632 + z) y) := by
  have s := h.2.2.2.2.2.1
  refine pgx_sta h (fun o h1 h2 _ => by rw [uI h2, uI h1]) (fun k _ hk => by rw [uU (by omega), uU (by omega)]) ⟨fun k hk => ?_, fun k q hk hq => ?_⟩
  · rw [show ups (ups G 20 z x) 21 z y 20 k = upd (G 20) z x k by rw [uI (by decide), uIs], show ups (ups G 20 z x) 21 z y 21 k = upd (G 21) z y k by rw [uIs, uI (by decide)]]
    obtain ⟨⟨p1, p2⟩, p3, p4⟩ := s.1 k hk
    by_cases hkc : k = z
    · subst hkc
      rw [uUs, uUs, uU (by omega), uUs, uUs]
      exact ⟨⟨rfl, hx⟩, rfl, hy⟩
    · rw [uU hkc, uU hkc, uU (by omega), uU (by omega), uU (by omega), uU (by omega)]
      exact ⟨⟨p1, p2⟩, p3, p4⟩
  · rw [uU (by omega), uU (by omega), uU (by omega), uU (by omega), uI (by decide), uI (by decide)]
    exact s.2 k q hk hq
theorem pg_read {z y : Nat} {x : Int32} (h : PgR kk G w) (hz : z < 8) (hy : y < 10) (hx : rg (-999) 999 x) : PgR (kk + 1) (ups G 22 (10 * z + y) x) (upd (upd w (640 + 8 * y + z) 1) (720 + 8 * y + z) x) := by
  have s := h.2.2.2.2.2.1
  refine pgx_sta h (fun o _ _ h3 => by rw [uI h3]) (fun k _ hk => by rw [uU (by omega), uU (by omega)]) ⟨fun k hk => ?_, fun k q hk hq => ?_⟩
  · rw [uI (by decide), uI (by decide), uU (by omega), uU (by omega), uU (by omega), uU (by omega)]
    exact s.1 k hk
  · rw [uIs]
    by_cases hkc : k = z ∧ q = y
    · obtain ⟨rfl, rfl⟩ := hkc
      rw [uUs, uU (by omega), uUs, uUs]
      exact Or.inr ⟨hx, rfl, rfl⟩
    · rw [uU (by omega), uU (by omega), uU (by omega), uU (by omega), uU (by omega)]
      exact s.2 k q hk hq
theorem pg_unread {z y : Nat} (h : PgR kk G w) (hz : z < 8) (hy : y < 10) : PgR (kk + 1) (ups G 22 (10 * z + y) 1000) (upd w (640 + 8 * y + z) 0) := by
  have s := h.2.2.2.2.2.1
  refine pgx_sta h (fun o _ _ h3 => by rw [uI h3]) (fun k _ hk => by rw [uU (by omega)]) ⟨fun k hk => ?_, fun k q hk hq => ?_⟩
  · rw [uI (by decide), uI (by decide), uU (by omega), uU (by omega)]
    exact s.1 k hk
  · rw [uIs]
    by_cases hkc : k = z ∧ q = y
    · obtain ⟨rfl, rfl⟩ := hkc
      rw [uUs, uUs]
      exact Or.inl ⟨rfl, rfl⟩
    · rw [uU (by omega), uU (by omega), uU (by omega)]
      exact s.2 k q hk hq
end FX
