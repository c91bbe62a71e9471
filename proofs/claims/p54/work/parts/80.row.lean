/-! rows of bands -/
theorem inv_row {kk : Nat} {I : Nat → Nat → Int32} (h : PgRel kk (pgF I 1) (I 317)) {i : Nat} (hi : i < 2) : ∃ n, n ≤ 16 ∧ I (10 + 5 * i) 4 = nI n ∧ I 317 (491 + i) = nI n ∧
    (∀ k, k < n → (I 317 (493 + 16 * i + k) = I (11 + 5 * i) k ∧ rg 1 9 (I (11 + 5 * i) k)) ∧ (I 317 (525 + 16 * i + k) = I (12 + 5 * i) k ∧ rg 0 3 (I (12 + 5 * i) k)) ∧ I 317 (589 + 16 * i + k) = I (13 + 5 * i) k ∧ (I 317 (557 + 16 * i + k) = I (14 + 5 * i) k ∧ (I (14 + 5 * i) k = -1 ∨ rg 0 99999 (I (14 + 5 * i) k)))) ∧
    (∀ k, n ≤ k → k < 16 → I 317 (557 + 16 * i + k) = -1 ∧ I 317 (589 + 16 * i + k) = -1) ∧ ∀ k j, k < j → j < n → I (14 + 5 * i) k ≠ -1 → I (14 + 5 * i) j ≠ -1 → I (14 + 5 * i) k ≤ I (14 + 5 * i) j := by
  have hr : RRow (nrm (pgF I 1)) (nrw (I 317)) i := by
    rcases (show i = 0 ∨ i = 1 by omega) with rfl | rfl
    · exact h.2.2.2.1.1
    · exact h.2.2.2.1.2.1
  have e0 : ∀ o k, rl o k = true → nrm (pgF I 1) o k = I (1 + o) k := fun o k hr => nrm_at hr
  have r0 : rl (9 + 5 * i) 4 = true := by rcases (show i = 0 ∨ i = 1 by omega) with rfl | rfl <;> rfl
  have rr : ∀ o, 10 ≤ o → o < 14 → ∀ k, k < 16 → rl (o + 5 * i) k = true := by
    intro o h1 h2 k hk
    rcases (show o = 10 ∨ o = 11 ∨ o = 12 ∨ o = 13 by omega) with rfl | rfl | rfl | rfl <;> rcases (show i = 0 ∨ i = 1 by omega) with rfl | rfl <;> exact Nat.blt_eq.mpr hk
  obtain ⟨⟨h1, h2⟩, h3, h4, h5⟩ := hr
  obtain ⟨n, hn, en⟩ := rg_nI (b := 16) h2 (by decide)
  rw [en, show rN (nI n) = n from nI_clamp (by omega)] at h3 h4 h5
  refine ⟨n, hn, ?_, ?_, fun k hk => ?_, fun k h1 h2 => ?_, fun k j hkj hj => ?_⟩
  · rw [← en, e0 _ _ r0, show 1 + (9 + 5 * i) = 10 + 5 * i by omega]
  · rw [← en, ← h1, nrw_at (by omega)]
  · have := h3 k hk
    rw [nrw_at (by omega), nrw_at (by omega), nrw_at (by omega), nrw_at (by omega), e0 _ _ (rr 10 (by decide) (by decide) k (by omega)), e0 _ _ (rr 11 (by decide) (by decide) k (by omega)), e0 _ _ (rr 12 (by decide) (by decide) k (by omega)), e0 _ _ (rr 13 (by decide) (by decide) k (by omega)), show 1 + (10 + 5 * i) = 11 + 5 * i by omega, show 1 + (11 + 5 * i) = 12 + 5 * i by omega, show 1 + (12 + 5 * i) = 13 + 5 * i by omega, show 1 + (13 + 5 * i) = 14 + 5 * i by omega] at this
    exact this
  · have := h4 k h1 h2
    rw [nrw_at (by omega), nrw_at (by omega)] at this
    exact this
  · have := h5 k j hkj hj
    rw [e0 _ _ (rr 13 (by decide) (by decide) k (by omega)), e0 _ _ (rr 13 (by decide) (by decide) j (by omega)), show 1 + (13 + 5 * i) = 14 + 5 * i by omega] at this
    exact this
section RW
variable {kk : Nat} {G G' : Nat → Nat → Int32} {w w' : Nat → Int32}
theorem fr_row2 {i : Nat} (h : RRow G w i) (hG : ∀ o, 9 + 5 * i ≤ o → o < 14 + 5 * i → G' o = G o) (h0 : w' (491 + i) = w (491 + i)) (hw : ∀ b k, (b = 493 ∨ b = 525 ∨ b = 557 ∨ b = 589) → k < 16 → w' (b + 16 * i + k) = w (b + 16 * i + k)) : RRow G' w' i := by
  unfold RRow at h ⊢
  rw [hG (9 + 5 * i) (by omega) (by omega), hG (10 + 5 * i) (by omega) (by omega), hG (11 + 5 * i) (by omega) (by omega), hG (12 + 5 * i) (by omega) (by omega), hG (13 + 5 * i) (by omega) (by omega)]
  obtain ⟨⟨h1, h2⟩, h3, h4, h5⟩ := h
  have hle : rN (G (9 + 5 * i) 4) ≤ 16 := rN_le (b := 16) h2 (by decide)
  refine ⟨⟨by rw [h0]; exact h1, h2⟩, fun k hk => ?_, fun k hk1 hk2 => ?_, h5⟩
  · have hk16 : k < 16 := Nat.lt_of_lt_of_le hk hle
    rw [hw 493 k (by decide) hk16, hw 525 k (by decide) hk16, hw 557 k (by decide) hk16, hw 589 k (by decide) hk16]
    exact h3 k hk
  · rw [hw 557 k (by decide) hk2, hw 589 k (by decide) hk2]
    exact h4 k hk1 hk2
theorem rN_nI {n : Nat} (h : n < 2 ^ 31) : rN (nI n) = n := nI_clamp h
theorem rg_of {a b : Int} {n : Nat} (hn : n < 2 ^ 31) (h : a ≤ n ∧ (n : Int) ≤ b) : rg a b (nI n) := by unfold rg; rw [nI_toInt hn]; exact h
def RX (n : Nat) (th mk ti da wth wmk wti wda : Nat → Int32) : Prop :=
  (∀ k, k < n → (wth k = th k ∧ rg 1 9 (th k)) ∧ (wmk k = mk k ∧ rg 0 3 (mk k)) ∧ wti k = ti k ∧ (wda k = da k ∧ (da k = -1 ∨ rg 0 99999 (da k)))) ∧
  (∀ k, n ≤ k → k < 16 → wda k = -1 ∧ wti k = -1) ∧ ∀ k j, k < j → j < n → da k ≠ -1 → da j ≠ -1 → da k ≤ da j
theorem rr_to {i : Nat} (h : RRow G w i) : ∃ n, n ≤ 16 ∧ G (9 + 5 * i) 4 = nI n ∧ w (491 + i) = nI n ∧ RX n (G (10 + 5 * i)) (G (11 + 5 * i)) (G (12 + 5 * i)) (G (13 + 5 * i)) (fun k => w (493 + 16 * i + k)) (fun k => w (525 + 16 * i + k)) (fun k => w (589 + 16 * i + k)) (fun k => w (557 + 16 * i + k)) := by
  obtain ⟨⟨h1, h2⟩, h3, h4, h5⟩ := h
  obtain ⟨n, hn, en⟩ := rg_nI (b := 16) h2 (by decide)
  rw [en, rN_nI (by omega)] at h3 h4 h5
  exact ⟨n, hn, en, h1.trans en, h3, h4, h5⟩
theorem rr_of {i n : Nat} (hn : n ≤ 16) (en : G (9 + 5 * i) 4 = nI n) (ew : w (491 + i) = nI n) (h : RX n (G (10 + 5 * i)) (G (11 + 5 * i)) (G (12 + 5 * i)) (G (13 + 5 * i)) (fun k => w (493 + 16 * i + k)) (fun k => w (525 + 16 * i + k)) (fun k => w (589 + 16 * i + k)) (fun k => w (557 + 16 * i + k))) : RRow G w i := by
  obtain ⟨h3, h4, h5⟩ := h
  unfold RRow
  rw [en, ew, rN_nI (by omega)]
  exact ⟨⟨rfl, rg_of (by omega) (by omega)⟩, h3, h4, h5⟩
theorem rx_congr {n : Nat} {th mk ti da wth wmk wti wda th' mk' ti' da' wth' wmk' wti' wda' : Nat → Int32} (hn : n ≤ 16) (h : RX n th mk ti da wth wmk wti wda) (h1 : ∀ k, k < 16 → th' k = th k) (h2 : ∀ k, k < 16 → mk' k = mk k) (h3 : ∀ k, k < 16 → ti' k = ti k) (h4 : ∀ k, k < 16 → da' k = da k) (h5 : ∀ k, k < 16 → wth' k = wth k) (h6 : ∀ k, k < 16 → wmk' k = wmk k) (h7 : ∀ k, k < 16 → wti' k = wti k) (h8 : ∀ k, k < 16 → wda' k = wda k) : RX n th' mk' ti' da' wth' wmk' wti' wda' := by
  obtain ⟨a, b, c⟩ := h
  refine ⟨fun k hk => ?_, fun k hk1 hk2 => ?_, fun k j hkj hj => ?_⟩
  · rw [h1 k (by omega), h2 k (by omega), h3 k (by omega), h4 k (by omega), h5 k (by omega), h6 k (by omega), h7 k (by omega), h8 k (by omega)]; exact a k hk
  · rw [h7 k hk2, h8 k hk2]; exact b k hk1 hk2
  · rw [h4 k (by omega), h4 j (by omega)]; exact c k j hkj hj
theorem rx_add {n : Nat} {th mk ti da wth wmk wti wda : Nat → Int32} {t m : Int32} (h : RX n th mk ti da wth wmk wti wda) (hn : n < 16) (ht : rg 1 9 t) (hm : rg 0 3 m) : RX (n + 1) (upd th n t) (upd mk n m) (upd ti n (-1)) (upd da n (-1)) (upd wth n t) (upd wmk n m) wti wda := by
  obtain ⟨a, b, c⟩ := h
  refine ⟨fun k hk => ?_, fun k hk1 hk2 => b k (by omega) hk2, fun k j hkj hj => ?_⟩
  · by_cases e : k = n
    · subst e
      rw [uUs, uUs, uUs, uUs, uUs, uUs]
      exact ⟨⟨rfl, ht⟩, ⟨rfl, hm⟩, (b k (Nat.le_refl _) hn).2, (b k (Nat.le_refl _) hn).1, Or.inl rfl⟩
    · rw [uU e, uU e, uU e, uU e, uU e, uU e]; exact a k (by omega)
  · by_cases e : j = n
    · subst e; rw [uUs]; exact fun _ q => absurd rfl q
    · rw [uU (by omega), uU e]; exact c k j hkj (by omega)
theorem rx_date {n b : Nat} {th mk ti da wth wmk wti wda : Nat → Int32} {x : Int32} (h : RX n th mk ti da wth wmk wti wda) (hb : b < n) (hx : x = -1 ∨ rg 0 99999 x) (hs : x ≠ -1 → ∀ k, k < n → da k ≠ -1 → (k < b → da k ≤ x) ∧ (b < k → x ≤ da k)) : RX n th mk ti (upd da b x) wth wmk wti (upd wda b x) := by
  obtain ⟨a, b2, c⟩ := h
  refine ⟨fun k hk => ?_, fun k hk1 hk2 => ?_, fun k j hkj hj => ?_⟩
  · by_cases e : k = b
    · subst e; rw [uUs, uUs]
      obtain ⟨a1, a2, a3, -⟩ := a k hk
      exact ⟨a1, a2, a3, rfl, hx⟩
    · rw [uU e, uU e]; exact a k hk
  · rw [uU (by omega)]; exact b2 k hk1 hk2
  · by_cases e : k = b
    · subst e
      rw [uUs, uU (by omega)]
      exact fun h1 h2 => (hs h1 j hj h2).2 hkj
    · by_cases e2 : j = b
      · subst e2
        rw [uUs, uU e]
        exact fun h1 h2 => (hs h2 k (by omega) h1).1 hkj
      · rw [uU e, uU e2]; exact c k j hkj hj
theorem rx_tie {n b : Nat} {th mk ti da wth wmk wti wda : Nat → Int32} {x : Int32} (h : RX n th mk ti da wth wmk wti wda) (hb : b < n) : RX n th mk (upd ti b x) da wth wmk (upd wti b x) wda := by
  obtain ⟨a, b2, c⟩ := h
  refine ⟨fun k hk => ?_, fun k hk1 hk2 => ?_, c⟩
  · by_cases e : k = b
    · subst e; rw [uUs, uUs]
      obtain ⟨a1, a2, -, a4⟩ := a k hk
      exact ⟨a1, a2, rfl, a4⟩
    · rw [uU e, uU e]; exact a k hk
  · rw [uU (by omega)]; exact b2 k hk1 hk2
def TX (n m : Nat) (ti tj : Nat → Int32) : Prop :=
  (∀ k, k < n → ti k = -1 ∨ ∃ j, j < m ∧ ti k = nI j ∧ tj j = nI k) ∧ (∀ j, j < m → tj j = -1 ∨ ∃ k, k < n ∧ tj j = nI k ∧ ti k = nI j) ∧ ∀ k j, k < j → j < n → ti k ≠ -1 → ti j ≠ -1 → ti k < ti j
theorem tx_to {n m : Nat} (h : RTie G) (hn : rN (G 9 4) = n) (hm : rN (G 14 4) = m) : TX n m (G 12) (G 17) := by
  unfold RTie at h
  rw [hn, hm] at h
  exact h
theorem tx_of {n m : Nat} {ti tj : Nat → Int32} (h : TX n m ti tj) (h16 : n ≤ 16 ∧ m ≤ 16) (hn : rN (G 9 4) = n) (hm : rN (G 14 4) = m) (h1 : ∀ k, k < 16 → G 12 k = ti k) (h2 : ∀ k, k < 16 → G 17 k = tj k) : RTie G := by
  obtain ⟨a, b, c⟩ := h
  unfold RTie
  rw [hn, hm]
  refine ⟨fun k hk => ?_, fun j hj => ?_, fun k j hkj hj => ?_⟩
  · rcases a k hk with q | ⟨j, q1, q2, q3⟩
    · exact Or.inl (by rw [h1 k (by omega)]; exact q)
    · exact Or.inr ⟨j, q1, by rw [h1 k (by omega)]; exact q2, by rw [h2 j (by omega)]; exact q3⟩
  · rcases b j hj with q | ⟨k, q1, q2, q3⟩
    · exact Or.inl (by rw [h2 j (by omega)]; exact q)
    · exact Or.inr ⟨k, q1, by rw [h2 j (by omega)]; exact q2, by rw [h1 k (by omega)]; exact q3⟩
  · rw [h1 k (by omega), h1 j (by omega)]; exact c k j hkj hj
theorem tx_add0 {n m : Nat} {ti tj : Nat → Int32} (h : TX n m ti tj) : TX (n + 1) m (upd ti n (-1)) tj := by
  obtain ⟨a, b, c⟩ := h
  refine ⟨fun k hk => ?_, fun j hj => ?_, fun k j hkj hj => ?_⟩
  · by_cases e : k = n
    · subst e; exact Or.inl uUs
    · rw [uU e]; exact a k (by omega)
  · rcases b j hj with q | ⟨k, q1, q2, q3⟩
    · exact Or.inl q
    · exact Or.inr ⟨k, by omega, q2, by rw [uU (by omega)]; exact q3⟩
  · by_cases e : j = n
    · subst e; rw [uUs]; exact fun _ q => absurd rfl q
    · rw [uU (by omega), uU e]; exact c k j hkj (by omega)
theorem tx_add1 {n m : Nat} {ti tj : Nat → Int32} (h : TX n m ti tj) : TX n (m + 1) ti (upd tj m (-1)) := by
  obtain ⟨a, b, c⟩ := h
  refine ⟨fun k hk => ?_, fun j hj => ?_, c⟩
  · rcases a k hk with q | ⟨j, q1, q2, q3⟩
    · exact Or.inl q
    · exact Or.inr ⟨j, by omega, q2, by rw [uU (by omega)]; exact q3⟩
  · by_cases e : j = m
    · subst e; exact Or.inl uUs
    · rw [uU e]; exact b j (by omega)
theorem m1_ne {j : Nat} (h : j < 1000) : (-1 : Int32) ≠ nI j := fun e => ne_m1 h e.symm
theorem nI_inj {a b : Nat} (ha : a < 1000) (hb : b < 1000) (h : nI a = nI b) : a = b := (nI_eq (by omega) (by omega)).mp h
theorem tx_tie {n m f s : Nat} {ti tj : Nat → Int32} (h : TX n m ti tj) (hn : n ≤ 16) (hm : m ≤ 16) (hf : f < n) (hs : s < m) (h1 : ti f = -1) (h2 : tj s = -1) (hc : ∀ k, k < n → ti k ≠ -1 → (k < f ↔ ti k < nI s)) : TX n m (upd ti f (nI s)) (upd tj s (nI f)) := by
  obtain ⟨a, b, c⟩ := h
  refine ⟨fun k hk => ?_, fun j hj => ?_, fun k j hkj hj => ?_⟩
  · by_cases e : k = f
    · subst e; exact Or.inr ⟨s, hs, uUs, uUs⟩
    · rcases a k hk with q | ⟨j, q1, q2, q3⟩
      · exact Or.inl (by rw [uU e]; exact q)
      · refine Or.inr ⟨j, q1, by rw [uU e]; exact q2, ?_⟩
        rw [uU (fun q => by subst q; rw [h2] at q3; exact m1_ne (by omega) q3)]; exact q3
  · by_cases e : j = s
    · subst e; exact Or.inr ⟨f, hf, uUs, uUs⟩
    · rcases b j hj with q | ⟨k, q1, q2, q3⟩
      · exact Or.inl (by rw [uU e]; exact q)
      · refine Or.inr ⟨k, q1, by rw [uU e]; exact q2, ?_⟩
        rw [uU (fun q => by subst q; rw [h1] at q3; exact m1_ne (by omega) q3)]; exact q3
  · by_cases e : k = f
    · subst e
      rw [uUs, uU (by omega)]
      intro _ q
      have := (not_congr (hc j hj q)).mp (by omega)
      rcases a j hj with q0 | ⟨j2, q1, q2, q3⟩
      · exact absurd q0 q
      · rw [q2] at this ⊢
        refine (nI_ltI (by omega) (by omega)).mpr ?_
        have h3 : ¬ j2 < s := fun t => this ((nI_ltI (by omega) (by omega)).mpr t)
        have h4 : j2 ≠ s := fun t => by subst t; rw [h2] at q3; exact m1_ne (by omega) q3
        omega
    · by_cases e2 : j = f
      · subst e2
        rw [uUs, uU e]
        intro q _
        exact (hc k (by omega) q).mp hkj
      · rw [uU e, uU e2]; exact c k j hkj hj
theorem tx_untie {n m f s : Nat} {ti tj : Nat → Int32} (h : TX n m ti tj) (hn : n ≤ 16) (hm : m ≤ 16) (hf : f < n) (hs : s < m) (h1 : ti f = nI s) (h2 : tj s = nI f) : TX n m (upd ti f (-1)) (upd tj s (-1)) := by
  obtain ⟨a, b, c⟩ := h
  refine ⟨fun k hk => ?_, fun j hj => ?_, fun k j hkj hj => ?_⟩
  · by_cases e : k = f
    · subst e; exact Or.inl uUs
    · rcases a k hk with q | ⟨j, q1, q2, q3⟩
      · exact Or.inl (by rw [uU e]; exact q)
      · refine Or.inr ⟨j, q1, by rw [uU e]; exact q2, ?_⟩
        rw [uU (fun q => by subst q; rw [h2] at q3; exact e (nI_inj (by omega) (by omega) q3).symm)]; exact q3
  · by_cases e : j = s
    · subst e; exact Or.inl uUs
    · rcases b j hj with q | ⟨k, q1, q2, q3⟩
      · exact Or.inl (by rw [uU e]; exact q)
      · refine Or.inr ⟨k, q1, by rw [uU e]; exact q2, ?_⟩
        rw [uU (fun q => by subst q; rw [h1] at q3; exact e (nI_inj (by omega) (by omega) q3).symm)]; exact q3
  · by_cases e : k = f
    · subst e; rw [uUs]; exact fun q => absurd rfl q
    · by_cases e2 : j = f
      · subst e2; rw [uUs]; exact fun _ q => absurd rfl q
      · rw [uU e, uU e2]; exact c k j hkj hj
theorem pg_band0 {n : Nat} {t m : Int32} (h : PgR kk G w) (hn : G 9 4 = nI n) (h16 : n < 16) (ht : rg 1 9 t) (hm : rg 0 3 m) : PgR (kk + 1) (ups (ups (ups (ups (ups G 10 n t) 11 n m) 12 n (-1)) 13 n (-1)) 9 4 (nI (n + 1))) (upd (upd (upd w 491 (nI (n + 1))) (493 + n) t) (525 + n) m) := by
  obtain ⟨s0, s1, tt⟩ := h.2.2.2.1
  obtain ⟨n2, l2, a2, b2, x2⟩ := rr_to s0
  obtain ⟨n3, l3, a3, b3, x3⟩ := rr_to s1
  obtain rfl : n2 = n := nI_inj (by omega) (by omega) ((show G 9 4 = nI n2 from a2).symm.trans hn)
  have gO : ∀ o, o ≠ 9 → o ≠ 10 → o ≠ 11 → o ≠ 12 → o ≠ 13 → (ups (ups (ups (ups (ups G 10 n2 t) 11 n2 m) 12 n2 (-1)) 13 n2 (-1)) 9 4 (nI (n2 + 1))) o = G o := fun o h0 h1 h2 h3 h4 => by rw [uI h0, uI h4, uI h3, uI h2, uI h1]
  have wO : ∀ y, y ≠ 491 → y ≠ 493 + n2 → y ≠ 525 + n2 → (upd (upd (upd w 491 (nI (n2 + 1))) (493 + n2) t) (525 + n2) m) y = w y := fun y h0 h1 h2 => by rw [uU h2, uU h1, uU h0]
  have r0 : RRow (ups (ups (ups (ups (ups G 10 n2 t) 11 n2 m) 12 n2 (-1)) 13 n2 (-1)) 9 4 (nI (n2 + 1))) (upd (upd (upd w 491 (nI (n2 + 1))) (493 + n2) t) (525 + n2) m) 0 := by
    refine rr_of (n := n2 + 1) (by omega) ?_ ?_ (rx_congr (by omega) (rx_add x2 h16 ht hm) ?_ ?_ ?_ ?_ ?_ ?_ ?_ ?_)
    · show (ups (ups (ups (ups (ups G 10 n2 t) 11 n2 m) 12 n2 (-1)) 13 n2 (-1)) 9 4 (nI (n2 + 1))) 9 4 = _
      rw [uIs, uUs]
    · show (upd (upd (upd w 491 (nI (n2 + 1))) (493 + n2) t) (525 + n2) m) 491 = _
      rw [uU (by omega), uU (by omega), uUs]
    · intro k hk
      show (ups (ups (ups (ups (ups G 10 n2 t) 11 n2 m) 12 n2 (-1)) 13 n2 (-1)) 9 4 (nI (n2 + 1))) 10 k = _
      rw [uI (by decide), uI (by decide), uI (by decide), uI (by decide), uIs]
    · intro k hk
      show (ups (ups (ups (ups (ups G 10 n2 t) 11 n2 m) 12 n2 (-1)) 13 n2 (-1)) 9 4 (nI (n2 + 1))) 11 k = _
      rw [uI (by decide), uI (by decide), uI (by decide), uIs, uI (by decide)]
    · intro k hk
      show (ups (ups (ups (ups (ups G 10 n2 t) 11 n2 m) 12 n2 (-1)) 13 n2 (-1)) 9 4 (nI (n2 + 1))) 12 k = _
      rw [uI (by decide), uI (by decide), uIs, uI (by decide), uI (by decide)]
    · intro k hk
      show (ups (ups (ups (ups (ups G 10 n2 t) 11 n2 m) 12 n2 (-1)) 13 n2 (-1)) 9 4 (nI (n2 + 1))) 13 k = _
      rw [uI (by decide), uIs, uI (by decide), uI (by decide), uI (by decide)]
    · intro k hk
      show (upd (upd (upd w 491 (nI (n2 + 1))) (493 + n2) t) (525 + n2) m) (493 + k) = _
      by_cases e : k = n2
      · subst e; rw [uU (by omega), uUs, uUs]
      · rw [uU (by omega), uU (by omega), uU (by omega), uU e]
    · intro k hk
      show (upd (upd (upd w 491 (nI (n2 + 1))) (493 + n2) t) (525 + n2) m) (525 + k) = _
      by_cases e : k = n2
      · subst e; rw [uUs, uUs]
      · rw [uU (by omega), uU (by omega), uU (by omega), uU e]
    · intro k hk
      exact wO (589 + k) (by omega) (by omega) (by omega)
    · intro k hk
      exact wO (557 + k) (by omega) (by omega) (by omega)
  have r1 : RRow (ups (ups (ups (ups (ups G 10 n2 t) 11 n2 m) 12 n2 (-1)) 13 n2 (-1)) 9 4 (nI (n2 + 1))) (upd (upd (upd w 491 (nI (n2 + 1))) (493 + n2) t) (525 + n2) m) 1 :=
    fr_row2 s1 (fun o h1 h2 => gO o (by omega) (by omega) (by omega) (by omega) (by omega)) (wO _ (by omega) (by omega) (by omega)) (fun b k hb hk => wO _ (by omega) (by omega) (by omega))
  have c2 : rN (G 9 4) = n2 := by rw [show G 9 4 = nI n2 from a2, rN_nI (by omega)]
  have c3 : rN (G 14 4) = n3 := by rw [show G 14 4 = nI n3 from a3, rN_nI (by omega)]
  refine pgx_row h (fun o ho => gO o (by omega) (by omega) (by omega) (by omega) (by omega)) (fun y _ hy => wO y (by omega) (by omega) (by omega)) ⟨r0, r1, ?_⟩
  refine tx_of (tx_add0 (tx_to tt c2 c3)) ⟨by omega, l3⟩ ?_ ?_ (fun k hk => ?_) (fun k hk => ?_)
  · rw [uIs, uUs, rN_nI (by omega)]
  · rw [gO 14 (by decide) (by decide) (by decide) (by decide) (by decide)]; exact c3
  · rw [uI (by decide), uI (by decide), uIs, uI (by decide), uI (by decide)]
  · rw [gO 17 (by decide) (by decide) (by decide) (by decide) (by decide)]
theorem pg_date0 {n b : Nat} {x : Int32} (h : PgR kk G w) (hn : G 9 4 = nI n) (h16 : n ≤ 16) (hb : b < n) (hx : x = -1 ∨ rg 0 99999 x) (hs : x ≠ -1 → ∀ k, k < n → G 13 k ≠ -1 → (k < b → G 13 k ≤ x) ∧ (b < k → x ≤ G 13 k)) : PgR (kk + 1) (ups G 13 b x) (upd w (557 + b) x) := by
  obtain ⟨s0, s1, tt⟩ := h.2.2.2.1
  obtain ⟨n2, l2, a2, b2, x2⟩ := rr_to s0
  obtain rfl : n2 = n := nI_inj (by omega) (by omega) ((show G 9 4 = nI n2 from a2).symm.trans hn)
  have gO : ∀ o, o ≠ 13 → (ups G 13 b x) o = G o := fun o h0 => uI h0
  have wO : ∀ y, y ≠ 557 + b → (upd w (557 + b) x) y = w y := fun y h0 => uU h0
  have r0 : RRow (ups G 13 b x) (upd w (557 + b) x) 0 := by
    refine rr_of (n := n2) l2 ((congrFun (gO _ (by decide)) _).trans a2) ((wO _ (by omega)).trans b2) (rx_congr l2 (rx_date (b := b) (x := x) x2 hb hx hs) (fun k hk => congrFun (gO _ (by decide)) _) (fun k hk => congrFun (gO _ (by decide)) _) (fun k hk => congrFun (gO _ (by decide)) _) (fun k hk => ?_) (fun k hk => wO _ (by omega)) (fun k hk => wO _ (by omega)) (fun k hk => wO _ (by omega)) (fun k hk => ?_))
    · show (ups G 13 b x) 13 k = _
      rw [uIs]
    · show (upd w (557 + b) x) (557 + k) = _
      by_cases e : k = b
      · subst e; rw [uUs, uUs]
      · rw [uU (by omega), uU e]
  have r1 : RRow (ups G 13 b x) (upd w (557 + b) x) 1 :=
    fr_row2 s1 (fun o h1 h2 => gO o (by omega)) (wO _ (by omega)) (fun b k hb hk => wO _ (by omega))
  exact pgx_row h (fun o ho => gO o (by omega)) (fun y _ hy => wO y (by omega)) ⟨r0, r1, fr_tie tt (fun o ho => gO o (by omega))⟩
theorem pg_band1 {n : Nat} {t m : Int32} (h : PgR kk G w) (hn : G 14 4 = nI n) (h16 : n < 16) (ht : rg 1 9 t) (hm : rg 0 3 m) : PgR (kk + 1) (ups (ups (ups (ups (ups G 15 n t) 16 n m) 17 n (-1)) 18 n (-1)) 14 4 (nI (n + 1))) (upd (upd (upd w 492 (nI (n + 1))) (509 + n) t) (541 + n) m) := by
  obtain ⟨s0, s1, tt⟩ := h.2.2.2.1
  obtain ⟨n2, l2, a2, b2, x2⟩ := rr_to s1
  obtain ⟨n3, l3, a3, b3, x3⟩ := rr_to s0
  obtain rfl : n2 = n := nI_inj (by omega) (by omega) ((show G 14 4 = nI n2 from a2).symm.trans hn)
  have gO : ∀ o, o ≠ 14 → o ≠ 15 → o ≠ 16 → o ≠ 17 → o ≠ 18 → (ups (ups (ups (ups (ups G 15 n2 t) 16 n2 m) 17 n2 (-1)) 18 n2 (-1)) 14 4 (nI (n2 + 1))) o = G o := fun o h0 h1 h2 h3 h4 => by rw [uI h0, uI h4, uI h3, uI h2, uI h1]
  have wO : ∀ y, y ≠ 492 → y ≠ 509 + n2 → y ≠ 541 + n2 → (upd (upd (upd w 492 (nI (n2 + 1))) (509 + n2) t) (541 + n2) m) y = w y := fun y h0 h1 h2 => by rw [uU h2, uU h1, uU h0]
  have r1 : RRow (ups (ups (ups (ups (ups G 15 n2 t) 16 n2 m) 17 n2 (-1)) 18 n2 (-1)) 14 4 (nI (n2 + 1))) (upd (upd (upd w 492 (nI (n2 + 1))) (509 + n2) t) (541 + n2) m) 1 := by
    refine rr_of (n := n2 + 1) (by omega) ?_ ?_ (rx_congr (by omega) (rx_add x2 h16 ht hm) ?_ ?_ ?_ ?_ ?_ ?_ ?_ ?_)
    · show (ups (ups (ups (ups (ups G 15 n2 t) 16 n2 m) 17 n2 (-1)) 18 n2 (-1)) 14 4 (nI (n2 + 1))) 14 4 = _
      rw [uIs, uUs]
    · show (upd (upd (upd w 492 (nI (n2 + 1))) (509 + n2) t) (541 + n2) m) 492 = _
      rw [uU (by omega), uU (by omega), uUs]
    · intro k hk
      show (ups (ups (ups (ups (ups G 15 n2 t) 16 n2 m) 17 n2 (-1)) 18 n2 (-1)) 14 4 (nI (n2 + 1))) 15 k = _
      rw [uI (by decide), uI (by decide), uI (by decide), uI (by decide), uIs]
    · intro k hk
      show (ups (ups (ups (ups (ups G 15 n2 t) 16 n2 m) 17 n2 (-1)) 18 n2 (-1)) 14 4 (nI (n2 + 1))) 16 k = _
      rw [uI (by decide), uI (by decide), uI (by decide), uIs, uI (by decide)]
    · intro k hk
      show (ups (ups (ups (ups (ups G 15 n2 t) 16 n2 m) 17 n2 (-1)) 18 n2 (-1)) 14 4 (nI (n2 + 1))) 17 k = _
      rw [uI (by decide), uI (by decide), uIs, uI (by decide), uI (by decide)]
    · intro k hk
      show (ups (ups (ups (ups (ups G 15 n2 t) 16 n2 m) 17 n2 (-1)) 18 n2 (-1)) 14 4 (nI (n2 + 1))) 18 k = _
      rw [uI (by decide), uIs, uI (by decide), uI (by decide), uI (by decide)]
    · intro k hk
      show (upd (upd (upd w 492 (nI (n2 + 1))) (509 + n2) t) (541 + n2) m) (509 + k) = _
      by_cases e : k = n2
      · subst e; rw [uU (by omega), uUs, uUs]
      · rw [uU (by omega), uU (by omega), uU (by omega), uU e]
    · intro k hk
      show (upd (upd (upd w 492 (nI (n2 + 1))) (509 + n2) t) (541 + n2) m) (541 + k) = _
      by_cases e : k = n2
      · subst e; rw [uUs, uUs]
      · rw [uU (by omega), uU (by omega), uU (by omega), uU e]
    · intro k hk
      exact wO (605 + k) (by omega) (by omega) (by omega)
    · intro k hk
      exact wO (573 + k) (by omega) (by omega) (by omega)
  have r0 : RRow (ups (ups (ups (ups (ups G 15 n2 t) 16 n2 m) 17 n2 (-1)) 18 n2 (-1)) 14 4 (nI (n2 + 1))) (upd (upd (upd w 492 (nI (n2 + 1))) (509 + n2) t) (541 + n2) m) 0 :=
    fr_row2 s0 (fun o h1 h2 => gO o (by omega) (by omega) (by omega) (by omega) (by omega)) (wO _ (by omega) (by omega) (by omega)) (fun b k hb hk => wO _ (by omega) (by omega) (by omega))
  have c2 : rN (G 14 4) = n2 := by rw [show G 14 4 = nI n2 from a2, rN_nI (by omega)]
  have c3 : rN (G 9 4) = n3 := by rw [show G 9 4 = nI n3 from a3, rN_nI (by omega)]
  refine pgx_row h (fun o ho => gO o (by omega) (by omega) (by omega) (by omega) (by omega)) (fun y _ hy => wO y (by omega) (by omega) (by omega)) ⟨r0, r1, ?_⟩
  refine tx_of (tx_add1 (tx_to tt c3 c2)) ⟨l3, by omega⟩ ?_ ?_ (fun k hk => ?_) (fun k hk => ?_)
  · rw [gO 9 (by decide) (by decide) (by decide) (by decide) (by decide)]; exact c3
  · rw [uIs, uUs, rN_nI (by omega)]
  · rw [gO 12 (by decide) (by decide) (by decide) (by decide) (by decide)]
  · rw [uI (by decide), uI (by decide), uIs, uI (by decide), uI (by decide)]
theorem pg_date1 {n b : Nat} {x : Int32} (h : PgR kk G w) (hn : G 14 4 = nI n) (h16 : n ≤ 16) (hb : b < n) (hx : x = -1 ∨ rg 0 99999 x) (hs : x ≠ -1 → ∀ k, k < n → G 18 k ≠ -1 → (k < b → G 18 k ≤ x) ∧ (b < k → x ≤ G 18 k)) : PgR (kk + 1) (ups G 18 b x) (upd w (573 + b) x) := by
  obtain ⟨s0, s1, tt⟩ := h.2.2.2.1
  obtain ⟨n2, l2, a2, b2, x2⟩ := rr_to s1
  obtain rfl : n2 = n := nI_inj (by omega) (by omega) ((show G 14 4 = nI n2 from a2).symm.trans hn)
  have gO : ∀ o, o ≠ 18 → (ups G 18 b x) o = G o := fun o h0 => uI h0
  have wO : ∀ y, y ≠ 573 + b → (upd w (573 + b) x) y = w y := fun y h0 => uU h0
  have r1 : RRow (ups G 18 b x) (upd w (573 + b) x) 1 := by
    refine rr_of (n := n2) l2 ((congrFun (gO _ (by decide)) _).trans a2) ((wO _ (by omega)).trans b2) (rx_congr l2 (rx_date (b := b) (x := x) x2 hb hx hs) (fun k hk => congrFun (gO _ (by decide)) _) (fun k hk => congrFun (gO _ (by decide)) _) (fun k hk => congrFun (gO _ (by decide)) _) (fun k hk => ?_) (fun k hk => wO _ (by omega)) (fun k hk => wO _ (by omega)) (fun k hk => wO _ (by omega)) (fun k hk => ?_))
    · show (ups G 18 b x) 18 k = _
      rw [uIs]
    · show (upd w (573 + b) x) (573 + k) = _
      by_cases e : k = b
      · subst e; rw [uUs, uUs]
      · rw [uU (by omega), uU e]
  have r0 : RRow (ups G 18 b x) (upd w (573 + b) x) 0 :=
    fr_row2 s0 (fun o h1 h2 => gO o (by omega)) (wO _ (by omega)) (fun b k hb hk => wO _ (by omega))
  exact pgx_row h (fun o ho => gO o (by omega)) (fun y _ hy => wO y (by omega)) ⟨r0, r1, fr_tie tt (fun o ho => gO o (by omega))⟩
theorem pg_tie {n m f s : Nat} (h : PgR kk G w) (hn : G 9 4 = nI n) (hm : G 14 4 = nI m) (hn16 : n ≤ 16) (hm16 : m ≤ 16) (hf : f < n) (hs : s < m) (h1 : G 12 f = -1) (h2 : G 17 s = -1) (hc : ∀ k, k < n → G 12 k ≠ -1 → (k < f ↔ G 12 k < nI s)) : PgR (kk + 1) (ups (ups G 12 f (nI s)) 17 s (nI f)) (upd (upd w (589 + f) (nI s)) (605 + s) (nI f)) := by
  obtain ⟨s0, s1, tt⟩ := h.2.2.2.1
  obtain ⟨n2, l2, a2, b2, x2⟩ := rr_to s0
  obtain ⟨n3, l3, a3, b3, x3⟩ := rr_to s1
  obtain rfl : n2 = n := nI_inj (by omega) (by omega) ((show G 9 4 = nI n2 from a2).symm.trans hn)
  obtain rfl : n3 = m := nI_inj (by omega) (by omega) ((show G 14 4 = nI n3 from a3).symm.trans hm)
  have gO : ∀ o, o ≠ 12 → o ≠ 17 → (ups (ups G 12 f (nI s)) 17 s (nI f)) o = G o := fun o h0 h1 => by rw [uI h1, uI h0]
  have wO : ∀ y, y ≠ 589 + f → y ≠ 605 + s → (upd (upd w (589 + f) (nI s)) (605 + s) (nI f)) y = w y := fun y h0 h1 => by rw [uU h1, uU h0]
  have c2 : rN (G 9 4) = n2 := by rw [hn, rN_nI (by omega)]
  have c3 : rN (G 14 4) = n3 := by rw [hm, rN_nI (by omega)]
  have r0 : RRow (ups (ups G 12 f (nI s)) 17 s (nI f)) (upd (upd w (589 + f) (nI s)) (605 + s) (nI f)) 0 := by
    refine rr_of (n := n2) l2 ((congrFun (gO _ (by decide) (by decide)) _).trans a2) ((wO _ (by omega) (by omega)).trans b2) (rx_congr l2 (rx_tie (b := f) (x := (nI s)) x2 hf) (fun k hk => congrFun (gO _ (by decide) (by decide)) _) (fun k hk => congrFun (gO _ (by decide) (by decide)) _) (fun k hk => ?_) (fun k hk => congrFun (gO _ (by decide) (by decide)) _) (fun k hk => wO _ (by omega) (by omega)) (fun k hk => wO _ (by omega) (by omega)) (fun k hk => ?_) (fun k hk => wO _ (by omega) (by omega)))
    · show (ups (ups G 12 f (nI s)) 17 s (nI f)) 12 k = _
      rw [uI (by decide), uIs]
    · show (upd (upd w (589 + f) (nI s)) (605 + s) (nI f)) (589 + k) = _
      rw [uU (by omega)]
      by_cases e : k = f
      · subst e; rw [uUs, uUs]
      · rw [uU (by omega), uU e]
  have r1 : RRow (ups (ups G 12 f (nI s)) 17 s (nI f)) (upd (upd w (589 + f) (nI s)) (605 + s) (nI f)) 1 := by
    refine rr_of (n := n3) l3 ((congrFun (gO _ (by decide) (by decide)) _).trans a3) ((wO _ (by omega) (by omega)).trans b3) (rx_congr l3 (rx_tie (b := s) (x := (nI f)) x3 hs) (fun k hk => congrFun (gO _ (by decide) (by decide)) _) (fun k hk => congrFun (gO _ (by decide) (by decide)) _) (fun k hk => ?_) (fun k hk => congrFun (gO _ (by decide) (by decide)) _) (fun k hk => wO _ (by omega) (by omega)) (fun k hk => wO _ (by omega) (by omega)) (fun k hk => ?_) (fun k hk => wO _ (by omega) (by omega)))
    · show (ups (ups G 12 f (nI s)) 17 s (nI f)) 17 k = _
      rw [uIs, uI (by decide)]
    · show (upd (upd w (589 + f) (nI s)) (605 + s) (nI f)) (605 + k) = _
      by_cases e : k = s
      · subst e; rw [uUs, uUs]
      · rw [uU (by omega), uU (by omega), uU e]
  refine pgx_row h (fun o ho => gO o (by omega) (by omega)) (fun y _ hy => wO y (by omega) (by omega)) ⟨r0, r1, tx_of (tx_tie (tx_to tt c2 c3) l2 l3 hf hs h1 h2 hc) ⟨l2, l3⟩ ?_ ?_ (fun k hk => ?_) (fun k hk => ?_)⟩
  · rw [gO 9 (by decide) (by decide)]; exact c2
  · rw [gO 14 (by decide) (by decide)]; exact c3
  · rw [uI (by decide), uIs]
  · rw [uIs, uI (by decide)]
theorem pg_untie {n m f s : Nat} (h : PgR kk G w) (hn : G 9 4 = nI n) (hm : G 14 4 = nI m) (hn16 : n ≤ 16) (hm16 : m ≤ 16) (hf : f < n) (hs : s < m) (h1 : G 12 f = nI s) (h2 : G 17 s = nI f) : PgR (kk + 1) (ups (ups G 12 f (-1)) 17 s (-1)) (upd (upd w (589 + f) (-1)) (605 + s) (-1)) := by
  obtain ⟨s0, s1, tt⟩ := h.2.2.2.1
  obtain ⟨n2, l2, a2, b2, x2⟩ := rr_to s0
  obtain ⟨n3, l3, a3, b3, x3⟩ := rr_to s1
  obtain rfl : n2 = n := nI_inj (by omega) (by omega) ((show G 9 4 = nI n2 from a2).symm.trans hn)
  obtain rfl : n3 = m := nI_inj (by omega) (by omega) ((show G 14 4 = nI n3 from a3).symm.trans hm)
  have gO : ∀ o, o ≠ 12 → o ≠ 17 → (ups (ups G 12 f (-1)) 17 s (-1)) o = G o := fun o h0 h1 => by rw [uI h1, uI h0]
  have wO : ∀ y, y ≠ 589 + f → y ≠ 605 + s → (upd (upd w (589 + f) (-1)) (605 + s) (-1)) y = w y := fun y h0 h1 => by rw [uU h1, uU h0]
  have c2 : rN (G 9 4) = n2 := by rw [hn, rN_nI (by omega)]
  have c3 : rN (G 14 4) = n3 := by rw [hm, rN_nI (by omega)]
  have r0 : RRow (ups (ups G 12 f (-1)) 17 s (-1)) (upd (upd w (589 + f) (-1)) (605 + s) (-1)) 0 := by
    refine rr_of (n := n2) l2 ((congrFun (gO _ (by decide) (by decide)) _).trans a2) ((wO _ (by omega) (by omega)).trans b2) (rx_congr l2 (rx_tie (b := f) (x := (-1)) x2 hf) (fun k hk => congrFun (gO _ (by decide) (by decide)) _) (fun k hk => congrFun (gO _ (by decide) (by decide)) _) (fun k hk => ?_) (fun k hk => congrFun (gO _ (by decide) (by decide)) _) (fun k hk => wO _ (by omega) (by omega)) (fun k hk => wO _ (by omega) (by omega)) (fun k hk => ?_) (fun k hk => wO _ (by omega) (by omega)))
    · show (ups (ups G 12 f (-1)) 17 s (-1)) 12 k = _
      rw [uI (by decide), uIs]
    · show (upd (upd w (589 + f) (-1)) (605 + s) (-1)) (589 + k) = _
      rw [uU (by omega)]
      by_cases e : k = f
      · subst e; rw [uUs, uUs]
      · rw [uU (by omega), uU e]
  have r1 : RRow (ups (ups G 12 f (-1)) 17 s (-1)) (upd (upd w (589 + f) (-1)) (605 + s) (-1)) 1 := by
    refine rr_of (n := n3) l3 ((congrFun (gO _ (by decide) (by decide)) _).trans a3) ((wO _ (by omega) (by omega)).trans b3) (rx_congr l3 (rx_tie (b := s) (x := (-1)) x3 hs) (fun k hk => congrFun (gO _ (by decide) (by decide)) _) (fun k hk => congrFun (gO _ (by decide) (by decide)) _) (fun k hk => ?_) (fun k hk => congrFun (gO _ (by decide) (by decide)) _) (fun k hk => wO _ (by omega) (by omega)) (fun k hk => wO _ (by omega) (by omega)) (fun k hk => ?_) (fun k hk => wO _ (by omega) (by omega)))
    · show (ups (ups G 12 f (-1)) 17 s (-1)) 17 k = _
      rw [uIs, uI (by decide)]
    · show (upd (upd w (589 + f) (-1)) (605 + s) (-1)) (605 + k) = _
      by_cases e : k = s
      · subst e; rw [uUs, uUs]
      · rw [uU (by omega), uU (by omega), uU e]
  refine pgx_row h (fun o ho => gO o (by omega) (by omega)) (fun y _ hy => wO y (by omega) (by omega)) ⟨r0, r1, tx_of (tx_untie (tx_to tt c2 c3) l2 l3 hf hs h1 h2) ⟨l2, l3⟩ ?_ ?_ (fun k hk => ?_) (fun k hk => ?_)⟩
  · rw [gO 9 (by decide) (by decide)]; exact c2
  · rw [gO 14 (by decide) (by decide)]; exact c3
  · rw [uI (by decide), uIs]
  · rw [uIs, uI (by decide)]
end RW
