/-! what of a page stays when other numbers of it change -/
section FR
variable {G G' : Nat → Nat → Int32} {w w' : Nat → Int32}
theorem rN_le {b : Nat} {v : Int32} (h : rg 0 b v) (hb : b < 2 ^ 31) : rN v ≤ b := by
  obtain ⟨h1, h2⟩ := h
  have h3 : ¬ v < 0 := by rw [Int32.lt_iff_toInt_lt, Int32.toInt_zero]; omega
  obtain ⟨j, hj, rfl⟩ := nI_of h3
  rw [nI_toInt hj] at h2
  show (nI j).toNatClampNeg ≤ b
  rw [nI_clamp hj]
  omega
theorem fr_lay (h : RLay G w) (hG : G' 7 = G 7) (hw : w' 0 = w 0) : RLay G' w' := by
  unfold RLay at h ⊢
  rw [hG, hw]; exact h
theorem fr_bou (h : RBou G w) (hG : ∀ o, o = 1 ∨ o = 2 ∨ o = 3 ∨ o = 4 ∨ o = 5 ∨ o = 7 → G' o = G o) (hw : ∀ y, 1 ≤ y → y < 202 → w' y = w y) : RBou G' w' := by
  obtain ⟨⟨b1, b2⟩, b3, b4, b5, b6⟩ := h
  have hle : rN (G 1 5) ≤ 50 := rN_le (b := 50) b2 (by decide)
  unfold RBou
  rw [hG 1 (by decide), hG 2 (by decide), hG 3 (by decide), hG 4 (by decide), hG 5 (by decide), hG 7 (by decide)]
  refine ⟨⟨by rw [hw _ (by decide) (by decide)]; exact b1, b2⟩, b3, fun k hk => ?_, b5, b6⟩
  have hk50 : k < 50 := Nat.lt_of_lt_of_le hk hle
  rw [hw (2 + k) (by omega) (by omega), hw (52 + k) (by omega) (by omega), hw (102 + k) (by omega) (by omega), hw (152 + k) (by omega) (by omega)]
  exact b4 k hk
theorem fr_pil (h : RPil G w) (h7 : G' 7 = G 7) (h8 : G' 8 = G 8) (hw : ∀ y, 202 ≤ y → y < 491 → w' y = w y) : RPil G' w' := by
  obtain ⟨c1, c2, c3, r, hr⟩ := h
  have htl : ∀ a b, tld G' a b = tld G a b := fun a b => by unfold tld; rw [h8]
  refine ⟨by rw [h8]; exact c1, fun a b ha hb => ?_, fun a b ha hb => ?_, r, fun a b ha hb => hr a b ha (by rw [htl] at hb; exact hb)⟩
  · rw [hw _ (by omega) (by omega), htl]; exact c2 a b ha hb
  · rw [htl] at hb
    rw [h7]
    exact c3 a b ha hb
theorem fr_row {i : Nat} (hi : i < 2) (h : RRow G w i) (hG : ∀ o, 9 + 5 * i ≤ o → o < 14 + 5 * i → G' o = G o) (hw : ∀ y, 491 ≤ y → y < 621 → w' y = w y) : RRow G' w' i := by
  unfold RRow at h ⊢
  rw [hG (9 + 5 * i) (by omega) (by omega), hG (10 + 5 * i) (by omega) (by omega), hG (11 + 5 * i) (by omega) (by omega), hG (12 + 5 * i) (by omega) (by omega), hG (13 + 5 * i) (by omega) (by omega)]
  obtain ⟨⟨h1, h2⟩, h3, h4, h5⟩ := h
  have hle : rN (G (9 + 5 * i) 4) ≤ 16 := rN_le (b := 16) h2 (by decide)
  refine ⟨⟨by rw [hw _ (by omega) (by omega)]; exact h1, h2⟩, fun k hk => ?_, fun k hk1 hk2 => ?_, h5⟩
  · have hk16 : k < 16 := Nat.lt_of_lt_of_le hk hle
    rw [hw (493 + 16 * i + k) (by omega) (by omega), hw (525 + 16 * i + k) (by omega) (by omega), hw (589 + 16 * i + k) (by omega) (by omega), hw (557 + 16 * i + k) (by omega) (by omega)]
    exact h3 k hk
  · rw [hw _ (by omega) (by omega), hw _ (by omega) (by omega)]
    exact h4 k hk1 hk2
theorem fr_tie (h : RTie G) (hG : ∀ o, o = 9 ∨ o = 12 ∨ o = 14 ∨ o = 17 → G' o = G o) : RTie G' := by
  unfold RTie at h ⊢
  rw [hG 9 (by decide), hG 12 (by decide), hG 14 (by decide), hG 17 (by decide)]
  exact h
theorem fr_pri (h : RPri G w) (hG : G' 0 = G 0) (hw : ∀ y, 621 ≤ y → y < 624 → w' y = w y) : RPri G' w' := by
  unfold RPri at h ⊢
  rw [hG, hw 621 (by decide) (by decide), hw 622 (by decide) (by decide), hw 623 (by decide) (by decide)]
  exact h
theorem fr_sta (h : RSta G w) (hG : ∀ o, o = 20 ∨ o = 21 ∨ o = 22 → G' o = G o) (hw : ∀ y, 624 ≤ y → y < 800 → w' y = w y) : RSta G' w' := by
  obtain ⟨e1, e2⟩ := h
  unfold RSta
  rw [hG 20 (by decide), hG 21 (by decide), hG 22 (by decide)]
  refine ⟨fun k hk => ?_, fun k y hk hy => ?_⟩
  · rw [hw (624 + k) (by omega) (by omega), hw (632 + k) (by omega) (by omega)]; exact e1 k hk
  · rw [hw (640 + 8 * y + k) (by omega) (by omega), hw (720 + 8 * y + k) (by omega) (by omega)]; exact e2 k y hk hy
theorem fr_ice {kk : Nat} (h : RIce kk G w) (hG : ∀ o, o = 23 ∨ o = 24 ∨ o = 25 → G' o = G o) (hw : ∀ y, 800 ≤ y → y < 825 → w' y = w y) : RIce (kk + 1) G' w' := by
  obtain ⟨e1, e2, e3⟩ := h
  unfold RIce
  rw [hG 23 (by decide), hG 24 (by decide), hG 25 (by decide), hw 824 (by decide) (by decide)]
  refine ⟨fun k hk => ?_, by omega, e3⟩
  rw [hw (800 + k) (by omega) (by omega), hw (812 + k) (by omega) (by omega)]
  exact e1 k hk
end FR
