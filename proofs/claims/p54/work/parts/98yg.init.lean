/-! the invariant where the loop begins -/
/-- the fresh reference's numbers -/
def wG (k : Nat) : Int32 := bif Nat.ble 557 k && Nat.ble k 620 then -1 else bif Nat.beq k 621 then 4 else bif Nat.beq k 622 then 2 else bif Nat.beq k 623 then 3 else bif Nat.ble 624 k && Nat.ble k 631 then 1 else 0
/-- the fresh book's numbers, the fresh reference's beside them -/
def iM (p k : Nat) : Int32 := bif Nat.blt p 316 then Me.2.2.2.1 (p + 1) k else bif Nat.beq p 317 then wG k else 0
def G1 (L : Nat) (xs : Nat → Int32) (p j : Nat) : Int32 := bif Nat.beq p iSCL then Int32.ofNat L else bif Nat.beq p iSCR then xs j else iM p j
def gM0 : Nat → Nat → Int32 := nrm (pgF iM 1)
def wM0 : Nat → Int32 := nrw (iM 317)
theorem me0 : ((wM0 0 = gM0 7 1 ∧ gM0 7 1 = 0) ∧ (wM0 1 = gM0 1 5 ∧ gM0 1 5 = 0 ∧ gM0 1 6 = 0) ∧ (∀ k, k < 50 → gM0 5 k = 0)) ∧
    ((∀ a, a < 17 → gM0 8 a = 0) ∧ (∀ a, a < 17 → ∀ b, b < 17 → wM0 (202 + 17 * a + b) = 0)) ∧
    ((wM0 491 = gM0 9 4 ∧ gM0 9 4 = 0) ∧ (wM0 492 = gM0 14 4 ∧ gM0 14 4 = 0) ∧ (∀ k, k < 32 → wM0 (557 + k) = -1 ∧ wM0 (589 + k) = -1)) ∧
    ((wM0 621 = gM0 0 6 ∧ gM0 0 6 = 4) ∧ (wM0 622 = gM0 0 7 ∧ gM0 0 7 = 2) ∧ wM0 623 = gM0 0 8 ∧ gM0 0 8 = 3) ∧
    ((∀ z, z < 8 → (wM0 (624 + z) = 1 ∧ gM0 20 z = 1) ∧ wM0 (632 + z) = 0 ∧ gM0 21 z = 0) ∧ ∀ z, z < 8 → ∀ y, y < 10 → gM0 22 (10 * z + y) = 1000 ∧ wM0 (640 + 8 * y + z) = 0) ∧
    ((∀ c, c < 12 → (wM0 (800 + c) = 0 ∧ gM0 24 c = 0) ∧ wM0 (812 + c) = 0 ∧ gM0 25 c = 0) ∧ wM0 824 = gM0 23 3) ∧
    ((iM 0 2 = 0 ∧ iM 0 3 = 0 ∧ iM 316 3 = 0 ∧ iM 316 4 = 0) ∧ (iM 316 8 = iM 312 3 ∧ iM 312 3 = 0) ∧ iM 316 6 = iM 245 3 ∧ iM 245 3 = 0) := by decide +kernel
theorem pg0 {G : Nat → Nat → Int32} {w : Nat → Int32} (h : ((w 0 = G 7 1 ∧ G 7 1 = 0) ∧ (w 1 = G 1 5 ∧ G 1 5 = 0 ∧ G 1 6 = 0) ∧ (∀ k, k < 50 → G 5 k = 0)) ∧
    ((∀ a, a < 17 → G 8 a = 0) ∧ (∀ a, a < 17 → ∀ b, b < 17 → w (202 + 17 * a + b) = 0)) ∧
    ((w 491 = G 9 4 ∧ G 9 4 = 0) ∧ (w 492 = G 14 4 ∧ G 14 4 = 0) ∧ (∀ k, k < 32 → w (557 + k) = -1 ∧ w (589 + k) = -1)) ∧
    ((w 621 = G 0 6 ∧ G 0 6 = 4) ∧ (w 622 = G 0 7 ∧ G 0 7 = 2) ∧ w 623 = G 0 8 ∧ G 0 8 = 3) ∧
    ((∀ z, z < 8 → (w (624 + z) = 1 ∧ G 20 z = 1) ∧ w (632 + z) = 0 ∧ G 21 z = 0) ∧ ∀ z, z < 8 → ∀ y, y < 10 → G 22 (10 * z + y) = 1000 ∧ w (640 + 8 * y + z) = 0) ∧
    ((∀ c, c < 12 → (w (800 + c) = 0 ∧ G 24 c = 0) ∧ w (812 + c) = 0 ∧ G 25 c = 0) ∧ w 824 = G 23 3)) : PgR 0 G w := by
  obtain ⟨⟨⟨a1, a2⟩, ⟨b1, b2, b3⟩, b4⟩, ⟨c1, c2⟩, ⟨⟨d1, d2⟩, ⟨d3, d4⟩, d5⟩, ⟨⟨e1, e2⟩, ⟨e3, e4⟩, e5, e6⟩, ⟨f1, f2⟩, g1, g2⟩ := h
  have z : ∀ {x : Int32}, x = 0 → rN x = 0 := fun h => by rw [h]; rfl
  have tf : ∀ a b, a < 17 → tld G a b = false := fun a b ha => by
    unfold tld
    rw [z (c1 a ha), Nat.zero_testBit, Bool.and_false]
  refine ⟨⟨a1, by rw [a2]; unfold rg; decide⟩, ⟨⟨b1, by rw [b2]; unfold rg; decide⟩, fun k hk => Or.inl (b4 k hk), fun k hk => ?_, ?_, fun _ => 0, fun k hk => ?_⟩, ⟨fun a ha => by rw [c1 a ha]; unfold rg; decide, fun a b ha hb => by rw [c2 a ha b hb, tf a b ha]; rfl, fun a b ha h => ?_, fun _ => 0, fun a b ha h => ?_⟩,
    ⟨⟨⟨d1, ?_⟩, fun k hk => ?_, fun k _ hk => ?_, fun k j _ hj => ?_⟩, ⟨⟨d3, ?_⟩, fun k hk => ?_, fun k _ hk => ?_, fun k j _ hj => ?_⟩, fun k hk => ?_, fun j hj => ?_, fun k j _ hj => ?_⟩, ⟨⟨e1, by rw [e2]; unfold rg; decide⟩, ⟨e3, by rw [e4]; unfold rg; decide⟩, e5, by rw [e6]; unfold rg; decide⟩,
    ⟨fun k hk => ?_, fun k y hk hy => Or.inl (f2 k hk y hy)⟩, fun c hc => ?_, ?_, g2⟩
  · rw [z b2] at hk; omega
  · rw [z b2, b3]; rfl
  · rw [z b2] at hk; omega
  · rw [tf a b ha] at h; cases h
  · rw [tf a b ha] at h; cases h
  · show rg 0 16 (G 9 4); rw [d2]; unfold rg; decide
  · rw [show rN (G (9 + 5 * 0) 4) = 0 from z d2] at hk; omega
  · exact d5 k (by omega)
  · rw [show rN (G (9 + 5 * 0) 4) = 0 from z d2] at hj; omega
  · show rg 0 16 (G 14 4); rw [d4]; unfold rg; decide
  · rw [show rN (G (9 + 5 * 1) 4) = 0 from z d4] at hk; omega
  · have := d5 (16 + k) (by omega)
    rw [show 557 + 16 * 1 + k = 557 + (16 + k) by omega, show 589 + 16 * 1 + k = 589 + (16 + k) by omega]
    exact this
  · rw [show rN (G (9 + 5 * 1) 4) = 0 from z d4] at hj; omega
  · rw [z d2] at hk; omega
  · rw [z d4] at hj; omega
  · rw [z d2] at hj; omega
  · obtain ⟨⟨p1, p2⟩, p3, p4⟩ := f1 k hk
    rw [p1, p2, p3, p4]
    exact ⟨⟨rfl, by unfold rg; decide⟩, rfl, by unfold rg; decide⟩
  · obtain ⟨⟨p1, p2⟩, p3, p4⟩ := g1 c hc
    rw [p1, p2, p3, p4]
    exact ⟨⟨rfl, by unfold rg; decide⟩, rfl, by decide⟩
  · have q : ∀ c, c < 12 → (G 25 c).toInt = 0 := fun c hc => by rw [(g1 c hc).2.2]; rfl
    simp [sumN, q]
theorem i1_at {L : Nat} {xs : Nat → Int32} {p : Nat} (hp : p < 900000) : G1 L xs p = iM p := by
  funext j
  unfold G1
  have n1 : ∀ z, 900000 ≤ z → Nat.beq p z = false := fun z hz => by
    cases hb : Nat.beq p z with
    | false => rfl
    | true => have := beq_e hb; omega
  rw [n1 iSCL (by decide), n1 iSCR (by decide), cond_false, cond_false]
theorem inv0 (L : Nat) (xs : Nat → Int32) (J : Nat → Nat → Int64) (D : Nat → Nat → UInt64) : Inv L 0 (G1 L xs) J D := by
  obtain ⟨h1, h2, h3, h4, h5, h6, ⟨h7, h8, h9, h10⟩, ⟨h11, h12⟩, h13, h14⟩ := me0
  have e : ∀ p k, p < 900000 → G1 L xs p k = iM p k := fun p k hp => by rw [i1_at hp]
  have r0 : rN (iM 312 3) = 0 := by rw [h12]; rfl
  have r1 : rN (iM 245 3) = 0 := by rw [h14]; rfl
  refine ⟨rfl, ?_, ⟨0, 0, 0, by decide, by decide, by decide, rfl, ?_, ?_, ?_, ?_, fun s hs hv => by omega⟩, ⟨?_, ?_, fun k hk => ?_⟩, ⟨?_, ?_, fun k hk => ?_⟩⟩
  · have g1 : nrm (pgF (G1 L xs) 1) = gM0 := nrm_e fun o k hr => by
      have := rl_lt hr
      exact e (1 + o) k (by omega)
    have g2 : nrw (G1 L xs 317) = wM0 := nrw_e fun y hy => e 317 y (by omega)
    unfold PgRel
    rw [g1, g2]
    exact pg0 ⟨h1, h2, h3, h4, h5, h6⟩
  · rw [e 0 2 (by omega), h7]; rfl
  · rw [e 0 3 (by omega), h8]; rfl
  · rw [e 316 3 (by omega), h9]; rfl
  · rw [e 316 4 (by omega), h10]; rfl
  · rw [e 316 8 (by omega), e 312 3 (by omega)]; exact h11
  · rw [e 312 3 (by omega), h12]; unfold rg; decide
  · rw [e 312 3 (by omega), r0] at hk; omega
  · rw [e 316 6 (by omega), e 245 3 (by omega)]; exact h13
  · rw [e 245 3 (by omega), h14]; unfold rg; decide
  · rw [e 245 3 (by omega), r1] at hk; omega
theorem g1_kp (L : Nat) (xs : Nat → Int32) : Kp I0 J0 D0 (G1 L xs) J0 D0 := fun p hp => ⟨by
  rw [i1_at (by omega)]
  funext k
  unfold iM I0
  rw [Nat.blt_eq.mpr hp, cond_true], rfl, rfl⟩
/-- the book, with a ghost of the reference beside it -/
def CInv (kk : Nat) (I : Nat → Nat → Int32) (J : Nat → Nat → Int64) (D : Nat → Nat → UInt64) : Prop := ∃ Ig Jg Dg, Kp I J D Ig Jg Dg ∧ Inv 5 kk Ig Jg Dg
theorem cinv0 : CInv 0 I0 J0 D0 := ⟨G1 5 (fun _ => 0), J0, D0, g1_kp _ _, inv0 _ _ _ _⟩
