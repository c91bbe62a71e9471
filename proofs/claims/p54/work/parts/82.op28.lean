/-! setDate -/
def confD (da : Nat → Int32) (b : Nat) (x : Int32) (k : Nat) : Bool := decide (da k ≠ -1) && ((decide (k < b) && decide (x < da k)) || (decide (b < k) && decide (da k < x)))
def fitD (da : Nat → Int32) (b : Nat) (x : Int32) : Nat → Nat → Bool
  | 0, _ => true
  | r + 1, k => bif confD da b x k then false else fitD da b x r (k + 1)
theorem fitD_s {da : Nat → Int32} {b : Nat} {x : Int32} : ∀ {r k : Nat}, fitD da b x r k = true → ∀ j, k ≤ j → j < k + r → confD da b x j = false
  | 0, k, _, j, h1, h2 => by omega
  | r + 1, k, h, j, h1, h2 => by
    unfold fitD at h
    cases hc : confD da b x k with
    | true => rw [hc] at h; cases h
    | false =>
      rw [hc] at h
      by_cases hjk : j = k
      · subst hjk; exact hc
      · exact fitD_s (r := r) (k := k + 1) h j (by omega) (by omega)
theorem confD_f {da : Nat → Int32} {b : Nat} {x : Int32} {k : Nat} (h : confD da b x k = false) (h1 : da k ≠ -1) : (k < b → da k ≤ x) ∧ (b < k → x ≤ da k) := by
  unfold confD at h
  rw [decide_eq_true h1, Bool.true_and, Bool.or_eq_false_iff, Bool.and_eq_false_iff, Bool.and_eq_false_iff, decide_eq_false_iff_not, decide_eq_false_iff_not, decide_eq_false_iff_not, decide_eq_false_iff_not] at h
  exact ⟨fun q => Int32.not_lt.mp (h.1.resolve_left (fun t => t q)), fun q => Int32.not_lt.mp (h.2.resolve_left (fun t => t q))⟩
section DT
variable {I : Nat → Nat → Int32} {J : Nat → Nat → Int64} {D : Nat → Nat → UInt64}
theorem c_fits0 {n b : Nat} {x : Int32} (hn : I 10 4 = nI n) (h16 : n ≤ 16) (hb : b < 16) : ∀ r k, k + r = n → ex (57, 2, [.ref 10, .int (nI b), .int x, .int (nI k), dv, dv], [], mm I J D) = some (.inl (some (.int (bI (fitD (I 14) b x r k)))), mm I J D)
  | 0, k, h => by
    have : k = n := by omega
    subst this
    rw [e_57_2_10, hn, decide_eq_true (show nI k ≤ nI k from (nI_leI (by omega) (by omega)).mpr (Nat.le_refl _)), cond_true, e_57_82]
    rfl
  | r + 1, k, h => by
    have ih := c_fits0 (x := x) hn h16 hb r (k + 1) (by omega)
    have hs : fitD (I 14) b x (r + 1) k = bif confD (I 14) b x k then false else fitD (I 14) b x r (k + 1) := rfl
    have nxt : confD (I 14) b x k = false → ex (57, 76, [.ref 10, .int (nI b), .int x, .int (nI k), dv, dv], [], mm I J D) = some (.inl (some (.int (bI (fitD (I 14) b x (r + 1) k)))), mm I J D) := fun q => by
      rw [hs, q, cond_false, e_57_76_10, nI_1, ih]
    have bad : confD (I 14) b x k = true → ex (57, 74, [dv, dv, dv, dv, dv, dv], [], mm I J D) = some (.inl (some (.int (bI (fitD (I 14) b x (r + 1) k)))), mm I J D) := fun q => by
      rw [hs, q, cond_true, e_57_74]; rfl
    rw [e_57_2_10, hn, decide_eq_false (show ¬ nI n ≤ nI k from nI_ge (a := k) (b := n) (by omega) (by omega)), cond_false, e_57_10_10, inb_n (by omega) (by decide), cond_true, nI_clamp (by omega)]
    by_cases hk : I 14 k = -1
    · rw [decide_eq_true hk, cond_true]
      exact nxt (by unfold confD; rw [decide_eq_false (fun q => q hk)]; rfl)
    · rw [decide_eq_false hk, cond_false, e_57_20_10]
      have hcf : confD (I 14) b x k = ((decide (k < b) && decide (x < I 14 k)) || (decide (b < k) && decide (I 14 k < x))) := by unfold confD; rw [decide_eq_true hk, Bool.true_and]
      rcases Nat.lt_trichotomy k b with hkb | hkb | hkb
      · rw [decide_eq_true hkb, decide_eq_false (show ¬ b < k by omega), Bool.false_and, Bool.or_false, Bool.true_and] at hcf
        rw [decide_eq_false (show ¬ nI b ≤ nI k from nI_ge (a := k) (b := b) hkb (by omega)), cond_false, e_57_25_10, inb_n (by omega) (by decide), cond_true, nI_clamp (by omega)]
        by_cases hx : x < I 14 k
        · rw [decide_eq_false (Int32.not_le.mpr hx), cond_false, e_57_35_10, e_57_40_10, decide_eq_true (show nI k ≤ nI b from (nI_leI (by omega) (by omega)).mpr (by omega)), cond_true, e_57_61_10, e_57_62_10, d11, cond_true, bad (by rw [hcf, decide_eq_true hx])]
        · rw [decide_eq_true (Int32.not_lt.mp hx), cond_true, e_57_39_10, e_57_40_10, decide_eq_true (show nI k ≤ nI b from (nI_leI (by omega) (by omega)).mpr (by omega)), cond_true, e_57_61_10, e_57_62_10, d01, cond_false, e_57_69_10, d00, cond_true, nxt (by rw [hcf, decide_eq_false hx])]
      · subst hkb
        rw [decide_eq_false (show ¬ k < k by omega), Bool.false_and, Bool.false_and] at hcf
        rw [decide_eq_true (show nI k ≤ nI k from (nI_leI (by omega) (by omega)).mpr (by omega)), cond_true, e_57_39_10, e_57_40_10, decide_eq_true (show nI k ≤ nI k from (nI_leI (by omega) (by omega)).mpr (by omega)), cond_true, e_57_61_10, e_57_62_10, d01, cond_false, e_57_69_10, d00, cond_true, nxt (by rw [hcf]; rfl)]
      · rw [decide_eq_false (show ¬ k < b by omega), decide_eq_true hkb, Bool.false_and, Bool.false_or, Bool.true_and] at hcf
        rw [decide_eq_true (show nI b ≤ nI k from (nI_leI (by omega) (by omega)).mpr (by omega)), cond_true, e_57_39_10, e_57_40_10, decide_eq_false (show ¬ nI k ≤ nI b from nI_ge (a := b) (b := k) hkb (by omega)), cond_false, e_57_47_10, inb_n (by omega) (by decide), cond_true, nI_clamp (by omega)]
        by_cases hx : I 14 k < x
        · rw [decide_eq_false (Int32.not_le.mpr hx), cond_false, e_57_57_10, e_57_62_10, d01, cond_false, e_57_69_10, d10, cond_false, bad (by rw [hcf, decide_eq_true hx])]
        · rw [decide_eq_true (Int32.not_lt.mp hx), cond_true, e_57_61_10, e_57_62_10, d01, cond_false, e_57_69_10, d00, cond_true, nxt (by rw [hcf, decide_eq_false hx])]
theorem c_fits1 {n b : Nat} {x : Int32} (hn : I 15 4 = nI n) (h16 : n ≤ 16) (hb : b < 16) : ∀ r k, k + r = n → ex (57, 2, [.ref 15, .int (nI b), .int x, .int (nI k), dv, dv], [], mm I J D) = some (.inl (some (.int (bI (fitD (I 19) b x r k)))), mm I J D)
  | 0, k, h => by
    have : k = n := by omega
    subst this
    rw [e_57_2_15, hn, decide_eq_true (show nI k ≤ nI k from (nI_leI (by omega) (by omega)).mpr (Nat.le_refl _)), cond_true, e_57_82]
    rfl
  | r + 1, k, h => by
    have ih := c_fits1 (x := x) hn h16 hb r (k + 1) (by omega)
    have hs : fitD (I 19) b x (r + 1) k = bif confD (I 19) b x k then false else fitD (I 19) b x r (k + 1) := rfl
    have nxt : confD (I 19) b x k = false → ex (57, 76, [.ref 15, .int (nI b), .int x, .int (nI k), dv, dv], [], mm I J D) = some (.inl (some (.int (bI (fitD (I 19) b x (r + 1) k)))), mm I J D) := fun q => by
      rw [hs, q, cond_false, e_57_76_15, nI_1, ih]
    have bad : confD (I 19) b x k = true → ex (57, 74, [dv, dv, dv, dv, dv, dv], [], mm I J D) = some (.inl (some (.int (bI (fitD (I 19) b x (r + 1) k)))), mm I J D) := fun q => by
      rw [hs, q, cond_true, e_57_74]; rfl
    rw [e_57_2_15, hn, decide_eq_false (show ¬ nI n ≤ nI k from nI_ge (a := k) (b := n) (by omega) (by omega)), cond_false, e_57_10_15, inb_n (by omega) (by decide), cond_true, nI_clamp (by omega)]
    by_cases hk : I 19 k = -1
    · rw [decide_eq_true hk, cond_true]
      exact nxt (by unfold confD; rw [decide_eq_false (fun q => q hk)]; rfl)
    · rw [decide_eq_false hk, cond_false, e_57_20_15]
      have hcf : confD (I 19) b x k = ((decide (k < b) && decide (x < I 19 k)) || (decide (b < k) && decide (I 19 k < x))) := by unfold confD; rw [decide_eq_true hk, Bool.true_and]
      rcases Nat.lt_trichotomy k b with hkb | hkb | hkb
      · rw [decide_eq_true hkb, decide_eq_false (show ¬ b < k by omega), Bool.false_and, Bool.or_false, Bool.true_and] at hcf
        rw [decide_eq_false (show ¬ nI b ≤ nI k from nI_ge (a := k) (b := b) hkb (by omega)), cond_false, e_57_25_15, inb_n (by omega) (by decide), cond_true, nI_clamp (by omega)]
        by_cases hx : x < I 19 k
        · rw [decide_eq_false (Int32.not_le.mpr hx), cond_false, e_57_35_15, e_57_40_15, decide_eq_true (show nI k ≤ nI b from (nI_leI (by omega) (by omega)).mpr (by omega)), cond_true, e_57_61_15, e_57_62_15, d11, cond_true, bad (by rw [hcf, decide_eq_true hx])]
        · rw [decide_eq_true (Int32.not_lt.mp hx), cond_true, e_57_39_15, e_57_40_15, decide_eq_true (show nI k ≤ nI b from (nI_leI (by omega) (by omega)).mpr (by omega)), cond_true, e_57_61_15, e_57_62_15, d01, cond_false, e_57_69_15, d00, cond_true, nxt (by rw [hcf, decide_eq_false hx])]
      · subst hkb
        rw [decide_eq_false (show ¬ k < k by omega), Bool.false_and, Bool.false_and] at hcf
        rw [decide_eq_true (show nI k ≤ nI k from (nI_leI (by omega) (by omega)).mpr (by omega)), cond_true, e_57_39_15, e_57_40_15, decide_eq_true (show nI k ≤ nI k from (nI_leI (by omega) (by omega)).mpr (by omega)), cond_true, e_57_61_15, e_57_62_15, d01, cond_false, e_57_69_15, d00, cond_true, nxt (by rw [hcf]; rfl)]
      · rw [decide_eq_false (show ¬ k < b by omega), decide_eq_true hkb, Bool.false_and, Bool.false_or, Bool.true_and] at hcf
        rw [decide_eq_true (show nI b ≤ nI k from (nI_leI (by omega) (by omega)).mpr (by omega)), cond_true, e_57_39_15, e_57_40_15, decide_eq_false (show ¬ nI k ≤ nI b from nI_ge (a := b) (b := k) hkb (by omega)), cond_false, e_57_47_15, inb_n (by omega) (by decide), cond_true, nI_clamp (by omega)]
        by_cases hx : I 19 k < x
        · rw [decide_eq_false (Int32.not_le.mpr hx), cond_false, e_57_57_15, e_57_62_15, d01, cond_false, e_57_69_15, d10, cond_false, bad (by rw [hcf, decide_eq_true hx])]
        · rw [decide_eq_true (Int32.not_lt.mp hx), cond_true, e_57_61_15, e_57_62_15, d01, cond_false, e_57_69_15, d00, cond_true, nxt (by rw [hcf, decide_eq_false hx])]
theorem m_fits {i n b : Nat} {x : Int32} {da : Nat → Int32} (hi : i < 2) (hn : I 317 (491 + i) = nI n) (h16 : n ≤ 16) (hb : b < 16) (hd : ∀ k, k < n → I 317 (557 + 16 * i + k) = da k) : ∀ r k, k + r = n → ex (223, 3, [.ref 316, .int (nI i), .int (nI b), .int x, .int (nI k), dv], [], mm I J D) = some (.inl (some (.int (bI (fitD da b x r k)))), mm I J D)
  | 0, k, h => by
    have : k = n := by omega
    subst this
    rw [e_223_3, show (491 : Int32) + nI i = nI (491 + i) from nI_add 491 i, inb_n (by omega) (by decide), cond_true, nI_clamp (by omega), hn, decide_eq_true (show nI k ≤ nI k from (nI_leI (by omega) (by omega)).mpr (Nat.le_refl _)), cond_true, e_223_65]
    rfl
  | r + 1, k, h => by
    have ih := m_fits (x := x) hi hn h16 hb hd r (k + 1) (by omega)
    have hs : fitD da b x (r + 1) k = bif confD da b x k then false else fitD da b x r (k + 1) := rfl
    have nxt : confD da b x k = false → ex (223, 59, [.ref 316, .int (nI i), .int (nI b), .int x, .int (nI k), dv], [], mm I J D) = some (.inl (some (.int (bI (fitD da b x (r + 1) k)))), mm I J D) := fun q => by
      rw [hs, q, cond_false, e_223_59, nI_1, ih]
    have bad : confD da b x k = true → ex (223, 57, [dv, dv, dv, dv, dv, dv], [], mm I J D) = some (.inl (some (.int (bI (fitD da b x (r + 1) k)))), mm I J D) := fun q => by
      rw [hs, q, cond_true, e_223_57]; rfl
    rw [e_223_3, show (491 : Int32) + nI i = nI (491 + i) from nI_add 491 i, inb_n (by omega) (by decide), cond_true, nI_clamp (by omega), hn, decide_eq_false (show ¬ nI n ≤ nI k from nI_ge (a := k) (b := n) (by omega) (by omega)), cond_false, e_223_18, m_date hi (by omega), cal_v, ka, e_223_25, hd k (by omega)]
    by_cases hk : da k = -1
    · rw [decide_eq_true hk, cond_true]
      exact nxt (by unfold confD; rw [decide_eq_false (fun q => q hk)]; rfl)
    · rw [decide_eq_false hk, cond_false, e_223_33]
      have hcf : confD da b x k = ((decide (k < b) && decide (x < da k)) || (decide (b < k) && decide (da k < x))) := by unfold confD; rw [decide_eq_true hk, Bool.true_and]
      rcases Nat.lt_trichotomy k b with hkb | hkb | hkb
      · rw [decide_eq_true hkb, decide_eq_false (show ¬ b < k by omega), Bool.false_and, Bool.or_false, Bool.true_and] at hcf
        rw [decide_eq_false (show ¬ nI b ≤ nI k from nI_ge (a := k) (b := b) hkb (by omega)), cond_false, e_223_39]
        by_cases hx : x < da k
        · rw [decide_eq_true hx, cond_true, bad (by rw [hcf, decide_eq_true hx])]
        · rw [decide_eq_false hx, cond_false, e_223_45, decide_eq_true (show nI k ≤ nI b from (nI_leI (by omega) (by omega)).mpr (by omega)), cond_true, nxt (by rw [hcf, decide_eq_false hx])]
      · subst hkb
        rw [decide_eq_false (show ¬ k < k by omega), Bool.false_and, Bool.false_and] at hcf
        rw [decide_eq_true (show nI k ≤ nI k from (nI_leI (by omega) (by omega)).mpr (by omega)), cond_true, e_223_45, decide_eq_true (show nI k ≤ nI k from (nI_leI (by omega) (by omega)).mpr (by omega)), cond_true, nxt (by rw [hcf]; rfl)]
      · rw [decide_eq_false (show ¬ k < b by omega), decide_eq_true hkb, Bool.false_and, Bool.false_or, Bool.true_and] at hcf
        rw [decide_eq_true (show nI b ≤ nI k from (nI_leI (by omega) (by omega)).mpr (by omega)), cond_true, e_223_45, decide_eq_false (show ¬ nI k ≤ nI b from nI_ge (a := b) (b := k) hkb (by omega)), cond_false, e_223_51]
        by_cases hx : da k < x
        · rw [decide_eq_false (Int32.not_le.mpr hx), cond_false, bad (by rw [hcf, decide_eq_true hx])]
        · rw [decide_eq_true (Int32.not_lt.mp hx), cond_true, nxt (by rw [hcf, decide_eq_false hx])]
end DT
theorem a_28 {L kk : Nat} {I : Nat → Nat → Int32} {J : Nat → Nat → Int64} {D : Nat → Nat → UInt64} (h : Inv0 L kk I) (x y z : Int32) : ActOK L kk I J D 118 [.ref 0, .int x, .int y, .int z] 224 [.ref 316, .int x, .int y, .int z, dv] := by
  have p2 := le_pred (v := x) (b := 1) (B := 2) (B1 := 1) rfl rfl (by decide)
  by_cases hx : 0 ≤ x ∧ x < 2
  · have hx1 := p2.mp hx
    obtain ⟨c, hc, rfl⟩ := ix_of (m := 2) (n := 2) rfl hx
    rcases (show c = 0 ∨ c = 1 by omega) with rfl | rfl
    · obtain ⟨n, hn, cn, wn, hk, hb, hs⟩ := inv_row h.2.1 (i := 0) (by decide)
      have cn : I 10 4 = nI n := cn
      have wn : I 317 491 = nI n := wn
      by_cases hy : 0 ≤ y ∧ y < nI n
      · obtain ⟨b, hb, rfl⟩ := ix_of (m := n) (nI_toInt (by omega)) hy
        have hy' : 0 ≤ nI b ∧ nI b < I 10 4 := by rw [cn]; exact hy
        by_cases hz : 0 ≤ z ∧ z ≤ 99999
        · have cf := c_fits0 (I := I) (J := J) (D := D) (x := z) cn hn (show b < 16 by omega) n 0 (by omega)
          have cm : ∀ I9 : Nat → Nat → Int32, I9 317 = I 317 → ∀ J2 D2, ex (223, 3, [.ref 316, .int (nI 0), .int (nI b), .int z, .int 0, dv], [], mm I9 J2 D2) = some (.inl (some (.int (bI (fitD (I 14) b z n 0)))), mm I9 J2 D2) := fun I9 h9 J2 D2 => m_fits (i := 0) (by decide) (by rw [h9]; exact wn) hn (by omega) (fun k hk2 => by rw [h9]; exact (hk k hk2).2.2.2.1) n 0 (by omega)
          have e0 : ex (57, 0, [.ref 10, .int (nI b), .int z, dv, dv, dv], [], mm I J D) = some (.inl (some (.int (bI (fitD (I 14) b z n 0)))), mm I J D) := by rw [e_57_0_10]; exact cf
          have e3 : ∀ I9 : Nat → Nat → Int32, I9 317 = I 317 → ∀ J2 D2, ex (223, 0, [.ref 316, .int (nI 0), .int (nI b), .int z, dv, dv], [], mm I9 J2 D2) = some (.inl (some (.int (bI (fitD (I 14) b z n 0)))), mm I9 J2 D2) := fun I9 h9 J2 D2 => by rw [e_223_0]; exact cm I9 h9 J2 D2
          cases hf : fitD (I 14) b z n 0 with
          | true =>
            rw [hf] at e0 e3
            have e0 : ex (57, 0, [.ref 10, .int (nI b), .int z, dv, dv, dv], [], mm I J D) = some (.inl (some (.int 1)), mm I J D) := e0
            have e3 : ∀ I9 : Nat → Nat → Int32, I9 317 = I 317 → ∀ J2 D2, ex (223, 0, [.ref 316, .int (nI 0), .int (nI b), .int z, dv, dv], [], mm I9 J2 D2) = some (.inl (some (.int 1)), mm I9 J2 D2) := e3
            obtain ⟨I1, e1, lo, hi, nx⟩ := act_all3 h J D
            have cfr : CFar I1 (ups I1 14 b z) := cfar_ups cfar_0 (by decide)
            refine ⟨ups I1 14 b z, fun p hp => by rw [uI (by omega), hi p (by omega)], Or.inl ⟨I 14 b, ?_, fun J2 D2 I7 h7 => ?_⟩⟩
            · rw [e_118_0, x_row hx, cal_v, kn, e_118_5, c_bandT0 hy', cal_v, kn, e_118_11, x_nr hz, cal_v, kn, e_118_19, x_rw0, cal_v, krw _, e_118_27_10, e0, cal_v, ka, e_118_32, d11, cond_true, e_118_46, e1, cal_v, kn, e_118_50, x_rw0, cal_v, krw _, e_118_58_10, e_58_0_10, inb_n (show b < 16 by omega) (by decide), cond_true, cond_true, nI_clamp (by omega), lo 14 (by decide) (by decide), cal_v, ka, e_118_63]
            · have w7 : I7 317 = I 317 := by rw [h7.w, uI (by decide), hi 317 (by decide)]
              obtain ⟨I4, e2, w4, r4, s4, fin⟩ := nx _ (ups I7 316 0 0) cfr h7.far.r (by rw [uI (by decide), h7.w]) J2 D2
              refine ⟨ups I4 317 (557 + b) z, ?_, ?_, ?_⟩
              · have hwn : I4 317 (557 + 16 * 0 + b) = I 14 b := by rw [w4]; exact (hk b hb).2.2.2.1
                rw [e_224_0, m_bandT (i := 0) (by decide) (by rw [w7]; exact wn) hn hy, cal_v, ka, e_224_7, x_canT, cal_v, ka, e_224_11, d10, cond_false, e_224_14, x_inT hz, cal_v, ka, e_224_22, x_canT, cal_v, ka, uu, e_224_26, d10, cond_false, e_224_29, e3 (ups I7 316 0 0) (by rw [uI (by decide)]; exact w7) J2 D2, cal_v, ka, e_224_37, x_canT, cal_v, ka, uu, e_224_41, d11, cond_true, e_224_46, e2, cal_v, kn, e_224_50, m_date (i := 0) (by decide) (by omega), cal_v, ka, hwn, e_224_56, show (557 : Int32) + 16 * nI 0 = nI 557 by decide, nI_add, inb_n (by omega) (by decide), cond_true, nI_clamp (n := 557 + b) (by omega)]
              · rw [uI (by decide), r4, uIs, uUs]
              · refine fin _ (MFw.z.u (by decide)) ?_
                unfold PgRel
                rw [g_ups (o := 13) rfl (Nat.blt_eq.mpr (by omega)), g_same lo, n_upd (by omega), w4]
                refine pg_date0 (n := n) h.2.1 (by rw [nrm_at (by rfl)]; exact cn) hn hb (Or.inr (rgl hz)) (fun _ k hk2 h1 => ?_)
                rw [nrm_at (show rl 13 k = true from Nat.blt_eq.mpr (by omega))] at h1 ⊢
                exact confD_f (fitD_s hf k (by omega) (by omega)) h1
          | false =>
            rw [hf] at e0 e3
            have e0 : ex (57, 0, [.ref 10, .int (nI b), .int z, dv, dv, dv], [], mm I J D) = some (.inl (some (.int 0)), mm I J D) := e0
            have e3 : ∀ I9 : Nat → Nat → Int32, I9 317 = I 317 → ∀ J2 D2, ex (223, 0, [.ref 316, .int (nI 0), .int (nI b), .int z, dv, dv], [], mm I9 J2 D2) = some (.inl (some (.int 0)), mm I9 J2 D2) := e3
            refine ActOK.no h 0 3 0 (by decide) ?_ (fun J2 D2 I7 h7 => ?_)
            · rw [e_118_0, x_row hx, cal_v, kn, e_118_5, c_bandT0 hy', cal_v, kn, e_118_11, x_nr hz, cal_v, kn, e_118_19, x_rw0, cal_v, krw _, e_118_27_10, e0, cal_v, ka, e_118_32, d01, cond_false, e_118_35]
            · rw [e_224_0, m_bandT (i := 0) (by decide) (by rw [h7.w]; exact wn) hn hy, cal_v, ka, e_224_7, x_canT, cal_v, ka, e_224_11, d10, cond_false, e_224_14, x_inT hz, cal_v, ka, e_224_22, x_canT, cal_v, ka, uu, e_224_26, d10, cond_false, e_224_29, e3 (ups I7 316 0 0) (by rw [uI (by decide), h7.w]) J2 D2, cal_v, ka, e_224_37, x_canF, cal_v, ka, uu, e_224_41, d01, cond_false, e_224_44]
        · refine ActOK.no h 1 2 0 (by decide) ?_ (fun J2 D2 I7 h7 => ?_)
          · rw [e_118_0, x_row hx, cal_v, kn, e_118_5, c_bandT0 hy', cal_v, kn, e_118_11, x_nr1 hz, cal_e]
          · rw [e_224_0, m_bandT (i := 0) (by decide) (by rw [h7.w]; exact wn) hn hy, cal_v, ka, e_224_7, x_canT, cal_v, ka, e_224_11, d10, cond_false, e_224_14, x_inF hz, cal_v, ka, e_224_22, x_canF, cal_v, ka, uu, e_224_26, d00, cond_true, e_224_44]
      · refine ActOK.no h 2 1 0 (by decide) ?_ (fun J2 D2 I7 h7 => ?_)
        · rw [e_118_0, x_row hx, cal_v, kn, e_118_5, c_bandF0 (by rw [cn]; exact hy), cal_e]
        · rw [e_224_0, m_bandF (i := 0) (by decide) (by rw [h7.w]; exact wn) hn hy, cal_v, ka, e_224_7, x_canF, cal_v, ka, e_224_11, d00, cond_true, e_224_44]
    · obtain ⟨n, hn, cn, wn, hk, hb, hs⟩ := inv_row h.2.1 (i := 1) (by decide)
      have cn : I 15 4 = nI n := cn
      have wn : I 317 492 = nI n := wn
      by_cases hy : 0 ≤ y ∧ y < nI n
      · obtain ⟨b, hb, rfl⟩ := ix_of (m := n) (nI_toInt (by omega)) hy
        have hy' : 0 ≤ nI b ∧ nI b < I 15 4 := by rw [cn]; exact hy
        by_cases hz : 0 ≤ z ∧ z ≤ 99999
        · have cf := c_fits1 (I := I) (J := J) (D := D) (x := z) cn hn (show b < 16 by omega) n 0 (by omega)
          have cm : ∀ I9 : Nat → Nat → Int32, I9 317 = I 317 → ∀ J2 D2, ex (223, 3, [.ref 316, .int (nI 1), .int (nI b), .int z, .int 0, dv], [], mm I9 J2 D2) = some (.inl (some (.int (bI (fitD (I 19) b z n 0)))), mm I9 J2 D2) := fun I9 h9 J2 D2 => m_fits (i := 1) (by decide) (by rw [h9]; exact wn) hn (by omega) (fun k hk2 => by rw [h9]; exact (hk k hk2).2.2.2.1) n 0 (by omega)
          have e0 : ex (57, 0, [.ref 15, .int (nI b), .int z, dv, dv, dv], [], mm I J D) = some (.inl (some (.int (bI (fitD (I 19) b z n 0)))), mm I J D) := by rw [e_57_0_15]; exact cf
          have e3 : ∀ I9 : Nat → Nat → Int32, I9 317 = I 317 → ∀ J2 D2, ex (223, 0, [.ref 316, .int (nI 1), .int (nI b), .int z, dv, dv], [], mm I9 J2 D2) = some (.inl (some (.int (bI (fitD (I 19) b z n 0)))), mm I9 J2 D2) := fun I9 h9 J2 D2 => by rw [e_223_0]; exact cm I9 h9 J2 D2
          cases hf : fitD (I 19) b z n 0 with
          | true =>
            rw [hf] at e0 e3
            have e0 : ex (57, 0, [.ref 15, .int (nI b), .int z, dv, dv, dv], [], mm I J D) = some (.inl (some (.int 1)), mm I J D) := e0
            have e3 : ∀ I9 : Nat → Nat → Int32, I9 317 = I 317 → ∀ J2 D2, ex (223, 0, [.ref 316, .int (nI 1), .int (nI b), .int z, dv, dv], [], mm I9 J2 D2) = some (.inl (some (.int 1)), mm I9 J2 D2) := e3
            obtain ⟨I1, e1, lo, hi, nx⟩ := act_all3 h J D
            have cfr : CFar I1 (ups I1 19 b z) := cfar_ups cfar_0 (by decide)
            refine ⟨ups I1 19 b z, fun p hp => by rw [uI (by omega), hi p (by omega)], Or.inl ⟨I 19 b, ?_, fun J2 D2 I7 h7 => ?_⟩⟩
            · rw [e_118_0, x_row hx, cal_v, kn, e_118_5, c_bandT1 hy', cal_v, kn, e_118_11, x_nr hz, cal_v, kn, e_118_19, x_rw1, cal_v, krw _, e_118_27_15, e0, cal_v, ka, e_118_32, d11, cond_true, e_118_46, e1, cal_v, kn, e_118_50, x_rw1, cal_v, krw _, e_118_58_15, e_58_0_15, inb_n (show b < 16 by omega) (by decide), cond_true, cond_true, nI_clamp (by omega), lo 19 (by decide) (by decide), cal_v, ka, e_118_63]
            · have w7 : I7 317 = I 317 := by rw [h7.w, uI (by decide), hi 317 (by decide)]
              obtain ⟨I4, e2, w4, r4, s4, fin⟩ := nx _ (ups I7 316 0 0) cfr h7.far.r (by rw [uI (by decide), h7.w]) J2 D2
              refine ⟨ups I4 317 (573 + b) z, ?_, ?_, ?_⟩
              · have hwn : I4 317 (557 + 16 * 1 + b) = I 19 b := by rw [w4]; exact (hk b hb).2.2.2.1
                rw [e_224_0, m_bandT (i := 1) (by decide) (by rw [w7]; exact wn) hn hy, cal_v, ka, e_224_7, x_canT, cal_v, ka, e_224_11, d10, cond_false, e_224_14, x_inT hz, cal_v, ka, e_224_22, x_canT, cal_v, ka, uu, e_224_26, d10, cond_false, e_224_29, e3 (ups I7 316 0 0) (by rw [uI (by decide)]; exact w7) J2 D2, cal_v, ka, e_224_37, x_canT, cal_v, ka, uu, e_224_41, d11, cond_true, e_224_46, e2, cal_v, kn, e_224_50, m_date (i := 1) (by decide) (by omega), cal_v, ka, hwn, e_224_56, show (557 : Int32) + 16 * nI 1 = nI 573 by decide, nI_add, inb_n (by omega) (by decide), cond_true, nI_clamp (n := 573 + b) (by omega)]
              · rw [uI (by decide), r4, uIs, uUs]
              · refine fin _ (MFw.z.u (by decide)) ?_
                unfold PgRel
                rw [g_ups (o := 18) rfl (Nat.blt_eq.mpr (by omega)), g_same lo, n_upd (by omega), w4]
                refine pg_date1 (n := n) h.2.1 (by rw [nrm_at (by rfl)]; exact cn) hn hb (Or.inr (rgl hz)) (fun _ k hk2 h1 => ?_)
                rw [nrm_at (show rl 18 k = true from Nat.blt_eq.mpr (by omega))] at h1 ⊢
                exact confD_f (fitD_s hf k (by omega) (by omega)) h1
          | false =>
            rw [hf] at e0 e3
            have e0 : ex (57, 0, [.ref 15, .int (nI b), .int z, dv, dv, dv], [], mm I J D) = some (.inl (some (.int 0)), mm I J D) := e0
            have e3 : ∀ I9 : Nat → Nat → Int32, I9 317 = I 317 → ∀ J2 D2, ex (223, 0, [.ref 316, .int (nI 1), .int (nI b), .int z, dv, dv], [], mm I9 J2 D2) = some (.inl (some (.int 0)), mm I9 J2 D2) := e3
            refine ActOK.no h 0 3 0 (by decide) ?_ (fun J2 D2 I7 h7 => ?_)
            · rw [e_118_0, x_row hx, cal_v, kn, e_118_5, c_bandT1 hy', cal_v, kn, e_118_11, x_nr hz, cal_v, kn, e_118_19, x_rw1, cal_v, krw _, e_118_27_15, e0, cal_v, ka, e_118_32, d01, cond_false, e_118_35]
            · rw [e_224_0, m_bandT (i := 1) (by decide) (by rw [h7.w]; exact wn) hn hy, cal_v, ka, e_224_7, x_canT, cal_v, ka, e_224_11, d10, cond_false, e_224_14, x_inT hz, cal_v, ka, e_224_22, x_canT, cal_v, ka, uu, e_224_26, d10, cond_false, e_224_29, e3 (ups I7 316 0 0) (by rw [uI (by decide), h7.w]) J2 D2, cal_v, ka, e_224_37, x_canF, cal_v, ka, uu, e_224_41, d01, cond_false, e_224_44]
        · refine ActOK.no h 1 2 0 (by decide) ?_ (fun J2 D2 I7 h7 => ?_)
          · rw [e_118_0, x_row hx, cal_v, kn, e_118_5, c_bandT1 hy', cal_v, kn, e_118_11, x_nr1 hz, cal_e]
          · rw [e_224_0, m_bandT (i := 1) (by decide) (by rw [h7.w]; exact wn) hn hy, cal_v, ka, e_224_7, x_canT, cal_v, ka, e_224_11, d10, cond_false, e_224_14, x_inF hz, cal_v, ka, e_224_22, x_canF, cal_v, ka, uu, e_224_26, d00, cond_true, e_224_44]
      · refine ActOK.no h 2 1 0 (by decide) ?_ (fun J2 D2 I7 h7 => ?_)
        · rw [e_118_0, x_row hx, cal_v, kn, e_118_5, c_bandF1 (by rw [cn]; exact hy), cal_e]
        · rw [e_224_0, m_bandF (i := 1) (by decide) (by rw [h7.w]; exact wn) hn hy, cal_v, ka, e_224_7, x_canF, cal_v, ka, e_224_11, d00, cond_true, e_224_44]
  · refine ActOK.no h 2 1 0 (by decide) ?_ (fun J2 D2 I7 h7 => ?_)
    · rw [e_118_0, x_row1 hx, cal_e]
    · rw [e_224_0, m_bandR (fun q => hx (p2.mpr q)), cal_v, ka, e_224_7, x_canF, cal_v, ka, e_224_11, d00, cond_true, e_224_44]
theorem t_28 {L kk : Nat} {I : Nat → Nat → Int32} {J : Nat → Nat → Int64} {D : Nat → Nat → UInt64} (v : Int32) (h : Inv L kk I J D) (sc : ScOK v I) : Turn L kk 1775 v I J D := by
  obtain ⟨x, hx1⟩ : ∃ q, I 1000002 (v + 1).toNatClampNeg = q := ⟨_, rfl⟩
  obtain ⟨y, hx2⟩ : ∃ q, I 1000002 (v + 2).toNatClampNeg = q := ⟨_, rfl⟩
  obtain ⟨z, hx3⟩ : ∃ q, I 1000002 (v + 3).toNatClampNeg = q := ⟨_, rfl⟩
  obtain ⟨I1, qq, hcase⟩ := a_28 (J := J) (D := D) (inv_to h) x y z
  have q1 : I1 iSCL 0 = I iSCL 0 := by rw [qq iSCL (by decide)]
  have q2 := qq 1000002 (by decide)
  rcases hcase with ⟨r, e1, nx⟩ | ⟨E, c, hE, e1, nx⟩
  · obtain ⟨I2, e2, q3, i2⟩ := nx (upsL J 335 0 r.toInt64) D I1 MPt.z
    exact tk_28 sc hx1 hx2 hx3 e1 q1 q2 e2 q3 upsL_s (inv_of h i2)
  · obtain ⟨s, I2, e2, q3, i2⟩ := nx J D I1 MPt.z
    rcases hE with ⟨rfl, rfl⟩ | ⟨rfl, rfl⟩ | ⟨rfl, rfl⟩
    · exact te_28_2 sc hx1 hx2 hx3 e1 q1 q2 e2 q3 (inv_of h i2)
    · exact te_28_1 sc hx1 hx2 hx3 e1 q1 q2 e2 q3 (inv_of h i2)
    · exact te_28_0 sc hx1 hx2 hx3 e1 q1 q2 e2 q3 (inv_of h i2)
