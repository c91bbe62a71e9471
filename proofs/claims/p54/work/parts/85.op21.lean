/-! tie, untie -/
theorem tx_congr {n m : Nat} {ti tj ti' tj' : Nat → Int32} (h : TX n m ti tj) (h16 : n ≤ 16 ∧ m ≤ 16) (h1 : ∀ k, k < 16 → ti' k = ti k) (h2 : ∀ k, k < 16 → tj' k = tj k) : TX n m ti' tj' := by
  obtain ⟨a, b, c⟩ := h
  refine ⟨fun k hk => ?_, fun j hj => ?_, fun k j hkj hj => ?_⟩
  · rcases a k hk with q | ⟨j, q1, q2, q3⟩
    · exact Or.inl (by rw [h1 k (by omega)]; exact q)
    · exact Or.inr ⟨j, q1, by rw [h1 k (by omega)]; exact q2, by rw [h2 j (by omega)]; exact q3⟩
  · rcases b j hj with q | ⟨k, q1, q2, q3⟩
    · exact Or.inl (by rw [h2 j (by omega)]; exact q)
    · exact Or.inr ⟨k, q1, by rw [h2 j (by omega)]; exact q2, by rw [h1 k (by omega)]; exact q3⟩
  · rw [h1 k (by omega), h1 j (by omega)]; exact c k j hkj hj
theorem inv_tie {kk : Nat} {I : Nat → Nat → Int32} (h : PgRel kk (pgF I 1) (I 317)) {n m : Nat} (hn : n ≤ 16) (hm : m ≤ 16) (cn : I 10 4 = nI n) (cm : I 15 4 = nI m) : TX n m (I 13) (I 18) := by
  have t := tx_to (n := n) (m := m) h.2.2.2.1.2.2 (by rw [nrm_at (by rfl)]; show rN (I 10 4) = n; rw [cn, rN_nI (by omega)]) (by rw [nrm_at (by rfl)]; show rN (I 15 4) = m; rw [cm, rN_nI (by omega)])
  exact tx_congr t ⟨hn, hm⟩ (fun k hk => (nrm_at (F := pgF I 1) (show rl 12 k = true from Nat.blt_eq.mpr hk)).symm) (fun k hk => (nrm_at (F := pgF I 1) (show rl 17 k = true from Nat.blt_eq.mpr hk)).symm)
def crB (ti : Nat → Int32) (f s k : Nat) : Bool := decide (ti k ≠ -1) && (decide (k < f) != decide (ti k < nI s))
def crA (ti : Nat → Int32) (f s : Nat) : Nat → Nat → Bool
  | 0, _ => false
  | r + 1, k => bif crB ti f s k then true else crA ti f s r (k + 1)
theorem crA_s {ti : Nat → Int32} {f s : Nat} : ∀ {r k : Nat}, crA ti f s r k = false → ∀ j, k ≤ j → j < k + r → crB ti f s j = false
  | 0, k, _, j, h1, h2 => by omega
  | r + 1, k, h, j, h1, h2 => by
    unfold crA at h
    cases hc : crB ti f s k with
    | true => rw [hc] at h; cases h
    | false =>
      rw [hc] at h
      by_cases hjk : j = k
      · subst hjk; exact hc
      · exact crA_s (r := r) (k := k + 1) h j (by omega) (by omega)
theorem crB_f {ti : Nat → Int32} {f s k : Nat} (h : crB ti f s k = false) (h1 : ti k ≠ -1) : k < f ↔ ti k < nI s := by
  unfold crB at h
  rw [decide_eq_true h1, Bool.true_and] at h
  by_cases a : k < f <;> by_cases b : ti k < nI s
  · exact ⟨fun _ => b, fun _ => a⟩
  · rw [decide_eq_true a, decide_eq_false b] at h; cases h
  · rw [decide_eq_false a, decide_eq_true b] at h; cases h
  · exact ⟨fun q => absurd q a, fun q => absurd q b⟩
theorem crB_v {ti : Nat → Int32} {f s k : Nat} (h1 : ti k ≠ -1) : crB ti f s k = (decide (k < f) != decide (ti k < nI s)) := by
  unfold crB; rw [decide_eq_true h1, Bool.true_and]
section TI
variable {I : Nat → Nat → Int32} {J : Nat → Nat → Int64} {D : Nat → Nat → UInt64}
theorem c_cross {n f s : Nat} (hn : I 10 4 = nI n) (h16 : n ≤ 16) (hf : f < 16) (hs : s < 16) : ∀ r k, k + r = n → ex (46, 2, [.ref 1, .int (nI f), .int (nI s), .int (nI k), dv], [], mm I J D) = some (.inl (some (.int (bI (crA (I 13) f s r k)))), mm I J D)
  | 0, k, h => by
    have : k = n := by omega
    subst this
    rw [e_46_2, hn, decide_eq_true (show nI k ≤ nI k from (nI_leI (by omega) (by omega)).mpr (Nat.le_refl _)), cond_true, e_46_62]
    rfl
  | r + 1, k, h => by
    have ih := c_cross hn h16 hf hs r (k + 1) (by omega)
    have hcr : crA (I 13) f s (r + 1) k = bif crB (I 13) f s k then true else crA (I 13) f s r (k + 1) := rfl
    have nxt : crB (I 13) f s k = false → ex (46, 56, [.ref 1, .int (nI f), .int (nI s), .int (nI k), dv], [], mm I J D) = some (.inl (some (.int (bI (crA (I 13) f s (r + 1) k)))), mm I J D) := fun q => by
      rw [hcr, q, cond_false, e_46_56, nI_1, ih]
    have bad : crB (I 13) f s k = true → ex (46, 54, [dv, dv, dv, dv, dv], [], mm I J D) = some (.inl (some (.int (bI (crA (I 13) f s (r + 1) k)))), mm I J D) := fun q => by
      rw [hcr, q, cond_true, e_46_54]; rfl
    rw [e_46_2, hn, decide_eq_false (show ¬ nI n ≤ nI k from nI_ge (a := k) (b := n) (by omega) (by omega)), cond_false, e_46_13, inb_n (by omega) (by decide), cond_true, nI_clamp (by omega)]
    by_cases hk : I 13 k = -1
    · rw [decide_eq_true hk, cond_true]
      exact nxt (by unfold crB; rw [decide_eq_false (fun q => q hk)]; rfl)
    · rw [decide_eq_false hk, cond_false, e_46_30]
      have hv := crB_v (f := f) (s := s) hk
      by_cases h1 : k < f
      · rw [decide_eq_false (show ¬ nI f ≤ nI k from nI_ge (a := k) (b := f) h1 (by omega)), cond_false, e_46_35, e_46_40]
        rw [decide_eq_true h1] at hv
        by_cases h2 : I 13 k < nI s
        · rw [decide_eq_true h2] at hv
          rw [decide_eq_false (Int32.not_le.mpr h2), cond_false, e_46_46, e_46_51, decide_eq_true rfl, cond_true, nxt hv]
        · rw [decide_eq_false h2] at hv
          rw [decide_eq_true (Int32.not_lt.mp h2), cond_true, e_46_50, e_46_51, decide_eq_false (by decide), cond_false, bad hv]
      · rw [decide_eq_true (show nI f ≤ nI k from (nI_leI (by omega) (by omega)).mpr (by omega)), cond_true, e_46_39, e_46_40]
        rw [decide_eq_false h1] at hv
        by_cases h2 : I 13 k < nI s
        · rw [decide_eq_true h2] at hv
          rw [decide_eq_false (Int32.not_le.mpr h2), cond_false, e_46_46, e_46_51, decide_eq_false (by decide), cond_false, bad hv]
        · rw [decide_eq_false h2] at hv
          rw [decide_eq_true (Int32.not_lt.mp h2), cond_true, e_46_50, e_46_51, decide_eq_true rfl, cond_true, nxt hv]
theorem m_cross {n f s : Nat} {ti : Nat → Int32} (hn : I 317 491 = nI n) (h16 : n ≤ 16) (hf : f < 16) (hs : s < 16) (ht : ∀ k, k < n → I 317 (589 + 16 * 0 + k) = ti k) : ∀ r k, k + r = n → ex (204, 2, [.ref 316, .int (nI f), .int (nI s), .int (nI k), dv], [], mm I J D) = some (.inl (some (.int (bI (crA ti f s r k)))), mm I J D)
  | 0, k, h => by
    have : k = n := by omega
    subst this
    rw [e_204_2, hn, decide_eq_true (show nI k ≤ nI k from (nI_leI (by omega) (by omega)).mpr (Nat.le_refl _)), cond_true, e_204_60]
    rfl
  | r + 1, k, h => by
    have ih := m_cross hn h16 hf hs ht r (k + 1) (by omega)
    have hcr : crA ti f s (r + 1) k = bif crB ti f s k then true else crA ti f s r (k + 1) := rfl
    have nxt : crB ti f s k = false → ex (204, 54, [.ref 316, .int (nI f), .int (nI s), .int (nI k), dv], [], mm I J D) = some (.inl (some (.int (bI (crA ti f s (r + 1) k)))), mm I J D) := fun q => by
      rw [hcr, q, cond_false, e_204_54, nI_1, ih]
    have bad : crB ti f s k = true → ex (204, 52, [dv, dv, dv, dv, dv], [], mm I J D) = some (.inl (some (.int (bI (crA ti f s (r + 1) k)))), mm I J D) := fun q => by
      rw [hcr, q, cond_true, e_204_52]; rfl
    rw [e_204_2, hn, decide_eq_false (show ¬ nI n ≤ nI k from nI_ge (a := k) (b := n) (by omega) (by omega)), cond_false, e_204_14, show (.int 0 : Value) = .int (nI 0) from rfl, m_tie (i := 0) (by decide) (by omega), cal_v, ka, e_204_20, ht k (by omega)]
    by_cases hk : ti k = -1
    · rw [decide_eq_true hk, cond_true]
      exact nxt (by unfold crB; rw [decide_eq_false (fun q => q hk)]; rfl)
    · rw [decide_eq_false hk, cond_false, e_204_28]
      have hv := crB_v (f := f) (s := s) hk
      by_cases h1 : k < f
      · rw [decide_eq_false (show ¬ nI f ≤ nI k from nI_ge (a := k) (b := f) h1 (by omega)), cond_false, e_204_33, e_204_38]
        rw [decide_eq_true h1] at hv
        by_cases h2 : ti k < nI s
        · rw [decide_eq_true h2] at hv
          rw [decide_eq_false (Int32.not_le.mpr h2), cond_false, e_204_44, e_204_49, decide_eq_true rfl, cond_true, nxt hv]
        · rw [decide_eq_false h2] at hv
          rw [decide_eq_true (Int32.not_lt.mp h2), cond_true, e_204_48, e_204_49, decide_eq_false (by decide), cond_false, bad hv]
      · rw [decide_eq_true (show nI f ≤ nI k from (nI_leI (by omega) (by omega)).mpr (by omega)), cond_true, e_204_37, e_204_38]
        rw [decide_eq_false h1] at hv
        by_cases h2 : ti k < nI s
        · rw [decide_eq_true h2] at hv
          rw [decide_eq_false (Int32.not_le.mpr h2), cond_false, e_204_44, e_204_49, decide_eq_false (by decide), cond_false, bad hv]
        · rw [decide_eq_false h2] at hv
          rw [decide_eq_true (Int32.not_lt.mp h2), cond_true, e_204_48, e_204_49, decide_eq_true rfl, cond_true, nxt hv]
theorem c_ties {n : Nat} (hn : I 10 4 = nI n) (h16 : n ≤ 16) : ∀ r k, k + r = n → ex (56, 4, [.ref 10, .int (nI (cntN (fun k => decide (I 13 k ≠ -1)) k)), .int (nI k)], [], mm I J D) = some (.inl (some (.int (nI (cntN (fun k => decide (I 13 k ≠ -1)) n)))), mm I J D)
  | 0, k, h => by
    have : k = n := by omega
    subst this
    rw [e_56_4, hn, decide_eq_true (show nI k ≤ nI k from (nI_leI (by omega) (by omega)).mpr (Nat.le_refl _)), cond_true, e_56_31]
  | r + 1, k, h => by
    have ih := c_ties hn h16 r (k + 1) (by omega)
    have hs : cntN (fun k => decide (I 13 k ≠ -1)) (k + 1) = cntN (fun k => decide (I 13 k ≠ -1)) k + bif decide (I 13 k ≠ -1) then 1 else 0 := rfl
    rw [e_56_4, hn, decide_eq_false (show ¬ nI n ≤ nI k from nI_ge (a := k) (b := n) (by omega) (by omega)), cond_false, e_56_12, inb_n (by omega) (by decide), cond_true, nI_clamp (by omega)]
    by_cases hk : I 13 k = -1
    · rw [hs, decide_eq_false (show ¬ I 13 k ≠ -1 from fun q => q hk), cond_false] at ih
      rw [decide_eq_true hk, cond_true, e_56_25, nI_1]
      exact ih
    · rw [hs, decide_eq_true hk, cond_true] at ih
      rw [decide_eq_false hk, cond_false, e_56_22, nI_1, e_56_25, nI_1]
      exact ih
theorem m_ties {n : Nat} {ti : Nat → Int32} (hn : I 317 491 = nI n) (h16 : n ≤ 16) (ht : ∀ k, k < n → I 317 (589 + 16 * 0 + k) = ti k) : ∀ r k, k + r = n → ex (203, 4, [.ref 316, .int (nI (cntN (fun k => decide (ti k ≠ -1)) k)), .int (nI k)], [], mm I J D) = some (.inl (some (.int (nI (cntN (fun k => decide (ti k ≠ -1)) n)))), mm I J D)
  | 0, k, h => by
    have : k = n := by omega
    subst this
    rw [e_203_4, hn, decide_eq_true (show nI k ≤ nI k from (nI_leI (by omega) (by omega)).mpr (Nat.le_refl _)), cond_true, e_203_40]
  | r + 1, k, h => by
    have ih := m_ties hn h16 ht r (k + 1) (by omega)
    have hs : cntN (fun k => decide (ti k ≠ -1)) (k + 1) = cntN (fun k => decide (ti k ≠ -1)) k + bif decide (ti k ≠ -1) then 1 else 0 := rfl
    rw [e_203_4, hn, decide_eq_false (show ¬ nI n ≤ nI k from nI_ge (a := k) (b := n) (by omega) (by omega)), cond_false, e_203_16, show (.int 0 : Value) = .int (nI 0) from rfl, m_tie (i := 0) (by decide) (by omega), cal_v, ka, e_203_23, ht k (by omega)]
    by_cases hk : ti k = -1
    · rw [hs, decide_eq_false (show ¬ ti k ≠ -1 from fun q => q hk), cond_false] at ih
      rw [decide_eq_false (show ¬ ti k ≠ -1 from fun q => q hk), cond_false, e_203_27, e_203_32, nI_1, show nI (cntN (fun k => decide (ti k ≠ -1)) k) + 0 = nI (cntN (fun k => decide (ti k ≠ -1)) k) from nI_add _ 0]
      exact ih
    · rw [hs, decide_eq_true hk, cond_true] at ih
      rw [decide_eq_true hk, cond_true, e_203_31, e_203_32, nI_1, nI_1]
      exact ih
end TI
theorem t_21 {L kk : Nat} {I : Nat → Nat → Int32} {J : Nat → Nat → Int64} {D : Nat → Nat → UInt64} (v : Int32) (h : Inv L kk I J D) (sc : ScOK v I) : Turn L kk 1413 v I J D := by
  obtain ⟨x, hx1⟩ : ∃ q, I 1000002 (v + 1).toNatClampNeg = q := ⟨_, rfl⟩
  obtain ⟨y, hx2⟩ : ∃ q, I 1000002 (v + 2).toNatClampNeg = q := ⟨_, rfl⟩
  obtain ⟨n, hn, cn, wn, hk, -, -⟩ := inv_row h.2.1 (i := 0) (by decide)
  obtain ⟨m, hm, cm, wm, hk2, -, -⟩ := inv_row h.2.1 (i := 1) (by decide)
  have cn : I 10 4 = nI n := cn
  have cm : I 15 4 = nI m := cm
  have wn : I 317 491 = nI n := wn
  have wm : I 317 492 = nI m := wm
  by_cases hx : 0 ≤ x ∧ x < nI n
  · obtain ⟨f, hf, rfl⟩ := ix_of (m := n) (nI_toInt (by omega)) hx
    have hx' : 0 ≤ nI f ∧ nI f < I 10 4 := by rw [cn]; exact hx
    have cb0 : ex (150, 0, [.ref 0, .int 0, .int (nI f)], [], mm I J D) = some (.inl none, mm I J D) := c_bandT0 hx'
    have mb0 : ∀ I' J2, I' 317 491 = nI n → ex (199, 0, [.ref 316, .int 0, .int (nI f)], [], mm I' J2 D) = some (.inl (some (.int 1)), mm I' J2 D) := fun I' J2 q => m_bandT (i := 0) (by decide) q hn hx
    by_cases hy : 0 ≤ y ∧ y < nI m
    · obtain ⟨s, hs, rfl⟩ := ix_of (m := m) (nI_toInt (by omega)) hy
      have hy' : 0 ≤ nI s ∧ nI s < I 15 4 := by rw [cm]; exact hy
      have cb1 : ex (150, 0, [.ref 0, .int 1, .int (nI s)], [], mm I J D) = some (.inl none, mm I J D) := c_bandT1 hy'
      have mb1 : ∀ I' J2, I' 317 492 = nI m → ex (199, 0, [.ref 316, .int 1, .int (nI s)], [], mm I' J2 D) = some (.inl (some (.int 1)), mm I' J2 D) := fun I' J2 q => m_bandT (i := 1) (by decide) q hm hy
      have mt0 : ∀ I' J2, ex (202, 0, [.ref 316, .int 0, .int (nI f)], [], mm I' J2 D) = some (.inl (some (.int (I' 317 (589 + 16 * 0 + f)))), mm I' J2 D) := fun I' J2 => m_tie (i := 0) (by decide) (by omega)
      have mt1 : ∀ I' J2, ex (202, 0, [.ref 316, .int 1, .int (nI s)], [], mm I' J2 D) = some (.inl (some (.int (I' 317 (589 + 16 * 1 + s)))), mm I' J2 D) := fun I' J2 => m_tie (i := 1) (by decide) (by omega)
      have w0 : I 317 (589 + 16 * 0 + f) = I 13 f := (hk f hf).2.2.1
      have w1 : I 317 (589 + 16 * 1 + s) = I 18 s := (hk2 s hs).2.2.1
      have u : ∀ q, ups I 316 0 0 317 q = I 317 q := fun q => by rw [uI (by decide)]
      by_cases h1 : I 13 f = -1
      · by_cases h2 : I 18 s = -1
        · have cc := c_cross (J := J) (D := D) cn hn (show f < 16 by omega) (show s < 16 by omega) n 0 (by omega)
          have e46 : ex (46, 0, [.ref 1, .int (nI f), .int (nI s), dv, dv], [], mm I J D) = some (.inl (some (.int (bI (crA (I 13) f s n 0)))), mm I J D) := by rw [e_46_0]; exact cc
          have e204 : ∀ I' J2, (∀ q, I' 317 q = I 317 q) → ex (204, 0, [.ref 316, .int (nI f), .int (nI s), dv, dv], [], mm I' J2 D) = some (.inl (some (.int (bI (crA (I 13) f s n 0)))), mm I' J2 D) := fun I' J2 q => by
            rw [e_204_0]
            exact m_cross (by rw [q]; exact wn) hn (by omega) (by omega) (fun k hk3 => by rw [q]; exact (hk k hk3).2.2.1) n 0 (by omega)
          cases hc : crA (I 13) f s n 0 with
          | true =>
            rw [hc] at e46 e204
            have e46 : ex (46, 0, [.ref 1, .int (nI f), .int (nI s), dv, dv], [], mm I J D) = some (.inl (some (.int 1)), mm I J D) := e46
            have e204 : ∀ I' J2, (∀ q, I' 317 q = I 317 q) → ex (204, 0, [.ref 316, .int (nI f), .int (nI s), dv, dv], [], mm I' J2 D) = some (.inl (some (.int 1)), mm I' J2 D) := e204
            refine te_21_0 (s := 0) (I1 := I) (J1 := J) (D1 := D) (I2 := ups I 316 0 2) (J2 := J) (D2 := D) sc hx1 hx2 ?_ rfl rfl ?_ ?_ (inv_r h)
            · rw [e_111_0, cb0, cal_v, kn, e_111_6, cb1, cal_v, kn, e_111_12, inb_n (show f < 16 by omega) (by decide), cond_true, decide_eq_false (by rw [nI_clamp (by omega)]; exact fun q => q h1), cond_false, e_111_28, inb_n (show s < 16 by omega) (by decide), cond_true, decide_eq_true (by rw [nI_clamp (by omega)]; exact h2), cond_true, e_111_54, e46, cal_v, ka, e_111_63, d10, cond_false, e_111_66]
            · rw [e_205_0, mb0 _ _ wn, cal_v, ka, e_205_7, d10, cond_false, e_205_10, mb1 _ _ wm, cal_v, ka, e_205_16, d10, cond_false, e_205_19, e_205_24, x_canT, cal_v, ka, e_205_28, d10, cond_false, e_205_31, mt0, cal_v, ka, u, w0, e_205_38, decide_eq_false (fun q => q h1), cond_false, e_205_42, mt1, cal_v, ka, u, w1, e_205_48, decide_eq_false (fun q => q h2), cond_false, e_205_52, e204 _ _ u, cal_v, ka, e_205_58, d11, cond_true, e_205_65, e_205_66, x_canF, cal_v, ka, uu, e_205_70, d01, cond_false, e_205_73]
            · rw [uIs, uUs]
          | false =>
            rw [hc] at e46 e204
            have e46 : ex (46, 0, [.ref 1, .int (nI f), .int (nI s), dv, dv], [], mm I J D) = some (.inl (some (.int 0)), mm I J D) := e46
            have e204 : ∀ I' J2, (∀ q, I' 317 q = I 317 q) → ex (204, 0, [.ref 316, .int (nI f), .int (nI s), dv, dv], [], mm I' J2 D) = some (.inl (some (.int 0)), mm I' J2 D) := e204
            obtain ⟨I1, e1, lo, hi, nx⟩ := act_all (inv_to h) J D
            obtain ⟨ti, hti⟩ : ∃ ti, ti = upd (I 13) f (nI s) := ⟨_, rfl⟩
            obtain ⟨r, hr⟩ : ∃ r, r = nI (cntN (fun k => decide (ti k ≠ -1)) n) := ⟨_, rfl⟩
            obtain ⟨I4, e2, w4, r4, s4, fin⟩ := nx _ (cfar_ups (p := 18) (k := s) (v := nI f) (cfar_ups (p := 13) (k := f) (v := nI s) cfar_0 (by decide)) (by decide)) (upsL J 335 0 r.toInt64) D
            have u1 : ∀ q, ups (ups I1 13 f (nI s)) 18 s (nI f) 317 q = I 317 q := fun q => by rw [uI (by decide), uI (by decide), hi 317 (by decide)]
            have u2 : ∀ q, ups (ups (ups I1 13 f (nI s)) 18 s (nI f)) 316 0 0 317 q = I 317 q := fun q => by rw [uI (by decide), u1]
            have t13 : ups (ups I1 13 f (nI s)) 18 s (nI f) 13 = ti := by rw [uI (by decide), uIs, lo 13 (by decide) (by decide), hti]
            refine tk_21 (r := r) (I1 := ups (ups I1 13 f (nI s)) 18 s (nI f)) (J1 := J) (D1 := D) (I2 := ups (ups I4 317 (589 + f) (nI s)) 317 (605 + s) (nI f)) (J2 := upsL J 335 0 r.toInt64) (D2 := D) sc hx1 hx2 ?_ ?_ ?_ ?_ ?_ upsL_s ?_
            · have ct := c_ties (I := ups (ups I1 13 f (nI s)) 18 s (nI f)) (J := J) (D := D) (n := n) (by rw [uI (by decide), uI (by decide), lo 10 (by decide) (by decide)]; exact cn) hn n 0 (by omega)
              rw [t13, ← hr] at ct
              rw [e_111_0, cb0, cal_v, kn, e_111_6, cb1, cal_v, kn, e_111_12, inb_n (show f < 16 by omega) (by decide), cond_true, decide_eq_false (by rw [nI_clamp (by omega)]; exact fun q => q h1), cond_false, e_111_28, inb_n (show s < 16 by omega) (by decide), cond_true, decide_eq_true (by rw [nI_clamp (by omega)]; exact h2), cond_true, e_111_54, e46, cal_v, ka, e_111_63, d00, cond_true, e_111_76, e1, cal_v, kn, e_111_80, inb_n (show f < 16 by omega) (by decide), inb_n (show s < 16 by omega) (by decide), cond_true, cond_true, nI_clamp (n := f) (by omega), nI_clamp (n := s) (by omega), e_56_0, (show ex (56, 4, [.ref 10, .int 0, .int 0], [], mm _ J D) = _ from ct), cal_v, ka, e_111_116]
            · rw [uI (by decide), uI (by decide), hi _ (by decide)]
            · rw [uI (by decide), uI (by decide), hi _ (by decide)]
            · have mt := m_ties (I := ups (ups I4 317 (589 + f) (nI s)) 317 (605 + s) (nI f)) (J := upsL J 335 0 r.toInt64) (D := D) (n := n) (ti := ti) (by rw [uIs, uIs, uU (by omega), uU (by omega), w4]; exact wn) hn (fun k hk3 => by
                rw [uIs, uIs, uU (by omega), w4, hti]
                by_cases e : k = f
                · subst e; rw [uUs, uUs]
                · rw [uU (by omega), uU e]; exact (hk k hk3).2.2.1) n 0 (by omega)
              rw [← hr] at mt
              rw [e_205_0, mb0 _ _ ((u1 _).trans wn), cal_v, ka, e_205_7, d10, cond_false, e_205_10, mb1 _ _ ((u1 _).trans wm), cal_v, ka, e_205_16, d10, cond_false, e_205_19, e_205_24, x_canT, cal_v, ka, e_205_28, d10, cond_false, e_205_31, mt0, cal_v, ka, u2, w0, e_205_38, decide_eq_false (fun q => q h1), cond_false, e_205_42, mt1, cal_v, ka, u2, w1, e_205_48, decide_eq_false (fun q => q h2), cond_false, e_205_52, e204 _ _ u2, cal_v, ka, e_205_58, d01, cond_false, e_205_61, e_205_66, x_canT, cal_v, ka, uu, e_205_70, d11, cond_true, e_205_75, e2, cal_v, kn, e_205_79, show (589 : Int32) + nI f = nI (589 + f) from nI_add 589 f, show (605 : Int32) + nI s = nI (605 + s) from nI_add 605 s, inb_n (show 589 + f < 850 by omega) (by decide), inb_n (show 605 + s < 850 by omega) (by decide), cond_true, cond_true, nI_clamp (n := 589 + f) (by omega), nI_clamp (n := 605 + s) (by omega), e_203_0, (show ex (203, 4, [.ref 316, .int 0, .int 0], [], mm _ _ D) = _ from mt), cal_v, ka, e_205_105]
            · rw [uI (by decide), uI (by decide)]; exact r4
            · refine inv_of h (fin _ (mfar_ups (mfar_ups mfar_0 (by decide)) (by decide)) ?_)
              unfold PgRel
              rw [g_ups (o := 17) rfl (Nat.blt_eq.mpr (by omega)), g_ups (o := 12) rfl (Nat.blt_eq.mpr (by omega)), g_same lo, n_upd (by omega), n_upd (by omega), w4]
              refine pg_tie (n := n) (m := m) h.2.1 (by rw [nrm_at (by rfl)]; exact cn) (by rw [nrm_at (by rfl)]; exact cm) hn hm hf hs (by rw [nrm_at (show rl 12 f = true from Nat.blt_eq.mpr (by omega))]; exact h1) (by rw [nrm_at (show rl 17 s = true from Nat.blt_eq.mpr (by omega))]; exact h2) (fun k hk3 => ?_)
              rw [nrm_at (show rl 12 k = true from Nat.blt_eq.mpr (by omega))]
              exact fun q => crB_f (crA_s hc k (by omega) (by omega)) q
        · refine te_21_0 (s := 0) (I1 := I) (J1 := J) (D1 := D) (I2 := ups I 316 0 2) (J2 := J) (D2 := D) sc hx1 hx2 ?_ rfl rfl ?_ ?_ (inv_r h)
          · rw [e_111_0, cb0, cal_v, kn, e_111_6, cb1, cal_v, kn, e_111_12, inb_n (show f < 16 by omega) (by decide), cond_true, decide_eq_false (by rw [nI_clamp (by omega)]; exact fun q => q h1), cond_false, e_111_28, inb_n (show s < 16 by omega) (by decide), cond_true, decide_eq_false (by rw [nI_clamp (by omega)]; exact h2), cond_false, e_111_44]
          · rw [e_205_0, mb0 _ _ wn, cal_v, ka, e_205_7, d10, cond_false, e_205_10, mb1 _ _ wm, cal_v, ka, e_205_16, d10, cond_false, e_205_19, e_205_24, x_canT, cal_v, ka, e_205_28, d10, cond_false, e_205_31, mt0, cal_v, ka, u, w0, e_205_38, decide_eq_false (fun q => q h1), cond_false, e_205_42, mt1, cal_v, ka, u, w1, e_205_48, decide_eq_true (h2), cond_true, e_205_65, e_205_66, x_canF, cal_v, ka, uu, e_205_70, d01, cond_false, e_205_73]
          · rw [uIs, uUs]
      · refine te_21_0 (s := 0) (I1 := I) (J1 := J) (D1 := D) (I2 := ups I 316 0 2) (J2 := J) (D2 := D) sc hx1 hx2 ?_ rfl rfl ?_ ?_ (inv_r h)
        · rw [e_111_0, cb0, cal_v, kn, e_111_6, cb1, cal_v, kn, e_111_12, inb_n (show f < 16 by omega) (by decide), cond_true, decide_eq_true (by rw [nI_clamp (by omega)]; exact h1), cond_true, e_111_44]
        · rw [e_205_0, mb0 _ _ wn, cal_v, ka, e_205_7, d10, cond_false, e_205_10, mb1 _ _ wm, cal_v, ka, e_205_16, d10, cond_false, e_205_19, e_205_24, x_canT, cal_v, ka, e_205_28, d10, cond_false, e_205_31, mt0, cal_v, ka, u, w0, e_205_38, decide_eq_true (h1), cond_true, e_205_65, e_205_66, x_canF, cal_v, ka, uu, e_205_70, d01, cond_false, e_205_73]
        · rw [uIs, uUs]
    · have cb1 : ex (150, 0, [.ref 0, .int 1, .int y], [], mm I J D) = some (.inr (.inl 2), mm I J D) := c_bandF1 (by rw [cm]; exact hy)
      have mb1 : ex (199, 0, [.ref 316, .int 1, .int y], [], mm I J D) = some (.inl (some (.int 0)), mm I J D) := m_bandF (i := 1) (by decide) wm hm hy
      refine te_21_2 (s := 0) (I1 := I) (J1 := J) (D1 := D) (I2 := ups I 316 0 1) (J2 := J) (D2 := D) sc hx1 hx2 ?_ rfl rfl ?_ ?_ (inv_r h)
      · rw [e_111_0, cb0, cal_v, kn, e_111_6, cb1, cal_e]
      · rw [e_205_0, mb0 _ _ wn, cal_v, ka, e_205_7, d10, cond_false, e_205_10, mb1, cal_v, ka, e_205_16, d00, cond_true, e_205_23, e_205_24, x_canF, cal_v, ka, e_205_28, d00, cond_true, e_205_73]
      · rw [uIs, uUs]
  · have cb0 : ex (150, 0, [.ref 0, .int 0, .int x], [], mm I J D) = some (.inr (.inl 2), mm I J D) := c_bandF0 (by rw [cn]; exact hx)
    have mb0 : ex (199, 0, [.ref 316, .int 0, .int x], [], mm I J D) = some (.inl (some (.int 0)), mm I J D) := m_bandF (i := 0) (by decide) wn hn hx
    refine te_21_2 (s := 0) (I1 := I) (J1 := J) (D1 := D) (I2 := ups I 316 0 1) (J2 := J) (D2 := D) sc hx1 hx2 ?_ rfl rfl ?_ ?_ (inv_r h)
    · rw [e_111_0, cb0, cal_e]
    · rw [e_205_0, mb0, cal_v, ka, e_205_7, d00, cond_true, e_205_23, e_205_24, x_canF, cal_v, ka, e_205_28, d00, cond_true, e_205_73]
    · rw [uIs, uUs]
