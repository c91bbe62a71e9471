/-! setZone, read, noReading -/
section ZN
variable {I : Nat → Nat → Int32} {J : Nat → Nat → Int64} {D : Nat → Nat → UInt64}
theorem x_zoneT {v : Int32} (h : 0 ≤ v ∧ v ≤ 7) : ex (227, 0, [.int v], [], mm I J D) = some (.inl (some (.int 1)), mm I J D) := by
  rw [e_227_0, x_inT h, cal_v, ka, e_227_7, decide_eq_true (Or.inr rfl), cond_true]
theorem x_zoneF {v : Int32} (h : ¬ (0 ≤ v ∧ v ≤ 7)) : ex (227, 0, [.int v], [], mm I J D) = some (.inl (some (.int 0)), mm I J D) := by
  rw [e_227_0, x_inF h, cal_v, ka, e_227_7, decide_eq_true (Or.inl rfl), cond_true]
theorem x_yearT {v : Int32} (h : 0 ≤ v ∧ v ≤ 9) : ex (228, 0, [.int v], [], mm I J D) = some (.inl (some (.int 1)), mm I J D) := by
  rw [e_228_0, x_inT h, cal_v, ka, e_228_7, decide_eq_true (Or.inr rfl), cond_true]
theorem x_yearF {v : Int32} (h : ¬ (0 ≤ v ∧ v ≤ 9)) : ex (228, 0, [.int v], [], mm I J D) = some (.inl (some (.int 0)), mm I J D) := by
  rw [e_228_0, x_inF h, cal_v, ka, e_228_7, decide_eq_true (Or.inl rfl), cond_true]
theorem le_pred {v : Int32} {b : Nat} {B B1 : Int32} (hB : B = nI (b + 1)) (hB1 : B1 = nI b) (hb : b < 1000) : (0 ≤ v ∧ v < B) ↔ (0 ≤ v ∧ v ≤ B1) := by
  subst hB; subst hB1
  refine and_congr_right fun h0 => ?_
  rw [Int32.lt_iff_toInt_lt, Int32.le_iff_toInt_le, nI_toInt (by omega), nI_toInt (by omega)]
  omega
theorem x_at8 {z y : Nat} (hz : z < 8) (hy : y < 10) : ex (229, 0, [.int (nI z), .int (nI y)], [], mm I J D) = some (.inl (some (.int (nI (8 * y + z)))), mm I J D) := by
  rw [e_229_0, show (8 : Int32) * nI y = nI (8 * y) from pk_mul 8 y, nI_add]
theorem c_at10 {z y : Nat} : nI z * 10 + nI y = nI (10 * z + y) := by
  rw [show nI z * 10 = nI (z * 10) from pk_mul z 10, nI_add, Nat.mul_comm]
theorem c_rd {z y : Nat} (hz : z < 8) (hy : y < 10) : ex (64, 0, [.ref 20, .int (nI z), .int (nI y)], [], mm I J D) = some (.inl (some (.int (I 23 (10 * z + y)))), mm I J D) := by
  rw [e_64_0, c_at10, inb_n (by omega) (by decide), cond_true, nI_clamp (by omega)]
theorem c_wr {z y : Nat} {x : Int32} (hz : z < 8) (hy : y < 10) : ex (65, 0, [.ref 20, .int (nI z), .int (nI y), .int x], [], mm I J D) = some (.inl none, mm (ups I 23 (10 * z + y) x) J D) := by
  rw [e_65_0, c_at10, inb_n (by omega) (by decide), cond_true, nI_clamp (by omega)]
/-- readings of a year -/
def rdN (f : Nat → Int32) (y : Nat) : Nat → Nat := cntN (fun z => decide (f (10 * z + y) ≠ 1000))
theorem cnt_le (f : Nat → Bool) : ∀ n, cntN f n ≤ n
  | 0 => Nat.le_refl 0
  | n + 1 => by
    have := cnt_le f n
    show cntN f n + _ ≤ n + 1
    cases f n <;> simp <;> omega
theorem c_rdsl {y : Nat} (hy : y < 10) : ∀ (r k c : Nat), k + r = 8 → ex (66, 4, [.ref 20, .int (nI y), .int (nI (rdN (I 23) y k)), .int (nI k)], [], mm I J D) = some (.inl (some (.int (nI (rdN (I 23) y 8)))), mm I J D)
  | 0, k, c, h => by
    have : k = 8 := by omega
    subst this
    rw [e_66_4, decide_eq_true (show (8 : Int32) ≤ nI 8 by decide), cond_true, e_66_31]
  | r + 1, k, c, h => by
    have ih := c_rdsl hy r (k + 1) c (by omega)
    rw [e_66_4, decide_eq_false (show ¬ (8 : Int32) ≤ nI k from nI_ge (a := k) (b := 8) (by omega) (by decide)), cond_false, e_66_10, c_rd (by omega) hy, cal_v, ka, e_66_16]
    have hs : rdN (I 23) y (k + 1) = rdN (I 23) y k + bif decide (I 23 (10 * k + y) ≠ 1000) then 1 else 0 := rfl
    by_cases hk : I 23 (10 * k + y) = 1000
    · rw [decide_eq_true hk, cond_true, e_66_25, nI_1]
      rw [hs, decide_eq_false (show ¬ I 23 (10 * k + y) ≠ 1000 from fun q => q hk)] at ih
      exact ih
    · rw [decide_eq_false hk, cond_false, e_66_22, nI_1, e_66_25, nI_1]
      rw [hs, decide_eq_true hk] at ih
      exact ih
theorem c_rds {y : Nat} (hy : y < 10) : ex (66, 0, [.ref 20, .int (nI y), dv, dv], [], mm I J D) = some (.inl (some (.int (nI (rdN (I 23) y 8)))), mm I J D) := by
  rw [e_66_0]
  exact c_rdsl hy 8 0 0 rfl
/-- the model's count -/
theorem m_rdsl {y : Nat} (hy : y < 10) {f : Nat → Int32} (hf : ∀ z, z < 8 → (f (10 * z + y) = 1000 ∧ I 317 (640 + 8 * y + z) = 0) ∨ (f (10 * z + y) ≠ 1000 ∧ I 317 (640 + 8 * y + z) = 1)) : ∀ (r k c : Nat), k + r = 8 → ex (231, 4, [.ref 316, .int (nI y), .int (nI (rdN f y k)), .int (nI k)], [], mm I J D) = some (.inl (some (.int (nI (rdN f y 8)))), mm I J D)
  | 0, k, c, h => by
    have : k = 8 := by omega
    subst this
    rw [e_231_4, decide_eq_true (show (8 : Int32) ≤ nI 8 by decide), cond_true, e_231_33]
  | r + 1, k, c, h => by
    have ih := m_rdsl hy hf r (k + 1) c (by omega)
    have hs : rdN f y (k + 1) = rdN f y k + bif decide (f (10 * k + y) ≠ 1000) then 1 else 0 := rfl
    rw [e_231_4, decide_eq_false (show ¬ (8 : Int32) ≤ nI k from nI_ge (a := k) (b := 8) (by omega) (by decide)), cond_false, e_231_10, x_at8 (by omega) hy, cal_v, ka, e_231_23, show (640 : Int32) + nI (8 * y + k) = nI (640 + 8 * y + k) by rw [show (640 : Int32) = nI 640 from rfl, nI_add, Nat.add_assoc], inb_n (by omega) (by decide), cond_true, nI_clamp (by omega), nI_1]
    rcases hf k (by omega) with ⟨q1, q2⟩ | ⟨q1, q2⟩
    · rw [q2, show nI (rdN f y k) + 0 = nI (rdN f y k) from nI_add _ 0]
      rw [hs, decide_eq_false (show ¬ f (10 * k + y) ≠ 1000 from fun q => q q1)] at ih
      exact ih
    · rw [q2, nI_1]
      rw [hs, decide_eq_true q1] at ih
      exact ih
theorem m_rds {y : Nat} (hy : y < 10) {f : Nat → Int32} (hf : ∀ z, z < 8 → (f (10 * z + y) = 1000 ∧ I 317 (640 + 8 * y + z) = 0) ∨ (f (10 * z + y) ≠ 1000 ∧ I 317 (640 + 8 * y + z) = 1)) : ex (231, 0, [.ref 316, .int (nI y), dv, dv], [], mm I J D) = some (.inl (some (.int (nI (rdN f y 8)))), mm I J D) := by
  rw [e_231_0]
  exact m_rdsl hy hf 8 0 0 rfl
theorem m_hasT {z y : Nat} (hz : z < 8) (hy : y < 10) (h : I 317 (640 + 8 * y + z) = 1) : ex (230, 0, [.ref 316, .int (nI z), .int (nI y)], [], mm I J D) = some (.inl (some (.int 1)), mm I J D) := by
  rw [e_230_0, x_at8 hz hy, cal_v, ka, e_230_12, show (640 : Int32) + nI (8 * y + z) = nI (640 + 8 * y + z) by rw [show (640 : Int32) = nI 640 from rfl, nI_add, Nat.add_assoc], inb_n (by omega) (by decide), cond_true, nI_clamp (by omega), h, decide_eq_false (by decide), cond_false, e_230_18, e_230_23, decide_eq_true (Or.inr rfl), cond_true]
theorem m_hasF {z y : Nat} (hz : z < 8) (hy : y < 10) (h : I 317 (640 + 8 * y + z) = 0) : ex (230, 0, [.ref 316, .int (nI z), .int (nI y)], [], mm I J D) = some (.inl (some (.int 0)), mm I J D) := by
  rw [e_230_0, x_at8 hz hy, cal_v, ka, e_230_12, show (640 : Int32) + nI (8 * y + z) = nI (640 + 8 * y + z) by rw [show (640 : Int32) = nI 640 from rfl, nI_add, Nat.add_assoc], inb_n (by omega) (by decide), cond_true, nI_clamp (by omega), h, decide_eq_true (by decide), cond_true, e_230_22, e_230_23, decide_eq_true (Or.inl rfl), cond_true]
theorem m_val {z y : Nat} (hz : z < 8) (hy : y < 10) : ex (236, 0, [.ref 316, .int (nI z), .int (nI y)], [], mm I J D) = some (.inl (some (.int (I 317 (720 + 8 * y + z)))), mm I J D) := by
  rw [e_236_0, x_at8 hz hy, cal_v, ka, e_236_12, show (720 : Int32) + nI (8 * y + z) = nI (720 + 8 * y + z) by rw [show (720 : Int32) = nI 720 from rfl, nI_add, Nat.add_assoc], inb_n (by omega) (by decide), cond_true, nI_clamp (by omega)]
end ZN
/-- stakes: the same in both -/
theorem inv_sta {kk : Nat} {I : Nat → Nat → Int32} (h : PgRel kk (pgF I 1) (I 317)) : (∀ z, z < 8 → (I 317 (624 + z) = I 21 z ∧ rg 1 99 (I 21 z)) ∧ I 317 (632 + z) = I 22 z ∧ rg 0 3 (I 22 z)) ∧
    ∀ z y, z < 8 → y < 10 → (I 23 (10 * z + y) = 1000 ∧ I 317 (640 + 8 * y + z) = 0) ∨ (rg (-999) 999 (I 23 (10 * z + y)) ∧ I 317 (640 + 8 * y + z) = 1 ∧ I 317 (720 + 8 * y + z) = I 23 (10 * z + y)) := by
  have s := h.2.2.2.2.2.1
  refine ⟨fun z hz => ?_, fun z y hz hy => ?_⟩
  · have := s.1 z hz
    rw [nrw_at (by omega), nrw_at (by omega), nrm_at (show rl 20 z = true from Nat.blt_eq.mpr hz), nrm_at (show rl 21 z = true from Nat.blt_eq.mpr hz)] at this
    exact this
  · have := s.2 z y hz hy
    rw [nrw_at (by omega), nrw_at (by omega), nrm_at (show rl 22 (10 * z + y) = true from Nat.blt_eq.mpr (show 10 * z + y < 80 by omega))] at this
    exact this
theorem ne1000 {x : Int32} (h : rg (-999) 999 x) : x ≠ 1000 := by
  rintro rfl
  exact absurd h.2 (by decide)
theorem sta_f {kk : Nat} {I : Nat → Nat → Int32} (h : PgRel kk (pgF I 1) (I 317)) {y : Nat} (hy : y < 10) : ∀ z, z < 8 → (I 23 (10 * z + y) = 1000 ∧ I 317 (640 + 8 * y + z) = 0) ∨ (I 23 (10 * z + y) ≠ 1000 ∧ I 317 (640 + 8 * y + z) = 1) := fun z hz => by
  rcases (inv_sta h).2 z y hz hy with ⟨q1, q2⟩ | ⟨q1, q2, -⟩
  · exact Or.inl ⟨q1, q2⟩
  · exact Or.inr ⟨ne1000 q1, q2⟩
