/-! laying both rows: the model, leastPrice, bestWays, isSure -/
section MZ
variable {I : Nat → Nat → Int32} {J : Nat → Nat → Int64} {D : Nat → Nat → UInt64} {G : Nat → Nat → Int32} {n0 n1 : Nat} {b0 b1 : Int32}
theorem m_its (g : LayG G n0 n1) (tx : TX n0 n1 (G 13) (G 18)) (c : LayM G n0 n1 I) {k i j : Nat} (hk : k < 5) (hi : i ≤ n0) (hj : j ≤ n1) (hT : i + tk0 k ≤ n0 → j + tk1 k ≤ n1 → I 328 (18 * (i + tk0 k) + (j + tk1 k)) = encO 100000000 (PP G n0 n1 b0 b1 (i + tk0 k) (j + tk1 k)).1) :
    ex (216, 112, [.ref 316, .int b0, .int b1, .int (nI i), .int (nI j), dv, .int (nI k), dv, dv], [], mm I J D) = ex (216, 154, [.ref 316, .int b0, .int b1, .int (nI i), .int (nI j), dv, .int (nI k), dv, dv], [.int (encO 100000000 (whN (PP G n0 n1 b0 b1 (i + tk0 k) (j + tk1 k)).1 (okB G n0 n1 b0 b1 k i j) (spN G k i j)))], mm I J D) := by
  have hn := g.1
  have by_ := m_by (J := J) (D := D) g tx c (T := PP G n0 n1 b0 b1) (fun x y => PP_bd g x y) hk hi hj hT
  have bar := ok_bar (G := G) (b0 := b0) (b1 := b1) (j := j) hk hn hi
  have free : ¬ (k = 0 ∧ nI i = b0 ∧ nI j = b1) → ex (216, 133, [.ref 316, .int b0, .int b1, .int (nI i), .int (nI j), dv, .int (nI k), dv, dv], [.int 0], mm I J D) = ex (216, 154, [.ref 316, .int b0, .int b1, .int (nI i), .int (nI j), dv, .int (nI k), dv, dv], [.int (encO 100000000 (whN (PP G n0 n1 b0 b1 (i + tk0 k) (j + tk1 k)).1 (okB G n0 n1 b0 b1 k i j) (spN G k i j)))], mm I J D) := fun q => by
    rw [decide_eq_false q, Bool.not_false, Bool.and_true] at bar
    rw [e_216_133, d00, cond_true, e_216_145, by_, cal_v, ka, bar]
  by_cases q0 : k = 0
  · subst q0
    rw [e_216_112, decide_eq_false (show ¬ nI 0 ≠ 0 by decide), cond_false, e_216_117]
    by_cases q1 : nI i = b0
    · rw [decide_eq_false (fun w => w q1), cond_false, e_216_122]
      by_cases q2 : nI j = b1
      · rw [decide_eq_true (show (0 : Nat) = 0 ∧ nI i = b0 ∧ nI j = b1 from ⟨rfl, q1, q2⟩), Bool.not_true, Bool.and_false] at bar
        rw [decide_eq_false (fun w => w q2), cond_false, e_216_128, e_216_133, d10, cond_false, e_216_140, bar]; rfl
      · rw [decide_eq_true q2, cond_true, e_216_132]
        exact free (fun w => q2 w.2.2)
    · rw [decide_eq_true q1, cond_true, e_216_132]
      exact free (fun w => q1 w.2.1)
  · rw [e_216_112, decide_eq_true (show nI k ≠ 0 from fun w => q0 ((nI_eq (b := 0) (by omega) (by decide)).mp w)), cond_true, e_216_132]
    exact free (fun w => q0 w.1)
def LaidM (T : Nat → Nat → Option Nat × Int64) (n0 n1 i j : Nat) (I : Nat → Nat → Int32) (J : Nat → Nat → Int64) : Prop := ∀ x y, x ≤ n0 → y ≤ n1 → (i < x ∨ (i = x ∧ j < y)) → I 328 (18 * x + y) = encO 100000000 (T x y).1 ∧ J 329 (18 * x + y) = (T x y).2
theorem m_ck (g : LayG G n0 n1) (tx : TX n0 n1 (G 13) (G 18)) (c : LayM G n0 n1 I) {i j : Nat} (hi : i ≤ n0) (hj : j ≤ n1) (hL : LaidM (PP G n0 n1 b0 b1) n0 n1 i j I J) : ∀ r k, k + r = 5 → ∀ s, s = cellK G n0 n1 b0 b1 (PP G n0 n1 b0 b1) i j k → ex (216, 106, [.ref 316, .int b0, .int b1, .int (nI i), .int (nI j), dv, .int (nI k), dv, dv], [], mm (ups I 328 (18 * i + j) (encO 100000000 s.1)) (upsL J 329 (18 * i + j) s.2) D) = ex (216, 265, [.ref 316, .int b0, .int b1, .int (nI i), .int (nI j), dv, dv, dv, dv], [], mm (ups I 328 (18 * i + j) (encO 100000000 (cellK G n0 n1 b0 b1 (PP G n0 n1 b0 b1) i j 5).1)) (upsL J 329 (18 * i + j) (cellK G n0 n1 b0 b1 (PP G n0 n1 b0 b1) i j 5).2) D)
  | 0, k, h, s, hs => by
    have : k = 5 := by omega
    subst this
    rw [e_216_106, decide_eq_true (show (4 : Int32) < nI 5 by decide), cond_true, hs]
  | r + 1, k, h, s, hs => by
    have hn := g.1
    have hsB : Bnd 4100 s.1 := by rw [hs]; exact cellP_bd g i j k (by omega)
    have hwB := whP_bd (b0 := b0) (b1 := b1) g i j k (by omega)
    have hp := tk_pos (k := k)
    have t0 : tk0 k ≤ 2 := by unfold tk0; split <;> omega
    have t1 : tk1 k ≤ 2 := by unfold tk1; split <;> omega
    have ih := m_ck g tx c hi hj hL r (k + 1) (by omega) (cellK G n0 n1 b0 b1 (PP G n0 n1 b0 b1) i j (k + 1)) rfl
    have cs : cellK G n0 n1 b0 b1 (PP G n0 n1 b0 b1) i j (k + 1) = stW (whN (PP G n0 n1 b0 b1 (i + tk0 k) (j + tk1 k)).1 (okB G n0 n1 b0 b1 k i j) (spN G k i j)) (PP G n0 n1 b0 b1 (i + tk0 k) (j + tk1 k)).2 s := by rw [hs]; rfl
    have c2 : LayM G n0 n1 (ups I 328 (18 * i + j) (encO 100000000 s.1)) := c.go (by rw [uI (by decide)])
    have its := m_its (J := upsL J 329 (18 * i + j) s.2) (D := D) (b0 := b0) (b1 := b1) g tx c2 (k := k) (by omega) hi hj (fun q0 q1 => by
      rw [uIn (by omega)]
      exact (hL _ _ q0 q1 (by omega)).1)
    have hok : ∀ v, whN (PP G n0 n1 b0 b1 (i + tk0 k) (j + tk1 k)).1 (okB G n0 n1 b0 b1 k i j) (spN G k i j) = some v → i + tk0 k ≤ n0 ∧ j + tk1 k ≤ n1 := fun v hv => by
      cases e : okB G n0 n1 b0 b1 k i j with
      | true => exact (ok_r e).1
      | false => rw [e] at hv; cases hv
    have ix : 18 * i + j < 324 := by omega
    rw [e_216_106, decide_eq_false (show ¬ (4 : Int32) < nI k from nI_nlt (b := k) (a := 4) (by omega) (by decide)), cond_false, its, e_216_154, x_pa, cal_v, ka, e_216_168, inb_n ix (by decide), cond_true, nI_clamp (by omega), uIs, uUs]
    generalize hW : whN (PP G n0 n1 b0 b1 (i + tk0 k) (j + tk1 k)).1 (okB G n0 n1 b0 b1 k i j) (spN G k i j) = W at *
    cases W with
    | none =>
      rw [show stW none _ s = s from rfl] at cs
      rw [cs] at ih
      have le : encO 100000000 s.1 ≤ encO 100000000 none := by
        cases e : s.1 with
        | none => exact Int32.le_refl _
        | some v => exact (nI_leI (a := v) (b := 100000000) (by have := hsB v e; omega) (by decide)).mpr (by have := hsB v e; omega)
      rw [decide_eq_true le, cond_true, e_216_197, decide_eq_true (show encO 100000000 none = 100000000 from rfl), cond_true, e_216_259, nI_1]
      exact ih
    | some v =>
      have hv := hwB v rfl
      have rg := hok v rfl
      have hl := hL _ _ rg.1 rg.2 (by omega)
      have wy : ∀ z, upsL J 329 (18 * i + j) z 329 (18 * (i + tk0 k) + (j + tk1 k)) = (PP G n0 n1 b0 b1 (i + tk0 k) (j + tk1 k)).2 := fun z => by
        rw [uJn (by omega)]; exact hl.2
      have end_ : ∀ (p : Int32) (z : Int64), p = nI v → ex (216, 197, [.ref 316, .int b0, .int b1, .int (nI i), .int (nI j), dv, .int (nI k), dv, .int (nI v)], [], mm (ups I 328 (18 * i + j) p) (upsL J 329 (18 * i + j) z) D) = ex (216, 106, [.ref 316, .int b0, .int b1, .int (nI i), .int (nI j), dv, .int (nI (k + 1)), dv, dv], [], mm (ups I 328 (18 * i + j) p) (upsL J 329 (18 * i + j) (z + (PP G n0 n1 b0 b1 (i + tk0 k) (j + tk1 k)).2)) D) := fun p z hp => by
        rw [e_216_197, decide_eq_false (F8 (by omega)), cond_false, e_216_204, x_pa, cal_v, ka, e_216_216, inb_n ix (by decide), cond_true, nI_clamp (by omega), uIs, uUs, hp, decide_eq_false (fun w => w rfl), cond_false, e_216_220, x_pa, cal_v, ka, e_216_230, inb_n ix (by decide), cond_true, nI_clamp (by omega), uJs, m_tk0 (by omega), cal_v, ka, e_216_243, nI_add, m_tk1 (by omega), cal_v, ka, e_216_252, nI_add, x_pa, cal_v, ka, e_216_256, inb_n (show 18 * (i + tk0 k) + (j + tk1 k) < 324 by omega) (by decide), inb_n ix (by decide), cond_true, cond_true, nI_clamp (by omega), nI_clamp (by omega), wy, uuJ, e_216_259, nI_1]
      have new : ex (216, 172, [.ref 316, .int b0, .int b1, .int (nI i), .int (nI j), dv, .int (nI k), dv, .int (nI v)], [], mm (ups I 328 (18 * i + j) (encO 100000000 s.1)) (upsL J 329 (18 * i + j) s.2) D) = ex (216, 106, [.ref 316, .int b0, .int b1, .int (nI i), .int (nI j), dv, .int (nI (k + 1)), dv, dv], [], mm (ups I 328 (18 * i + j) (nI v)) (upsL J 329 (18 * i + j) (0 + (PP G n0 n1 b0 b1 (i + tk0 k) (j + tk1 k)).2)) D) := by
        rw [e_216_172, x_pa, cal_v, ka, e_216_182, inb_n ix (by decide), cond_true, nI_clamp (by omega), uu, x_pa, cal_v, ka, e_216_195, inb_n ix (by decide), cond_true, nI_clamp (by omega), uuJ]
        exact end_ _ _ rfl
      cases e : s.1 with
      | none =>
        have cs' : cellK G n0 n1 b0 b1 (PP G n0 n1 b0 b1) i j (k + 1) = (some v, 0 + (PP G n0 n1 b0 b1 (i + tk0 k) (j + tk1 k)).2) := by rw [cs]; unfold stW; rw [e]
        rw [cs'] at ih
        rw [e] at new
        rw [decide_eq_false (show ¬ encO 100000000 none ≤ encO 100000000 (some v) from nI_ge (a := v) (b := 100000000) (by omega) (by decide)), cond_false]
        exact new.trans ih
      | some b =>
        have hb := hsB b e
        have cs' : cellK G n0 n1 b0 b1 (PP G n0 n1 b0 b1) i j (k + 1) = if v < b then (some v, 0 + (PP G n0 n1 b0 b1 (i + tk0 k) (j + tk1 k)).2) else if v = b then (some b, s.2 + (PP G n0 n1 b0 b1 (i + tk0 k) (j + tk1 k)).2) else s := by rw [cs]; unfold stW; rw [e]
        rw [e] at new
        by_cases q : v < b
        · rw [if_pos q] at cs'
          rw [cs'] at ih
          rw [decide_eq_false (show ¬ encO 100000000 (some b) ≤ encO 100000000 (some v) from nI_ge q (by omega)), cond_false]
          exact new.trans ih
        · rw [if_neg q] at cs'
          rw [decide_eq_true (show encO 100000000 (some b) ≤ encO 100000000 (some v) from (nI_leI (by omega) (by omega)).mpr (by omega)), cond_true]
          by_cases q2 : v = b
          · rw [if_pos q2] at cs'
            rw [cs'] at ih
            subst q2
            exact (end_ _ _ rfl).trans ih
          · rw [if_neg q2] at cs'
            rw [cs', e] at ih
            rw [show encO 100000000 (some v) = nI v from rfl, e_216_197, decide_eq_false (F8 (by omega)), cond_false, e_216_204, x_pa, cal_v, ka, e_216_216, inb_n ix (by decide), cond_true, nI_clamp (by omega), uIs, uUs, decide_eq_true (show nI v ≠ encO 100000000 (some b) from fun w => q2 ((nI_eq (by omega) (by omega)).mp w)), cond_true, e_216_259, nI_1]
            exact ih
theorem m_cell (g : LayG G n0 n1) (tx : TX n0 n1 (G 13) (G 18)) (c : LayM G n0 n1 I) {i j : Nat} (hi : i ≤ n0) (hj : j ≤ n1) (hL : LaidM (PP G n0 n1 b0 b1) n0 n1 i j I J) : ex (216, 28, [.ref 316, .int b0, .int b1, .int (nI i), .int (nI j), dv, dv, dv, dv], [], mm I J D) = ex (216, 265, [.ref 316, .int b0, .int b1, .int (nI i), .int (nI j), dv, dv, dv, dv], [], mm (ups I 328 (18 * i + j) (encO 100000000 (PP G n0 n1 b0 b1 i j).1)) (upsL J 329 (18 * i + j) (PP G n0 n1 b0 b1 i j).2) D) := by
  have hn := g.1
  have l := m_ck (D := D) g tx c hi hj hL 5 0 (by omega) _ rfl
  rw [← PP_eq hn.1 hn.2 hi hj] at l
  have ix : 18 * i + j < 324 := by omega
  have e0 : ∀ s : Int32, ∀ x : Int32, ∀ y : Int64, ((s = 0 ∧ x = 100000000 ∧ y = 0) ∨ (s = 1 ∧ x = 0 ∧ y = 1)) → ex (216, 58, [.ref 316, .int b0, .int b1, .int (nI i), .int (nI j), dv, dv, dv, dv], [.int s], mm I J D) = ex (216, 106, [.ref 316, .int b0, .int b1, .int (nI i), .int (nI j), dv, .int (nI 0), dv, dv], [], mm (ups I 328 (18 * i + j) x) (upsL J 329 (18 * i + j) y) D) := fun s x y h => by
    rcases h with ⟨rfl, rfl, rfl⟩ | ⟨rfl, rfl, rfl⟩
    · rw [e_216_58, x_pa, cal_v, ka, e_216_70, d00, cond_true, e_216_79, e_216_81, inb_n ix (by decide), cond_true, nI_clamp (by omega), x_pa, cal_v, ka, e_216_92, d00, cond_true, e_216_101, e_216_102, inb_n ix (by decide), cond_true, nI_clamp (by omega)]
      rfl
    · rw [e_216_58, x_pa, cal_v, ka, e_216_70, d10, cond_false, e_216_75, e_216_81, inb_n ix (by decide), cond_true, nI_clamp (by omega), x_pa, cal_v, ka, e_216_92, d10, cond_false, e_216_97, e_216_102, inb_n ix (by decide), cond_true, nI_clamp (by omega)]
      rfl
  by_cases q0 : i = n0
  · by_cases q1 : j = n1
    · have : cellK G n0 n1 b0 b1 (PP G n0 n1 b0 b1) i j 0 = (some 0, 1) := if_pos ⟨q0, q1⟩
      rw [this] at l
      rw [e_216_28, c.1.1, decide_eq_false (show ¬ nI i ≠ nI n0 from fun w => w (by rw [q0])), cond_false, e_216_40, c.1.2, decide_eq_false (show ¬ nI j ≠ nI n1 from fun w => w (by rw [q1])), cond_false, e_216_53]
      exact (e0 1 0 1 (Or.inr ⟨rfl, rfl, rfl⟩)).trans l
    · have : cellK G n0 n1 b0 b1 (PP G n0 n1 b0 b1) i j 0 = (none, 0) := if_neg (fun w => q1 w.2)
      rw [this] at l
      rw [e_216_28, c.1.1, decide_eq_false (show ¬ nI i ≠ nI n0 from fun w => w (by rw [q0])), cond_false, e_216_40, c.1.2, decide_eq_true (show nI j ≠ nI n1 from fun w => q1 ((nI_eq (by omega) (by omega)).mp w)), cond_true, e_216_57]
      exact (e0 0 100000000 0 (Or.inl ⟨rfl, rfl, rfl⟩)).trans l
  · have : cellK G n0 n1 b0 b1 (PP G n0 n1 b0 b1) i j 0 = (none, 0) := if_neg (fun w => q0 w.1)
    rw [this] at l
    rw [e_216_28, c.1.1, decide_eq_true (show nI i ≠ nI n0 from fun w => q0 ((nI_eq (by omega) (by omega)).mp w)), cond_true, e_216_57]
    exact (e0 0 100000000 0 (Or.inl ⟨rfl, rfl, rfl⟩)).trans l
theorem laidM_s {T : Nat → Nat → Option Nat × Int64} {i j : Nat} (hj : j ≤ 16) (hn : n1 ≤ 16) (h : LaidM T n0 n1 i j I J) : ∀ x y, x ≤ n0 → y ≤ n1 → (i < x ∨ (i = x ∧ j ≤ y)) → (ups I 328 (18 * i + j) (encO 100000000 (T i j).1)) 328 (18 * x + y) = encO 100000000 (T x y).1 ∧ (upsL J 329 (18 * i + j) (T i j).2) 329 (18 * x + y) = (T x y).2 := fun x y hx hy hc => by
  by_cases q : x = i ∧ y = j
  · obtain ⟨rfl, rfl⟩ := q
    rw [uIs, uUs, uJs]; exact ⟨rfl, rfl⟩
  · rw [uIn (by omega), uJn (by omega)]
    exact h x y hx hy (by omega)
theorem m_lyJ (g : LayG G n0 n1) (tx : TX n0 n1 (G 13) (G 18)) {i : Nat} (hi : i ≤ n0) : ∀ j, j ≤ n1 → ∀ I J, LayM G n0 n1 I → LaidM (PP G n0 n1 b0 b1) n0 n1 i j I J →
    ∃ I' J', ex (216, 23, [.ref 316, .int b0, .int b1, .int (nI i), .int (nI j), dv, dv, dv, dv], [], mm I J D) = ex (216, 271, [.ref 316, .int b0, .int b1, .int (nI i), dv, dv, dv, dv, dv], [], mm I' J' D) ∧ (∀ p, p ≠ 328 → I' p = I p) ∧ (∀ p, p ≠ 329 → J' p = J p) ∧ ∀ x y, x ≤ n0 → y ≤ n1 → i ≤ x → I' 328 (18 * x + y) = encO 100000000 (PP G n0 n1 b0 b1 x y).1 ∧ J' 329 (18 * x + y) = (PP G n0 n1 b0 b1 x y).2
  | 0, hj, I, J, c, hL => by
    have hn := g.1
    refine ⟨_, _, ?_, fun p hp => uI hp, fun p hp => ?_, fun x y hx hy hc => laidM_s (by omega) hn.2 hL x y hx hy (by omega)⟩
    · rw [e_216_23, decide_eq_false (show ¬ nI 0 < 0 by decide), cond_false, m_cell g tx c hi hj hL, e_216_265, e_216_23, decide_eq_true (show nI 0 + -1 < 0 by decide), cond_true]
    · funext q; rw [uJn (Or.inl hp)]
  | j + 1, hj, I, J, c, hL => by
    have hn := g.1
    obtain ⟨I', J', e, h1, h3, h2⟩ := m_lyJ g tx hi j (by omega) (ups I 328 (18 * i + (j + 1)) (encO 100000000 (PP G n0 n1 b0 b1 i (j + 1)).1)) (upsL J 329 (18 * i + (j + 1)) (PP G n0 n1 b0 b1 i (j + 1)).2) (c.go (by rw [uI (by decide)])) (fun x y hx hy hc => laidM_s (by omega) hn.2 hL x y hx hy (by omega))
    refine ⟨I', J', ?_, fun p hp => by rw [h1 p hp, uI hp], fun p hp => by rw [h3 p hp]; funext q; rw [uJn (Or.inl hp)], h2⟩
    rw [e_216_23, decide_eq_false (show ¬ nI (j + 1) < 0 from nI_pos (by omega)), cond_false, m_cell g tx c hi hj hL, e_216_265, nI_m1, nI_pred]
    exact e
theorem m_lyI (g : LayG G n0 n1) (tx : TX n0 n1 (G 13) (G 18)) : ∀ i, i ≤ n0 → ∀ I J, LayM G n0 n1 I → (∀ x y, x ≤ n0 → y ≤ n1 → i < x → I 328 (18 * x + y) = encO 100000000 (PP G n0 n1 b0 b1 x y).1 ∧ J 329 (18 * x + y) = (PP G n0 n1 b0 b1 x y).2) →
    ∃ I' J', ex (216, 9, [.ref 316, .int b0, .int b1, .int (nI i), dv, dv, dv, dv, dv], [], mm I J D) = some (.inl none, mm I' J' D) ∧ (∀ p, p ≠ 328 → I' p = I p) ∧ (∀ p, p ≠ 329 → J' p = J p) ∧ ∀ x y, x ≤ n0 → y ≤ n1 → I' 328 (18 * x + y) = encO 100000000 (PP G n0 n1 b0 b1 x y).1 ∧ J' 329 (18 * x + y) = (PP G n0 n1 b0 b1 x y).2
  | 0, hi, I, J, c, hL => by
    have hn := g.1
    obtain ⟨I', J', e, h1, h3, h2⟩ := m_lyJ (D := D) (b0 := b0) (b1 := b1) g tx hi n1 (Nat.le_refl _) I J c (fun x y hx hy hc => hL x y hx hy (by omega))
    refine ⟨I', J', ?_, h1, h3, fun x y hx hy => h2 x y hx hy (Nat.zero_le _)⟩
    rw [e_216_9, decide_eq_false (show ¬ nI 0 < 0 by decide), cond_false, e_216_13, c.1.2]
    refine e.trans ?_
    rw [e_216_271, e_216_9, decide_eq_true (show nI 0 + -1 < 0 by decide), cond_true, e_216_277]
  | i + 1, hi, I, J, c, hL => by
    have hn := g.1
    obtain ⟨I1, J1, e, h1, h3, h2⟩ := m_lyJ (D := D) (b0 := b0) (b1 := b1) g tx hi n1 (Nat.le_refl _) I J c (fun x y hx hy hc => hL x y hx hy (by omega))
    obtain ⟨I', J', e2, h4, h5, h6⟩ := m_lyI g tx i (by omega) I1 J1 (c.go (h1 317 (by decide))) (fun x y hx hy hc => h2 x y hx hy (by omega))
    refine ⟨I', J', ?_, fun p hp => by rw [h4 p hp, h1 p hp], fun p hp => by rw [h5 p hp, h3 p hp], h6⟩
    rw [e_216_9, decide_eq_false (show ¬ nI (i + 1) < 0 from nI_pos (by omega)), cond_false, e_216_13, c.1.2]
    refine e.trans ?_
    rw [e_216_271, nI_m1, nI_pred]
    exact e2
theorem m_lay (g : LayG G n0 n1) (tx : TX n0 n1 (G 13) (G 18)) (c : LayM G n0 n1 I) : ∃ I' J', ex (216, 0, [.ref 316, .int b0, .int b1, dv, dv, dv, dv, dv, dv], [], mm I J D) = some (.inl none, mm I' J' D) ∧ (∀ p, p ≠ 328 → I' p = I p) ∧ (∀ p, p ≠ 329 → J' p = J p) ∧ ∀ x y, x ≤ n0 → y ≤ n1 → I' 328 (18 * x + y) = encO 100000000 (PP G n0 n1 b0 b1 x y).1 ∧ J' 329 (18 * x + y) = (PP G n0 n1 b0 b1 x y).2 := by
  obtain ⟨I', J', e, h⟩ := m_lyI (D := D) (b0 := b0) (b1 := b1) g tx n0 (Nat.le_refl _) I J c (fun x y hx hy hc => by omega)
  refine ⟨I', J', ?_, h⟩
  rw [e_216_0, c.1.1]
  exact e
end MZ
theorem inv_lay {kk : Nat} {I : Nat → Nat → Int32} (h : PgRel kk (pgF I 1) (I 317)) : ∃ n0 n1, LayG I n0 n1 ∧ TX n0 n1 (I 13) (I 18) ∧ LayM I n0 n1 I ∧ I 10 4 = nI n0 ∧ I 15 4 = nI n1 := by
  obtain ⟨n0, a1, a2, a3, a4, -⟩ := inv_row h (i := 0) (by decide)
  obtain ⟨n1, b1, b2, b3, b4, -⟩ := inv_row h (i := 1) (by decide)
  have a2 : I 10 4 = nI n0 := a2
  have b2 : I 15 4 = nI n1 := b2
  have tx := inv_tie h a1 b1 a2 b2
  obtain ⟨⟨p1, p2⟩, ⟨p3, p4⟩, p5, p6⟩ := h.2.2.2.2.1
  rw [nrw_at (by decide), nrm_at (show rl 0 6 = true from rfl)] at p1
  rw [nrw_at (by decide), nrm_at (show rl 0 7 = true from rfl)] at p3
  rw [nrw_at (by decide), nrm_at (show rl 0 8 = true from rfl)] at p5
  rw [nrm_at (show rl 0 6 = true from rfl)] at p2
  rw [nrm_at (show rl 0 7 = true from rfl)] at p4
  rw [nrm_at (show rl 0 8 = true from rfl)] at p6
  have r9 : ∀ x : Int32, rg 1 9 x → ∃ a, a ≤ 9 ∧ x = nI a := fun x hx => by
    obtain ⟨a, h1, h2⟩ := rg_nI (b := 9) (v := x) ⟨by have := hx.1; omega, hx.2⟩ (by decide)
    exact ⟨a, h1, h2⟩
  refine ⟨n0, n1, ⟨⟨a1, b1⟩, fun k hk => r9 _ (a4 k hk).1.2, fun k hk => r9 _ (b4 k hk).1.2, rg_nI (b := 20) p2 (by decide), rg_nI (b := 20) p4 (by decide), rg_nI (b := 20) p6 (by decide)⟩, tx, ⟨⟨a3, b3⟩, fun k hk => ⟨(a4 k hk).1.1, (a4 k hk).2.1.1, (a4 k hk).2.2.1⟩, fun k hk => ⟨(b4 k hk).1.1, (b4 k hk).2.1.1, (b4 k hk).2.2.1⟩, p1, p3, p5⟩, a2, b2⟩

/-! there is always a way where no step is left out -/
theorem PP_ne {G : Nat → Nat → Int32} {n0 n1 : Nat} (g : LayG G n0 n1) (tx : TX n0 n1 (G 13) (G 18)) : ∀ m i j, i ≤ n0 → j ≤ n1 → (n0 - i) + (n1 - j) ≤ m → (∀ x y, i ≤ x → x < n0 → y < n1 → G 13 x = nI y → j ≤ y) → (∀ x y, j ≤ y → y < n1 → x < n0 → G 18 y = nI x → i ≤ x) → (PP G n0 n1 (-1) (-1) i j).1 ≠ none
  | m, i, j, hi, hj, hm, c1, c2 => by
    have hn := g.1
    have neg : ∀ a, a < 17 → nI a ≠ -1 := fun a ha w => absurd (congrArg Int32.toInt w) (by rw [nI_toInt (by omega), show (-1 : Int32).toInt = -1 from rfl]; omega)
    rw [PP_eq hn.1 hn.2 hi hj]
    have step : ∀ k, k < 5 → okS G (-1) (-1) k i j = true → i + tk0 k ≤ n0 → j + tk1 k ≤ n1 → (∀ x y, i + tk0 k ≤ x → x < n0 → y < n1 → G 13 x = nI y → j + tk1 k ≤ y) → (∀ x y, j + tk1 k ≤ y → y < n1 → x < n0 → G 18 y = nI x → i + tk0 k ≤ x) → (cellK G n0 n1 (-1) (-1) (PP G n0 n1 (-1) (-1)) i j 5).1 ≠ none := fun k hk ok h0 h1 d1 d2 => by
      have hp := tk_pos (k := k)
      have ih : (PP G n0 n1 (-1) (-1) (i + tk0 k) (j + tk1 k)).1 ≠ none := by
        cases m with
        | zero => omega
        | succ m => exact PP_ne g tx m _ _ h0 h1 (by omega) d1 d2
      refine cell_ne hk (fun w => ?_)
      have ok2 : okB G n0 n1 (-1) (-1) k i j = true := by unfold okB; rw [decide_eq_true ⟨h0, h1⟩, ok]; rfl
      rw [ok2] at w
      cases e : (PP G n0 n1 (-1) (-1) (i + tk0 k) (j + tk1 k)).1 with
      | none => exact ih e
      | some r => rw [e] at w; cases w
    by_cases ee : i = n0 ∧ j = n1
    · have h0 : (cellK G n0 n1 (-1) (-1) (PP G n0 n1 (-1) (-1)) i j 0).1 ≠ none := by
        show (if i = n0 ∧ j = n1 then (some 0, (1 : Int64)) else (none, 0)).1 ≠ none
        rw [if_pos ee]; intro w; cases w
      exact cell_mono 5 0 h0
    · by_cases a1 : i < n0 ∧ G 13 i = -1
      · exact step 1 (by decide) (by unfold okS; exact decide_eq_true a1.2) (show i + 1 ≤ n0 by omega) (show j + 0 ≤ n1 by omega) (fun x y hx h1 h2 e => c1 x y (by have : i + 1 ≤ x := hx; omega) h1 h2 e) (fun x y hy h1 h2 e => by
          have := c2 x y hy h1 h2 e
          have hne : x ≠ i := fun w => by
            subst w
            rcases tx.2.1 y h1 with q | ⟨z, hz, q1, q2⟩
            · rw [q] at e; exact neg x (by omega) e.symm
            · have : z = x := (nI_eq (by omega) (by omega)).mp (q1.symm.trans e)
              subst this
              rw [a1.2] at q2; exact neg y (by omega) q2.symm
          show i + 1 ≤ x
          omega)
      · by_cases a2 : j < n1 ∧ G 18 j = -1
        · exact step 2 (by decide) (by unfold okS; exact decide_eq_true a2.2) (show i + 0 ≤ n0 by omega) (show j + 1 ≤ n1 by omega) (fun x y hx h1 h2 e => by
            have := c1 x y hx h1 h2 e
            have hne : y ≠ j := fun w => by
              subst w
              rcases tx.1 x h1 with q | ⟨z, hz, q1, q2⟩
              · rw [q] at e; exact neg y (by omega) e.symm
              · have : z = y := (nI_eq (by omega) (by omega)).mp (q1.symm.trans e)
                subst this
                rw [a2.2] at q2; exact neg x (by omega) q2.symm
            show j + 1 ≤ y
            omega) (fun x y hy h1 h2 e => c2 x y (by have : j + 1 ≤ y := hy; omega) h1 h2 e)
        · -- both tied, or an end
          have li : i < n0 := by
            by_cases q : i < n0
            · exact q
            · have hj2 : j < n1 := by omega
              rcases tx.2.1 j hj2 with w | ⟨x, hx, w1, w2⟩
              · exact absurd ⟨hj2, w⟩ a2
              · have := c2 x j (Nat.le_refl _) hj2 hx w1
                omega
          rcases tx.1 i li with w | ⟨y, hy, w1, w2⟩
          · exact absurd ⟨li, w⟩ a1
          · have hjy := c1 i y (Nat.le_refl _) li hy w1
            have lj : j < n1 := by omega
            rcases tx.2.1 j lj with z | ⟨x, hx, z1, z2⟩
            · exact absurd ⟨lj, z⟩ a2
            · have hix := c2 x j (Nat.le_refl _) lj hx z1
              have hxi : x = i := by
                by_cases q : x = i
                · exact q
                · have t := tx.2.2 i x (by omega) hx (by rw [w1]; exact neg y (by omega)) (by rw [z2]; exact neg j (by omega))
                  rw [w1, z2] at t
                  have := (nI_ltI (by omega) (by omega)).mp t
                  omega
              subst hxi
              have hyj : y = j := (nI_eq (by omega) (by omega)).mp (w1.symm.trans z2)
              subst hyj
              refine step 0 (by decide) (by rw [ok_tog tx hn li lj]; exact decide_eq_true (Or.inl w1)) (show x + 1 ≤ n0 by omega) (show y + 1 ≤ n1 by omega) (fun a b ha h1 h2 e => ?_) (fun a b hb h1 h2 e => ?_)
              · have ha : x + 1 ≤ a := ha
                have t := tx.2.2 x a (by omega) h1 (by rw [w1]; exact neg y (by omega)) (by rw [e]; exact neg b (by omega))
                rw [w1, e] at t
                have := (nI_ltI (by omega) (by omega)).mp t
                show y + 1 ≤ b
                omega
              · have hb : y + 1 ≤ b := hb
                rcases tx.2.1 b h1 with q | ⟨z, hz, q1, q2⟩
                · rw [q] at e; exact absurd e.symm (neg a (by omega))
                · have : z = a := (nI_eq (by omega) (by omega)).mp (q1.symm.trans e)
                  subst this
                  have hza := c2 z b (by omega) h1 h2 e
                  by_cases q : z = x
                  · subst q
                    have : y = b := (nI_eq (by omega) (by omega)).mp (w1.symm.trans q2)
                    omega
                  · show x + 1 ≤ z
                    omega
theorem PP_00 {G : Nat → Nat → Int32} {n0 n1 : Nat} (g : LayG G n0 n1) (tx : TX n0 n1 (G 13) (G 18)) : ∃ b, b ≤ 4000 ∧ (PP G n0 n1 (-1) (-1) 0 0).1 = some b := by
  have h := PP_ne g tx _ 0 0 (Nat.zero_le _) (Nat.zero_le _) (Nat.le_refl _) (fun _ _ _ _ _ _ => Nat.zero_le _) (fun _ _ _ _ _ _ => Nat.zero_le _)
  cases e : (PP G n0 n1 (-1) (-1) 0 0).1 with
  | none => exact absurd e h
  | some b => exact ⟨b, PP_bd g 0 0 b e, rfl⟩
theorem Same.l {I I' : Nat → Nat → Int32} (h : ∀ p, p < 273 ∨ 292 ≤ p → I' p = I p) : Same I I' := Same.of (fun p hp => h p (Classical.byContradiction (fun hn => by
  have h1 : 273 ≤ p ∧ p < 292 := by omega
  unfold scr at hp
  split at hp
  · omega
  · omega
  · rw [Nat.ble_eq.mpr (show 246 ≤ p by omega), Nat.blt_eq.mpr (show p < 312 by omega), show Nat.beq p 264 = false from by rw [← Bool.not_eq_true, Nat.beq_eq]; omega] at hp
    cases hp)))
theorem Same.q {I I' : Nat → Nat → Int32} {q : Nat} (hq : scr q = true) (h : ∀ p, p ≠ q → I' p = I p) : Same I I' := Same.of (fun p hp => h p (by rintro rfl; rw [hq] at hp; cases hp))

theorem t_24 {L kk : Nat} {I : Nat → Nat → Int32} {J : Nat → Nat → Int64} {D : Nat → Nat → UInt64} (v : Int32) (h : Inv L kk I J D) : Turn L kk 1605 v I J D := by
  obtain ⟨n0, n1, g, tx, lm, c0, c1⟩ := inv_lay h.2.1
  obtain ⟨I1, J1, e1, f1, lc, t1⟩ := c_lay (J := J) (D := D) (b0 := -1) (b1 := -1) g c0 c1
  have w1 : I1 317 = I 317 := f1 317 (Or.inr (by decide))
  obtain ⟨I2, J2, e2, f2, f3, t2⟩ := m_lay (I := ups I1 316 0 0) (J := J1) (D := D) (b0 := -1) (b1 := -1) g tx (lm.go (by rw [uI (by decide), w1]))
  obtain ⟨b, hb, hp⟩ := PP_00 g tx
  have r1 := (t1 0 0 (Nat.zero_le _) (Nat.zero_le _)).1
  have r2 := (t2 0 0 (Nat.zero_le _) (Nat.zero_le _)).1
  rw [hp] at r1 r2
  refine tq_24 (r := nI b) (I1 := I1) (J1 := J1) (D1 := D) (I2 := I2) (J2 := J2) (D2 := D) ?_ ?_ (inv_st h (((Same.l f1).tr Same.r).tr (Same.q (by decide) f2)))
  · rw [e_114_0, e1, cal_v, kn, e_114_9, show I1 275 0 = nI b from r1]
  · rw [e_217_0, e2, cal_v, kn, e_217_11, show I2 328 0 = nI b from r2]
theorem t_25 {L kk : Nat} {I : Nat → Nat → Int32} {J : Nat → Nat → Int64} {D : Nat → Nat → UInt64} (v : Int32) (h : Inv L kk I J D) : Turn L kk 1618 v I J D := by
  obtain ⟨n0, n1, g, tx, lm, c0, c1⟩ := inv_lay h.2.1
  obtain ⟨I1, J1, e1, f1, lc, t1⟩ := c_lay (J := J) (D := D) (b0 := -1) (b1 := -1) g c0 c1
  have w1 : I1 317 = I 317 := f1 317 (Or.inr (by decide))
  obtain ⟨I2, J2, e2, f2, f3, t2⟩ := m_lay (I := ups I1 316 0 0) (J := J1) (D := D) (b0 := -1) (b1 := -1) g tx (lm.go (by rw [uI (by decide), w1]))
  have r1 := (t1 0 0 (Nat.zero_le _) (Nat.zero_le _)).2
  have r2 := (t2 0 0 (Nat.zero_le _) (Nat.zero_le _)).2
  refine tq_25 (r := (PP I n0 n1 (-1) (-1) 0 0).2) (I1 := I1) (J1 := J1) (D1 := D) (I2 := I2) (J2 := J2) (D2 := D) ?_ ?_ (inv_st h (((Same.l f1).tr Same.r).tr (Same.q (by decide) f2)))
  · rw [e_115_0, e1, cal_v, kn, e_115_9, show J1 293 0 = _ from r1]
  · rw [e_218_0, e2, cal_v, kn, e_218_11, show J2 329 0 = _ from r2]
theorem c_lay2 {I I1 : Nat → Nat → Int32} {J1 : Nat → Nat → Int64} {D : Nat → Nat → UInt64} {n0 n1 : Nat} {b0 b1 : Int32} (g : LayG I n0 n1) (c0 : I 10 4 = nI n0) (c1 : I 15 4 = nI n1) (f : ∀ p, p < 273 ∨ 292 ≤ p → I1 p = I p) : ∃ I' J', ex (35, 0, [.ref 273, .int b0, .int b1, dv, dv], [], mm I1 J1 D) = some (.inl none, mm I' J' D) ∧ (∀ p, p < 273 ∨ 292 ≤ p → I' p = I p) ∧ ∀ x y, x ≤ n0 → y ≤ n1 → I' (275 + x) y = encO 1000000000 (PP I n0 n1 b0 b1 x y).1 := by
  have c : LayC I n0 n1 b0 b1 (ups (ups I1 273 7 b0) 273 8 b1) := by
    have k : ∀ p, p < 273 → (ups (ups I1 273 7 b0) 273 8 b1) p = I p := fun p hp => by rw [uI (by omega), uI (by omega), f p (Or.inl hp)]
    refine ⟨⟨by rw [k 10 (by decide)]; exact c0, by rw [k 15 (by decide)]; exact c1⟩, ⟨k 1 (by decide), k 11 (by decide), k 12 (by decide), k 13 (by decide), k 16 (by decide), k 17 (by decide), k 18 (by decide)⟩, by rw [uIs, uU (by decide), uIs, uUs], by rw [uIs, uUs]⟩
  obtain ⟨I', J', e, h1, h2⟩ := c_lyI (D := D) g n0 (Nat.le_refl _) _ J1 c (fun x y hx hy hc => by omega)
  refine ⟨I', J', ?_, fun p hp => ?_, fun x y hx hy => (h2 x y hx hy).1⟩
  · rw [e_35_0, show (ups (ups I1 273 7 b0) 273 8 b1) 10 4 = nI n0 from c.1.1]
    exact e
  · rw [h1 p (by omega), uI (by omega), uI (by omega), f p hp]

theorem t_27 {L kk : Nat} {I : Nat → Nat → Int32} {J : Nat → Nat → Int64} {D : Nat → Nat → UInt64} (v : Int32) (h : Inv L kk I J D) (sc : ScOK v I) : Turn L kk 1700 v I J D := by
  obtain ⟨x, hx1⟩ : ∃ q, I 1000002 (v + 1).toNatClampNeg = q := ⟨_, rfl⟩
  obtain ⟨y, hx2⟩ : ∃ q, I 1000002 (v + 2).toNatClampNeg = q := ⟨_, rfl⟩
  obtain ⟨n0, n1, g, tx, lm, c0, c1⟩ := inv_lay h.2.1
  have hn := g.1
  by_cases hx : 0 ≤ x ∧ x < nI n0
  · have bx : 0 ≤ x ∧ x < I 10 4 := by rw [c0]; exact hx
    by_cases hy : 0 ≤ y ∧ y < nI n1
    · have by_ : 0 ≤ y ∧ y < I 15 4 := by rw [c1]; exact hy
      obtain ⟨I1, J1, e1, f1, lc, t1⟩ := c_lay (J := J) (D := D) (b0 := -1) (b1 := -1) g c0 c1
      obtain ⟨I2, J2, e2, f2, t2⟩ := c_lay2 (J1 := J1) (D := D) (b0 := x) (b1 := y) g c0 c1 f1
      obtain ⟨b, hb, hp⟩ := PP_00 g tx
      have r1 := (t1 0 0 (Nat.zero_le _) (Nat.zero_le _)).1
      have r2 := t2 0 0 (Nat.zero_le _) (Nat.zero_le _)
      rw [hp] at r1
      have r1 : I1 275 0 = nI b := r1
      obtain ⟨z, hz, hz4⟩ : ∃ z, z = (PP I n0 n1 x y 0 0).1 ∧ Bnd 4000 z := ⟨_, rfl, PP_bd g 0 0⟩
      rw [← hz] at r2
      have r2 : I2 275 0 = encO 1000000000 z := r2
      obtain ⟨r, er⟩ : ∃ r : Bool, r = !decide (encO 1000000000 z ≤ nI b) := ⟨_, rfl⟩
      have er2 : decide (encO 100000000 z ≤ nI b) = decide (encO 1000000000 z ≤ nI b) := by
        cases z with
        | none => rw [decide_eq_false (show ¬ encO 100000000 none ≤ nI b from nI_ge (a := b) (b := 100000000) (by omega) (by decide)), decide_eq_false (show ¬ encO 1000000000 none ≤ nI b from nI_ge (a := b) (b := 1000000000) (by omega) (by decide))]
        | some q => rfl
      have w2 : I2 317 = I 317 := f2 317 (Or.inr (by decide))
      obtain ⟨I3, J3, e3, f3, g3, t3⟩ := m_lay (I := ups I2 316 0 0) (J := upsL J2 335 0 (bI r).toInt64) (D := D) (b0 := -1) (b1 := -1) g tx (lm.go (by rw [uI (by decide), w2]))
      obtain ⟨I4, J4, e4, f4, g4, t4⟩ := m_lay (I := I3) (J := J3) (D := D) (b0 := x) (b1 := y) g tx (lm.go (by rw [f3 317 (by decide), uI (by decide), w2]))
      have r3 := (t3 0 0 (Nat.zero_le _) (Nat.zero_le _)).1
      have r4 := (t4 0 0 (Nat.zero_le _) (Nat.zero_le _)).1
      rw [hp] at r3
      rw [← hz] at r4
      have r3 : I3 328 0 = nI b := r3
      have r4 : I4 328 0 = encO 100000000 z := r4
      have bn0 := c_bandT0 (I := I) (J := J) (D := D) bx
      have bn1 := c_bandT1 (I := I) (J := J) (D := D) by_
      have bn0' : ex (150, 0, [.ref 0, .int 0, .int x], [], mm I J D) = _ := bn0
      have bn1' : ex (150, 0, [.ref 0, .int 1, .int y], [], mm I J D) = _ := bn1
      have mb0 : ex (199, 0, [.ref 316, .int 0, .int x], [], mm I2 (upsL J2 335 0 (bI r).toInt64) D) = _ := m_bandT (i := 0) (by decide) (by rw [w2]; exact lm.1.1) hn.1 hx
      have mb1 : ex (199, 0, [.ref 316, .int 1, .int y], [], mm I2 (upsL J2 335 0 (bI r).toInt64) D) = _ := m_bandT (i := 1) (by decide) (by rw [w2]; exact lm.1.2) hn.2 hy
      refine tk_27 (r := r) (I1 := I2) (J1 := J2) (D1 := D) (I2 := I4) (J2 := J4) (D2 := D) sc hx1 hx2 ?_ (by rw [f2 iSCL (Or.inr (by decide))]) (f2 1000002 (Or.inr (by decide))) ?_ ?_ ?_ ?_
      · rw [e_117_0, bn0', cal_v, kn, e_117_6, bn1', cal_v, kn, e_117_12, e1, cal_v, kn, e_117_21, r1, e2, cal_v, kn, e_117_42, r2]
        cases hd : decide (encO 1000000000 z ≤ nI b) with
        | true => rw [cond_true, e_117_61, e_117_62, decide_eq_true (show (0 : Int32) = 0 ∨ (0 : Int32) = 1 by decide), cond_true, er, hd]; rfl
        | false => rw [cond_false, e_117_57, e_117_62, decide_eq_true (show (1 : Int32) = 0 ∨ (1 : Int32) = 1 by decide), cond_true, er, hd]; rfl
      · rw [e_221_0, mb0, cal_v, ka, e_221_7, d10, cond_false, e_221_10, mb1, cal_v, ka, e_221_16, d10, cond_false, e_221_19, e_221_24, x_canT, cal_v, ka, e_221_28, d11, cond_true, e_221_33, e3, cal_v, kn, e_221_39, r3, e4, cal_v, kn, e_221_52, r4, er2]
        cases hd : decide (encO 1000000000 z ≤ nI b) with
        | true => rw [cond_true, e_221_66, e_221_67, decide_eq_true (show (0 : Int32) = 0 ∨ (0 : Int32) = 1 by decide), cond_true, er, hd]; rfl
        | false => rw [cond_false, e_221_62, e_221_67, decide_eq_true (show (1 : Int32) = 0 ∨ (1 : Int32) = 1 by decide), cond_true, er, hd]; rfl
      · rw [f4 316 (by decide), f3 316 (by decide), uIs, uUs]
      · rw [g4 335 (by decide), g3 335 (by decide)]; exact upsL_s
      · exact inv_st h ((((Same.l f2).tr Same.r).tr (Same.q (by decide) f3)).tr (Same.q (by decide) f4))
    · have by_ : ¬ (0 ≤ y ∧ y < I 15 4) := by rw [c1]; exact hy
      have bn0' : ex (150, 0, [.ref 0, .int 0, .int x], [], mm I J D) = _ := c_bandT0 (I := I) (J := J) (D := D) bx
      have bn1' : ex (150, 0, [.ref 0, .int 1, .int y], [], mm I J D) = _ := c_bandF1 (I := I) (J := J) (D := D) by_
      have mb0 : ex (199, 0, [.ref 316, .int 0, .int x], [], mm I J D) = _ := m_bandT (i := 0) (by decide) lm.1.1 hn.1 hx
      have mb1 : ex (199, 0, [.ref 316, .int 1, .int y], [], mm I J D) = _ := m_bandF (i := 1) (by decide) lm.1.2 hn.2 hy
      refine te_27_2 (s := 0) (I1 := I) (J1 := J) (D1 := D) (I2 := ups I 316 0 1) (J2 := J) (D2 := D) sc hx1 hx2 ?_ rfl rfl ?_ ?_ (inv_r h)
      · rw [e_117_0, bn0', cal_v, kn, e_117_6, bn1', cal_e]
      · rw [e_221_0, mb0, cal_v, ka, e_221_7, d10, cond_false, e_221_10, mb1, cal_v, ka, e_221_16, d00, cond_true, e_221_23, e_221_24, x_canF, cal_v, ka, e_221_28, d01, cond_false, e_221_31]
      · rw [uIs, uUs]
  · have bx : ¬ (0 ≤ x ∧ x < I 10 4) := by rw [c0]; exact hx
    have bn0' : ex (150, 0, [.ref 0, .int 0, .int x], [], mm I J D) = _ := c_bandF0 (I := I) (J := J) (D := D) bx
    have mb0 : ex (199, 0, [.ref 316, .int 0, .int x], [], mm I J D) = _ := m_bandF (i := 0) (by decide) lm.1.1 hn.1 hx
    refine te_27_2 (s := 0) (I1 := I) (J1 := J) (D1 := D) (I2 := ups I 316 0 1) (J2 := J) (D2 := D) sc hx1 hx2 ?_ rfl rfl ?_ ?_ (inv_r h)
    · rw [e_117_0, bn0', cal_e]
    · rw [e_221_0, mb0, cal_v, ka, e_221_7, d00, cond_true, e_221_23, e_221_24, x_canF, cal_v, ka, e_221_28, d01, cond_false, e_221_31]
    · rw [uIs, uUs]
