/-! numbers in the text, by both -/
def dgs (c : Nat → Nat) (a : Nat) : Nat → Bool
  | 0 => true
  | k + 1 => dgs c a k && (decide (48 ≤ c (a + k)) && decide (c (a + k) ≤ 57))
def vlN (c : Nat → Nat) (a : Nat) : Nat → Nat
  | 0 => 0
  | k + 1 => 10 * vlN c a k + (c (a + k) - 48)
def amN (c : Nat → Nat) (a : Nat) : Nat → Nat
  | 0 => 0
  | k + 1 => if 99999999999 < amN c a k then amN c a k else 10 * amN c a k + (c (a + k) - 48)
/-- where its digits begin -/
def dg0 (c : Nat → Nat) (s : Nat) : Nat := if c s = 45 ∨ c s = 43 then s + 1 else s
def numO (c : Nat → Nat) (s e : Nat) : Option Int := if dg0 c s < e ∧ dgs c (dg0 c s) (e - dg0 c s) = true ∧ vlN c (dg0 c s) (e - dg0 c s) ≤ 2147483647 + (if c s = 45 then 1 else 0) then some (if c s = 45 then -((vlN c (dg0 c s) (e - dg0 c s) : Nat) : Int) else ((vlN c (dg0 c s) (e - dg0 c s) : Nat) : Int)) else none
def nL (o : Option Int) : Int64 := match o with
  | none => 4294967294
  | some z => Int64.ofInt z
theorem lB {n : Nat} (h : n < 2 ^ 63) : (lN n).toInt = n := Int64.toInt_ofNat_of_lt h
theorem lgc_ne (x y : Int64) : (lg_cmp x y ≠ 0) ↔ x ≠ y := by
  unfold lg_cmp
  by_cases h : x > y
  · rw [if_pos h]
    refine ⟨fun _ e => ?_, fun _ => by decide⟩
    rw [e] at h
    have := Int64.lt_iff_toInt_lt.mp h
    omega
  · rw [if_neg h]
    by_cases e : x = y
    · rw [if_pos e]; exact ⟨fun w => absurd rfl w, fun w => absurd e w⟩
    · rw [if_neg e]; exact ⟨fun _ => e, fun _ => by decide⟩
theorem lgc_le (x y : Int64) : (lg_cmp x y ≤ 0) ↔ x ≤ y := by
  unfold lg_cmp
  by_cases h : x > y
  · rw [if_pos h]
    have := Int64.lt_iff_toInt_lt.mp h
    refine ⟨fun w => absurd w (by decide), fun w => ?_⟩
    have := Int64.le_iff_toInt_le.mp w
    omega
  · rw [if_neg h]
    have h2 : ¬ y.toInt < x.toInt := fun w => h (Int64.lt_iff_toInt_lt.mpr w)
    have le : x ≤ y := Int64.le_iff_toInt_le.mpr (by omega)
    by_cases e : x = y
    · rw [if_pos e]; exact ⟨fun _ => le, fun _ => by decide⟩
    · rw [if_neg e]; exact ⟨fun _ => le, fun _ => by decide⟩
theorem lgc_gt (x y : Int64) : (0 < lg_cmp x y) ↔ y < x := by
  rw [← Int32.not_le, lgc_le, Int64.le_iff_toInt_le, Int64.lt_iff_toInt_lt]; omega
theorem dg_lt : ∀ c, c < 127 → ((nI c - 48 < 0) ↔ c < 48) := by decide +kernel
theorem dg_le : ∀ c, c < 127 → 48 ≤ c → ((nI c - 48 ≤ 9) ↔ c ≤ 57) := by decide +kernel
theorem dg_v {c : Nat} (h : 48 ≤ c) (h2 : c < 127) : (nI c - 48).toInt64 = lN (c - 48) := by
  rw [show (48 : Int32) = nI 48 from rfl, nI_sub h, nI_l (by omega)]
theorem l10 (v d : Nat) : (10 : Int64) * lN v + lN d = lN (10 * v + d) := by
  rw [show (10 : Int64) = lN 10 from rfl, lN_mul, lN_add]
section NU
variable {c : Nat → Nat} {a : Nat}
theorem vl_mono : ∀ d k, vlN c a k ≤ vlN c a (k + d)
  | 0, k => Nat.le_refl _
  | d + 1, k => by
    have := vl_mono d k
    show _ ≤ 10 * vlN c a (k + d) + _
    omega
theorem dgs_at : ∀ {K k : Nat}, dgs c a K = true → k < K → 48 ≤ c (a + k) ∧ c (a + k) ≤ 57
  | K + 1, k, h, hk => by
    have h : (dgs c a K && (decide (48 ≤ c (a + K)) && decide (c (a + K) ≤ 57))) = true := h
    rw [Bool.and_eq_true, Bool.and_eq_true, decide_eq_true_eq, decide_eq_true_eq] at h
    by_cases q : k = K
    · subst q; exact h.2
    · exact dgs_at h.1 (by omega)
theorem dgs_pre : ∀ {K k : Nat}, (∀ i, i < k → i < K) → dgs c a K = true → dgs c a k = true
  | K, 0, _, _ => rfl
  | K, k + 1, hk, h => by
    have := dgs_at h (hk k (by omega))
    show (dgs c a k && (decide (48 ≤ c (a + k)) && decide (c (a + k) ≤ 57))) = true
    rw [dgs_pre (k := k) (fun i hi => hk i (by omega)) h, decide_eq_true this.1, decide_eq_true this.2]; rfl
theorem am_or : ∀ k, amN c a k = vlN c a k ∨ (99999999999 < amN c a k ∧ 99999999999 < vlN c a k)
  | 0 => Or.inl rfl
  | k + 1 => by
    have e1 : amN c a (k + 1) = if 99999999999 < amN c a k then amN c a k else 10 * amN c a k + (c (a + k) - 48) := rfl
    have e2 : vlN c a (k + 1) = 10 * vlN c a k + (c (a + k) - 48) := rfl
    rcases am_or k with h | h
    · by_cases q : 99999999999 < amN c a k
      · rw [if_pos q] at e1
        exact Or.inr ⟨by omega, by omega⟩
      · rw [if_neg q] at e1
        exact Or.inl (by omega)
    · rw [if_pos h.1] at e1
      exact Or.inr ⟨by omega, by omega⟩
theorem am_bd (hd : ∀ k, dgs c a k = true → ∀ i, i < k → c (a + i) ≤ 57) : ∀ k, dgs c a k = true → amN c a k ≤ 999999999999
  | 0, _ => Nat.zero_le _
  | k + 1, h => by
    have e1 : amN c a (k + 1) = if 99999999999 < amN c a k then amN c a k else 10 * amN c a k + (c (a + k) - 48) := rfl
    have ih := am_bd hd k (dgs_pre (fun i hi => by omega) h)
    have := hd (k + 1) h k (by omega)
    by_cases q : 99999999999 < amN c a k
    · rw [if_pos q] at e1; omega
    · rw [if_neg q] at e1; omega
end NU
section NB
variable {I : Nat → Nat → Int32} {J : Nat → Nat → Int64} {D : Nat → Nat → UInt64} {c : Nat → Nat} {n : Nat}
theorem c_nm (ch : ChO c n) (ht : Txt c n (I 313)) {v a e K : Nat} (hv : v < 40) (he : I 315 v = nI e) (hen : e ≤ n) (hK : a + K = e) {ng : Int32} : ∀ r k, k + r = K → dgs c a k = true → vlN c a k ≤ 2147483648 →
    ex (87, 59, [.ref 312, .int (nI v), .int (nI (a + k)), .int ng, .long (lN (vlN c a k)), dv, dv, dv], [], mm I J D) = if dgs c a K = true ∧ vlN c a K ≤ 2147483648 then ex (87, 127, [dv, dv, dv, .int ng, .long (lN (vlN c a K)), dv, dv, dv], [], mm I J D) else some (.inl (some (.long 4294967294)), mm I J D)
  | 0, k, h, hd, hv2 => by
    have n80 := ch.1
    have : k = K := by omega
    subst this
    rw [e_87_59, inb_n hv (by decide), cond_true, nI_clamp (show v < 2 ^ 31 by omega), he, hK, decide_eq_true ((nI_leI (by omega) (by omega)).mpr (Nat.le_refl _)), cond_true, if_pos ⟨hd, hv2⟩]
  | r + 1, k, h, hd, hv2 => by
    have n80 := ch.1
    have hc := ch.2 (a + k) (by omega)
    have es : dgs c a (k + 1) = (dgs c a k && (decide (48 ≤ c (a + k)) && decide (c (a + k) ≤ 57))) := rfl
    have ev : vlN c a (k + 1) = 10 * vlN c a k + (c (a + k) - 48) := rfl
    have no : dgs c a (k + 1) = false ∨ 2147483648 < vlN c a (k + 1) → ¬ (dgs c a K = true ∧ vlN c a K ≤ 2147483648) := fun w ⟨w1, w2⟩ => by
      have p1 := dgs_pre (k := k + 1) (fun i hi => by omega) w1
      have p2 := vl_mono (c := c) (a := a) (K - (k + 1)) (k + 1)
      rw [show k + 1 + (K - (k + 1)) = K by omega] at p2
      rcases w with w | w
      · rw [p1] at w; cases w
      · omega
    rw [e_87_59, inb_n hv (by decide), cond_true, nI_clamp (show v < 2 ^ 31 by omega), he, decide_eq_false (show ¬ nI e ≤ nI (a + k) from nI_ge (by omega) (by omega)), cond_false, e_87_69, inb_n (show a + k < 80 by omega) (by decide), cond_true, nI_clamp (show a + k < 2 ^ 31 by omega), ht (a + k) (by omega)]
    by_cases q : c (a + k) < 48
    · rw [decide_eq_true ((dg_lt _ (by omega)).mpr q), cond_true, e_87_92, if_neg (no (Or.inl (by rw [es, decide_eq_false (show ¬ 48 ≤ c (a + k) by omega), Bool.false_and, Bool.and_false])))]
    · rw [decide_eq_false (fun w => q ((dg_lt _ (by omega)).mp w)), cond_false, e_87_85]
      by_cases q2 : c (a + k) ≤ 57
      · rw [decide_eq_true ((dg_le _ (by omega) (by omega)).mpr q2), cond_true, e_87_96, dg_v (by omega) (by omega), l10, ← ev]
        by_cases q3 : vlN c a (k + 1) ≤ 2147483648
        · have le : lg_cmp (lN (vlN c a (k + 1))) 2147483648 ≤ 0 := (lgc_le _ _).mpr (Int64.le_iff_toInt_le.mpr (by rw [lB (by omega), show (2147483648 : Int64).toInt = 2147483648 from by decide]; omega))
          have ih := c_nm ch ht hv he hen hK (ng := ng) r (k + 1) (by omega) (by rw [es, hd, decide_eq_true (show 48 ≤ c (a + k) by omega), decide_eq_true q2]; rfl) q3
          rw [decide_eq_true le, cond_true, e_87_121, nI_1]
          exact ih
        · have b1 : vlN c a (k + 1) ≤ 21474836489 + 9 := by omega
          have le : ¬ lg_cmp (lN (vlN c a (k + 1))) 2147483648 ≤ 0 := fun w => by
            have := Int64.le_iff_toInt_le.mp ((lgc_le _ _).mp w)
            rw [lB (by omega), show (2147483648 : Int64).toInt = 2147483648 from by decide] at this
            omega
          rw [decide_eq_false le, cond_false, e_87_117, if_neg (no (Or.inr (by omega)))]
      · rw [decide_eq_false (fun w => q2 ((dg_le _ (by omega) (by omega)).mp w)), cond_false, e_87_92, if_neg (no (Or.inl (by rw [es, decide_eq_false q2, Bool.and_false, Bool.and_false])))]
/-- a number by the book -/
theorem c_num (ch : ChO c n) (ht : Txt c n (I 313)) {v s e : Nat} (hv : v < 40) (hs : I 314 v = nI s) (he : I 315 v = nI e) (hse : s < e) (hen : e ≤ n) : ex (87, 0, [.ref 312, .int (nI v), dv, dv, dv, dv, dv, dv], [], mm I J D) = some (.inl (some (.long (nL (numO c s e)))), mm I J D) := by
  have n80 := ch.1
  have hc := ch.2 s (by omega)
  -- behind the sign
  have go : ∀ (a : Nat) (ng : Int32), a = dg0 c s → ng = bI (decide (c s = 45)) → ex (87, 42, [.ref 312, .int (nI v), .int (nI a), .int ng, dv, dv, dv, dv], [], mm I J D) = some (.inl (some (.long (nL (numO c s e)))), mm I J D) := fun a ng ha hg => by
    unfold numO
    rw [← ha]
    have a81 : a ≤ s + 1 := by rw [ha]; unfold dg0; split <;> omega
    rw [e_87_42, inb_n hv (by decide), cond_true, nI_clamp (show v < 2 ^ 31 by omega), he]
    by_cases q : a < e
    · rw [decide_eq_true ((nI_ltI (by omega) (by omega)).mpr q), cond_true, e_87_56]
      have lp := c_nm (I := I) (J := J) (D := D) ch ht hv he hen (a := a) (K := e - a) (by omega) (ng := ng) (e - a) 0 (by omega) rfl (Nat.zero_le _)
      rw [show ex (87, 59, [.ref 312, .int (nI v), .int (nI a), .int ng, .long 0, dv, dv, dv], [], mm I J D) = _ from lp]
      by_cases q2 : dgs c a (e - a) = true ∧ vlN c a (e - a) ≤ 2147483648
      · rw [if_pos q2, e_87_127, hg]
        by_cases q3 : c s = 45
        · rw [decide_eq_true q3, decide_eq_false (show ¬ bI true = 0 by decide), cond_false, e_87_131, e_87_139, if_pos q3, if_pos q3, if_pos ⟨q, q2.1, by omega⟩]
          have en : -lN (vlN c a (e - a)) = Int64.ofInt (-((vlN c a (e - a) : Nat) : Int)) := by rw [Int64.ofInt_neg, Int64.ofInt_eq_ofNat]; rfl
          have le : lg_cmp (-lN (vlN c a (e - a))) 2147483647 ≤ 0 := (lgc_le _ _).mpr (Int64.le_iff_toInt_le.mpr (by rw [en, Int64.toInt_ofInt_of_le (by omega) (by omega), show (2147483647 : Int64).toInt = 2147483647 from by decide]; omega))
          rw [decide_eq_true le, cond_true, e_87_156, e_87_158, en]
          rfl
        · rw [decide_eq_false q3, decide_eq_true (show bI false = 0 from rfl), cond_true, e_87_137, e_87_139, if_neg q3, if_neg q3]
          by_cases q4 : vlN c a (e - a) ≤ 2147483647
          · have le : lg_cmp (lN (vlN c a (e - a))) 2147483647 ≤ 0 := (lgc_le _ _).mpr (Int64.le_iff_toInt_le.mpr (by rw [lB (by omega), show (2147483647 : Int64).toInt = 2147483647 from by decide]; omega))
            rw [decide_eq_true le, cond_true, e_87_156, e_87_158, if_pos ⟨q, q2.1, by omega⟩]
            show (_ : Option Ou) = some (.inl (some (.long (Int64.ofInt ((vlN c a (e - a) : Nat) : Int)))), mm I J D)
            rw [Int64.ofInt_eq_ofNat]; rfl
          · have le : ¬ lg_cmp (lN (vlN c a (e - a))) 2147483647 ≤ 0 := fun w => by
              have := Int64.le_iff_toInt_le.mp ((lgc_le _ _).mp w)
              rw [lB (by omega), show (2147483647 : Int64).toInt = 2147483647 from by decide] at this
              omega
            rw [decide_eq_false le, cond_false, e_87_150, e_87_158, if_neg (fun w => q4 (by have := w.2.2; omega))]
            rfl
      · rw [if_neg q2, if_neg (fun w => q2 ⟨w.2.1, by have := w.2.2; split at this <;> omega⟩)]
        rfl
    · rw [decide_eq_false (fun w => q ((nI_ltI (by omega) (by omega)).mp w)), cond_false, e_87_52, if_neg (fun w => q w.1)]
      rfl
  rw [e_87_0, inb_n hv (by decide), cond_true, nI_clamp (show v < 2 ^ 31 by omega), hs, inb_n (show s < 80 by omega) (by decide), cond_true, nI_clamp (show s < 2 ^ 31 by omega), ht s (by omega)]
  by_cases q : c s = 45
  · rw [decide_eq_false (show ¬ nI (c s) ≠ 45 from fun w => w (by rw [q]; rfl)), cond_false, e_87_18, e_87_23, d11, cond_true, e_87_39, nI_1]
    exact go (s + 1) 1 (by unfold dg0; rw [if_pos (Or.inl q)]) (by rw [decide_eq_true q]; rfl)
  · have q45 : nI (c s) ≠ 45 := fun w => q ((nI_eq (b := 45) (by omega) (by decide)).mp w)
    rw [decide_eq_true q45, cond_true, e_87_22, e_87_23, d01, cond_false, e_87_28, inb_n (show s < 80 by omega) (by decide), cond_true, nI_clamp (show s < 2 ^ 31 by omega), ht s (by omega)]
    by_cases q2 : c s = 43
    · rw [decide_eq_false (show ¬ nI (c s) ≠ 43 from fun w => w (by rw [q2]; rfl)), cond_false, e_87_39, nI_1]
      exact go (s + 1) 0 (by unfold dg0; rw [if_pos (Or.inr q2)]) (by rw [decide_eq_false q]; rfl)
    · rw [decide_eq_true (show nI (c s) ≠ 43 from fun w => q2 ((nI_eq (b := 43) (by omega) (by decide)).mp w)), cond_true]
      exact go s 0 (by unfold dg0; rw [if_neg (fun w => by rcases w with w | w; exact q w; exact q2 w)]) (by rw [decide_eq_false q]; rfl)
/-! by the model -/
theorem m_mns (ch : ChO c n) (ht : Txt c n (I 320)) {v s : Nat} (hv : v < 40) (hs : I 333 v = nI s) (hsn : s < n) : ex (254, 0, [.ref 316, .int (nI v)], [], mm I J D) = some (.inl (some (.int (bI (decide (c s = 45))))), mm I J D) := by
  have n80 := ch.1
  have hc := ch.2 s hsn
  rw [e_254_0, inb_n (show v < 80 by omega) (by decide), cond_true, nI_clamp (show v < 2 ^ 31 by omega), hs, inb_n (show s < 80 by omega) (by decide), cond_true, nI_clamp (show s < 2 ^ 31 by omega), ht s hsn]
  by_cases q : c s = 45
  · rw [decide_eq_false (show ¬ nI (c s) ≠ 45 from fun w => w (by rw [q]; rfl)), cond_false, e_254_16, e_254_21, decide_eq_true (Or.inr rfl), cond_true, decide_eq_true q]; rfl
  · rw [decide_eq_true (show nI (c s) ≠ 45 from fun w => q ((nI_eq (b := 45) (by omega) (by decide)).mp w)), cond_true, e_254_20, e_254_21, decide_eq_true (Or.inl rfl), cond_true, decide_eq_false q]; rfl
theorem m_df (ch : ChO c n) (ht : Txt c n (I 320)) {v s : Nat} (hv : v < 40) (hs : I 333 v = nI s) (hsn : s < n) : ex (255, 0, [.ref 316, .int (nI v), dv], [], mm I J D) = some (.inl (some (.int (nI (dg0 c s)))), mm I J D) := by
  have n80 := ch.1
  have hc := ch.2 s hsn
  have z1 : ∀ d : Nat, d = dg0 c s - s → dg0 c s = s + d → some (Sum.inl (some (Value.int (nI s + nI d))), mm I J D) = (some (.inl (some (.int (nI (dg0 c s)))), mm I J D) : Option Ou) := fun d _ h => by rw [nI_add, h]
  rw [e_255_0, m_mns ch ht hv hs hsn, cal_v, ka, e_255_5]
  by_cases q : c s = 45
  · rw [decide_eq_true q, decide_eq_true (show bI true ≠ 0 by decide), cond_true, e_255_24, e_255_29, inb_n (show v < 80 by omega) (by decide), cond_true, d10, cond_false, nI_clamp (show v < 2 ^ 31 by omega), hs, e_255_40, e_255_45]
    have e : dg0 c s = s + 1 := by unfold dg0; rw [if_pos (Or.inl q)]
    rw [nI_1, e]
  · rw [decide_eq_false q, decide_eq_false (show ¬ bI false ≠ 0 by decide), cond_false, e_255_8, inb_n (show v < 80 by omega) (by decide), cond_true, nI_clamp (show v < 2 ^ 31 by omega), hs, inb_n (show s < 80 by omega) (by decide), cond_true, nI_clamp (show s < 2 ^ 31 by omega), ht s hsn]
    by_cases q2 : c s = 43
    · rw [decide_eq_false (show ¬ nI (c s) ≠ 43 from fun w => w (by rw [q2]; rfl)), cond_false, e_255_24, e_255_29, inb_n (show v < 80 by omega) (by decide), cond_true, d10, cond_false, nI_clamp (show v < 2 ^ 31 by omega), hs, e_255_40, e_255_45]
      have e : dg0 c s = s + 1 := by unfold dg0; rw [if_pos (Or.inr q2)]
      rw [nI_1, e]
    · rw [decide_eq_true (show nI (c s) ≠ 43 from fun w => q2 ((nI_eq (b := 43) (by omega) (by decide)).mp w)), cond_true, e_255_28, e_255_29, inb_n (show v < 80 by omega) (by decide), cond_true, d00, cond_true, nI_clamp (show v < 2 ^ 31 by omega), hs, e_255_44, e_255_45]
      have e : dg0 c s = s := by unfold dg0; rw [if_neg (fun w => by rcases w with w | w; exact q w; exact q2 w)]
      rw [show nI s + 0 = nI s from nI_add s 0, e]
theorem m_am (ch : ChO c n) (ht : Txt c n (I 320)) {v a e K : Nat} (hv : v < 40) (he : I 334 v = nI e) (hen : e ≤ n) (hK : a + K = e) (hd : dgs c a K = true) : ∀ r k, k + r = K → ex (256, 9, [.ref 316, .int (nI v), .long (lN (amN c a k)), dv, .int (nI (a + k))], [], mm I J D) = some (.inl (some (.long (lN (amN c a K)))), mm I J D)
  | 0, k, h => by
    have n80 := ch.1
    have : k = K := by omega
    subst this
    rw [e_256_9, inb_n (show v < 80 by omega) (by decide), cond_true, nI_clamp (show v < 2 ^ 31 by omega), he, hK, decide_eq_true ((nI_leI (by omega) (by omega)).mpr (Nat.le_refl _)), cond_true, e_256_57]
  | r + 1, k, h => by
    have n80 := ch.1
    have hc := dgs_at hd (show k < K by omega)
    have ih := m_am ch ht hv he hen hK hd r (k + 1) (by omega)
    have e1 : amN c a (k + 1) = if 99999999999 < amN c a k then amN c a k else 10 * amN c a k + (c (a + k) - 48) := rfl
    have bd := am_bd (c := c) (a := a) (fun k hk i hi => (dgs_at hk hi).2) k (dgs_pre (fun i hi => by omega) hd)
    have cmp : (lg_cmp (lN (amN c a k)) 99999999999 ≤ 0) ↔ amN c a k ≤ 99999999999 := by
      rw [lgc_le, Int64.le_iff_toInt_le, lB (by omega), show (99999999999 : Int64).toInt = 99999999999 from by decide]; omega
    rw [e_256_9, inb_n (show v < 80 by omega) (by decide), cond_true, nI_clamp (show v < 2 ^ 31 by omega), he, decide_eq_false (show ¬ nI e ≤ nI (a + k) from nI_ge (by omega) (by omega)), cond_false, e_256_20]
    by_cases q : 99999999999 < amN c a k
    · rw [if_pos q] at e1
      rw [decide_eq_false (fun w => by have := cmp.mp w; omega), cond_false, e_256_28, e_256_50, nI_1, ← e1]
      exact ih
    · rw [if_neg q] at e1
      have ed : ((10 : Int64) * lN (amN c a k) + (nI (c (a + k))).toInt64) - 48 = lN (amN c a (k + 1)) := by
        rw [nI_l (by omega), l10, show (48 : Int64) = lN 48 from rfl, lN_sub (by omega), e1]
        congr 1; omega
      rw [decide_eq_true (cmp.mpr (by omega)), cond_true, e_256_32, inb_n (show a + k < 80 by omega) (by decide), cond_true, nI_clamp (show a + k < 2 ^ 31 by omega), ht (a + k) (by omega), ed, e_256_50, nI_1]
      exact ih
theorem m_dgl (ch : ChO c n) (ht : Txt c n (I 320)) {v a e K : Nat} (hv : v < 40) (he : I 334 v = nI e) (hen : e ≤ n) (hK : a + K = e) : ∀ r k, k + r = K → dgs c a k = true → ex (257, 22, [.ref 316, .int (nI v), .int (nI (a + k))], [], mm I J D) = if dgs c a K = true then ex (257, 56, [.ref 316, .int (nI v), dv], [], mm I J D) else some (.inl (some (.int 0)), mm I J D)
  | 0, k, h, hd => by
    have n80 := ch.1
    have : k = K := by omega
    subst this
    rw [e_257_22, inb_n (show v < 80 by omega) (by decide), cond_true, nI_clamp (show v < 2 ^ 31 by omega), he, hK, decide_eq_true ((nI_leI (by omega) (by omega)).mpr (Nat.le_refl _)), cond_true, if_pos hd]
  | r + 1, k, h, hd => by
    have n80 := ch.1
    have hc := ch.2 (a + k) (by omega)
    have es : dgs c a (k + 1) = (dgs c a k && (decide (48 ≤ c (a + k)) && decide (c (a + k) ≤ 57))) := rfl
    rw [e_257_22, inb_n (show v < 80 by omega) (by decide), cond_true, nI_clamp (show v < 2 ^ 31 by omega), he, decide_eq_false (show ¬ nI e ≤ nI (a + k) from nI_ge (by omega) (by omega)), cond_false, e_257_32, inb_n (show a + k < 80 by omega) (by decide), cond_true, nI_clamp (show a + k < 2 ^ 31 by omega), ht (a + k) (by omega)]
    by_cases q : 48 ≤ c (a + k) ∧ c (a + k) ≤ 57
    · rw [x_inT (show (48 : Int32) ≤ nI (c (a + k)) ∧ nI (c (a + k)) ≤ 57 from ⟨(nI_leI (a := 48) (by decide) (by omega)).mpr q.1, (nI_leI (b := 57) (by omega) (by decide)).mpr q.2⟩), cal_v, ka, e_257_45, d11, cond_true, e_257_50, nI_1]
      exact m_dgl ch ht hv he hen hK r (k + 1) (by omega) (by rw [es, hd, decide_eq_true q.1, decide_eq_true q.2]; rfl)
    · rw [x_inF (show ¬ ((48 : Int32) ≤ nI (c (a + k)) ∧ nI (c (a + k)) ≤ 57) from fun w => q ⟨(nI_leI (a := 48) (by decide) (by omega)).mp w.1, (nI_leI (b := 57) (by omega) (by decide)).mp w.2⟩), cal_v, ka, e_257_45, d01, cond_false, e_257_48, if_neg (fun w => q (dgs_at w (by omega)))]
/-- is it a number, by the model -/
theorem m_isn (ch : ChO c n) (ht : Txt c n (I 320)) {v s e : Nat} (hv : v < 40) (hs : I 333 v = nI s) (he : I 334 v = nI e) (hse : s < e) (hen : e ≤ n) : ex (257, 0, [.ref 316, .int (nI v), dv], [], mm I J D) = some (.inl (some (.int (bI (numO c s e).isSome))), mm I J D) := by
  have n80 := ch.1
  have a81 : dg0 c s ≤ s + 1 := by unfold dg0; split <;> omega
  rw [e_257_0, m_df ch ht hv hs (by omega), cal_v, ka, e_257_5, inb_n (show v < 80 by omega) (by decide), cond_true, nI_clamp (show v < 2 ^ 31 by omega), he]
  unfold numO
  by_cases q : dg0 c s < e
  · rw [decide_eq_true (show nI (dg0 c s) ≠ nI e from fun w => by have := (nI_eq (by omega) (by omega)).mp w; omega), cond_true, e_257_16, m_df ch ht hv hs (by omega), cal_v, ka, e_257_21]
    have lp := m_dgl (I := I) (J := J) (D := D) ch ht hv he hen (a := dg0 c s) (K := e - dg0 c s) (by omega) (e - dg0 c s) 0 (by omega) rfl
    rw [show ex (257, 22, [.ref 316, .int (nI v), .int (nI (dg0 c s))], [], mm I J D) = _ from lp]
    by_cases q2 : dgs c (dg0 c s) (e - dg0 c s) = true
    · have am := m_am (I := I) (J := J) (D := D) ch ht hv he hen (a := dg0 c s) (K := e - dg0 c s) (by omega) q2 (e - dg0 c s) 0 (by omega)
      have bd := am_bd (c := c) (a := dg0 c s) (fun k hk i hi => (dgs_at hk hi).2) _ q2
      have ao := am_or (c := c) (a := dg0 c s) (e - dg0 c s)
      obtain ⟨A, hA⟩ : ∃ A, A = amN c (dg0 c s) (e - dg0 c s) := ⟨_, rfl⟩
      obtain ⟨V, hV⟩ : ∃ V, V = vlN c (dg0 c s) (e - dg0 c s) := ⟨_, rfl⟩
      rw [← hA] at am bd ao
      rw [← hV] at ao ⊢
      have last : ∀ m : Nat, m ≤ 2147483648 → ex (257, 78, [dv, dv, dv], [.long (lN m), .long (lN A)], mm I J D) = some (.inl (some (.int (bI (decide (V ≤ m))))), mm I J D) := fun m hm => by
        have cmp : 0 < lg_cmp (lN A) (lN m) ↔ m < A := by
          rw [lgc_gt, Int64.lt_iff_toInt_lt, lB (by omega), lB (by omega)]; omega
        rw [e_257_78]
        by_cases w : V ≤ m
        · rw [decide_eq_false (fun z => by have := cmp.mp z; omega), cond_false, e_257_82, e_257_87, decide_eq_true (Or.inr rfl), cond_true, decide_eq_true w]; rfl
        · rw [decide_eq_true (cmp.mpr (by omega)), cond_true, e_257_86, e_257_87, decide_eq_true (Or.inl rfl), cond_true, decide_eq_false w]; rfl
      rw [if_pos q2, e_257_56, e_256_0, m_df ch ht hv hs (by omega), cal_v, ka, e_256_7]
      rw [show ex (256, 9, [.ref 316, .int (nI v), .long 0, dv, .int (nI (dg0 c s))], [], mm I J D) = _ from am, cal_v]
      refine (e_257_61 I J D (nI v) (lN A)).trans ?_
      rw [m_mns ch ht hv hs (by omega), cal_v, ka, e_257_66]
      by_cases q3 : c s = 45
      · rw [decide_eq_true q3, decide_eq_false (show ¬ bI true = 0 by decide), cond_false, e_257_69, if_pos q3]
        refine (last 2147483648 (Nat.le_refl _)).trans ?_
        by_cases w : V ≤ 2147483648
        · rw [decide_eq_true w, if_pos ⟨q, q2, by omega⟩]; rfl
        · rw [decide_eq_false w, if_neg (fun z => w (by have := z.2.2; omega))]; rfl
      · rw [decide_eq_false q3, decide_eq_true (show bI false = 0 from rfl), cond_true, e_257_75, if_neg q3]
        refine (last 2147483647 (by decide)).trans ?_
        by_cases w : V ≤ 2147483647
        · rw [decide_eq_true w, if_pos ⟨q, q2, by omega⟩]; rfl
        · rw [decide_eq_false w, if_neg (fun z => w (by have := z.2.2; omega))]; rfl
    · rw [if_neg q2, if_neg (fun w => q2 w.2.1)]; rfl
  · have e1 : dg0 c s = e := by omega
    rw [e1, decide_eq_false (show ¬ nI e ≠ nI e from fun w => w rfl), cond_false, e_257_14, if_neg (fun w => by have := w.1; omega)]; rfl
/-- its value, by the model -/
theorem m_nof (ch : ChO c n) (ht : Txt c n (I 320)) {v s e : Nat} (hv : v < 40) (hs : I 333 v = nI s) (he : I 334 v = nI e) (hse : s < e) (hen : e ≤ n) {z : Int} (hz : numO c s e = some z) : ex (258, 0, [.ref 316, .int (nI v)], [], mm I J D) = some (.inl (some (.int (Int32.ofInt z))), mm I J D) := by
  have n80 := ch.1
  unfold numO at hz
  by_cases q : dg0 c s < e ∧ dgs c (dg0 c s) (e - dg0 c s) = true ∧ vlN c (dg0 c s) (e - dg0 c s) ≤ 2147483647 + (if c s = 45 then 1 else 0)
  · rw [if_pos q] at hz
    have am := m_am (I := I) (J := J) (D := D) ch ht hv he hen (a := dg0 c s) (K := e - dg0 c s) (by omega) q.2.1 (e - dg0 c s) 0 (by omega)
    have ao := am_or (c := c) (a := dg0 c s) (e - dg0 c s)
    have l2 : (if c s = 45 then 1 else 0) ≤ 1 := by split <;> omega
    have ev : amN c (dg0 c s) (e - dg0 c s) = vlN c (dg0 c s) (e - dg0 c s) := by
      rcases ao with w | w
      · exact w
      · have := q.2.2; omega
    rw [ev] at am
    have call : ex (256, 0, [.ref 316, .int (nI v), dv, dv, dv], [], mm I J D) = some (.inl (some (.long (lN (vlN c (dg0 c s) (e - dg0 c s))))), mm I J D) := by
      rw [e_256_0, m_df ch ht hv hs (by omega), cal_v, ka, e_256_7]
      exact am
    rw [e_258_0, m_mns ch ht hv hs (by omega), cal_v, ka, e_258_5]
    by_cases q3 : c s = 45
    · rw [if_pos q3] at hz
      cases hz
      rw [decide_eq_true q3, decide_eq_false (show ¬ bI true = 0 by decide), cond_false, e_258_8, call, cal_v]
      refine (e_258_13 I J D _).trans ?_
      rw [e_258_22, show -lN (vlN c (dg0 c s) (e - dg0 c s)) = Int64.ofInt (-((vlN c (dg0 c s) (e - dg0 c s) : Nat) : Int)) by rw [Int64.ofInt_neg, Int64.ofInt_eq_ofNat]; rfl, Int64.toInt32_ofInt]
    · rw [if_neg q3] at hz
      cases hz
      rw [decide_eq_false q3, decide_eq_true (show bI false = 0 from rfl), cond_true, e_258_17, call, cal_v]
      refine (e_258_22 I J D _).trans ?_
      rw [show lN (vlN c (dg0 c s) (e - dg0 c s)) = Int64.ofInt ((vlN c (dg0 c s) (e - dg0 c s) : Nat) : Int) by rw [Int64.ofInt_eq_ofNat]; rfl, Int64.toInt32_ofInt]
  · rw [if_neg q] at hz; cases hz
end NB
