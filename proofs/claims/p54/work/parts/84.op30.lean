/-! ageOf -/
abbrev datN (da : Nat → Int32) (k : Nat) : Bool := decide (da k ≠ -1)
def ageN (da : Nat → Int32) (n b : Nat) : Int32 :=
  bif datN da b then da b else match lowN (datN da) b, highN (datN da) (n - 1 - b) (b + 1) with
  | some a, some c => da a + ((da c - da a) * (nI b - nI a)) / (nI c - nI a)
  | _, _ => -1
def enH (n : Nat) : Option Nat → Int32
  | none => nI n
  | some j => nI j
section AG
variable {I : Nat → Nat → Int32} {J : Nat → Nat → Int64} {D : Nat → Nat → UInt64}
theorem c_up0 : ∀ m, m ≤ 16 → ex (60, 4, [.ref 10, dv, .int (nI m - 1)], [], mm I J D) = some (.inl (some (.int (enc (lowN (datN (I 14)) m)))), mm I J D)
  | 0, _ => by
    rw [e_60_4_10, decide_eq_true (show nI 0 - 1 < 0 by decide), cond_true, e_60_26]
    rfl
  | m + 1, hm => by
    have ih := c_up0 m (by omega)
    rw [nI_pred, e_60_4_10, decide_eq_false (nI_pos (by omega)), cond_false, e_60_8_10, inb_n (by omega) (by decide), cond_true, nI_clamp (by omega)]
    have hs : lowN (datN (I 14)) (m + 1) = bif datN (I 14) m then some m else lowN (datN (I 14)) m := rfl
    rw [hs]
    by_cases hk : I 14 m = -1
    · rw [decide_eq_true hk, cond_true, e_60_20_10, nI_m1, ih, show datN (I 14) m = false from decide_eq_false (fun q => q hk), cond_false]
    · rw [decide_eq_false hk, cond_false, e_60_18, show datN (I 14) m = true from decide_eq_true hk, cond_true]
      rfl
theorem c_dn0 {n : Nat} (hn : I 10 4 = nI n) (h16 : n ≤ 16) : ∀ r k, k + r = n → ex (61, 4, [.ref 10, dv, .int (nI k)], [], mm I J D) = some (.inl (some (.int (enc (highN (datN (I 14)) r k)))), mm I J D)
  | 0, k, h => by
    have : k = n := by omega
    subst this
    rw [e_61_4_10, hn, decide_eq_true (show nI k ≤ nI k from (nI_leI (by omega) (by omega)).mpr (Nat.le_refl _)), cond_true, e_61_30]
    rfl
  | r + 1, k, h => by
    have ih := c_dn0 hn h16 r (k + 1) (by omega)
    have hs : highN (datN (I 14)) (r + 1) k = bif datN (I 14) k then some k else highN (datN (I 14)) r (k + 1) := rfl
    rw [e_61_4_10, hn, decide_eq_false (show ¬ nI n ≤ nI k from nI_ge (a := k) (b := n) (by omega) (by omega)), cond_false, e_61_12_10, inb_n (by omega) (by decide), cond_true, nI_clamp (by omega), hs]
    by_cases hk : I 14 k = -1
    · rw [decide_eq_true hk, cond_true, e_61_24_10, nI_1, ih, show datN (I 14) k = false from decide_eq_false (fun q => q hk), cond_false]
    · rw [decide_eq_false hk, cond_false, e_61_22, show datN (I 14) k = true from decide_eq_true hk, cond_true]
      rfl
theorem c_age0 {n b : Nat} (hn : I 10 4 = nI n) (h16 : n ≤ 16) (hb : b < n) : ex (59, 0, [.ref 10, .int (nI b), dv, dv], [], mm I J D) = some (.inl (some (.int (ageN (I 14) n b))), mm I J D) := by
  rw [e_59_0_10, inb_n (by omega) (by decide), cond_true, nI_clamp (by omega)]
  unfold ageN
  by_cases hk : I 14 b = -1
  · have u := c_up0 (I := I) (J := J) (D := D) b (by omega)
    have d := c_dn0 (J := J) (D := D) hn h16 (n - 1 - b) (b + 1) (by omega)
    rw [decide_eq_true hk, cond_true, e_59_17_10, e_60_0_10, u, cal_v, ka, e_59_22_10, e_61_0_10, nI_1, d, cal_v, ka, e_59_28_10, show datN (I 14) b = false from decide_eq_false (fun q => q hk), cond_false]
    cases hl : lowN (datN (I 14)) b with
    | none => rw [show enc none = -1 from rfl, decide_eq_true rfl, cond_true, e_59_44]
    | some a =>
      have ha := lowN_s hl
      rw [show enc (some a) = nI a from rfl, decide_eq_false (ne_m1 (by omega)), cond_false, e_59_34_10]
      cases hh : highN (datN (I 14)) (n - 1 - b) (b + 1) with
      | none => rw [show enc none = -1 from rfl, decide_eq_true rfl, cond_true, e_59_44]
      | some c =>
        have hc := highN_s hh
        rw [show enc (some c) = nI c from rfl, decide_eq_false (ne_m1 (by omega)), cond_false, e_59_39_10, decide_eq_true ((nI_ltI (by omega) (by omega)).mpr (show a < c by omega)), cond_true, e_59_46_10, inb_n (show a < 16 by omega) (by decide), inb_n (show c < 16 by omega) (by decide), cond_true, cond_true, cond_true, decide_eq_true (show ¬ nI c - nI a = 0 by rw [pk_sub (by omega)]; exact nI_ne0 (by omega) (by omega)), cond_true, nI_clamp (n := a) (by omega), nI_clamp (n := c) (by omega)]
  · rw [decide_eq_false hk, cond_false, e_59_10_10, inb_n (by omega) (by decide), cond_true, nI_clamp (by omega), show datN (I 14) b = true from decide_eq_true hk, cond_true]
theorem c_up1 : ∀ m, m ≤ 16 → ex (60, 4, [.ref 15, dv, .int (nI m - 1)], [], mm I J D) = some (.inl (some (.int (enc (lowN (datN (I 19)) m)))), mm I J D)
  | 0, _ => by
    rw [e_60_4_15, decide_eq_true (show nI 0 - 1 < 0 by decide), cond_true, e_60_26]
    rfl
  | m + 1, hm => by
    have ih := c_up1 m (by omega)
    rw [nI_pred, e_60_4_15, decide_eq_false (nI_pos (by omega)), cond_false, e_60_8_15, inb_n (by omega) (by decide), cond_true, nI_clamp (by omega)]
    have hs : lowN (datN (I 19)) (m + 1) = bif datN (I 19) m then some m else lowN (datN (I 19)) m := rfl
    rw [hs]
    by_cases hk : I 19 m = -1
    · rw [decide_eq_true hk, cond_true, e_60_20_15, nI_m1, ih, show datN (I 19) m = false from decide_eq_false (fun q => q hk), cond_false]
    · rw [decide_eq_false hk, cond_false, e_60_18, show datN (I 19) m = true from decide_eq_true hk, cond_true]
      rfl
theorem c_dn1 {n : Nat} (hn : I 15 4 = nI n) (h16 : n ≤ 16) : ∀ r k, k + r = n → ex (61, 4, [.ref 15, dv, .int (nI k)], [], mm I J D) = some (.inl (some (.int (enc (highN (datN (I 19)) r k)))), mm I J D)
  | 0, k, h => by
    have : k = n := by omega
    subst this
    rw [e_61_4_15, hn, decide_eq_true (show nI k ≤ nI k from (nI_leI (by omega) (by omega)).mpr (Nat.le_refl _)), cond_true, e_61_30]
    rfl
  | r + 1, k, h => by
    have ih := c_dn1 hn h16 r (k + 1) (by omega)
    have hs : highN (datN (I 19)) (r + 1) k = bif datN (I 19) k then some k else highN (datN (I 19)) r (k + 1) := rfl
    rw [e_61_4_15, hn, decide_eq_false (show ¬ nI n ≤ nI k from nI_ge (a := k) (b := n) (by omega) (by omega)), cond_false, e_61_12_15, inb_n (by omega) (by decide), cond_true, nI_clamp (by omega), hs]
    by_cases hk : I 19 k = -1
    · rw [decide_eq_true hk, cond_true, e_61_24_15, nI_1, ih, show datN (I 19) k = false from decide_eq_false (fun q => q hk), cond_false]
    · rw [decide_eq_false hk, cond_false, e_61_22, show datN (I 19) k = true from decide_eq_true hk, cond_true]
      rfl
theorem c_age1 {n b : Nat} (hn : I 15 4 = nI n) (h16 : n ≤ 16) (hb : b < n) : ex (59, 0, [.ref 15, .int (nI b), dv, dv], [], mm I J D) = some (.inl (some (.int (ageN (I 19) n b))), mm I J D) := by
  rw [e_59_0_15, inb_n (by omega) (by decide), cond_true, nI_clamp (by omega)]
  unfold ageN
  by_cases hk : I 19 b = -1
  · have u := c_up1 (I := I) (J := J) (D := D) b (by omega)
    have d := c_dn1 (J := J) (D := D) hn h16 (n - 1 - b) (b + 1) (by omega)
    rw [decide_eq_true hk, cond_true, e_59_17_15, e_60_0_15, u, cal_v, ka, e_59_22_15, e_61_0_15, nI_1, d, cal_v, ka, e_59_28_15, show datN (I 19) b = false from decide_eq_false (fun q => q hk), cond_false]
    cases hl : lowN (datN (I 19)) b with
    | none => rw [show enc none = -1 from rfl, decide_eq_true rfl, cond_true, e_59_44]
    | some a =>
      have ha := lowN_s hl
      rw [show enc (some a) = nI a from rfl, decide_eq_false (ne_m1 (by omega)), cond_false, e_59_34_15]
      cases hh : highN (datN (I 19)) (n - 1 - b) (b + 1) with
      | none => rw [show enc none = -1 from rfl, decide_eq_true rfl, cond_true, e_59_44]
      | some c =>
        have hc := highN_s hh
        rw [show enc (some c) = nI c from rfl, decide_eq_false (ne_m1 (by omega)), cond_false, e_59_39_15, decide_eq_true ((nI_ltI (by omega) (by omega)).mpr (show a < c by omega)), cond_true, e_59_46_15, inb_n (show a < 16 by omega) (by decide), inb_n (show c < 16 by omega) (by decide), cond_true, cond_true, cond_true, decide_eq_true (show ¬ nI c - nI a = 0 by rw [pk_sub (by omega)]; exact nI_ne0 (by omega) (by omega)), cond_true, nI_clamp (n := a) (by omega), nI_clamp (n := c) (by omega)]
  · rw [decide_eq_false hk, cond_false, e_59_10_15, inb_n (by omega) (by decide), cond_true, nI_clamp (by omega), show datN (I 19) b = true from decide_eq_true hk, cond_true]
theorem m_up {i n b : Nat} {v : Int32} {da : Nat → Int32} (hi : i < 2) (h16 : n ≤ 16) (hd : ∀ k, k < n → I 317 (557 + 16 * i + k) = da k) : ∀ m, m ≤ n → ex (226, 18, [.ref 316, .int (nI i), .int v, .int (nI m - 1), dv, dv], [], mm I J D) = ex (226, 38, [.ref 316, .int (nI i), .int v, .int (enc (lowN (datN da) m)), dv, dv], [], mm I J D)
  | 0, _ => by
    rw [e_226_18, decide_eq_true (show nI 0 - 1 < 0 by decide), cond_true]
    rfl
  | m + 1, hm => by
    have ih := m_up (b := b) (v := v) hi h16 hd m (by omega)
    rw [nI_pred, e_226_18, decide_eq_false (nI_pos (by omega)), cond_false, e_226_22, m_date hi (by omega), cal_v, ka, e_226_28, hd m (by omega)]
    have hs : lowN (datN da) (m + 1) = bif datN da m then some m else lowN (datN da) m := rfl
    rw [hs]
    by_cases hk : da m = -1
    · rw [decide_eq_false (fun q => q hk), cond_false, e_226_32, nI_m1, ih, show datN da m = false from decide_eq_false (fun q => q hk), cond_false]
    · rw [decide_eq_true hk, cond_true, show datN da m = true from decide_eq_true hk, cond_true]
      rfl
theorem m_dn {i n b : Nat} {v u : Int32} {da : Nat → Int32} (hi : i < 2) (hn : I 317 (491 + i) = nI n) (h16 : n ≤ 16) (hd : ∀ k, k < n → I 317 (557 + 16 * i + k) = da k) : ∀ r k, k + r = n → ex (226, 41, [.ref 316, .int (nI i), .int v, .int u, .int (nI k), dv], [], mm I J D) = ex (226, 73, [.ref 316, .int (nI i), .int v, .int u, .int (enH n (highN (datN da) r k)), dv], [], mm I J D)
  | 0, k, h => by
    have : k = n := by omega
    subst this
    rw [e_226_41, show (491 : Int32) + nI i = nI (491 + i) from nI_add 491 i, inb_n (by omega) (by decide), cond_true, nI_clamp (by omega), hn, decide_eq_true (show nI k ≤ nI k from (nI_leI (by omega) (by omega)).mpr (Nat.le_refl _)), cond_true]
    rfl
  | r + 1, k, h => by
    have ih := m_dn (b := b) (v := v) (u := u) hi hn h16 hd r (k + 1) (by omega)
    have hs : highN (datN da) (r + 1) k = bif datN da k then some k else highN (datN da) r (k + 1) := rfl
    rw [e_226_41, show (491 : Int32) + nI i = nI (491 + i) from nI_add 491 i, inb_n (by omega) (by decide), cond_true, nI_clamp (by omega), hn, decide_eq_false (show ¬ nI n ≤ nI k from nI_ge (a := k) (b := n) (by omega) (by omega)), cond_false, e_226_56, m_date hi (by omega), cal_v, ka, e_226_63, hd k (by omega), hs]
    by_cases hk : da k = -1
    · rw [decide_eq_false (fun q => q hk), cond_false, e_226_67, nI_1, ih, show datN da k = false from decide_eq_false (fun q => q hk), cond_false]
    · rw [decide_eq_true hk, cond_true, show datN da k = true from decide_eq_true hk, cond_true]
      rfl
theorem m_age {i n b : Nat} {da : Nat → Int32} (hi : i < 2) (hn : I 317 (491 + i) = nI n) (h16 : n ≤ 16) (hb : b < n) (hd : ∀ k, k < n → I 317 (557 + 16 * i + k) = da k) : ex (226, 16, [.ref 316, .int (nI i), .int (nI b), dv, dv, dv], [], mm I J D) =
    bif (datN da b || ((lowN (datN da) b).isSome && (highN (datN da) (n - 1 - b) (b + 1)).isSome)) then some (.inl (some (.int (ageN da n b))), mm (ups I 316 0 0) J D) else some (.inl (some (.int 0)), mm (ups I 316 0 2) J D) := by
  have hu := m_up (J := J) (D := D) (b := b) (v := nI b) hi h16 hd (b + 1) hb
  have hl1 : lowN (datN da) (b + 1) = bif datN da b then some b else lowN (datN da) b := rfl
  have hh1 : highN (datN da) (n - b) b = bif datN da b then some b else highN (datN da) (n - 1 - b) (b + 1) := by
    rw [show n - b = (n - 1 - b) + 1 by omega]; rfl
  rw [nI_pred] at hu
  rw [e_226_16, hu, e_226_38, m_dn (b := b) hi hn h16 hd (n - b) b (by omega), e_226_73, hl1, hh1]
  have hr : ∀ k, k < n → ups I 316 0 0 317 (557 + 16 * i + k) = da k := fun k hk => by rw [uI (by decide)]; exact hd k hk
  unfold ageN
  cases hp : datN da b with
  | true =>
    rw [cond_true, cond_true, cond_true, Bool.true_or, cond_true, show enc (some b) = nI b from rfl, show enH n (some b) = nI b from rfl, decide_eq_false (nI_pos (by omega)), cond_false, e_226_78, show (491 : Int32) + nI i = nI (491 + i) from nI_add 491 i, inb_n (by omega) (by decide), cond_true, nI_clamp (by omega), hn, decide_eq_false (show ¬ nI n ≤ nI b from nI_ge (a := b) (b := n) (by omega) (by omega)), cond_false, e_226_93, e_226_98, x_canT, cal_v, ka, e_226_102, d11, cond_true, e_226_107, m_date hi (by omega), cal_v, ka, e_226_113, hr b hb, decide_eq_false (fun q => q rfl), cond_false, e_226_121, e_226_148]
  | false =>
    rw [cond_false, cond_false, cond_false, Bool.false_or]
    cases hl : lowN (datN da) b with
    | none =>
      rw [show enc none = -1 from rfl, decide_eq_true (show (-1 : Int32) < 0 by decide), cond_true, e_226_97, e_226_98, x_canF, cal_v, ka, e_226_102, d01, cond_false, e_226_105]
      rfl
    | some a =>
      have ha := lowN_s hl
      rw [show enc (some a) = nI a from rfl, decide_eq_false (nI_pos (by omega)), cond_false, e_226_78, show (491 : Int32) + nI i = nI (491 + i) from nI_add 491 i, inb_n (by omega) (by decide), cond_true, nI_clamp (by omega), hn]
      cases hh : highN (datN da) (n - 1 - b) (b + 1) with
      | none =>
        rw [show enH n none = nI n from rfl, decide_eq_true (show nI n ≤ nI n from (nI_leI (by omega) (by omega)).mpr (Nat.le_refl _)), cond_true, e_226_97, e_226_98, x_canF, cal_v, ka, e_226_102, d01, cond_false, e_226_105]
        rfl
      | some c =>
        have hc := highN_s hh
        rw [show enH n (some c) = nI c from rfl, decide_eq_false (show ¬ nI n ≤ nI c from nI_ge (a := c) (b := n) (by omega) (by omega)), cond_false, e_226_93, e_226_98, x_canT, cal_v, ka, e_226_102, d11, cond_true, e_226_107, m_date hi (by omega), cal_v, ka, e_226_113, hr a (by omega), decide_eq_true (show nI a ≠ nI c from fun q => by rw [nI_eq (by omega) (by omega)] at q; omega), cond_true, e_226_126, m_date hi (by omega), cal_v, ka, e_226_135, hr c (by omega), decide_eq_true (show ¬ nI c - nI a = 0 by rw [pk_sub (by omega)]; exact nI_ne0 (by omega) (by omega)), cond_true, e_226_148]
        rfl
end AG
theorem rg_nN {a b : Int} {x : Int32} (h : rg a b x) (h0 : 0 ≤ a) : ∃ n : Nat, (n : Int) ≤ b ∧ n < 2 ^ 31 ∧ x = nI n := by
  obtain ⟨h1, h2⟩ := h
  obtain ⟨n, hn, rfl⟩ := nI_of (x := x) (by rw [Int32.lt_iff_toInt_lt, Int32.toInt_zero]; omega)
  rw [nI_toInt hn] at h2
  exact ⟨n, h2, hn, rfl⟩
theorem ageN_ne {da : Nat → Int32} {n b : Nat} (h16 : n ≤ 16) (hb : b < n) (hd : ∀ k, k < n → da k = -1 ∨ rg 0 99999 (da k)) (hs : ∀ k j, k < j → j < n → da k ≠ -1 → da j ≠ -1 → da k ≤ da j) (h : (datN da b || ((lowN (datN da) b).isSome && (highN (datN da) (n - 1 - b) (b + 1)).isSome)) = true) : ageN da n b ≠ -1 := by
  unfold ageN
  cases hp : datN da b with
  | true => rw [cond_true]; exact of_decide_eq_true hp
  | false =>
    rw [hp, Bool.false_or, Bool.and_eq_true] at h
    rw [cond_false]
    cases hl : lowN (datN da) b with
    | none => rw [hl] at h; cases h.1
    | some a =>
      cases hh : highN (datN da) (n - 1 - b) (b + 1) with
      | none => rw [hh] at h; cases h.2
      | some c =>
        have ha := lowN_s hl
        have hc := highN_s hh
        have na : da a ≠ -1 := of_decide_eq_true ha.2
        have nc : da c ≠ -1 := of_decide_eq_true hc.2
        obtain ⟨p, hp1, hp2, ep⟩ := rg_nN ((hd a (by omega)).resolve_left na) (by decide)
        obtain ⟨q, hq1, hq2, eq⟩ := rg_nN ((hd c (by omega)).resolve_left nc) (by decide)
        have hpq := hs a c (by omega) (by omega) na nc
        rw [ep, eq, nI_leI hp2 hq2] at hpq
        show da a + ((da c - da a) * (nI b - nI a)) / (nI c - nI a) ≠ -1
        rw [ep, eq, pk_sub hpq, pk_sub (show a ≤ b by omega), pk_sub (show a ≤ c by omega), pk_mul]
        have hm : (q - p) * (b - a) ≤ 99999 * 16 := Nat.mul_le_mul (by omega) (by omega)
        rw [pk_div (by omega) (by omega) (by omega), nI_add]
        have hdv : (q - p) * (b - a) / (c - a) ≤ (q - p) * (b - a) := Nat.div_le_self _ _
        generalize (q - p) * (b - a) / (c - a) = t at hdv ⊢
        intro e
        have := congrArg Int32.toInt e
        rw [nI_toInt (by omega), show (-1 : Int32).toInt = -1 from rfl] at this
        omega
theorem t_30 {L kk : Nat} {I : Nat → Nat → Int32} {J : Nat → Nat → Int64} {D : Nat → Nat → UInt64} (v : Int32) (h : Inv L kk I J D) (sc : ScOK v I) : Turn L kk 1923 v I J D := by
  obtain ⟨x, hx1⟩ : ∃ q, I 1000002 (v + 1).toNatClampNeg = q := ⟨_, rfl⟩
  obtain ⟨y, hx2⟩ : ∃ q, I 1000002 (v + 2).toNatClampNeg = q := ⟨_, rfl⟩
  have p2 := le_pred (v := x) (b := 1) (B := 2) (B1 := 1) rfl rfl (by decide)
  by_cases hx : 0 ≤ x ∧ x < 2
  · obtain ⟨c, hc, rfl⟩ := ix_of (m := 2) (n := 2) rfl hx
    rcases (show c = 0 ∨ c = 1 by omega) with rfl | rfl
    · obtain ⟨n, hn, cn, wn, hk, hb, hs⟩ := inv_row h.2.1 (i := 0) (by decide)
      have cn : I 10 4 = nI n := cn
      have wn : I 317 491 = nI n := wn
      by_cases hy : 0 ≤ y ∧ y < nI n
      · obtain ⟨b, hb2, rfl⟩ := ix_of (m := n) (nI_toInt (by omega)) hy
        have hy' : 0 ≤ nI b ∧ nI b < I 10 4 := by rw [cn]; exact hy
        have ca := c_age0 (J := J) (D := D) cn hn hb2
        have mg := fun (J2 : Nat → Nat → Int64) => m_age (i := 0) (I := ups I 316 0 0) (J := J2) (D := D) (da := I 14) (by decide) (by rw [uI (by decide)]; exact wn) hn hb2 (fun k hk2 => by rw [uI (by decide)]; exact (hk k hk2).2.2.2.1)
        cases hq : (datN (I 14) b || ((lowN (datN (I 14)) b).isSome && (highN (datN (I 14)) (n - 1 - b) (b + 1)).isSome)) with
        | true =>
          have hne := ageN_ne hn hb2 (fun k hk2 => (hk k hk2).2.2.2.2) hs hq
          refine tk_30 (r := ageN (I 14) n b) (I1 := I) (J1 := J) (D1 := D) (I2 := ups I 316 0 0) (J2 := upsL J 335 0 (ageN (I 14) n b).toInt64) (D2 := D) sc hx1 hx2 ?_ rfl rfl ?_ ?_ upsL_s (inv_r h)
          · rw [e_120_0, x_row hx, cal_v, kn, e_120_5, c_bandT0 hy', cal_v, kn, e_120_11, x_rw0, cal_v, krw _, e_120_19_10, ca, cal_v, ka, e_120_23, decide_eq_true (hne), cond_true, e_120_40]
          · have := mg (upsL J 335 0 (ageN (I 14) n b).toInt64)
            rw [hq, cond_true, uu] at this
            rw [e_226_0, m_bandT (i := 0) (by decide) wn hn hy, cal_v, ka, e_226_7, x_canT, cal_v, ka, e_226_11, d11, cond_true]
            exact this
          · rw [uIs, uUs]
        | false =>
          have hne : ageN (I 14) n b = -1 := by
            rw [Bool.or_eq_false_iff] at hq
            unfold ageN
            rw [hq.1, cond_false]
            cases hl : lowN (datN (I 14)) b with
            | none => rfl
            | some a =>
              cases hh : highN (datN (I 14)) (n - 1 - b) (b + 1) with
              | none => rfl
              | some c => rw [hl, hh] at hq; cases hq.2
          refine te_30_3 (s := 0) (I1 := I) (J1 := J) (D1 := D) (I2 := ups I 316 0 2) (J2 := J) (D2 := D) sc hx1 hx2 ?_ rfl rfl ?_ ?_ (inv_r h)
          · rw [e_120_0, x_row hx, cal_v, kn, e_120_5, c_bandT0 hy', cal_v, kn, e_120_11, x_rw0, cal_v, krw _, e_120_19_10, ca, cal_v, ka, hne, e_120_23, decide_eq_false (fun q => q rfl), cond_false, e_120_29]
          · have := mg J
            rw [hq, cond_false, uu] at this
            rw [e_226_0, m_bandT (i := 0) (by decide) wn hn hy, cal_v, ka, e_226_7, x_canT, cal_v, ka, e_226_11, d11, cond_true]
            exact this
          · rw [uIs, uUs]
      · refine te_30_2 (s := 0) (I1 := I) (J1 := J) (D1 := D) (I2 := ups I 316 0 1) (J2 := J) (D2 := D) sc hx1 hx2 ?_ rfl rfl ?_ ?_ (inv_r h)
        · rw [e_120_0, x_row hx, cal_v, kn, e_120_5, c_bandF0 (by rw [cn]; exact hy), cal_e]
        · rw [e_226_0, m_bandF (i := 0) (by decide) wn hn hy, cal_v, ka, e_226_7, x_canF, cal_v, ka, e_226_11, d01, cond_false, e_226_14]
        · rw [uIs, uUs]
    · obtain ⟨n, hn, cn, wn, hk, hb, hs⟩ := inv_row h.2.1 (i := 1) (by decide)
      have cn : I 15 4 = nI n := cn
      have wn : I 317 492 = nI n := wn
      by_cases hy : 0 ≤ y ∧ y < nI n
      · obtain ⟨b, hb2, rfl⟩ := ix_of (m := n) (nI_toInt (by omega)) hy
        have hy' : 0 ≤ nI b ∧ nI b < I 15 4 := by rw [cn]; exact hy
        have ca := c_age1 (J := J) (D := D) cn hn hb2
        have mg := fun (J2 : Nat → Nat → Int64) => m_age (i := 1) (I := ups I 316 0 0) (J := J2) (D := D) (da := I 19) (by decide) (by rw [uI (by decide)]; exact wn) hn hb2 (fun k hk2 => by rw [uI (by decide)]; exact (hk k hk2).2.2.2.1)
        cases hq : (datN (I 19) b || ((lowN (datN (I 19)) b).isSome && (highN (datN (I 19)) (n - 1 - b) (b + 1)).isSome)) with
        | true =>
          have hne := ageN_ne hn hb2 (fun k hk2 => (hk k hk2).2.2.2.2) hs hq
          refine tk_30 (r := ageN (I 19) n b) (I1 := I) (J1 := J) (D1 := D) (I2 := ups I 316 0 0) (J2 := upsL J 335 0 (ageN (I 19) n b).toInt64) (D2 := D) sc hx1 hx2 ?_ rfl rfl ?_ ?_ upsL_s (inv_r h)
          · rw [e_120_0, x_row hx, cal_v, kn, e_120_5, c_bandT1 hy', cal_v, kn, e_120_11, x_rw1, cal_v, krw _, e_120_19_15, ca, cal_v, ka, e_120_23, decide_eq_true (hne), cond_true, e_120_40]
          · have := mg (upsL J 335 0 (ageN (I 19) n b).toInt64)
            rw [hq, cond_true, uu] at this
            rw [e_226_0, m_bandT (i := 1) (by decide) wn hn hy, cal_v, ka, e_226_7, x_canT, cal_v, ka, e_226_11, d11, cond_true]
            exact this
          · rw [uIs, uUs]
        | false =>
          have hne : ageN (I 19) n b = -1 := by
            rw [Bool.or_eq_false_iff] at hq
            unfold ageN
            rw [hq.1, cond_false]
            cases hl : lowN (datN (I 19)) b with
            | none => rfl
            | some a =>
              cases hh : highN (datN (I 19)) (n - 1 - b) (b + 1) with
              | none => rfl
              | some c => rw [hl, hh] at hq; cases hq.2
          refine te_30_3 (s := 0) (I1 := I) (J1 := J) (D1 := D) (I2 := ups I 316 0 2) (J2 := J) (D2 := D) sc hx1 hx2 ?_ rfl rfl ?_ ?_ (inv_r h)
          · rw [e_120_0, x_row hx, cal_v, kn, e_120_5, c_bandT1 hy', cal_v, kn, e_120_11, x_rw1, cal_v, krw _, e_120_19_15, ca, cal_v, ka, hne, e_120_23, decide_eq_false (fun q => q rfl), cond_false, e_120_29]
          · have := mg J
            rw [hq, cond_false, uu] at this
            rw [e_226_0, m_bandT (i := 1) (by decide) wn hn hy, cal_v, ka, e_226_7, x_canT, cal_v, ka, e_226_11, d11, cond_true]
            exact this
          · rw [uIs, uUs]
      · refine te_30_2 (s := 0) (I1 := I) (J1 := J) (D1 := D) (I2 := ups I 316 0 1) (J2 := J) (D2 := D) sc hx1 hx2 ?_ rfl rfl ?_ ?_ (inv_r h)
        · rw [e_120_0, x_row hx, cal_v, kn, e_120_5, c_bandF1 (by rw [cn]; exact hy), cal_e]
        · rw [e_226_0, m_bandF (i := 1) (by decide) wn hn hy, cal_v, ka, e_226_7, x_canF, cal_v, ka, e_226_11, d01, cond_false, e_226_14]
        · rw [uIs, uUs]
  · refine te_30_2 (s := 0) (I1 := I) (J1 := J) (D1 := D) (I2 := ups I 316 0 1) (J2 := J) (D2 := D) sc hx1 hx2 ?_ rfl rfl ?_ ?_ (inv_r h)
    · rw [e_120_0, x_row1 hx, cal_e]
    · rw [e_226_0, m_bandR (fun q => hx (p2.mpr q)), cal_v, ka, e_226_7, x_canF, cal_v, ka, e_226_11, d01, cond_false, e_226_14]
    · rw [uIs, uUs]
