/-! what is filled in -/
def lowN (p : Nat → Bool) : Nat → Option Nat
  | 0 => none
  | n + 1 => bif p n then some n else lowN p n
def highN (p : Nat → Bool) : Nat → Nat → Option Nat
  | 0, _ => none
  | r + 1, k => bif p k then some k else highN p r (k + 1)
def enc : Option Nat → Int32
  | none => -1
  | some j => nI j
theorem lowN_s {p : Nat → Bool} : ∀ {n l : Nat}, lowN p n = some l → l < n ∧ p l = true
  | n + 1, l, h => by
    unfold lowN at h
    cases hp : p n with
    | true =>
      rw [hp] at h
      cases h
      exact ⟨Nat.lt_succ_self _, hp⟩
    | false =>
      rw [hp] at h
      have := lowN_s (p := p) (n := n) (l := l) h
      exact ⟨by omega, this.2⟩
theorem lowN_n {p : Nat → Bool} : ∀ {n : Nat}, lowN p n = none → ∀ j, j < n → p j = false
  | n + 1, h, j, hj => by
    unfold lowN at h
    cases hp : p n with
    | true => rw [hp] at h; cases h
    | false =>
      rw [hp] at h
      by_cases hjn : j = n
      · subst hjn; exact hp
      · exact lowN_n (p := p) (n := n) h j (by omega)
theorem highN_s {p : Nat → Bool} : ∀ {r k h : Nat}, highN p r k = some h → (k ≤ h ∧ h < k + r) ∧ p h = true
  | r + 1, k, h, e => by
    unfold highN at e
    cases hp : p k with
    | true =>
      rw [hp] at e
      cases e
      exact ⟨⟨Nat.le_refl _, by omega⟩, hp⟩
    | false =>
      rw [hp] at e
      have := highN_s (p := p) (r := r) (k := k + 1) (h := h) e
      exact ⟨by omega, this.2⟩
theorem highN_n {p : Nat → Bool} : ∀ {r k : Nat}, highN p r k = none → ∀ j, k ≤ j → j < k + r → p j = false
  | 0, k, _, j, h1, h2 => by omega
  | r + 1, k, e, j, h1, h2 => by
    unfold highN at e
    cases hp : p k with
    | true => rw [hp] at e; cases e
    | false =>
      rw [hp] at e
      by_cases hjn : j = k
      · subst hjn; exact hp
      · exact highN_n (p := p) (r := r) (k := k + 1) e j (by omega) (by omega)
theorem enc_m1 {o : Option Nat} (h : ∀ j, o = some j → j < 1000) : enc o = -1 ↔ o = none := by
  cases o with
  | none => exact ⟨fun _ => rfl, fun _ => rfl⟩
  | some j =>
    have hj := h j rfl
    refine ⟨fun e => ?_, fun e => by cases e⟩
    have : (nI j).toInt = (-1 : Int32).toInt := congrArg _ e
    rw [nI_toInt (by omega), show (-1 : Int32).toInt = -1 from rfl] at this
    omega
theorem nI_m1 (n : Nat) : nI n + (-1) = nI n - 1 := by rw [Int32.sub_eq_add_neg]
abbrev hasN (f : Nat → Int32) (y z : Nat) : Bool := decide (f (10 * z + y) ≠ 1000)
def valN (f : Nat → Int32) (y z : Nat) : Int32 :=
  bif hasN f y z then f (10 * z + y) else match lowN (hasN f y) z, highN (hasN f y) (7 - z) (z + 1) with
  | none, none => 0
  | none, some h => f (10 * h + y)
  | some l, none => f (10 * l + y)
  | some l, some h => f (10 * l + y) + fdv ((f (10 * h + y) - f (10 * l + y)) * (nI z - nI l)) (nI h - nI l)
section VL
variable {I : Nat → Nat → Int32} {J : Nat → Nat → Int64} {D : Nat → Nat → UInt64}
theorem c_lowl {y : Nat} (hy : y < 10) : ∀ n, n ≤ 8 → ex (67, 4, [.ref 20, dv, .int (nI y), .int (nI n - 1)], [], mm I J D) = some (.inl (some (.int (enc (lowN (hasN (I 23) y) n)))), mm I J D)
  | 0, _ => by
    rw [e_67_4, decide_eq_true (show nI 0 - 1 < 0 by decide), cond_true, e_67_28]
    rfl
  | n + 1, hn => by
    have ih := c_lowl hy n (by omega)
    rw [nI_pred, e_67_4, decide_eq_false (nI_pos (by omega)), cond_false, e_67_8, c_rd (by omega) hy, cal_v, ka, e_67_14]
    by_cases hk : I 23 (10 * n + y) = 1000
    · rw [decide_eq_true hk, cond_true, e_67_22, nI_m1, ih]
      rw [show lowN (hasN (I 23) y) (n + 1) = bif hasN (I 23) y n then some n else lowN (hasN (I 23) y) n from rfl, show hasN (I 23) y n = false from decide_eq_false (fun q => q hk), cond_false]
    · rw [decide_eq_false hk, cond_false, e_67_20]
      rw [show lowN (hasN (I 23) y) (n + 1) = bif hasN (I 23) y n then some n else lowN (hasN (I 23) y) n from rfl, show hasN (I 23) y n = true from decide_eq_true hk, cond_true]
      rfl
theorem c_low {z y : Nat} (hz : z < 8) (hy : y < 10) : ex (67, 0, [.ref 20, .int (nI z), .int (nI y), dv], [], mm I J D) = some (.inl (some (.int (enc (lowN (hasN (I 23) y) z)))), mm I J D) := by
  rw [e_67_0]
  exact c_lowl hy z (by omega)
theorem c_highl {y : Nat} (hy : y < 10) : ∀ r k, k + r = 8 → ex (68, 4, [.ref 20, dv, .int (nI y), .int (nI k)], [], mm I J D) = some (.inl (some (.int (enc (highN (hasN (I 23) y) r k)))), mm I J D)
  | 0, k, h => by
    have : k = 8 := by omega
    subst this
    rw [e_68_4, decide_eq_true (show (8 : Int32) ≤ nI 8 by decide), cond_true, e_68_30]
    rfl
  | r + 1, k, h => by
    have ih := c_highl hy r (k + 1) (by omega)
    rw [e_68_4, decide_eq_false (show ¬ (8 : Int32) ≤ nI k from nI_ge (a := k) (b := 8) (by omega) (by decide)), cond_false, e_68_10, c_rd (by omega) hy, cal_v, ka, e_68_16]
    by_cases hk : I 23 (10 * k + y) = 1000
    · rw [decide_eq_true hk, cond_true, e_68_24, nI_1, ih]
      rw [show highN (hasN (I 23) y) (r + 1) k = bif hasN (I 23) y k then some k else highN (hasN (I 23) y) r (k + 1) from rfl, show hasN (I 23) y k = false from decide_eq_false (fun q => q hk), cond_false]
    · rw [decide_eq_false hk, cond_false, e_68_22]
      rw [show highN (hasN (I 23) y) (r + 1) k = bif hasN (I 23) y k then some k else highN (hasN (I 23) y) r (k + 1) from rfl, show hasN (I 23) y k = true from decide_eq_true hk, cond_true]
      rfl
theorem c_high {z y : Nat} (hz : z < 8) (hy : y < 10) : ex (68, 0, [.ref 20, .int (nI z), .int (nI y), dv], [], mm I J D) = some (.inl (some (.int (enc (highN (hasN (I 23) y) (7 - z) (z + 1))))), mm I J D) := by
  rw [e_68_0, nI_1]
  exact c_highl hy (7 - z) (z + 1) (by omega)
theorem ne_m1 {j : Nat} (h : j < 1000) : nI j ≠ -1 := fun e => by
  have := congrArg Int32.toInt e
  rw [nI_toInt (by omega), show (-1 : Int32).toInt = -1 from rfl] at this
  omega
theorem c_val {z y : Nat} (hz : z < 8) (hy : y < 10) : ex (70, 0, [.ref 20, .int (nI z), .int (nI y), dv, dv, dv, dv, dv], [], mm I J D) = some (.inl (some (.int (valN (I 23) y z))), mm I J D) := by
  rw [e_70_0, c_rd hz hy, cal_v, ka, e_70_6]
  unfold valN
  by_cases hk : I 23 (10 * z + y) = 1000
  · rw [decide_eq_true hk, cond_true, e_70_16, c_low hz hy, cal_v, ka, e_70_22, c_high hz hy, cal_v, ka, e_70_30, show hasN (I 23) y z = false from decide_eq_false (fun q => q hk), cond_false]
    cases hl : lowN (hasN (I 23) y) z with
    | none =>
      rw [show enc none = -1 from rfl, decide_eq_false (fun q => q rfl), cond_false, e_70_38]
      cases hh : highN (hasN (I 23) y) (7 - z) (z + 1) with
      | none => rw [show enc none = -1 from rfl, decide_eq_false (fun q => q rfl), cond_false, e_70_44, e_70_55]
      | some h =>
        have hb := highN_s hh
        rw [show enc (some h) = nI h from rfl, decide_eq_true (ne_m1 (by omega)), cond_true, e_70_48, c_rd (by omega) hy, cal_v, ka, e_70_55]
    | some l =>
      have lb := lowN_s hl
      rw [show enc (some l) = nI l from rfl, decide_eq_true (ne_m1 (by omega)), cond_true, e_70_56, c_rd (by omega) hy, cal_v, ka, e_70_63]
      cases hh : highN (hasN (I 23) y) (7 - z) (z + 1) with
      | none => rw [show enc none = -1 from rfl, decide_eq_false (show ¬ nI l < -1 from fun q => by have := Int32.lt_iff_toInt_lt.mp q; rw [nI_toInt (by omega), show (-1 : Int32).toInt = -1 from rfl] at this; omega), cond_false, e_70_72]
      | some h =>
        have hb := highN_s hh
        rw [show enc (some h) = nI h from rfl, decide_eq_true ((nI_ltI (by omega) (by omega)).mpr (show l < h by omega)), cond_true, e_70_75, c_rd (by omega) hy, cal_v, ka, e_70_82, decide_eq_true (show ¬ nI h - nI l = 0 by rw [pk_sub (by omega)]; exact nI_ne0 (by omega) (by omega)), cond_true]
  · rw [decide_eq_false hk, cond_false, e_70_14, show hasN (I 23) y z = true from decide_eq_true hk, cond_true]
end VL
theorem lt0_msb (x : Int32) : x < 0 ↔ x.toBitVec.msb = true := by
  rw [Int32.lt_iff_toInt_lt, Int32.toInt_zero, BitVec.msb_eq_toInt, decide_eq_true_iff]
  rfl
theorem xor_lt0 (x y : Int32) : (x ^^^ y) < 0 ↔ (x < 0 ∧ ¬ y < 0) ∨ (¬ x < 0 ∧ y < 0) := by
  rw [lt0_msb, lt0_msb x, lt0_msb y, show (x ^^^ y).toBitVec = x.toBitVec ^^^ y.toBitVec from rfl, BitVec.msb_xor]
  cases x.toBitVec.msb <;> cases y.toBitVec.msb <;> decide
theorem fl_pos {n b : Nat} (hn : n < 2 ^ 31) (hb : b < 2 ^ 31) : fdv (nI n) (nI b) = nI n / nI b := by
  unfold fdv
  rw [if_neg (by rw [xor_lt0]; exact fun h => h.elim (fun q => nI_pos hn q.1) (fun q => nI_pos hb q.2))]
theorem neg_div {n b : Nat} (hn : n < 2 ^ 31) (h0 : 0 < b) (hb : b < 2 ^ 31) : (-nI n) / nI b = -nI (n / b) := by
  have hq : n / b ≤ n := Nat.div_le_self _ _
  apply Int32.toInt_inj.mp
  rw [Int32.toInt_div, sb_negT hn, nI_toInt hb, sb_negT (by omega), Int.neg_tdiv, Int.tdiv_eq_ediv_of_nonneg (by omega), ← Int.natCast_ediv]
  generalize n / b = q at hq ⊢
  exact Int.bmod_eq_of_le (by omega) (by omega)
theorem fl_neg {n b : Nat} (h1 : 0 < n) (hn : n < 2 ^ 30) (h0 : 0 < b) (hb : b < 2 ^ 30) : fdv (-nI n) (nI b) = -(((-(-nI n) + nI b) - 1) / nI b) := by
  have hneg : -nI n < 0 := by rw [Int32.lt_iff_toInt_lt, sb_negT (by omega), Int32.toInt_zero]; omega
  unfold fdv
  rw [if_pos (by rw [xor_lt0]; exact Or.inl ⟨hneg, nI_pos (by omega)⟩), neg_div (by omega) h0 (by omega), Int32.neg_neg, nI_add, show nI (n + b) - 1 = nI (n + b - 1) by rw [show n + b = (n + b - 1) + 1 by omega, nI_pred]; rfl, pk_div (by omega) h0 (by omega), Int32.neg_mul, pk_mul]
  have hdm := Nat.div_add_mod n b
  have hml := Nat.mod_lt n h0
  have hq : n / b ≤ n := Nat.div_le_self _ _
  have hc : n / b * b = b * (n / b) := Nat.mul_comm _ _
  by_cases hz : n % b = 0
  · have e1 : n / b * b = n := by omega
    have e2 : (n + b - 1) / b = n / b := by
      rw [show n + b - 1 = (b - 1) + b * (n / b) by omega, Nat.add_mul_div_left _ _ h0, Nat.div_eq_of_lt (show b - 1 < b by omega), Nat.zero_add]
    rw [if_pos (by rw [e1]), e2]
  · have e2 : (n + b - 1) / b = n / b + 1 := by
      rw [show n + b - 1 = (n % b - 1) + b * (n / b + 1) by rw [Nat.mul_add]; omega, Nat.add_mul_div_left _ _ h0, Nat.div_eq_of_lt (show n % b - 1 < b by omega), Nat.zero_add]
    have e1 : ¬ -nI (n / b * b) = -nI n := by
      intro q
      have := congrArg Int32.toInt q
      rw [sb_negT (by omega), sb_negT (by omega)] at this
      omega
    rw [if_neg e1, e2, nI_succ, Int32.neg_add, Int32.sub_eq_add_neg]
theorem x_les {x : Int32} {b : Nat} (hb : 0 < b) (hb7 : b ≤ 7) (hx : rg (-14000) 14000 x) {I : Nat → Nat → Int32} {J : Nat → Nat → Int64} {D : Nat → Nat → UInt64} : ex (159, 0, [.int x, .int (nI b)], [], mm I J D) = some (.inl (some (.int (fdv x (nI b)))), mm I J D) := by
  obtain ⟨b, rfl⟩ : ∃ c, b = c + 1 := ⟨b - 1, by omega⟩
  obtain ⟨h1, h2⟩ := hx
  by_cases h : x < 0
  · have h0 := Int32.lt_iff_toInt_lt.mp h
    rw [Int32.toInt_zero] at h0
    obtain ⟨n, hn⟩ : ∃ n : Nat, x.toInt = -(n : Int) := ⟨(-x.toInt).toNat, by omega⟩
    have ex : x = -nI n := Int32.toInt_inj.mp (by rw [sb_negT (by omega), hn])
    have := fl_neg (n := n) (b := b + 1) (by omega) (by omega) (by omega) (by omega)
    rw [← ex] at this
    rw [e_159_0, decide_eq_true h, cond_true, e_159_10, decide_eq_true (nI_ne0 (by omega) (by omega)), cond_true, e_159_19, this]
  · obtain ⟨n, hn, rfl⟩ := nI_of h
    rw [nI_toInt hn] at h2
    have := fl_pos (n := n) (b := b + 1) (by omega) (by omega)
    rw [e_159_0, decide_eq_false h, cond_false, e_159_4, decide_eq_true (nI_ne0 (by omega) (by omega)), cond_true, e_159_19, this]
theorem bm {x : Int} (h : -2147483648 ≤ x ∧ x < 2147483648) : x.bmod (2 ^ 32) = x := by
  rw [Int.bmod_def]; omega
theorem mul_rg {a b : Int32} {p q : Int} (hp : 0 ≤ p) (hq : 0 ≤ q) (ha : rg (-p) p a) (hb : rg (-q) q b) (h : p * q < 2147483648) : (a * b).toInt = a.toInt * b.toInt ∧ rg (-(p * q)) (p * q) (a * b) := by
  obtain ⟨a1, a2⟩ := ha
  obtain ⟨b1, b2⟩ := hb
  have u1 : a.toInt * b.toInt ≤ p * q := by
    have e1 : 0 ≤ (p - a.toInt) * (q + b.toInt) := Int.mul_nonneg (by omega) (by omega)
    have e2 : 0 ≤ (p + a.toInt) * (q - b.toInt) := Int.mul_nonneg (by omega) (by omega)
    rw [Int.sub_mul, Int.mul_add, Int.mul_add] at e1
    rw [Int.add_mul, Int.mul_sub, Int.mul_sub] at e2
    omega
  have u2 : -(p * q) ≤ a.toInt * b.toInt := by
    have e1 : 0 ≤ (p - a.toInt) * (q - b.toInt) := Int.mul_nonneg (by omega) (by omega)
    have e2 : 0 ≤ (p + a.toInt) * (q + b.toInt) := Int.mul_nonneg (by omega) (by omega)
    rw [Int.sub_mul, Int.mul_sub, Int.mul_sub] at e1
    rw [Int.add_mul, Int.mul_add, Int.mul_add] at e2
    omega
  have e : (a * b).toInt = a.toInt * b.toInt := by
    rw [Int32.toInt_mul]
    exact bm (by omega)
  exact ⟨e, by unfold rg; rw [e]; exact ⟨u2, u1⟩⟩
theorem sub_rg {a b : Int32} {p q r s : Int} (ha : rg p q a) (hb : rg r s b) (h : -2147483648 ≤ p - s ∧ q - r < 2147483648) : (a - b).toInt = a.toInt - b.toInt ∧ rg (p - s) (q - r) (a - b) := by
  obtain ⟨a1, a2⟩ := ha
  obtain ⟨b1, b2⟩ := hb
  have e : (a - b).toInt = a.toInt - b.toInt := by
    rw [Int32.toInt_sub]
    exact bm (by omega)
  exact ⟨e, by unfold rg; rw [e]; omega⟩
theorem add_rg {a b : Int32} {p q r s : Int} (ha : rg p q a) (hb : rg r s b) (h : -2147483648 ≤ p + r ∧ q + s < 2147483648) : (a + b).toInt = a.toInt + b.toInt ∧ rg (p + r) (q + s) (a + b) := by
  obtain ⟨a1, a2⟩ := ha
  obtain ⟨b1, b2⟩ := hb
  have e : (a + b).toInt = a.toInt + b.toInt := by
    rw [Int32.toInt_add]
    exact bm (by omega)
  exact ⟨e, by unfold rg; rw [e]; omega⟩
/-- the model's numbers of a year, by the book's -/
def Cor (f : Nat → Int32) (y : Nat) (I : Nat → Nat → Int32) : Prop := ∀ z, z < 8 → (f (10 * z + y) = 1000 ∧ I 317 (640 + 8 * y + z) = 0) ∨ (rg (-999) 999 (f (10 * z + y)) ∧ I 317 (640 + 8 * y + z) = 1 ∧ I 317 (720 + 8 * y + z) = f (10 * z + y))
section VM
variable {I : Nat → Nat → Int32} {J : Nat → Nat → Int64} {D : Nat → Nat → UInt64}
theorem m_lowl {y : Nat} {f : Nat → Int32} (hy : y < 10) (c : Cor f y I) : ∀ n, n ≤ 8 → ex (235, 3, [.ref 316, dv, .int (nI y), .int (-1), .int (nI n - 1)], [], mm I J D) = some (.inl (some (.int (enc (lowN (hasN f y) n)))), mm I J D)
  | 0, _ => by
    rw [e_235_3, x_zoneF (show ¬ (0 ≤ nI 0 - 1 ∧ nI 0 - 1 ≤ 7) by decide), cal_v, ka, e_235_8, d00, cond_true, e_235_33]
    rfl
  | n + 1, hn => by
    have ih := m_lowl hy c n (by omega)
    rw [nI_pred, e_235_3, x_zoneT ⟨nI_pos' (by omega), (nI_leI (b := 7) (by omega) (by decide)).mpr (by omega)⟩, cal_v, ka, e_235_8, d10, cond_false, e_235_11]
    rcases c n (by omega) with ⟨q1, q2⟩ | ⟨q1, q2, -⟩
    · rw [m_hasF (by omega) hy q2, cal_v, ka, e_235_18, d00, cond_true, e_235_24, nI_m1, ih]
      rw [show lowN (hasN f y) (n + 1) = bif hasN f y n then some n else lowN (hasN f y) n from rfl, show hasN f y n = false from decide_eq_false (fun q => q q1), cond_false]
    · rw [m_hasT (by omega) hy q2, cal_v, ka, e_235_18, d10, cond_false, e_235_21]
      rw [show lowN (hasN f y) (n + 1) = bif hasN f y n then some n else lowN (hasN f y) n from rfl, show hasN f y n = true from decide_eq_true (ne1000 q1), cond_true]
      rfl
theorem m_low {z y : Nat} {f : Nat → Int32} (hz : z < 8) (hy : y < 10) (c : Cor f y I) : ex (235, 0, [.ref 316, .int (nI z), .int (nI y), .int (-1), dv], [], mm I J D) = some (.inl (some (.int (enc (lowN (hasN f y) (z + 1))))), mm I J D) := by
  have := m_lowl (J := J) (D := D) hy c (z + 1) (by omega)
  rw [nI_pred] at this
  rw [e_235_0]
  exact this
theorem m_highl {y : Nat} {f : Nat → Int32} (hy : y < 10) (c : Cor f y I) : ∀ r k, k + r = 8 → ex (235, 3, [.ref 316, dv, .int (nI y), .int 1, .int (nI k)], [], mm I J D) = some (.inl (some (.int (enc (highN (hasN f y) r k)))), mm I J D)
  | 0, k, h => by
    have : k = 8 := by omega
    subst this
    rw [e_235_3, x_zoneF (show ¬ (0 ≤ nI 8 ∧ nI 8 ≤ 7) by decide), cal_v, ka, e_235_8, d00, cond_true, e_235_33]
    rfl
  | r + 1, k, h => by
    have ih := m_highl hy c r (k + 1) (by omega)
    rw [e_235_3, x_zoneT ⟨nI_pos' (by omega), (nI_leI (b := 7) (by omega) (by decide)).mpr (by omega)⟩, cal_v, ka, e_235_8, d10, cond_false, e_235_11]
    have hs : highN (hasN f y) (r + 1) k = bif hasN f y k then some k else highN (hasN f y) r (k + 1) := rfl
    rcases c k (by omega) with ⟨q1, q2⟩ | ⟨q1, q2, -⟩
    · rw [m_hasF (by omega) hy q2, cal_v, ka, e_235_18, d00, cond_true, e_235_24, nI_1, ih, hs, show hasN f y k = false from decide_eq_false (fun q => q q1), cond_false]
    · rw [m_hasT (by omega) hy q2, cal_v, ka, e_235_18, d10, cond_false, e_235_21, hs, show hasN f y k = true from decide_eq_true (ne1000 q1), cond_true]
      rfl
theorem m_high {z y : Nat} {f : Nat → Int32} (hz : z < 8) (hy : y < 10) (c : Cor f y I) : ex (235, 0, [.ref 316, .int (nI z), .int (nI y), .int 1, dv], [], mm I J D) = some (.inl (some (.int (enc (highN (hasN f y) (8 - z) z)))), mm I J D) := by
  rw [e_235_0]
  exact m_highl hy c (8 - z) z (by omega)
theorem cor_v {z y : Nat} {f : Nat → Int32} (hz : z < 8) (c : Cor f y I) (h : hasN f y z = true) : rg (-999) 999 (f (10 * z + y)) ∧ I 317 (720 + 8 * y + z) = f (10 * z + y) := by
  rcases c z hz with ⟨q1, q2⟩ | ⟨q1, q2, q3⟩
  · exact absurd q1 (of_decide_eq_true h)
  · exact ⟨q1, q3⟩
theorem m_fill {z y : Nat} {f : Nat → Int32} (hz : z < 8) (hy : y < 10) (c : Cor f y I) (ne : ∃ j, j < 8 ∧ hasN f y j = true) : ex (237, 0, [.ref 316, .int (nI z), .int (nI y), dv, dv, dv], [], mm I J D) = some (.inl (some (.int (valN f y z))), mm I J D) := by
  rw [e_237_0, m_low hz hy c, cal_v, ka, e_237_7, m_high hz hy c, cal_v, ka, e_237_15]
  unfold valN
  have hs : highN (hasN f y) (8 - z) z = bif hasN f y z then some z else highN (hasN f y) (7 - z) (z + 1) := by
    rw [show 8 - z = (7 - z) + 1 by omega]; rfl
  have hl1 : lowN (hasN f y) (z + 1) = bif hasN f y z then some z else lowN (hasN f y) z := rfl
  rw [hs, hl1]
  cases hp : hasN f y z with
  | true =>
    have hv := cor_v hz c hp
    rw [cond_true, cond_true, cond_true, show enc (some z) = nI z from rfl, decide_eq_false (ne_m1 (by omega)), cond_false, e_237_22, decide_eq_true (ne_m1 (by omega)), cond_true, e_237_45, m_val hz hy, cal_v, ka, e_237_51, decide_eq_false (fun q => q rfl), cond_false, e_237_59, e_237_88, hv.2]
  | false =>
    rw [cond_false, cond_false, cond_false]
    cases hl : lowN (hasN f y) z with
    | none =>
      rw [show enc none = -1 from rfl, decide_eq_true rfl, cond_true, e_237_28, decide_eq_false (fun q => q rfl), cond_false, e_237_34, e_237_40]
      cases hh : highN (hasN f y) (7 - z) (z + 1) with
      | none =>
        obtain ⟨j, hj, hj2⟩ := ne
        by_cases hjz : j = z
        · subst hjz; rw [hp] at hj2; cases hj2
        · by_cases hlt : j < z
          · rw [lowN_n hl j hlt] at hj2; cases hj2
          · rw [highN_n hh j (by omega) (by omega)] at hj2; cases hj2
      | some h =>
        have hb := highN_s hh
        have hv := cor_v (by omega) c hb.2
        rw [show enc (some h) = nI h from rfl, m_val (by omega) hy, cal_v, ka, e_237_44, hv.2]
    | some l =>
      have lb := lowN_s hl
      have lv := cor_v (by omega) c lb.2
      rw [show enc (some l) = nI l from rfl, decide_eq_false (ne_m1 (by omega)), cond_false, e_237_22]
      cases hh : highN (hasN f y) (7 - z) (z + 1) with
      | none =>
        rw [show enc none = -1 from rfl, decide_eq_false (fun q => q rfl), cond_false, e_237_28, decide_eq_true (ne_m1 (by omega)), cond_true, e_237_39, e_237_40, m_val (by omega) hy, cal_v, ka, e_237_44, lv.2]
      | some h =>
        have hb := highN_s hh
        have hv := cor_v (by omega) c hb.2
        rw [show enc (some h) = nI h from rfl, decide_eq_true (ne_m1 (by omega)), cond_true, e_237_45, m_val (by omega) hy, cal_v, ka, e_237_51, decide_eq_true (show nI l ≠ nI h from fun q => by rw [nI_eq (by omega) (by omega)] at q; omega), cond_true, e_237_64, m_val (by omega) hy, cal_v, ka, e_237_73, lv.2, hv.2]
        have r1 := (sub_rg hv.1 lv.1 (by decide)).2
        have r2 : rg (-7) 7 (nI z - nI l) := by rw [pk_sub (by omega)]; unfold rg; rw [nI_toInt (by omega)]; omega
        have r3 := (mul_rg (p := 1998) (q := 7) (by decide) (by decide) r1 r2 (by decide)).2
        have r4 : rg (-14000) 14000 ((f (10 * h + y) - f (10 * l + y)) * (nI z - nI l)) := ⟨by have := r3.1; omega, by have := r3.2; omega⟩
        rw [pk_sub (a := h) (b := l) (by omega), x_les (by omega) (by omega) r4, cal_v, ka, e_237_87, e_237_88, ← pk_sub (a := h) (b := l) (by omega)]
end VM
