/-! letters in a long, and what the book makes of them -/
def pk (t : Nat → Nat) (k : Nat) : Nat → Nat
  | 0 => 0
  | j + 1 => 256 * pk t k j + t (k + j)
theorem pkt_lt {t : Nat → Nat} {k : Nat} : ∀ j, (∀ i, i < j → t (k + i) < 256) → pk t k j < 256 ^ j := by
  intro j
  induction j with
  | zero => intro _; exact Nat.one_pos
  | succ j ih =>
    intro h
    have h1 := ih fun i hi => h i (by omega)
    have h2 := h j (by omega)
    show 256 * pk t k j + t (k + j) < 256 ^ j * 256
    omega
theorem pkt_sh {t : Nat → Nat} {k : Nat} : ∀ r j, r ≤ j → (∀ i, i < j → t (k + i) < 256) → pk t k j / 256 ^ r = pk t k (j - r) := by
  intro r
  induction r with
  | zero => intro j _ _; rw [Nat.pow_zero, Nat.div_one]; rfl
  | succ r ih =>
    intro j hj h
    obtain ⟨j, rfl⟩ : ∃ j', j = j' + 1 := ⟨j - 1, by omega⟩
    have e : pk t k (j + 1) / 256 = pk t k j := by
      have h2 := h j (by omega)
      show (256 * pk t k j + t (k + j)) / 256 = pk t k j
      omega
    rw [show 256 ^ (r + 1) = 256 * 256 ^ r by rw [Nat.pow_succ, Nat.mul_comm], ← Nat.div_div_eq_div_mul, e, ih j (by omega) (fun i hi => h i (by omega)), show j + 1 - (r + 1) = j - r by omega]
theorem lN_nat {n : Nat} (h : n < 2 ^ 64) : (lN n).toBitVec.toNat = n := by
  show (BitVec.ofNat 64 n).toNat = n
  rw [BitVec.toNat_ofNat, Nat.mod_eq_of_lt h]
theorem byt8_pk {t : Nat → Nat} {k j : Nat} (hj : j ≤ 8) (h : ∀ i, i < j → t (k + i) < 256) {r : Nat} : byt8 (lN (pk t k j)) r = if r < j then t (k + (j - 1 - r)) else 0 := by
  have hp := pkt_lt j h
  have h8 : 256 ^ j ≤ 256 ^ 8 := Nat.pow_le_pow_right (by decide) hj
  unfold byt8
  rw [lN_nat (by have : (256 : Nat) ^ 8 = 2 ^ 64 := by decide
                 omega), Nat.shiftRight_eq_div_pow, show 2 ^ (8 * r) = 256 ^ r from Nat.pow_mul 2 8 r]
  by_cases hr : r < j
  · rw [if_pos hr, pkt_sh r j (by omega) h]
    obtain ⟨q, hq⟩ : ∃ q, j - r = q + 1 := ⟨j - r - 1, by omega⟩
    have h2 := h q (by omega)
    rw [hq, show j - 1 - r = q by omega]
    show (256 * pk t k q + t (k + q)) % 256 = t (k + q)
    omega
  · rw [if_neg hr, Nat.div_eq_of_lt (Nat.lt_of_lt_of_le hp (Nat.pow_le_pow_right (by decide) (by omega)))]
theorem okBs_of {b : Nat → Nat} : ∀ n, (∀ r, r < n → b r = 0 ∨ (32 ≤ b r ∧ b r ≤ 126)) → okBs b n = true := by
  intro n
  induction n with
  | zero => intro _; rfl
  | succ n ih =>
    intro h
    show ((decide (b n = 0) || (decide (32 ≤ b n) && decide (b n ≤ 126))) && okBs b n) = true
    rw [ih fun r hr => h r (by omega), Bool.and_true]
    rcases h n (by omega) with q | ⟨q1, q2⟩
    · rw [decide_eq_true q]; rfl
    · rw [decide_eq_true q1, decide_eq_true q2, Bool.and_self, Bool.or_true]
theorem nzA_of {b : Nat → Nat} {j : Nat} : ∀ n, (∀ r, r < n → (b r = 0 ↔ j ≤ r)) → nzA b n = min n j := by
  intro n
  induction n with
  | zero => intro _; simp [nzA]
  | succ n ih =>
    intro h
    have h1 := h n (by omega)
    show (if b n = 0 then 0 else 1) + nzA b n = min (n + 1) j
    rw [ih fun r hr => h r (by omega)]
    by_cases q : b n = 0
    · rw [if_pos q]; have := h1.mp q; omega
    · rw [if_neg q]; have : ¬ j ≤ n := fun w => q (h1.mpr w); omega
theorem apF_nz {b : Nat → Nat} : ∀ r n (f : Nat → Int32), (∀ q, q < r → b q ≠ 0) → ∀ i, apF b r n f i = if n ≤ i ∧ i < n + r then nI (b (r - 1 - (i - n))) else f i := by
  intro r
  induction r with
  | zero => intro n f _ i; rw [if_neg (by omega)]; rfl
  | succ r ih =>
    intro n f h i
    have e : apF b (r + 1) n f = apF b r (n + 1) (upd f n (nI (b r))) := by
      show (if b r = 0 then apF b r n f else apF b r (n + 1) (upd f n (nI (b r)))) = _
      rw [if_neg (h r (by omega))]
    rw [e, ih (n + 1) _ (fun q hq => h q (by omega)) i]
    by_cases h1 : i = n
    · subst h1
      rw [if_neg (by omega), if_pos (by omega), uUs, show r + 1 - 1 - (i - i) = r by omega]
    · rw [uU h1]
      by_cases h2 : n + 1 ≤ i ∧ i < n + 1 + r
      · rw [if_pos h2, if_pos (by omega), show r + 1 - 1 - (i - n) = r - 1 - (i - (n + 1)) by omega]
      · rw [if_neg h2, if_neg (by omega)]
theorem apF_z {b : Nat → Nat} {j n : Nat} {f : Nat → Int32} : ∀ r, j ≤ r → (∀ q, j ≤ q → q < r → b q = 0) → apF b r n f = apF b j n f := by
  intro r
  induction r with
  | zero => intro h _; rw [show j = 0 by omega]
  | succ r ih =>
    intro h hz
    by_cases e : j = r + 1
    · rw [e]
    · show (if b r = 0 then apF b r n f else apF b r (n + 1) (upd f n (nI (b r)))) = _
      rw [if_pos (hz r (by omega) (by omega))]
      exact ih (by omega) (fun q h1 h2 => hz q h1 (by omega))
/-- a letter more -/
theorem sh8g {v c : Nat} (hv : v < 2 ^ 56) (hc : c < 256) : (lN v <<< ((8 : Int32).toInt64 &&& 63)) ||| (nI c).toInt64 = lN (256 * v + c) := by
  rw [show ((8 : Int32).toInt64 &&& 63) = 8 from by decide, nI_l (by omega)]
  refine Int64.toBitVec_inj.mp ?_
  show (BitVec.ofNat 64 v <<< ((8#64).smod 64#64)) ||| BitVec.ofNat 64 c = BitVec.ofNat 64 (256 * v + c)
  rw [show (8#64).smod 64#64 = 8#64 from by decide]
  refine BitVec.eq_of_toNat_eq ?_
  have e : v <<< 8 = v * 256 := Nat.shiftLeft_eq v 8
  rw [BitVec.toNat_or, BitVec.shiftLeft_eq', BitVec.toNat_shiftLeft, BitVec.toNat_ofNat, BitVec.toNat_ofNat, BitVec.toNat_ofNat, BitVec.toNat_ofNat, show 8 % 2 ^ 64 = 8 from rfl, Nat.mod_eq_of_lt (show v < 2 ^ 64 by omega), Nat.mod_eq_of_lt (show c < 2 ^ 64 by omega)]
  rw [Nat.mod_eq_of_lt (show v <<< 8 < 2 ^ 64 by omega), ← Nat.shiftLeft_add_eq_or_of_lt (show c < 2 ^ 8 by omega), e, Nat.mod_eq_of_lt (by omega)]
  omega
section TY
variable {kk n : Nat}
variable {I : Nat → Nat → Int32} {J : Nat → Nat → Int64} {D : Nat → Nat → UInt64}
/-- up to eight letters typed -/
theorem a_typ8 (h : Inv 5 kk I J D) {t : Nat → Nat} {k j : Nat} (hj : j ≤ 8) (ht : ∀ i, i < j → 32 ≤ t (k + i) ∧ t (k + i) ≤ 126) (ta : TxA I k t) (hk : k + j ≤ 80) :
    Call kk 133 [.ref 1, .long (lN (pk t k j)), dv, dv] (.inl (some (.int (nI (k + j))))) I J D (fun I2 => TxA I2 (k + j) t ∧ ∀ p, p < 312 → I2 p = I p) := by
  have hb : ∀ r, byt8 (lN (pk t k j)) r = if r < j then t (k + (j - 1 - r)) else 0 := fun r => byt8_pk hj (fun i hi => by have := ht i hi; omega)
  have ho : okBs (byt8 (lN (pk t k j))) 8 = true := okBs_of 8 fun r _ => by
    rw [hb]
    by_cases q : r < j
    · rw [if_pos q]; exact Or.inr (ht _ (by omega))
    · rw [if_neg q]; exact Or.inl rfl
  have hz : ∀ r, byt8 (lN (pk t k j)) r = 0 ↔ j ≤ r := fun r => by
    rw [hb]
    by_cases q : r < j
    · rw [if_pos q]; have := ht (j - 1 - r) (by omega); omega
    · rw [if_neg q]; omega
  have hn : nzA (byt8 (lN (pk t k j))) 8 = j := by rw [nzA_of 8 fun r _ => hz r]; omega
  obtain ⟨I2, J2, D2, e, hi, p1, p2, p3⟩ := a_type h ho ta.1 (by rw [hn]; exact hk)
  rw [hn] at e p1
  refine ⟨I2, J2, D2, e, hi, ⟨p1, fun i hi => ?_⟩, p3⟩
  rw [p2, apF_z (j := j) 8 hj (fun q h1 _ => (hz q).mpr h1), apF_nz j k _ (fun q hq w => by have := (hz q).mp w; omega) i]
  by_cases q : k ≤ i ∧ i < k + j
  · rw [if_pos q, hb, if_pos (by omega), show k + (j - 1 - (j - 1 - (i - k))) = i by omega]
  · rw [if_neg q]; exact ta.2 i (by omega)
end TY
