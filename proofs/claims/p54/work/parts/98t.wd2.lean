/-! kinds of lines and their faults, by both -/
def nml : Nat → Nat
  | 0 => 5
  | 1 => 4
  | 2 => 2
  | 3 => 4
  | 4 => 4
  | _ => 5
def nmc0 : Nat → Nat := fun i => match i with
    | 0 => 108
    | 1 => 101
    | 2 => 97
    | 3 => 115
    | _ => 116
def nmc1 : Nat → Nat := fun i => match i with
    | 0 => 109
    | 1 => 111
    | 2 => 115
    | _ => 116
def nmc2 : Nat → Nat := fun i => match i with
    | 0 => 111
    | _ => 110
def nmc3 : Nat → Nat := fun i => match i with
    | 0 => 98
    | 1 => 97
    | 2 => 110
    | _ => 100
def nmc4 : Nat → Nat := fun i => match i with
    | 0 => 100
    | 1 => 97
    | 2 => 116
    | _ => 101
def nmc5 : Nat → Nat := fun i => match i with
    | 0 => 108
    | 1 => 97
    | 2 => 121
    | 3 => 101
    | _ => 114
def nma : Nat → Nat → Nat
  | 0 => nmc0
  | 1 => nmc1
  | 2 => nmc2
  | 3 => nmc3
  | 4 => nmc4
  | _ => nmc5
def eqC (c : Nat → Nat) (s k : Nat) : Nat → Bool
  | 0 => true
  | m + 1 => eqC c s k m && decide (c (s + m) = nma k m)
def eqW (c : Nat → Nat) (s e k : Nat) : Bool := decide (e - s = nml k) && eqC c s k (nml k)
def hvN (c : Nat → Nat) (s : Nat) : Nat → Nat
  | 0 => 0
  | m + 1 => 256 * hvN c s m + c (s + m)
def kdG (f : Nat → Bool) : Nat → Nat → Option Nat
  | 0, _ => none
  | r + 1, k => if f k = true then some k else kdG f r (k + 1)
def kdo (c : Nat → Nat) (n : Nat) : Option Nat := if (wss c n).length = 0 then none else kdG (eqW c (wSb c n 0) (wEn c n 0)) 6 0
def kdI (o : Option Nat) : Int32 := match o with
  | none => -1
  | some k => nI k
def nmb : Nat → Nat
  | 2 => 2
  | 5 => 0
  | _ => 3
def nuW (c : Nat → Nat) (n j : Nat) : Option Int := numO c (wSb c n j) (wEn c n j)
def ffl (W : Nat) (ok : Nat → Bool) (N : Nat) : Nat → Nat → Int32
  | 0, _ => if N + 1 < W then nI (N + 1) else -1
  | r + 1, k => if k < W ∧ ok k = true then ffl W ok N r (k + 1) else nI k
def fltV (c : Nat → Nat) (n : Nat) : Int32 := match kdo c n with
  | none => 0
  | some k => ffl (wss c n).length (fun j => (nuW c n j).isSome) (nmb k) (nmb k) 1
theorem kdG_lt {f : Nat → Bool} : ∀ {r k j : Nat}, kdG f r k = some j → k ≤ j ∧ j < k + r ∧ f j = true
  | 0, k, j, h => by cases h
  | r + 1, k, j, h => by
    have h : (if f k = true then some k else kdG f r (k + 1)) = some j := h
    by_cases q : f k = true
    · rw [if_pos q] at h; cases h; exact ⟨Nat.le_refl _, by omega, q⟩
    · rw [if_neg q] at h
      have := kdG_lt h
      exact ⟨by omega, by omega, this.2.2⟩
theorem kdo_lt {c : Nat → Nat} {n k : Nat} (h : kdo c n = some k) : k < 6 ∧ 0 < (wss c n).length := by
  unfold kdo at h
  by_cases q : (wss c n).length = 0
  · rw [if_pos q] at h; cases h
  · rw [if_neg q] at h
    have := kdG_lt h
    exact ⟨by omega, by omega⟩
theorem eqC_f {c : Nat → Nat} {s k : Nat} : ∀ {m d : Nat}, eqC c s k m = false → eqC c s k (m + d) = false
  | m, 0, h => h
  | m, d + 1, h => by
    show (eqC c s k (m + d) && _) = false
    rw [eqC_f h]; rfl
theorem numO_b {c : Nat → Nat} {s e : Nat} {z : Int} (h : numO c s e = some z) : -2147483648 ≤ z ∧ z ≤ 2147483647 := by
  unfold numO at h
  by_cases q : dg0 c s < e ∧ dgs c (dg0 c s) (e - dg0 c s) = true ∧ vlN c (dg0 c s) (e - dg0 c s) ≤ 2147483647 + (if c s = 45 then 1 else 0)
  · rw [if_pos q] at h
    have b := q.2.2
    by_cases q3 : c s = 45
    · rw [if_pos q3] at h b; cases h; omega
    · rw [if_neg q3] at h b; cases h; omega
  · rw [if_neg q] at h; cases h
theorem nL_no {o : Option Int} (h : ∀ z, o = some z → -2147483648 ≤ z ∧ z ≤ 2147483647) : (lg_cmp (nL o) 4294967294 ≠ 0) ↔ o.isSome = true := by
  rw [lgc_ne]
  cases o with
  | none => exact ⟨fun w => absurd rfl w, fun w => by cases w⟩
  | some z =>
    have b := h z rfl
    refine ⟨fun _ => rfl, fun _ e => ?_⟩
    have e : Int64.ofInt z = 4294967294 := e
    have t := Int64.toInt_ofInt_of_le (n := z) (by omega) (by omega)
    rw [e, show (4294967294 : Int64).toInt = 4294967294 from by decide] at t
    omega
theorem sh8 {v c : Nat} (hv : v < 1099511627776) (hc : c < 256) : (lN v <<< ((8 : Int32).toInt64 &&& 63)) ||| (nI c).toInt64 = lN (256 * v + c) := by
  rw [show ((8 : Int32).toInt64 &&& 63) = 8 from by decide, nI_l (by omega)]
  refine Int64.toBitVec_inj.mp ?_
  show (BitVec.ofNat 64 v <<< ((8#64).smod 64#64)) ||| BitVec.ofNat 64 c = BitVec.ofNat 64 (256 * v + c)
  rw [show (8#64).smod 64#64 = 8#64 from by decide]
  refine BitVec.eq_of_toNat_eq ?_
  rw [BitVec.toNat_or, BitVec.shiftLeft_eq', BitVec.toNat_shiftLeft, BitVec.toNat_ofNat, BitVec.toNat_ofNat, BitVec.toNat_ofNat, BitVec.toNat_ofNat, show 8 % 2 ^ 64 = 8 from rfl, Nat.mod_eq_of_lt (show v < 2 ^ 64 by omega), Nat.mod_eq_of_lt (show c < 2 ^ 64 by omega)]
  have e : v <<< 8 = v * 256 := Nat.shiftLeft_eq v 8
  rw [Nat.mod_eq_of_lt (show v <<< 8 < 2 ^ 64 by omega), ← Nat.shiftLeft_add_eq_or_of_lt (show c < 2 ^ 8 by omega), e, Nat.mod_eq_of_lt (by omega)]
  omega
theorem hv_bd {c : Nat → Nat} {s : Nat} : ∀ m, (∀ i, i < m → c (s + i) < 256) → hvN c s m < 256 ^ m
  | 0, _ => Nat.zero_lt_one
  | m + 1, h => by
    have ih := hv_bd m (fun i hi => h i (by omega))
    have := h m (by omega)
    show 256 * hvN c s m + c (s + m) < 256 ^ (m + 1)
    rw [Nat.pow_succ]; omega
theorem eqW_i0 {c : Nat → Nat} {s e : Nat} : eqW c s e 0 = true ↔ e - s = 5 ∧ c (s + 0) = 108 ∧ c (s + 1) = 101 ∧ c (s + 2) = 97 ∧ c (s + 3) = 115 ∧ c (s + 4) = 116 := by
  show (decide (e - s = 5) && (((((true && decide (c (s + 0) = 108)) && decide (c (s + 1) = 101)) && decide (c (s + 2) = 97)) && decide (c (s + 3) = 115)) && decide (c (s + 4) = 116))) = true ↔ _
  simp only [Bool.and_eq_true, decide_eq_true_eq, true_and, and_assoc]
theorem hv_0 {c : Nat → Nat} {s e n : Nat} (ch : ChO c n) (hse : s < e) (hen : e ≤ n) : eqW c s e 0 = decide ((if e - s ≤ 5 then hvN c s (e - s) else 0) = 465557353332) := by
  have b : ∀ i, i < e - s → 32 ≤ c (s + i) ∧ c (s + i) ≤ 126 := fun i hi => ch.2 (s + i) (by omega)
  refine Bool.eq_iff_iff.mpr (eqW_i0.trans ?_)
  rw [decide_eq_true_eq]
  by_cases q : e - s ≤ 5
  · rw [if_pos q]
    rcases (show e - s = 1 ∨ e - s = 2 ∨ e - s = 3 ∨ e - s = 4 ∨ e - s = 5 by omega) with m | m | m | m | m
    · rw [m] at b ⊢
      have b0 := b 0 (by decide)
      show _ ↔ 256 * (0) + c (s + 0) = 465557353332
      omega
    · rw [m] at b ⊢
      have b0 := b 0 (by decide)
      have b1 := b 1 (by decide)
      show _ ↔ 256 * (256 * (0) + c (s + 0)) + c (s + 1) = 465557353332
      omega
    · rw [m] at b ⊢
      have b0 := b 0 (by decide)
      have b1 := b 1 (by decide)
      have b2 := b 2 (by decide)
      show _ ↔ 256 * (256 * (256 * (0) + c (s + 0)) + c (s + 1)) + c (s + 2) = 465557353332
      omega
    · rw [m] at b ⊢
      have b0 := b 0 (by decide)
      have b1 := b 1 (by decide)
      have b2 := b 2 (by decide)
      have b3 := b 3 (by decide)
      show _ ↔ 256 * (256 * (256 * (256 * (0) + c (s + 0)) + c (s + 1)) + c (s + 2)) + c (s + 3) = 465557353332
      omega
    · rw [m] at b ⊢
      have b0 := b 0 (by decide)
      have b1 := b 1 (by decide)
      have b2 := b 2 (by decide)
      have b3 := b 3 (by decide)
      have b4 := b 4 (by decide)
      show _ ↔ 256 * (256 * (256 * (256 * (256 * (0) + c (s + 0)) + c (s + 1)) + c (s + 2)) + c (s + 3)) + c (s + 4) = 465557353332
      omega
  · rw [if_neg q]; omega
theorem eqW_i1 {c : Nat → Nat} {s e : Nat} : eqW c s e 1 = true ↔ e - s = 4 ∧ c (s + 0) = 109 ∧ c (s + 1) = 111 ∧ c (s + 2) = 115 ∧ c (s + 3) = 116 := by
  show (decide (e - s = 4) && ((((true && decide (c (s + 0) = 109)) && decide (c (s + 1) = 111)) && decide (c (s + 2) = 115)) && decide (c (s + 3) = 116))) = true ↔ _
  simp only [Bool.and_eq_true, decide_eq_true_eq, true_and, and_assoc]
theorem hv_1 {c : Nat → Nat} {s e n : Nat} (ch : ChO c n) (hse : s < e) (hen : e ≤ n) : eqW c s e 1 = decide ((if e - s ≤ 5 then hvN c s (e - s) else 0) = 1836020596) := by
  have b : ∀ i, i < e - s → 32 ≤ c (s + i) ∧ c (s + i) ≤ 126 := fun i hi => ch.2 (s + i) (by omega)
  refine Bool.eq_iff_iff.mpr (eqW_i1.trans ?_)
  rw [decide_eq_true_eq]
  by_cases q : e - s ≤ 5
  · rw [if_pos q]
    rcases (show e - s = 1 ∨ e - s = 2 ∨ e - s = 3 ∨ e - s = 4 ∨ e - s = 5 by omega) with m | m | m | m | m
    · rw [m] at b ⊢
      have b0 := b 0 (by decide)
      show _ ↔ 256 * (0) + c (s + 0) = 1836020596
      omega
    · rw [m] at b ⊢
      have b0 := b 0 (by decide)
      have b1 := b 1 (by decide)
      show _ ↔ 256 * (256 * (0) + c (s + 0)) + c (s + 1) = 1836020596
      omega
    · rw [m] at b ⊢
      have b0 := b 0 (by decide)
      have b1 := b 1 (by decide)
      have b2 := b 2 (by decide)
      show _ ↔ 256 * (256 * (256 * (0) + c (s + 0)) + c (s + 1)) + c (s + 2) = 1836020596
      omega
    · rw [m] at b ⊢
      have b0 := b 0 (by decide)
      have b1 := b 1 (by decide)
      have b2 := b 2 (by decide)
      have b3 := b 3 (by decide)
      show _ ↔ 256 * (256 * (256 * (256 * (0) + c (s + 0)) + c (s + 1)) + c (s + 2)) + c (s + 3) = 1836020596
      omega
    · rw [m] at b ⊢
      have b0 := b 0 (by decide)
      have b1 := b 1 (by decide)
      have b2 := b 2 (by decide)
      have b3 := b 3 (by decide)
      have b4 := b 4 (by decide)
      show _ ↔ 256 * (256 * (256 * (256 * (256 * (0) + c (s + 0)) + c (s + 1)) + c (s + 2)) + c (s + 3)) + c (s + 4) = 1836020596
      omega
  · rw [if_neg q]; omega
theorem eqW_i2 {c : Nat → Nat} {s e : Nat} : eqW c s e 2 = true ↔ e - s = 2 ∧ c (s + 0) = 111 ∧ c (s + 1) = 110 := by
  show (decide (e - s = 2) && ((true && decide (c (s + 0) = 111)) && decide (c (s + 1) = 110))) = true ↔ _
  simp only [Bool.and_eq_true, decide_eq_true_eq, true_and, and_assoc]
theorem hv_2 {c : Nat → Nat} {s e n : Nat} (ch : ChO c n) (hse : s < e) (hen : e ≤ n) : eqW c s e 2 = decide ((if e - s ≤ 5 then hvN c s (e - s) else 0) = 28526) := by
  have b : ∀ i, i < e - s → 32 ≤ c (s + i) ∧ c (s + i) ≤ 126 := fun i hi => ch.2 (s + i) (by omega)
  refine Bool.eq_iff_iff.mpr (eqW_i2.trans ?_)
  rw [decide_eq_true_eq]
  by_cases q : e - s ≤ 5
  · rw [if_pos q]
    rcases (show e - s = 1 ∨ e - s = 2 ∨ e - s = 3 ∨ e - s = 4 ∨ e - s = 5 by omega) with m | m | m | m | m
    · rw [m] at b ⊢
      have b0 := b 0 (by decide)
      show _ ↔ 256 * (0) + c (s + 0) = 28526
      omega
    · rw [m] at b ⊢
      have b0 := b 0 (by decide)
      have b1 := b 1 (by decide)
      show _ ↔ 256 * (256 * (0) + c (s + 0)) + c (s + 1) = 28526
      omega
    · rw [m] at b ⊢
      have b0 := b 0 (by decide)
      have b1 := b 1 (by decide)
      have b2 := b 2 (by decide)
      show _ ↔ 256 * (256 * (256 * (0) + c (s + 0)) + c (s + 1)) + c (s + 2) = 28526
      omega
    · rw [m] at b ⊢
      have b0 := b 0 (by decide)
      have b1 := b 1 (by decide)
      have b2 := b 2 (by decide)
      have b3 := b 3 (by decide)
      show _ ↔ 256 * (256 * (256 * (256 * (0) + c (s + 0)) + c (s + 1)) + c (s + 2)) + c (s + 3) = 28526
      omega
    · rw [m] at b ⊢
      have b0 := b 0 (by decide)
      have b1 := b 1 (by decide)
      have b2 := b 2 (by decide)
      have b3 := b 3 (by decide)
      have b4 := b 4 (by decide)
      show _ ↔ 256 * (256 * (256 * (256 * (256 * (0) + c (s + 0)) + c (s + 1)) + c (s + 2)) + c (s + 3)) + c (s + 4) = 28526
      omega
  · rw [if_neg q]; omega
theorem eqW_i3 {c : Nat → Nat} {s e : Nat} : eqW c s e 3 = true ↔ e - s = 4 ∧ c (s + 0) = 98 ∧ c (s + 1) = 97 ∧ c (s + 2) = 110 ∧ c (s + 3) = 100 := by
  show (decide (e - s = 4) && ((((true && decide (c (s + 0) = 98)) && decide (c (s + 1) = 97)) && decide (c (s + 2) = 110)) && decide (c (s + 3) = 100))) = true ↔ _
  simp only [Bool.and_eq_true, decide_eq_true_eq, true_and, and_assoc]
theorem hv_3 {c : Nat → Nat} {s e n : Nat} (ch : ChO c n) (hse : s < e) (hen : e ≤ n) : eqW c s e 3 = decide ((if e - s ≤ 5 then hvN c s (e - s) else 0) = 1650552420) := by
  have b : ∀ i, i < e - s → 32 ≤ c (s + i) ∧ c (s + i) ≤ 126 := fun i hi => ch.2 (s + i) (by omega)
  refine Bool.eq_iff_iff.mpr (eqW_i3.trans ?_)
  rw [decide_eq_true_eq]
  by_cases q : e - s ≤ 5
  · rw [if_pos q]
    rcases (show e - s = 1 ∨ e - s = 2 ∨ e - s = 3 ∨ e - s = 4 ∨ e - s = 5 by omega) with m | m | m | m | m
    · rw [m] at b ⊢
      have b0 := b 0 (by decide)
      show _ ↔ 256 * (0) + c (s + 0) = 1650552420
      omega
    · rw [m] at b ⊢
      have b0 := b 0 (by decide)
      have b1 := b 1 (by decide)
      show _ ↔ 256 * (256 * (0) + c (s + 0)) + c (s + 1) = 1650552420
      omega
    · rw [m] at b ⊢
      have b0 := b 0 (by decide)
      have b1 := b 1 (by decide)
      have b2 := b 2 (by decide)
      show _ ↔ 256 * (256 * (256 * (0) + c (s + 0)) + c (s + 1)) + c (s + 2) = 1650552420
      omega
    · rw [m] at b ⊢
      have b0 := b 0 (by decide)
      have b1 := b 1 (by decide)
      have b2 := b 2 (by decide)
      have b3 := b 3 (by decide)
      show _ ↔ 256 * (256 * (256 * (256 * (0) + c (s + 0)) + c (s + 1)) + c (s + 2)) + c (s + 3) = 1650552420
      omega
    · rw [m] at b ⊢
      have b0 := b 0 (by decide)
      have b1 := b 1 (by decide)
      have b2 := b 2 (by decide)
      have b3 := b 3 (by decide)
      have b4 := b 4 (by decide)
      show _ ↔ 256 * (256 * (256 * (256 * (256 * (0) + c (s + 0)) + c (s + 1)) + c (s + 2)) + c (s + 3)) + c (s + 4) = 1650552420
      omega
  · rw [if_neg q]; omega
theorem eqW_i4 {c : Nat → Nat} {s e : Nat} : eqW c s e 4 = true ↔ e - s = 4 ∧ c (s + 0) = 100 ∧ c (s + 1) = 97 ∧ c (s + 2) = 116 ∧ c (s + 3) = 101 := by
  show (decide (e - s = 4) && ((((true && decide (c (s + 0) = 100)) && decide (c (s + 1) = 97)) && decide (c (s + 2) = 116)) && decide (c (s + 3) = 101))) = true ↔ _
  simp only [Bool.and_eq_true, decide_eq_true_eq, true_and, and_assoc]
theorem hv_4 {c : Nat → Nat} {s e n : Nat} (ch : ChO c n) (hse : s < e) (hen : e ≤ n) : eqW c s e 4 = decide ((if e - s ≤ 5 then hvN c s (e - s) else 0) = 1684108389) := by
  have b : ∀ i, i < e - s → 32 ≤ c (s + i) ∧ c (s + i) ≤ 126 := fun i hi => ch.2 (s + i) (by omega)
  refine Bool.eq_iff_iff.mpr (eqW_i4.trans ?_)
  rw [decide_eq_true_eq]
  by_cases q : e - s ≤ 5
  · rw [if_pos q]
    rcases (show e - s = 1 ∨ e - s = 2 ∨ e - s = 3 ∨ e - s = 4 ∨ e - s = 5 by omega) with m | m | m | m | m
    · rw [m] at b ⊢
      have b0 := b 0 (by decide)
      show _ ↔ 256 * (0) + c (s + 0) = 1684108389
      omega
    · rw [m] at b ⊢
      have b0 := b 0 (by decide)
      have b1 := b 1 (by decide)
      show _ ↔ 256 * (256 * (0) + c (s + 0)) + c (s + 1) = 1684108389
      omega
    · rw [m] at b ⊢
      have b0 := b 0 (by decide)
      have b1 := b 1 (by decide)
      have b2 := b 2 (by decide)
      show _ ↔ 256 * (256 * (256 * (0) + c (s + 0)) + c (s + 1)) + c (s + 2) = 1684108389
      omega
    · rw [m] at b ⊢
      have b0 := b 0 (by decide)
      have b1 := b 1 (by decide)
      have b2 := b 2 (by decide)
      have b3 := b 3 (by decide)
      show _ ↔ 256 * (256 * (256 * (256 * (0) + c (s + 0)) + c (s + 1)) + c (s + 2)) + c (s + 3) = 1684108389
      omega
    · rw [m] at b ⊢
      have b0 := b 0 (by decide)
      have b1 := b 1 (by decide)
      have b2 := b 2 (by decide)
      have b3 := b 3 (by decide)
      have b4 := b 4 (by decide)
      show _ ↔ 256 * (256 * (256 * (256 * (256 * (0) + c (s + 0)) + c (s + 1)) + c (s + 2)) + c (s + 3)) + c (s + 4) = 1684108389
      omega
  · rw [if_neg q]; omega
theorem eqW_i5 {c : Nat → Nat} {s e : Nat} : eqW c s e 5 = true ↔ e - s = 5 ∧ c (s + 0) = 108 ∧ c (s + 1) = 97 ∧ c (s + 2) = 121 ∧ c (s + 3) = 101 ∧ c (s + 4) = 114 := by
  show (decide (e - s = 5) && (((((true && decide (c (s + 0) = 108)) && decide (c (s + 1) = 97)) && decide (c (s + 2) = 121)) && decide (c (s + 3) = 101)) && decide (c (s + 4) = 114))) = true ↔ _
  simp only [Bool.and_eq_true, decide_eq_true_eq, true_and, and_assoc]
theorem hv_5 {c : Nat → Nat} {s e n : Nat} (ch : ChO c n) (hse : s < e) (hen : e ≤ n) : eqW c s e 5 = decide ((if e - s ≤ 5 then hvN c s (e - s) else 0) = 465491813746) := by
  have b : ∀ i, i < e - s → 32 ≤ c (s + i) ∧ c (s + i) ≤ 126 := fun i hi => ch.2 (s + i) (by omega)
  refine Bool.eq_iff_iff.mpr (eqW_i5.trans ?_)
  rw [decide_eq_true_eq]
  by_cases q : e - s ≤ 5
  · rw [if_pos q]
    rcases (show e - s = 1 ∨ e - s = 2 ∨ e - s = 3 ∨ e - s = 4 ∨ e - s = 5 by omega) with m | m | m | m | m
    · rw [m] at b ⊢
      have b0 := b 0 (by decide)
      show _ ↔ 256 * (0) + c (s + 0) = 465491813746
      omega
    · rw [m] at b ⊢
      have b0 := b 0 (by decide)
      have b1 := b 1 (by decide)
      show _ ↔ 256 * (256 * (0) + c (s + 0)) + c (s + 1) = 465491813746
      omega
    · rw [m] at b ⊢
      have b0 := b 0 (by decide)
      have b1 := b 1 (by decide)
      have b2 := b 2 (by decide)
      show _ ↔ 256 * (256 * (256 * (0) + c (s + 0)) + c (s + 1)) + c (s + 2) = 465491813746
      omega
    · rw [m] at b ⊢
      have b0 := b 0 (by decide)
      have b1 := b 1 (by decide)
      have b2 := b 2 (by decide)
      have b3 := b 3 (by decide)
      show _ ↔ 256 * (256 * (256 * (256 * (0) + c (s + 0)) + c (s + 1)) + c (s + 2)) + c (s + 3) = 465491813746
      omega
    · rw [m] at b ⊢
      have b0 := b 0 (by decide)
      have b1 := b 1 (by decide)
      have b2 := b 2 (by decide)
      have b3 := b 3 (by decide)
      have b4 := b 4 (by decide)
      show _ ↔ 256 * (256 * (256 * (256 * (256 * (0) + c (s + 0)) + c (s + 1)) + c (s + 2)) + c (s + 3)) + c (s + 4) = 465491813746
      omega
  · rw [if_neg q]; omega
section KB
variable {I : Nat → Nat → Int32} {J : Nat → Nat → Int64} {D : Nat → Nat → UInt64} {c : Nat → Nat} {n : Nat}
theorem x_len0 : ex (312, 0, [.ref 1000020], [], mm I J D) = some (.inl (some (.int 5)), mm I J D) := by
  rw [e_312_0_1000020, e_313_0_1000020, d10, cond_false, e_313_6_1000020, e_313_14, decide_eq_true (show -128 ≤ (0 : Int32) ∧ (0 : Int32) ≤ 127 by decide), cond_true, cal_v, ka, e_312_9]
  rfl
theorem sta_c0 : ∀ i, i < 5 → (((sta 1000030 i) &&& 255).toUInt32 % 65536).toInt32 = nI (nma 0 i) ∧ (0 : Int32) ≤ nI (nma 0 i) ∧ nI (nma 0 i) ≤ 65535 := by decide +kernel
theorem x_chr0 {i : Nat} (hi : i < 5) : ex (315, 0, [.ref 1000020, .int (nI i)], [], mm I J D) = some (.inl (some (.int (nI (nma 0 i)))), mm I J D) := by
  have s := sta_c0 i hi
  rw [e_315_0_1000020, e_314_0_1000020, d10, cond_false, e_314_6_1000020, d01, cond_false, e_314_13, e_314_18, decide_eq_true (Or.inr rfl), cond_true, cal_v, ka, e_315_4_1000020, d10, cond_false, e_315_7_1000020, e_316_0_1000030, decide_eq_true (nI_pos' (show i < 2 ^ 31 by omega)), decide_eq_true (show nI i < 5 from (nI_ltI (b := 5) (by omega) (by decide)).mpr hi), Bool.true_and, cond_true, inb_n hi (by decide), cond_true, nI_clamp (show i < 2 ^ 31 by omega), s.1, decide_eq_true s.2, cond_true, cal_v, ka, e_315_15, decide_eq_true s.2, cond_true]
theorem c_fl0 (ch : ChO c n) (ht : Txt c n (I 313)) {s : Nat} (hs : I 314 0 = nI s) (hsn : s + 5 ≤ n) : ∀ r i, i + r = 5 → eqC c s 0 i = true → ex (86, 24, [.ref 312, .ref 1000020, .int (nI i)], [], mm I J D) = some (.inl (some (.int (bI (eqC c s 0 5)))), mm I J D)
  | 0, i, h, he => by
    have : i = 5 := by omega
    subst this
    rw [e_86_24_312x1000020, x_len0, cal_v, ka, e_86_29_312x1000020, decide_eq_true (show (5 : Int32) ≤ nI 5 by decide), cond_true, e_86_61, he]; rfl
  | r + 1, i, h, he => by
    have n80 := ch.1
    have hc := ch.2 (s + i) (by omega)
    have es : eqC c s 0 (i + 1) = (eqC c s 0 i && decide (c (s + i) = nma 0 i)) := rfl
    rw [e_86_24_312x1000020, x_len0, cal_v, ka, e_86_29_312x1000020, decide_eq_false (show ¬ (5 : Int32) ≤ nI i from nI_ge (a := i) (b := 5) (by omega) (by decide)), cond_false, e_86_32_312x1000020, hs, nI_add, inb_n (show s + i < 80 by omega) (by decide), cond_true, nI_clamp (show s + i < 2 ^ 31 by omega), ht (s + i) (by omega), x_chr0 (show i < 5 by omega), cal_v, ka, e_86_50_312x1000020]
    by_cases q : c (s + i) = nma 0 i
    · rw [decide_eq_true (show nI (c (s + i)) = nI (nma 0 i) by rw [q]), cond_true, e_86_55_312x1000020, nI_1]
      exact c_fl0 ch ht hs hsn r (i + 1) (by omega) (by rw [es, he, decide_eq_true q]; rfl)
    · have nb : nma 0 i < 256 := (by decide : ∀ i, i < 5 → nma 0 i < 256) i (by omega)
      have f := eqC_f (c := c) (s := s) (k := 0) (m := i + 1) (d := 5 - (i + 1)) (by rw [es, decide_eq_false q, Bool.and_false])
      rw [show i + 1 + (5 - (i + 1)) = 5 by omega] at f
      rw [decide_eq_false (fun w => q ((nI_eq (by omega) (by omega)).mp w)), cond_false, e_86_53, f]; rfl
theorem c_fs0 (ch : ChO c n) (ht : Txt c n (I 313)) {s e : Nat} (hs : I 314 0 = nI s) (he : I 315 0 = nI e) (hse : s < e) (hen : e ≤ n) : ex (86, 0, [.ref 312, .ref 1000020, dv], [], mm I J D) = some (.inl (some (.int (bI (eqW c s e 0)))), mm I J D) := by
  have n80 := ch.1
  have ew : eqW c s e 0 = (decide (e - s = 5) && eqC c s 0 5) := rfl
  rw [e_86_0_312x1000020, x_len0, cal_v, ka, he, hs, nI_sub (by omega), e_86_17_312x1000020, ew]
  by_cases q : e - s = 5
  · rw [decide_eq_true (show nI (e - s) = 5 by rw [q]; rfl), cond_true, e_86_22_312x1000020, decide_eq_true q, Bool.true_and]
    exact c_fl0 ch ht hs (by omega) 5 0 (by omega) rfl
  · rw [decide_eq_false (show ¬ nI (e - s) = 5 from fun w => q ((nI_eq (b := 5) (by omega) (by decide)).mp w)), cond_false, e_86_20, decide_eq_false q]; rfl
theorem x_len1 : ex (312, 0, [.ref 1000021], [], mm I J D) = some (.inl (some (.int 4)), mm I J D) := by
  rw [e_312_0_1000021, e_313_0_1000021, d10, cond_false, e_313_6_1000021, e_313_14, decide_eq_true (show -128 ≤ (0 : Int32) ∧ (0 : Int32) ≤ 127 by decide), cond_true, cal_v, ka, e_312_9]
  rfl
theorem sta_c1 : ∀ i, i < 4 → (((sta 1000031 i) &&& 255).toUInt32 % 65536).toInt32 = nI (nma 1 i) ∧ (0 : Int32) ≤ nI (nma 1 i) ∧ nI (nma 1 i) ≤ 65535 := by decide +kernel
theorem x_chr1 {i : Nat} (hi : i < 4) : ex (315, 0, [.ref 1000021, .int (nI i)], [], mm I J D) = some (.inl (some (.int (nI (nma 1 i)))), mm I J D) := by
  have s := sta_c1 i hi
  rw [e_315_0_1000021, e_314_0_1000021, d10, cond_false, e_314_6_1000021, d01, cond_false, e_314_13, e_314_18, decide_eq_true (Or.inr rfl), cond_true, cal_v, ka, e_315_4_1000021, d10, cond_false, e_315_7_1000021, e_316_0_1000031, decide_eq_true (nI_pos' (show i < 2 ^ 31 by omega)), decide_eq_true (show nI i < 4 from (nI_ltI (b := 4) (by omega) (by decide)).mpr hi), Bool.true_and, cond_true, inb_n hi (by decide), cond_true, nI_clamp (show i < 2 ^ 31 by omega), s.1, decide_eq_true s.2, cond_true, cal_v, ka, e_315_15, decide_eq_true s.2, cond_true]
theorem c_fl1 (ch : ChO c n) (ht : Txt c n (I 313)) {s : Nat} (hs : I 314 0 = nI s) (hsn : s + 4 ≤ n) : ∀ r i, i + r = 4 → eqC c s 1 i = true → ex (86, 24, [.ref 312, .ref 1000021, .int (nI i)], [], mm I J D) = some (.inl (some (.int (bI (eqC c s 1 4)))), mm I J D)
  | 0, i, h, he => by
    have : i = 4 := by omega
    subst this
    rw [e_86_24_312x1000021, x_len1, cal_v, ka, e_86_29_312x1000021, decide_eq_true (show (4 : Int32) ≤ nI 4 by decide), cond_true, e_86_61, he]; rfl
  | r + 1, i, h, he => by
    have n80 := ch.1
    have hc := ch.2 (s + i) (by omega)
    have es : eqC c s 1 (i + 1) = (eqC c s 1 i && decide (c (s + i) = nma 1 i)) := rfl
    rw [e_86_24_312x1000021, x_len1, cal_v, ka, e_86_29_312x1000021, decide_eq_false (show ¬ (4 : Int32) ≤ nI i from nI_ge (a := i) (b := 4) (by omega) (by decide)), cond_false, e_86_32_312x1000021, hs, nI_add, inb_n (show s + i < 80 by omega) (by decide), cond_true, nI_clamp (show s + i < 2 ^ 31 by omega), ht (s + i) (by omega), x_chr1 (show i < 4 by omega), cal_v, ka, e_86_50_312x1000021]
    by_cases q : c (s + i) = nma 1 i
    · rw [decide_eq_true (show nI (c (s + i)) = nI (nma 1 i) by rw [q]), cond_true, e_86_55_312x1000021, nI_1]
      exact c_fl1 ch ht hs hsn r (i + 1) (by omega) (by rw [es, he, decide_eq_true q]; rfl)
    · have nb : nma 1 i < 256 := (by decide : ∀ i, i < 4 → nma 1 i < 256) i (by omega)
      have f := eqC_f (c := c) (s := s) (k := 1) (m := i + 1) (d := 4 - (i + 1)) (by rw [es, decide_eq_false q, Bool.and_false])
      rw [show i + 1 + (4 - (i + 1)) = 4 by omega] at f
      rw [decide_eq_false (fun w => q ((nI_eq (by omega) (by omega)).mp w)), cond_false, e_86_53, f]; rfl
theorem c_fs1 (ch : ChO c n) (ht : Txt c n (I 313)) {s e : Nat} (hs : I 314 0 = nI s) (he : I 315 0 = nI e) (hse : s < e) (hen : e ≤ n) : ex (86, 0, [.ref 312, .ref 1000021, dv], [], mm I J D) = some (.inl (some (.int (bI (eqW c s e 1)))), mm I J D) := by
  have n80 := ch.1
  have ew : eqW c s e 1 = (decide (e - s = 4) && eqC c s 1 4) := rfl
  rw [e_86_0_312x1000021, x_len1, cal_v, ka, he, hs, nI_sub (by omega), e_86_17_312x1000021, ew]
  by_cases q : e - s = 4
  · rw [decide_eq_true (show nI (e - s) = 4 by rw [q]; rfl), cond_true, e_86_22_312x1000021, decide_eq_true q, Bool.true_and]
    exact c_fl1 ch ht hs (by omega) 4 0 (by omega) rfl
  · rw [decide_eq_false (show ¬ nI (e - s) = 4 from fun w => q ((nI_eq (b := 4) (by omega) (by decide)).mp w)), cond_false, e_86_20, decide_eq_false q]; rfl
theorem x_len2 : ex (312, 0, [.ref 1000022], [], mm I J D) = some (.inl (some (.int 2)), mm I J D) := by
  rw [e_312_0_1000022, e_313_0_1000022, d10, cond_false, e_313_6_1000022, e_313_14, decide_eq_true (show -128 ≤ (0 : Int32) ∧ (0 : Int32) ≤ 127 by decide), cond_true, cal_v, ka, e_312_9]
  rfl
theorem sta_c2 : ∀ i, i < 2 → (((sta 1000032 i) &&& 255).toUInt32 % 65536).toInt32 = nI (nma 2 i) ∧ (0 : Int32) ≤ nI (nma 2 i) ∧ nI (nma 2 i) ≤ 65535 := by decide +kernel
theorem x_chr2 {i : Nat} (hi : i < 2) : ex (315, 0, [.ref 1000022, .int (nI i)], [], mm I J D) = some (.inl (some (.int (nI (nma 2 i)))), mm I J D) := by
  have s := sta_c2 i hi
  rw [e_315_0_1000022, e_314_0_1000022, d10, cond_false, e_314_6_1000022, d01, cond_false, e_314_13, e_314_18, decide_eq_true (Or.inr rfl), cond_true, cal_v, ka, e_315_4_1000022, d10, cond_false, e_315_7_1000022, e_316_0_1000032, decide_eq_true (nI_pos' (show i < 2 ^ 31 by omega)), decide_eq_true (show nI i < 2 from (nI_ltI (b := 2) (by omega) (by decide)).mpr hi), Bool.true_and, cond_true, inb_n hi (by decide), cond_true, nI_clamp (show i < 2 ^ 31 by omega), s.1, decide_eq_true s.2, cond_true, cal_v, ka, e_315_15, decide_eq_true s.2, cond_true]
theorem c_fl2 (ch : ChO c n) (ht : Txt c n (I 313)) {s : Nat} (hs : I 314 0 = nI s) (hsn : s + 2 ≤ n) : ∀ r i, i + r = 2 → eqC c s 2 i = true → ex (86, 24, [.ref 312, .ref 1000022, .int (nI i)], [], mm I J D) = some (.inl (some (.int (bI (eqC c s 2 2)))), mm I J D)
  | 0, i, h, he => by
    have : i = 2 := by omega
    subst this
    rw [e_86_24_312x1000022, x_len2, cal_v, ka, e_86_29_312x1000022, decide_eq_true (show (2 : Int32) ≤ nI 2 by decide), cond_true, e_86_61, he]; rfl
  | r + 1, i, h, he => by
    have n80 := ch.1
    have hc := ch.2 (s + i) (by omega)
    have es : eqC c s 2 (i + 1) = (eqC c s 2 i && decide (c (s + i) = nma 2 i)) := rfl
    rw [e_86_24_312x1000022, x_len2, cal_v, ka, e_86_29_312x1000022, decide_eq_false (show ¬ (2 : Int32) ≤ nI i from nI_ge (a := i) (b := 2) (by omega) (by decide)), cond_false, e_86_32_312x1000022, hs, nI_add, inb_n (show s + i < 80 by omega) (by decide), cond_true, nI_clamp (show s + i < 2 ^ 31 by omega), ht (s + i) (by omega), x_chr2 (show i < 2 by omega), cal_v, ka, e_86_50_312x1000022]
    by_cases q : c (s + i) = nma 2 i
    · rw [decide_eq_true (show nI (c (s + i)) = nI (nma 2 i) by rw [q]), cond_true, e_86_55_312x1000022, nI_1]
      exact c_fl2 ch ht hs hsn r (i + 1) (by omega) (by rw [es, he, decide_eq_true q]; rfl)
    · have nb : nma 2 i < 256 := (by decide : ∀ i, i < 2 → nma 2 i < 256) i (by omega)
      have f := eqC_f (c := c) (s := s) (k := 2) (m := i + 1) (d := 2 - (i + 1)) (by rw [es, decide_eq_false q, Bool.and_false])
      rw [show i + 1 + (2 - (i + 1)) = 2 by omega] at f
      rw [decide_eq_false (fun w => q ((nI_eq (by omega) (by omega)).mp w)), cond_false, e_86_53, f]; rfl
theorem c_fs2 (ch : ChO c n) (ht : Txt c n (I 313)) {s e : Nat} (hs : I 314 0 = nI s) (he : I 315 0 = nI e) (hse : s < e) (hen : e ≤ n) : ex (86, 0, [.ref 312, .ref 1000022, dv], [], mm I J D) = some (.inl (some (.int (bI (eqW c s e 2)))), mm I J D) := by
  have n80 := ch.1
  have ew : eqW c s e 2 = (decide (e - s = 2) && eqC c s 2 2) := rfl
  rw [e_86_0_312x1000022, x_len2, cal_v, ka, he, hs, nI_sub (by omega), e_86_17_312x1000022, ew]
  by_cases q : e - s = 2
  · rw [decide_eq_true (show nI (e - s) = 2 by rw [q]; rfl), cond_true, e_86_22_312x1000022, decide_eq_true q, Bool.true_and]
    exact c_fl2 ch ht hs (by omega) 2 0 (by omega) rfl
  · rw [decide_eq_false (show ¬ nI (e - s) = 2 from fun w => q ((nI_eq (b := 2) (by omega) (by decide)).mp w)), cond_false, e_86_20, decide_eq_false q]; rfl
theorem x_len3 : ex (312, 0, [.ref 1000023], [], mm I J D) = some (.inl (some (.int 4)), mm I J D) := by
  rw [e_312_0_1000023, e_313_0_1000023, d10, cond_false, e_313_6_1000023, e_313_14, decide_eq_true (show -128 ≤ (0 : Int32) ∧ (0 : Int32) ≤ 127 by decide), cond_true, cal_v, ka, e_312_9]
  rfl
theorem sta_c3 : ∀ i, i < 4 → (((sta 1000033 i) &&& 255).toUInt32 % 65536).toInt32 = nI (nma 3 i) ∧ (0 : Int32) ≤ nI (nma 3 i) ∧ nI (nma 3 i) ≤ 65535 := by decide +kernel
theorem x_chr3 {i : Nat} (hi : i < 4) : ex (315, 0, [.ref 1000023, .int (nI i)], [], mm I J D) = some (.inl (some (.int (nI (nma 3 i)))), mm I J D) := by
  have s := sta_c3 i hi
  rw [e_315_0_1000023, e_314_0_1000023, d10, cond_false, e_314_6_1000023, d01, cond_false, e_314_13, e_314_18, decide_eq_true (Or.inr rfl), cond_true, cal_v, ka, e_315_4_1000023, d10, cond_false, e_315_7_1000023, e_316_0_1000033, decide_eq_true (nI_pos' (show i < 2 ^ 31 by omega)), decide_eq_true (show nI i < 4 from (nI_ltI (b := 4) (by omega) (by decide)).mpr hi), Bool.true_and, cond_true, inb_n hi (by decide), cond_true, nI_clamp (show i < 2 ^ 31 by omega), s.1, decide_eq_true s.2, cond_true, cal_v, ka, e_315_15, decide_eq_true s.2, cond_true]
theorem c_fl3 (ch : ChO c n) (ht : Txt c n (I 313)) {s : Nat} (hs : I 314 0 = nI s) (hsn : s + 4 ≤ n) : ∀ r i, i + r = 4 → eqC c s 3 i = true → ex (86, 24, [.ref 312, .ref 1000023, .int (nI i)], [], mm I J D) = some (.inl (some (.int (bI (eqC c s 3 4)))), mm I J D)
  | 0, i, h, he => by
    have : i = 4 := by omega
    subst this
    rw [e_86_24_312x1000023, x_len3, cal_v, ka, e_86_29_312x1000023, decide_eq_true (show (4 : Int32) ≤ nI 4 by decide), cond_true, e_86_61, he]; rfl
  | r + 1, i, h, he => by
    have n80 := ch.1
    have hc := ch.2 (s + i) (by omega)
    have es : eqC c s 3 (i + 1) = (eqC c s 3 i && decide (c (s + i) = nma 3 i)) := rfl
    rw [e_86_24_312x1000023, x_len3, cal_v, ka, e_86_29_312x1000023, decide_eq_false (show ¬ (4 : Int32) ≤ nI i from nI_ge (a := i) (b := 4) (by omega) (by decide)), cond_false, e_86_32_312x1000023, hs, nI_add, inb_n (show s + i < 80 by omega) (by decide), cond_true, nI_clamp (show s + i < 2 ^ 31 by omega), ht (s + i) (by omega), x_chr3 (show i < 4 by omega), cal_v, ka, e_86_50_312x1000023]
    by_cases q : c (s + i) = nma 3 i
    · rw [decide_eq_true (show nI (c (s + i)) = nI (nma 3 i) by rw [q]), cond_true, e_86_55_312x1000023, nI_1]
      exact c_fl3 ch ht hs hsn r (i + 1) (by omega) (by rw [es, he, decide_eq_true q]; rfl)
    · have nb : nma 3 i < 256 := (by decide : ∀ i, i < 4 → nma 3 i < 256) i (by omega)
      have f := eqC_f (c := c) (s := s) (k := 3) (m := i + 1) (d := 4 - (i + 1)) (by rw [es, decide_eq_false q, Bool.and_false])
      rw [show i + 1 + (4 - (i + 1)) = 4 by omega] at f
      rw [decide_eq_false (fun w => q ((nI_eq (by omega) (by omega)).mp w)), cond_false, e_86_53, f]; rfl
theorem c_fs3 (ch : ChO c n) (ht : Txt c n (I 313)) {s e : Nat} (hs : I 314 0 = nI s) (he : I 315 0 = nI e) (hse : s < e) (hen : e ≤ n) : ex (86, 0, [.ref 312, .ref 1000023, dv], [], mm I J D) = some (.inl (some (.int (bI (eqW c s e 3)))), mm I J D) := by
  have n80 := ch.1
  have ew : eqW c s e 3 = (decide (e - s = 4) && eqC c s 3 4) := rfl
  rw [e_86_0_312x1000023, x_len3, cal_v, ka, he, hs, nI_sub (by omega), e_86_17_312x1000023, ew]
  by_cases q : e - s = 4
  · rw [decide_eq_true (show nI (e - s) = 4 by rw [q]; rfl), cond_true, e_86_22_312x1000023, decide_eq_true q, Bool.true_and]
    exact c_fl3 ch ht hs (by omega) 4 0 (by omega) rfl
  · rw [decide_eq_false (show ¬ nI (e - s) = 4 from fun w => q ((nI_eq (b := 4) (by omega) (by decide)).mp w)), cond_false, e_86_20, decide_eq_false q]; rfl
theorem x_len4 : ex (312, 0, [.ref 1000024], [], mm I J D) = some (.inl (some (.int 4)), mm I J D) := by
  rw [e_312_0_1000024, e_313_0_1000024, d10, cond_false, e_313_6_1000024, e_313_14, decide_eq_true (show -128 ≤ (0 : Int32) ∧ (0 : Int32) ≤ 127 by decide), cond_true, cal_v, ka, e_312_9]
  rfl
theorem sta_c4 : ∀ i, i < 4 → (((sta 1000034 i) &&& 255).toUInt32 % 65536).toInt32 = nI (nma 4 i) ∧ (0 : Int32) ≤ nI (nma 4 i) ∧ nI (nma 4 i) ≤ 65535 := by decide +kernel
theorem x_chr4 {i : Nat} (hi : i < 4) : ex (315, 0, [.ref 1000024, .int (nI i)], [], mm I J D) = some (.inl (some (.int (nI (nma 4 i)))), mm I J D) := by
  have s := sta_c4 i hi
  rw [e_315_0_1000024, e_314_0_1000024, d10, cond_false, e_314_6_1000024, d01, cond_false, e_314_13, e_314_18, decide_eq_true (Or.inr rfl), cond_true, cal_v, ka, e_315_4_1000024, d10, cond_false, e_315_7_1000024, e_316_0_1000034, decide_eq_true (nI_pos' (show i < 2 ^ 31 by omega)), decide_eq_true (show nI i < 4 from (nI_ltI (b := 4) (by omega) (by decide)).mpr hi), Bool.true_and, cond_true, inb_n hi (by decide), cond_true, nI_clamp (show i < 2 ^ 31 by omega), s.1, decide_eq_true s.2, cond_true, cal_v, ka, e_315_15, decide_eq_true s.2, cond_true]
theorem c_fl4 (ch : ChO c n) (ht : Txt c n (I 313)) {s : Nat} (hs : I 314 0 = nI s) (hsn : s + 4 ≤ n) : ∀ r i, i + r = 4 → eqC c s 4 i = true → ex (86, 24, [.ref 312, .ref 1000024, .int (nI i)], [], mm I J D) = some (.inl (some (.int (bI (eqC c s 4 4)))), mm I J D)
  | 0, i, h, he => by
    have : i = 4 := by omega
    subst this
    rw [e_86_24_312x1000024, x_len4, cal_v, ka, e_86_29_312x1000024, decide_eq_true (show (4 : Int32) ≤ nI 4 by decide), cond_true, e_86_61, he]; rfl
  | r + 1, i, h, he => by
    have n80 := ch.1
    have hc := ch.2 (s + i) (by omega)
    have es : eqC c s 4 (i + 1) = (eqC c s 4 i && decide (c (s + i) = nma 4 i)) := rfl
    rw [e_86_24_312x1000024, x_len4, cal_v, ka, e_86_29_312x1000024, decide_eq_false (show ¬ (4 : Int32) ≤ nI i from nI_ge (a := i) (b := 4) (by omega) (by decide)), cond_false, e_86_32_312x1000024, hs, nI_add, inb_n (show s + i < 80 by omega) (by decide), cond_true, nI_clamp (show s + i < 2 ^ 31 by omega), ht (s + i) (by omega), x_chr4 (show i < 4 by omega), cal_v, ka, e_86_50_312x1000024]
    by_cases q : c (s + i) = nma 4 i
    · rw [decide_eq_true (show nI (c (s + i)) = nI (nma 4 i) by rw [q]), cond_true, e_86_55_312x1000024, nI_1]
      exact c_fl4 ch ht hs hsn r (i + 1) (by omega) (by rw [es, he, decide_eq_true q]; rfl)
    · have nb : nma 4 i < 256 := (by decide : ∀ i, i < 4 → nma 4 i < 256) i (by omega)
      have f := eqC_f (c := c) (s := s) (k := 4) (m := i + 1) (d := 4 - (i + 1)) (by rw [es, decide_eq_false q, Bool.and_false])
      rw [show i + 1 + (4 - (i + 1)) = 4 by omega] at f
      rw [decide_eq_false (fun w => q ((nI_eq (by omega) (by omega)).mp w)), cond_false, e_86_53, f]; rfl
theorem c_fs4 (ch : ChO c n) (ht : Txt c n (I 313)) {s e : Nat} (hs : I 314 0 = nI s) (he : I 315 0 = nI e) (hse : s < e) (hen : e ≤ n) : ex (86, 0, [.ref 312, .ref 1000024, dv], [], mm I J D) = some (.inl (some (.int (bI (eqW c s e 4)))), mm I J D) := by
  have n80 := ch.1
  have ew : eqW c s e 4 = (decide (e - s = 4) && eqC c s 4 4) := rfl
  rw [e_86_0_312x1000024, x_len4, cal_v, ka, he, hs, nI_sub (by omega), e_86_17_312x1000024, ew]
  by_cases q : e - s = 4
  · rw [decide_eq_true (show nI (e - s) = 4 by rw [q]; rfl), cond_true, e_86_22_312x1000024, decide_eq_true q, Bool.true_and]
    exact c_fl4 ch ht hs (by omega) 4 0 (by omega) rfl
  · rw [decide_eq_false (show ¬ nI (e - s) = 4 from fun w => q ((nI_eq (b := 4) (by omega) (by decide)).mp w)), cond_false, e_86_20, decide_eq_false q]; rfl
theorem x_len5 : ex (312, 0, [.ref 1000025], [], mm I J D) = some (.inl (some (.int 5)), mm I J D) := by
  rw [e_312_0_1000025, e_313_0_1000025, d10, cond_false, e_313_6_1000025, e_313_14, decide_eq_true (show -128 ≤ (0 : Int32) ∧ (0 : Int32) ≤ 127 by decide), cond_true, cal_v, ka, e_312_9]
  rfl
theorem sta_c5 : ∀ i, i < 5 → (((sta 1000035 i) &&& 255).toUInt32 % 65536).toInt32 = nI (nma 5 i) ∧ (0 : Int32) ≤ nI (nma 5 i) ∧ nI (nma 5 i) ≤ 65535 := by decide +kernel
theorem x_chr5 {i : Nat} (hi : i < 5) : ex (315, 0, [.ref 1000025, .int (nI i)], [], mm I J D) = some (.inl (some (.int (nI (nma 5 i)))), mm I J D) := by
  have s := sta_c5 i hi
  rw [e_315_0_1000025, e_314_0_1000025, d10, cond_false, e_314_6_1000025, d01, cond_false, e_314_13, e_314_18, decide_eq_true (Or.inr rfl), cond_true, cal_v, ka, e_315_4_1000025, d10, cond_false, e_315_7_1000025, e_316_0_1000035, decide_eq_true (nI_pos' (show i < 2 ^ 31 by omega)), decide_eq_true (show nI i < 5 from (nI_ltI (b := 5) (by omega) (by decide)).mpr hi), Bool.true_and, cond_true, inb_n hi (by decide), cond_true, nI_clamp (show i < 2 ^ 31 by omega), s.1, decide_eq_true s.2, cond_true, cal_v, ka, e_315_15, decide_eq_true s.2, cond_true]
theorem c_fl5 (ch : ChO c n) (ht : Txt c n (I 313)) {s : Nat} (hs : I 314 0 = nI s) (hsn : s + 5 ≤ n) : ∀ r i, i + r = 5 → eqC c s 5 i = true → ex (86, 24, [.ref 312, .ref 1000025, .int (nI i)], [], mm I J D) = some (.inl (some (.int (bI (eqC c s 5 5)))), mm I J D)
  | 0, i, h, he => by
    have : i = 5 := by omega
    subst this
    rw [e_86_24_312x1000025, x_len5, cal_v, ka, e_86_29_312x1000025, decide_eq_true (show (5 : Int32) ≤ nI 5 by decide), cond_true, e_86_61, he]; rfl
  | r + 1, i, h, he => by
    have n80 := ch.1
    have hc := ch.2 (s + i) (by omega)
    have es : eqC c s 5 (i + 1) = (eqC c s 5 i && decide (c (s + i) = nma 5 i)) := rfl
    rw [e_86_24_312x1000025, x_len5, cal_v, ka, e_86_29_312x1000025, decide_eq_false (show ¬ (5 : Int32) ≤ nI i from nI_ge (a := i) (b := 5) (by omega) (by decide)), cond_false, e_86_32_312x1000025, hs, nI_add, inb_n (show s + i < 80 by omega) (by decide), cond_true, nI_clamp (show s + i < 2 ^ 31 by omega), ht (s + i) (by omega), x_chr5 (show i < 5 by omega), cal_v, ka, e_86_50_312x1000025]
    by_cases q : c (s + i) = nma 5 i
    · rw [decide_eq_true (show nI (c (s + i)) = nI (nma 5 i) by rw [q]), cond_true, e_86_55_312x1000025, nI_1]
      exact c_fl5 ch ht hs hsn r (i + 1) (by omega) (by rw [es, he, decide_eq_true q]; rfl)
    · have nb : nma 5 i < 256 := (by decide : ∀ i, i < 5 → nma 5 i < 256) i (by omega)
      have f := eqC_f (c := c) (s := s) (k := 5) (m := i + 1) (d := 5 - (i + 1)) (by rw [es, decide_eq_false q, Bool.and_false])
      rw [show i + 1 + (5 - (i + 1)) = 5 by omega] at f
      rw [decide_eq_false (fun w => q ((nI_eq (by omega) (by omega)).mp w)), cond_false, e_86_53, f]; rfl
theorem c_fs5 (ch : ChO c n) (ht : Txt c n (I 313)) {s e : Nat} (hs : I 314 0 = nI s) (he : I 315 0 = nI e) (hse : s < e) (hen : e ≤ n) : ex (86, 0, [.ref 312, .ref 1000025, dv], [], mm I J D) = some (.inl (some (.int (bI (eqW c s e 5)))), mm I J D) := by
  have n80 := ch.1
  have ew : eqW c s e 5 = (decide (e - s = 5) && eqC c s 5 5) := rfl
  rw [e_86_0_312x1000025, x_len5, cal_v, ka, he, hs, nI_sub (by omega), e_86_17_312x1000025, ew]
  by_cases q : e - s = 5
  · rw [decide_eq_true (show nI (e - s) = 5 by rw [q]; rfl), cond_true, e_86_22_312x1000025, decide_eq_true q, Bool.true_and]
    exact c_fl5 ch ht hs (by omega) 5 0 (by omega) rfl
  · rw [decide_eq_false (show ¬ nI (e - s) = 5 from fun w => q ((nI_eq (b := 5) (by omega) (by decide)).mp w)), cond_false, e_86_20, decide_eq_false q]; rfl
theorem x_nam : ∀ k, k < 6 → ex (85, 0, [.int (nI k)], [], mm I J D) = some (.inl (some (.ref (1000020 + k))), mm I J D) := fun k hk => by
  rcases (show k = 0 ∨ k = 1 ∨ k = 2 ∨ k = 3 ∨ k = 4 ∨ k = 5 by omega) with rfl | rfl | rfl | rfl | rfl | rfl
  · rw [e_85_0]; exact (sw_85_1_0 I J D (nI 0)).trans (e_85_36 I J D)
  · rw [e_85_0]; exact (sw_85_1_1 I J D (nI 1)).trans (e_85_39 I J D)
  · rw [e_85_0]; exact (sw_85_1_2 I J D (nI 2)).trans (e_85_42 I J D)
  · rw [e_85_0]; exact (sw_85_1_3 I J D (nI 3)).trans (e_85_45 I J D)
  · rw [e_85_0]; exact (sw_85_1_4 I J D (nI 4)).trans (e_85_48 I J D)
  · rw [e_85_0]; exact (sw_85_1_d I J D (nI 5) (Or.inr (by decide))).trans (e_85_51 I J D)
theorem c_kd1 (ch : ChO c n) (ht : Txt c n (I 313)) {s e : Nat} (hs : I 314 0 = nI s) (he : I 315 0 = nI e) (hse : s < e) (hen : e ≤ n) {W : Nat} (hW : I 312 4 = nI W) (hw : 0 < W ∧ W ≤ 40) : ∀ k, k < 6 → ex (84, 2, [.ref 312, .int (nI k)], [], mm I J D) = if eqW c s e k = true then some (.inl (some (.int (nI k))), mm I J D) else ex (84, 2, [.ref 312, .int (nI (k + 1))], [], mm I J D) := fun k hk => by
  have fin : ∀ x : Bool, ex (84, 22, [.ref 312, .int (nI k)], [.int (bI x)], mm I J D) = if x = true then some (.inl (some (.int (nI k))), mm I J D) else ex (84, 2, [.ref 312, .int (nI (k + 1))], [], mm I J D) := fun x => by
    cases x with
    | true => rw [e_84_22, decide_eq_false (show ¬ bI true = 0 by decide), cond_false, e_84_25, if_pos rfl]
    | false => rw [e_84_22, decide_eq_true (show bI false = 0 from rfl), cond_true, e_84_27, nI_1, if_neg (by decide)]
  rw [e_84_2, hW, decide_eq_false (nI_nle hw.1 (by omega)), cond_false, e_84_9, decide_eq_false (show ¬ (5 : Int32) < nI k from nI_nlt (a := 5) (by omega) (by decide)), cond_false, e_84_14, x_nam k hk, cal_v, krw _]
  rcases (show k = 0 ∨ k = 1 ∨ k = 2 ∨ k = 3 ∨ k = 4 ∨ k = 5 by omega) with rfl | rfl | rfl | rfl | rfl | rfl
  · refine (e_84_19_312x1000020x312 I J D (nI 0)).trans ?_
    rw [c_fs0 ch ht hs he hse hen, cal_v, ka]; exact fin _
  · refine (e_84_19_312x1000021x312 I J D (nI 1)).trans ?_
    rw [c_fs1 ch ht hs he hse hen, cal_v, ka]; exact fin _
  · refine (e_84_19_312x1000022x312 I J D (nI 2)).trans ?_
    rw [c_fs2 ch ht hs he hse hen, cal_v, ka]; exact fin _
  · refine (e_84_19_312x1000023x312 I J D (nI 3)).trans ?_
    rw [c_fs3 ch ht hs he hse hen, cal_v, ka]; exact fin _
  · refine (e_84_19_312x1000024x312 I J D (nI 4)).trans ?_
    rw [c_fs4 ch ht hs he hse hen, cal_v, ka]; exact fin _
  · refine (e_84_19_312x1000025x312 I J D (nI 5)).trans ?_
    rw [c_fs5 ch ht hs he hse hen, cal_v, ka]; exact fin _
theorem c_kdl (ch : ChO c n) (ht : Txt c n (I 313)) {s e : Nat} (hs : I 314 0 = nI s) (he : I 315 0 = nI e) (hse : s < e) (hen : e ≤ n) {W : Nat} (hW : I 312 4 = nI W) (hw : 0 < W ∧ W ≤ 40) : ∀ r k, k + r = 6 → ex (84, 2, [.ref 312, .int (nI k)], [], mm I J D) = some (.inl (some (.int (kdI (kdG (eqW c s e) r k)))), mm I J D)
  | 0, k, h => by
    have : k = 6 := by omega
    subst this
    rw [e_84_2, hW, decide_eq_false (nI_nle hw.1 (by omega)), cond_false, e_84_9, decide_eq_true (show (5 : Int32) < nI 6 by decide), cond_true, e_84_33]; rfl
  | r + 1, k, h => by
    rw [c_kd1 ch ht hs he hse hen hW hw k (by omega)]
    show _ = (some (.inl (some (.int (kdI (if eqW c s e k = true then some k else kdG (eqW c s e) r (k + 1))))), mm I J D) : Option Ou)
    by_cases q : eqW c s e k = true
    · rw [if_pos q, if_pos q]; rfl
    · rw [if_neg q, if_neg q]
      exact c_kdl ch ht hs he hse hen hW hw r (k + 1) (by omega)
theorem c_kind (ch : ChO c n) (ht : Txt c n (I 313)) (wd : WdB c n I) : ex (84, 0, [.ref 312, dv], [], mm I J D) = some (.inl (some (.int (kdI (kdo c n)))), mm I J D) := by
  have w40 := ws_b ch
  unfold kdo
  rw [e_84_0]
  by_cases q : (wss c n).length = 0
  · rw [if_pos q, e_84_2, wd.1, q, decide_eq_true (show nI 0 ≤ 0 by decide), cond_true, e_84_33]; rfl
  · rw [if_neg q]
    have ok := ws_ok (c := c) (n := n) (j := 0) (by omega)
    have w0 := wd.2 0 (by omega)
    exact c_kdl ch ht w0.1 w0.2 ok.1 ok.2 wd.1 ⟨by omega, w40⟩ 6 0 (by omega)
/-! by the model -/
theorem m_wd1 (ch : ChO c n) (ht : Txt c n (I 320)) {s e : Nat} (hs : I 333 0 = nI s) (he : I 334 0 = nI e) (hse : s < e) (hen : e ≤ n) {X : Nat} (h5 : e - s ≤ 5) : ∀ r k, s + k + r = e → ex (253, 11, [.ref 316, .int 0, .long (lN X), dv, .long (lN (hvN c s k)), dv, .int (nI (s + k))], [], mm I J D) = ex (253, 65, [dv, dv, .long (lN X), dv, .long (lN (hvN c s (e - s))), dv, dv], [], mm I J D)
  | 0, k, h => by
    have n80 := ch.1
    rw [e_253_11, show inb 0 80 = true by decide, cond_true, show (0 : Int32).toNatClampNeg = 0 from rfl, he, show s + k = e by omega, decide_eq_true ((nI_leI (by omega) (by omega)).mpr (Nat.le_refl _)), cond_true, show k = e - s by omega]
  | r + 1, k, h => by
    have n80 := ch.1
    have hc := ch.2 (s + k) (by omega)
    have bd := hv_bd (c := c) (s := s) k (fun i hi => by have := ch.2 (s + i) (by omega); omega)
    have b5 : 256 ^ k ≤ 256 ^ 4 := Nat.pow_le_pow_right (by decide) (by omega)
    rw [e_253_11, show inb 0 80 = true by decide, cond_true, show (0 : Int32).toNatClampNeg = 0 from rfl, he, decide_eq_false (show ¬ nI e ≤ nI (s + k) from nI_ge (by omega) (by omega)), cond_false, e_253_22, show inb 0 80 = true by decide, cond_true, cond_true, show (0 : Int32).toNatClampNeg = 0 from rfl, he, hs, nI_sub (by omega), decide_eq_true (show nI (e - s) ≤ 5 from (nI_leI (b := 5) (by omega) (by decide)).mpr h5), cond_true, e_253_43, inb_n (show s + k < 80 by omega) (by decide), cond_true, nI_clamp (show s + k < 2 ^ 31 by omega), ht (s + k) (by omega), sh8 (by omega) (by omega), e_253_57, nI_1]
    exact m_wd1 ch ht hs he hse hen h5 r (k + 1) (by omega)
theorem m_wd2 (ch : ChO c n) {s e : Nat} (hs : I 333 0 = nI s) (he : I 334 0 = nI e) (hen : e ≤ n) {X : Nat} (h5 : ¬ e - s ≤ 5) : ∀ r k (y : Int64), s + k + r = e → (k = 0 ∨ y = 0) → (k = 0 → 0 < r) → ex (253, 11, [.ref 316, .int 0, .long (lN X), dv, .long y, dv, .int (nI (s + k))], [], mm I J D) = ex (253, 65, [dv, dv, .long (lN X), dv, .long (lN 0), dv, dv], [], mm I J D)
  | 0, k, y, h, h1, h2 => by
    have n80 := ch.1
    have : y = 0 := by rcases h1 with w | w; exact absurd (h2 w) (Nat.lt_irrefl _); exact w
    subst this
    rw [e_253_11, show inb 0 80 = true by decide, cond_true, show (0 : Int32).toNatClampNeg = 0 from rfl, he, show s + k = e by omega, decide_eq_true ((nI_leI (by omega) (by omega)).mpr (Nat.le_refl _)), cond_true]
    rfl
  | r + 1, k, y, h, h1, h2 => by
    have n80 := ch.1
    rw [e_253_11, show inb 0 80 = true by decide, cond_true, show (0 : Int32).toNatClampNeg = 0 from rfl, he, decide_eq_false (show ¬ nI e ≤ nI (s + k) from nI_ge (by omega) (by omega)), cond_false, e_253_22, show inb 0 80 = true by decide, cond_true, cond_true, show (0 : Int32).toNatClampNeg = 0 from rfl, he, hs, nI_sub (by omega), decide_eq_false (show ¬ nI (e - s) ≤ 5 from fun w => h5 ((nI_leI (b := 5) (by omega) (by decide)).mp w)), cond_false, e_253_39, e_253_57, nI_1]
    exact m_wd2 ch hs he hen h5 r (k + 1) 0 (by omega) (Or.inr rfl) (fun w => by omega)
theorem m_wrd (ch : ChO c n) (ht : Txt c n (I 320)) {s e : Nat} (hs : I 333 0 = nI s) (he : I 334 0 = nI e) (hse : s < e) (hen : e ≤ n) {X : Nat} (hX : X < 1099511627776) : ex (253, 0, [.ref 316, .int 0, .long (lN X), dv, dv, dv, dv], [], mm I J D) = some (.inl (some (.int (bI (decide ((if e - s ≤ 5 then hvN c s (e - s) else 0) = X))))), mm I J D) := by
  have n80 := ch.1
  have fin : ∀ Y : Nat, Y < 1099511627776 → ex (253, 65, [dv, dv, .long (lN X), dv, .long (lN Y), dv, dv], [], mm I J D) = some (.inl (some (.int (bI (decide (Y = X))))), mm I J D) := fun Y hY => by
    have cmp : (lg_cmp (lN Y) (lN X) ≠ 0) ↔ Y ≠ X := by
      rw [lgc_ne]
      refine not_congr ⟨fun w => ?_, fun w => by rw [w]⟩
      have := congrArg Int64.toInt w
      rw [lB (by omega), lB (by omega)] at this
      omega
    rw [e_253_65]
    by_cases q : Y = X
    · rw [decide_eq_false (fun w => cmp.mp w q), cond_false, e_253_72, e_253_77, decide_eq_true (Or.inr rfl), cond_true, decide_eq_true q]; rfl
    · rw [decide_eq_true (cmp.mpr q), cond_true, e_253_76, e_253_77, decide_eq_true (Or.inl rfl), cond_true, decide_eq_false q]; rfl
  rw [e_253_0, show inb 0 80 = true by decide, cond_true, show (0 : Int32).toNatClampNeg = 0 from rfl, hs]
  by_cases q : e - s ≤ 5
  · rw [if_pos q]
    have bd := hv_bd (c := c) (s := s) (e - s) (fun i hi => by have := ch.2 (s + i) (by omega); omega)
    have b5 : 256 ^ (e - s) ≤ 256 ^ 5 := Nat.pow_le_pow_right (by decide) (by omega)
    rw [show ex (253, 11, [.ref 316, .int 0, .long (lN X), dv, .long 0, dv, .int (nI s)], [], mm I J D) = _ from m_wd1 ch ht hs he hse hen q (e - s) 0 (by omega)]
    exact fin _ (by omega)
  · rw [if_neg q]
    rw [show ex (253, 11, [.ref 316, .int 0, .long (lN X), dv, .long 0, dv, .int (nI s)], [], mm I J D) = _ from m_wd2 ch hs he hen q (e - s) 0 0 (by omega) (Or.inl rfl) (fun _ => by omega)]
    exact fin 0 (by omega)
theorem m_wof0 : ex (259, 0, [.int 108, .int 101, .int 97, .int 115, .int 116, dv, dv], [], mm I J D) = some (.inl (some (.long (lN 465557353332))), mm I J D) := by
  rw [e_259_0, decide_eq_true (show (101 : Int32) ≠ 0 by decide), cond_true, e_259_13, e_259_21, decide_eq_true (show (97 : Int32) ≠ 0 by decide), cond_true, e_259_32, e_259_40, decide_eq_true (show (115 : Int32) ≠ 0 by decide), cond_true, e_259_51, e_259_59, decide_eq_true (show (116 : Int32) ≠ 0 by decide), cond_true, e_259_71, e_259_80]
  exact congrArg (fun z : Int64 => (some (Sum.inl (some (Value.long z)), mm I J D) : Option Ou)) (by decide +kernel)
theorem m_fs0 (ch : ChO c n) (ht : Txt c n (I 320)) {s e : Nat} (hs : I 333 0 = nI s) (he : I 334 0 = nI e) (hse : s < e) (hen : e ≤ n) : ex (260, 0, [.ref 316, .int 108, .int 101, .int 97, .int 115, .int 116], [], mm I J D) = some (.inl (some (.int (bI (eqW c s e 0)))), mm I J D) := by
  rw [e_260_0, m_wof0, cal_v]
  refine (e_260_12 I J D (lN 465557353332) 0).trans ?_
  rw [m_wrd ch ht hs he hse hen (by decide), ← hv_0 ch hse hen, cal_v, ka, e_260_15, decide_eq_true (bI_01 _), cond_true]
theorem m_wof1 : ex (259, 0, [.int 109, .int 111, .int 115, .int 116, .int 0, dv, dv], [], mm I J D) = some (.inl (some (.long (lN 1836020596))), mm I J D) := by
  rw [e_259_0, decide_eq_true (show (111 : Int32) ≠ 0 by decide), cond_true, e_259_13, e_259_21, decide_eq_true (show (115 : Int32) ≠ 0 by decide), cond_true, e_259_32, e_259_40, decide_eq_true (show (116 : Int32) ≠ 0 by decide), cond_true, e_259_51, e_259_59, d01, cond_false, e_259_66, e_259_80]
  exact congrArg (fun z : Int64 => (some (Sum.inl (some (Value.long z)), mm I J D) : Option Ou)) (by decide +kernel)
theorem m_fs1 (ch : ChO c n) (ht : Txt c n (I 320)) {s e : Nat} (hs : I 333 0 = nI s) (he : I 334 0 = nI e) (hse : s < e) (hen : e ≤ n) : ex (260, 0, [.ref 316, .int 109, .int 111, .int 115, .int 116, .int 0], [], mm I J D) = some (.inl (some (.int (bI (eqW c s e 1)))), mm I J D) := by
  rw [e_260_0, m_wof1, cal_v]
  refine (e_260_12 I J D (lN 1836020596) 0).trans ?_
  rw [m_wrd ch ht hs he hse hen (by decide), ← hv_1 ch hse hen, cal_v, ka, e_260_15, decide_eq_true (bI_01 _), cond_true]
theorem m_wof2 : ex (259, 0, [.int 111, .int 110, .int 0, .int 0, .int 0, dv, dv], [], mm I J D) = some (.inl (some (.long (lN 28526))), mm I J D) := by
  rw [e_259_0, decide_eq_true (show (110 : Int32) ≠ 0 by decide), cond_true, e_259_13, e_259_21, d01, cond_false, e_259_27, e_259_40, d01, cond_false, e_259_46, e_259_59, d01, cond_false, e_259_66, e_259_80]
  exact congrArg (fun z : Int64 => (some (Sum.inl (some (Value.long z)), mm I J D) : Option Ou)) (by decide +kernel)
theorem m_fs2 (ch : ChO c n) (ht : Txt c n (I 320)) {s e : Nat} (hs : I 333 0 = nI s) (he : I 334 0 = nI e) (hse : s < e) (hen : e ≤ n) : ex (260, 0, [.ref 316, .int 111, .int 110, .int 0, .int 0, .int 0], [], mm I J D) = some (.inl (some (.int (bI (eqW c s e 2)))), mm I J D) := by
  rw [e_260_0, m_wof2, cal_v]
  refine (e_260_12 I J D (lN 28526) 0).trans ?_
  rw [m_wrd ch ht hs he hse hen (by decide), ← hv_2 ch hse hen, cal_v, ka, e_260_15, decide_eq_true (bI_01 _), cond_true]
theorem m_wof3 : ex (259, 0, [.int 98, .int 97, .int 110, .int 100, .int 0, dv, dv], [], mm I J D) = some (.inl (some (.long (lN 1650552420))), mm I J D) := by
  rw [e_259_0, decide_eq_true (show (97 : Int32) ≠ 0 by decide), cond_true, e_259_13, e_259_21, decide_eq_true (show (110 : Int32) ≠ 0 by decide), cond_true, e_259_32, e_259_40, decide_eq_true (show (100 : Int32) ≠ 0 by decide), cond_true, e_259_51, e_259_59, d01, cond_false, e_259_66, e_259_80]
  exact congrArg (fun z : Int64 => (some (Sum.inl (some (Value.long z)), mm I J D) : Option Ou)) (by decide +kernel)
theorem m_fs3 (ch : ChO c n) (ht : Txt c n (I 320)) {s e : Nat} (hs : I 333 0 = nI s) (he : I 334 0 = nI e) (hse : s < e) (hen : e ≤ n) : ex (260, 0, [.ref 316, .int 98, .int 97, .int 110, .int 100, .int 0], [], mm I J D) = some (.inl (some (.int (bI (eqW c s e 3)))), mm I J D) := by
  rw [e_260_0, m_wof3, cal_v]
  refine (e_260_12 I J D (lN 1650552420) 0).trans ?_
  rw [m_wrd ch ht hs he hse hen (by decide), ← hv_3 ch hse hen, cal_v, ka, e_260_15, decide_eq_true (bI_01 _), cond_true]
theorem m_wof4 : ex (259, 0, [.int 100, .int 97, .int 116, .int 101, .int 0, dv, dv], [], mm I J D) = some (.inl (some (.long (lN 1684108389))), mm I J D) := by
  rw [e_259_0, decide_eq_true (show (97 : Int32) ≠ 0 by decide), cond_true, e_259_13, e_259_21, decide_eq_true (show (116 : Int32) ≠ 0 by decide), cond_true, e_259_32, e_259_40, decide_eq_true (show (101 : Int32) ≠ 0 by decide), cond_true, e_259_51, e_259_59, d01, cond_false, e_259_66, e_259_80]
  exact congrArg (fun z : Int64 => (some (Sum.inl (some (Value.long z)), mm I J D) : Option Ou)) (by decide +kernel)
theorem m_fs4 (ch : ChO c n) (ht : Txt c n (I 320)) {s e : Nat} (hs : I 333 0 = nI s) (he : I 334 0 = nI e) (hse : s < e) (hen : e ≤ n) : ex (260, 0, [.ref 316, .int 100, .int 97, .int 116, .int 101, .int 0], [], mm I J D) = some (.inl (some (.int (bI (eqW c s e 4)))), mm I J D) := by
  rw [e_260_0, m_wof4, cal_v]
  refine (e_260_12 I J D (lN 1684108389) 0).trans ?_
  rw [m_wrd ch ht hs he hse hen (by decide), ← hv_4 ch hse hen, cal_v, ka, e_260_15, decide_eq_true (bI_01 _), cond_true]
theorem m_wof5 : ex (259, 0, [.int 108, .int 97, .int 121, .int 101, .int 114, dv, dv], [], mm I J D) = some (.inl (some (.long (lN 465491813746))), mm I J D) := by
  rw [e_259_0, decide_eq_true (show (97 : Int32) ≠ 0 by decide), cond_true, e_259_13, e_259_21, decide_eq_true (show (121 : Int32) ≠ 0 by decide), cond_true, e_259_32, e_259_40, decide_eq_true (show (101 : Int32) ≠ 0 by decide), cond_true, e_259_51, e_259_59, decide_eq_true (show (114 : Int32) ≠ 0 by decide), cond_true, e_259_71, e_259_80]
  exact congrArg (fun z : Int64 => (some (Sum.inl (some (Value.long z)), mm I J D) : Option Ou)) (by decide +kernel)
theorem m_fs5 (ch : ChO c n) (ht : Txt c n (I 320)) {s e : Nat} (hs : I 333 0 = nI s) (he : I 334 0 = nI e) (hse : s < e) (hen : e ≤ n) : ex (260, 0, [.ref 316, .int 108, .int 97, .int 121, .int 101, .int 114], [], mm I J D) = some (.inl (some (.int (bI (eqW c s e 5)))), mm I J D) := by
  rw [e_260_0, m_wof5, cal_v]
  refine (e_260_12 I J D (lN 465491813746) 0).trans ?_
  rw [m_wrd ch ht hs he hse hen (by decide), ← hv_5 ch hse hen, cal_v, ka, e_260_15, decide_eq_true (bI_01 _), cond_true]
theorem m_kind (ch : ChO c n) (ht : Txt c n (I 320)) (wd : WdM c n I) : ex (261, 0, [.ref 316], [], mm I J D) = some (.inl (some (.int (kdI (kdo c n)))), mm I J D) := by
  have w40 := ws_b ch
  unfold kdo
  rw [e_261_0, wd.1]
  by_cases q : (wss c n).length = 0
  · rw [if_pos q, q, decide_eq_false (show ¬ nI 0 ≠ 0 from fun w => w rfl), cond_false, e_261_7, e_261_132]; rfl
  · have ok := ws_ok (c := c) (n := n) (j := 0) (by omega)
    obtain ⟨hs, he⟩ := wd.2 0 (by omega)
    rw [if_neg q, decide_eq_true (nI_ne0 (show 0 < (wss c n).length by omega) (by omega)), cond_true]
    generalize wSb c n 0 = s at ok hs ⊢
    generalize wEn c n 0 = e at ok he ⊢
    obtain ⟨hse, hen⟩ := ok
    have st : ∀ (r k : Nat), kdG (eqW c s e) (r + 1) k = if eqW c s e k = true then some k else kdG (eqW c s e) r (k + 1) := fun _ _ => rfl
    rw [e_261_11, m_fs0 ch ht hs he hse hen, cal_v, ka, e_261_25, st 5 0]
    cases q0 : eqW c s e 0 with
    | true => rw [decide_eq_false (show ¬ bI true = 0 by decide), cond_false, e_261_28, e_261_132, if_pos rfl]; rfl
    | false =>
      rw [decide_eq_true (show bI false = 0 from rfl), cond_true, if_neg (by decide)]
      rw [e_261_32, m_fs1 ch ht hs he hse hen, cal_v, ka, e_261_45, st 4 1]
      cases q1 : eqW c s e 1 with
      | true => rw [decide_eq_false (show ¬ bI true = 0 by decide), cond_false, e_261_48, e_261_132, if_pos rfl]; rfl
      | false =>
        rw [decide_eq_true (show bI false = 0 from rfl), cond_true, if_neg (by decide)]
        rw [e_261_52, m_fs2 ch ht hs he hse hen, cal_v, ka, e_261_63, st 3 2]
        cases q2 : eqW c s e 2 with
        | true => rw [decide_eq_false (show ¬ bI true = 0 by decide), cond_false, e_261_66, e_261_132, if_pos rfl]; rfl
        | false =>
          rw [decide_eq_true (show bI false = 0 from rfl), cond_true, if_neg (by decide)]
          rw [e_261_70, m_fs3 ch ht hs he hse hen, cal_v, ka, e_261_83, st 2 3]
          cases q3 : eqW c s e 3 with
          | true => rw [decide_eq_false (show ¬ bI true = 0 by decide), cond_false, e_261_86, e_261_132, if_pos rfl]; rfl
          | false =>
            rw [decide_eq_true (show bI false = 0 from rfl), cond_true, if_neg (by decide)]
            rw [e_261_90, m_fs4 ch ht hs he hse hen, cal_v, ka, e_261_103, st 1 4]
            cases q4 : eqW c s e 4 with
            | true => rw [decide_eq_false (show ¬ bI true = 0 by decide), cond_false, e_261_106, e_261_132, if_pos rfl]; rfl
            | false =>
              rw [decide_eq_true (show bI false = 0 from rfl), cond_true, if_neg (by decide)]
              rw [e_261_110, m_fs5 ch ht hs he hse hen, cal_v, ka, e_261_124, st 0 5]
              cases q5 : eqW c s e 5 with
              | true => rw [decide_eq_false (show ¬ bI true = 0 by decide), cond_false, e_261_127, e_261_132, if_pos rfl]; rfl
              | false =>
                rw [decide_eq_true (show bI false = 0 from rfl), cond_true, if_neg (by decide)]
                rw [e_261_131, e_261_132]; rfl
/-! faults -/
theorem c_ff (ch : ChO c n) (ht : Txt c n (I 313)) (wd : WdB c n I) {N : Nat} (hN : N ≤ 3) : ∀ r k, k + r = N + 1 → ex (83, 20, [.ref 312, dv, .int (nI N), .int (nI k)], [], mm I J D) = some (.inl (some (.int (ffl (wss c n).length (fun j => (nuW c n j).isSome) N r k))), mm I J D)
  | 0, k, h => by
    have w40 := ws_b ch
    have : k = N + 1 := by omega
    subst this
    show _ = (some (.inl (some (.int (if N + 1 < (wss c n).length then nI (N + 1) else -1))), mm I J D) : Option Ou)
    rw [e_83_20, decide_eq_true ((nI_ltI (by omega) (by omega)).mpr (by omega)), cond_true, e_83_53, wd.1, nI_1]
    by_cases q : N + 1 < (wss c n).length
    · rw [if_pos q, decide_eq_false (show ¬ nI (wss c n).length ≤ nI (N + 1) from nI_ge q (by omega)), cond_false, e_83_63, e_83_70, nI_1]
    · rw [if_neg q, decide_eq_true ((nI_leI (by omega) (by omega)).mpr (by omega)), cond_true, e_83_69, e_83_70]
  | r + 1, k, h => by
    have w40 := ws_b ch
    show _ = (some (.inl (some (.int (if k < (wss c n).length ∧ (nuW c n k).isSome = true then ffl (wss c n).length (fun j => (nuW c n j).isSome) N r (k + 1) else nI k))), mm I J D) : Option Ou)
    rw [e_83_20, decide_eq_false (show ¬ nI N < nI k from nI_nlt (by omega) (by omega)), cond_false, e_83_25, wd.1]
    by_cases q : k < (wss c n).length
    · obtain ⟨hs, he⟩ := wd.2 k q
      have ok := ws_ok q
      rw [decide_eq_false (show ¬ nI (wss c n).length ≤ nI k from nI_ge q (by omega)), cond_false, e_83_33, c_num ch ht (by omega) hs he ok.1 ok.2, cal_v]
      refine (e_83_38 I J D (nI N) (nI k) _).trans ?_
      have no : (lg_cmp (nL (numO c (wSb c n k) (wEn c n k))) 4294967294 ≠ 0) ↔ (nuW c n k).isSome = true := nL_no (fun z hz => numO_b hz)
      by_cases q2 : (nuW c n k).isSome = true
      · rw [decide_eq_true (no.mpr q2), cond_true, e_83_47, nI_1, if_pos ⟨q, q2⟩]
        exact c_ff ch ht wd hN r (k + 1) (by omega)
      · rw [decide_eq_false (fun w => q2 (no.mp w)), cond_false, e_83_45, if_neg (fun w => q2 w.2)]
    · rw [decide_eq_true ((nI_leI (by omega) (by omega)).mpr (by omega)), cond_true, e_83_45, if_neg (fun w => q w.1)]
theorem sta13 : ∀ k, k < 6 → sta 1000013 k = nI (nmb k) ∧ nmb k ≤ 3 := by decide +kernel
theorem c_flt (ch : ChO c n) (ht : Txt c n (I 313)) (wd : WdB c n I) : ex (83, 0, [.ref 312, dv, dv, dv], [], mm I J D) = some (.inl (some (.int (fltV c n))), mm I J D) := by
  unfold fltV
  rw [e_83_0, c_kind ch ht wd, cal_v, ka, e_83_4]
  cases hk : kdo c n with
  | none => rw [decide_eq_false (show ¬ kdI none ≠ -1 from fun w => w rfl), cond_false, e_83_10]
  | some k =>
    have k6 := (kdo_lt hk).1
    have s := sta13 k k6
    rw [decide_eq_true (show kdI (some k) ≠ -1 from ne_m1 (by omega)), cond_true, show kdI (some k) = nI k from rfl, e_83_12, inb_n k6 (by decide), cond_true, nI_clamp (by omega), s.1]
    exact c_ff ch ht wd s.2 (nmb k) 1 (by omega)
theorem m_ff (ch : ChO c n) (ht : Txt c n (I 320)) (wd : WdM c n I) {N : Nat} (hN : N ≤ 3) : ∀ r k, k + r = N + 1 → ex (262, 38, [.ref 316, dv, .int (nI N), .int (nI k)], [], mm I J D) = some (.inl (some (.int (ffl (wss c n).length (fun j => (nuW c n j).isSome) N r k))), mm I J D)
  | 0, k, h => by
    have w40 := ws_b ch
    have : k = N + 1 := by omega
    subst this
    show _ = (some (.inl (some (.int (if N + 1 < (wss c n).length then nI (N + 1) else -1))), mm I J D) : Option Ou)
    rw [e_262_38, decide_eq_true ((nI_ltI (by omega) (by omega)).mpr (by omega)), cond_true, e_262_67, wd.1, nI_1]
    by_cases q : N + 1 < (wss c n).length
    · rw [if_pos q, decide_eq_false (show ¬ nI (wss c n).length ≤ nI (N + 1) from nI_ge q (by omega)), cond_false, e_262_77, e_262_84, nI_1]
    · rw [if_neg q, decide_eq_true ((nI_leI (by omega) (by omega)).mpr (by omega)), cond_true, e_262_83, e_262_84]
  | r + 1, k, h => by
    have w40 := ws_b ch
    show _ = (some (.inl (some (.int (if k < (wss c n).length ∧ (nuW c n k).isSome = true then ffl (wss c n).length (fun j => (nuW c n j).isSome) N r (k + 1) else nI k))), mm I J D) : Option Ou)
    rw [e_262_38, decide_eq_false (show ¬ nI N < nI k from nI_nlt (by omega) (by omega)), cond_false, e_262_43, wd.1]
    by_cases q : k < (wss c n).length
    · obtain ⟨hs, he⟩ := wd.2 k q
      have ok := ws_ok q
      rw [decide_eq_false (show ¬ nI (wss c n).length ≤ nI k from nI_ge q (by omega)), cond_false, e_262_51, m_isn ch ht (by omega) hs he ok.1 ok.2, cal_v, ka, e_262_56]
      by_cases q2 : (nuW c n k).isSome = true
      · rw [show (numO c (wSb c n k) (wEn c n k)).isSome = true from q2, decide_eq_true (show bI true ≠ 0 by decide), cond_true, e_262_61, nI_1, if_pos ⟨q, q2⟩]
        exact m_ff ch ht wd hN r (k + 1) (by omega)
      · rw [show (numO c (wSb c n k) (wEn c n k)).isSome = false from Bool.eq_false_iff.mpr q2, decide_eq_false (show ¬ bI false ≠ 0 by decide), cond_false, e_262_59, if_neg (fun w => q2 w.2)]
    · rw [decide_eq_true ((nI_leI (by omega) (by omega)).mpr (by omega)), cond_true, e_262_59, if_neg (fun w => q w.1)]
/-- the model's look at the fault, its words laid -/
theorem m_flt (ch : ChO c n) (h8 : I 316 8 = nI n) (ht : Txt c n (I 320)) : ∃ I', ex (262, 0, [.ref 316, dv, dv, dv], [], mm I J D) = some (.inl (some (.int (fltV c n))), mm I' J D) ∧ (∀ p, p ≠ 316 → p ≠ 333 → p ≠ 334 → I' p = I p) ∧ (∀ j, j ≠ 23 → I' 316 j = I 316 j) ∧ WdM c n I' := by
  obtain ⟨I', e1, f1, f2, wd⟩ := m_words (J := J) (D := D) ch h8 ht
  refine ⟨I', ?_, f1, f2, wd⟩
  have ht' : Txt c n (I' 320) := by rw [f1 320 (by decide) (by decide) (by decide)]; exact ht
  unfold fltV
  rw [e_262_0, e1, cal_v, kn, e_262_4, m_kind ch ht' wd, cal_v, ka, e_262_8]
  cases hk : kdo c n with
  | none => rw [decide_eq_false (show ¬ kdI none ≠ -1 from fun w => w rfl), cond_false, e_262_14]
  | some k =>
    have k6 := (kdo_lt hk).1
    rw [decide_eq_true (show kdI (some k) ≠ -1 from ne_m1 (by omega)), cond_true, show kdI (some k) = nI k from rfl, e_262_16]
    have lp : ∀ N, N ≤ 3 → ex (262, 35, [.ref 316, dv, dv, dv], [.int (nI N)], mm I' J D) = some (.inl (some (.int (ffl (wss c n).length (fun j => (nuW c n j).isSome) N N 1))), mm I' J D) := fun N hN => by
      rw [e_262_35]
      exact m_ff ch ht' wd hN N 1 (by omega)
    by_cases q5 : k = 5
    · subst q5
      rw [decide_eq_false (show ¬ nI 5 ≠ 5 from fun w => w rfl), cond_false, e_262_21]
      exact lp 0 (by decide)
    · rw [decide_eq_true (show nI k ≠ 5 from fun w => q5 ((nI_eq (b := 5) (by omega) (by decide)).mp w)), cond_true, e_262_25]
      by_cases q2 : k = 2
      · subst q2
        rw [decide_eq_false (show ¬ nI 2 ≠ 2 from fun w => w rfl), cond_false, e_262_30]
        exact lp 2 (by decide)
      · rw [decide_eq_true (show nI k ≠ 2 from fun w => q2 ((nI_eq (b := 2) (by omega) (by decide)).mp w)), cond_true, e_262_34]
        have e3 : nmb k = 3 := by rcases (show k = 0 ∨ k = 1 ∨ k = 3 ∨ k = 4 by omega) with rfl | rfl | rfl | rfl <;> rfl
        have l3 := lp 3 (by decide)
        show _ = (some (.inl (some (.int (ffl (wss c n).length (fun j => (nuW c n j).isSome) (nmb k) (nmb k) 1))), mm I' J D) : Option Ou)
        rw [e3]
        exact l3
end KB
theorem t_44 {L kk : Nat} {I : Nat → Nat → Int32} {J : Nat → Nat → Int64} {D : Nat → Nat → UInt64} (v : Int32) (h : Inv L kk I J D) : Turn L kk 2864 v I J D := by
  obtain ⟨n, c, ch, h3, h8, tb, tm⟩ := inv_txt0 h.2.2.2.1
  obtain ⟨I1, e1, f1, f2, wd⟩ := c_words (J := J) (D := D) ch h3 tb
  have tb1 : Txt c n (I1 313) := by rw [f1 313 (by decide) (by decide) (by decide)]; exact tb
  have i16 : I1 316 = I 316 := f1 316 (by decide) (by decide) (by decide)
  obtain ⟨I2, e2, g1, g2, -⟩ := m_flt (I := ups I1 316 0 0) (J := J) (D := D) ch (by rw [uIs, uU (by decide), i16]; exact h8) (by rw [uI (by decide), f1 320 (by decide) (by decide) (by decide)]; exact tm)
  have far : ∀ p, p ≠ 312 → p ≠ 314 → p ≠ 315 → p ≠ 316 → p ≠ 333 → p ≠ 334 → I2 p = I p := fun p h1 h2 h3 h4 h5 h6 => by rw [g1 p h4 h5 h6, uI h4, f1 p h1 h2 h3]
  refine tq_44 (r := fltV c n) (I1 := I1) (J1 := J) (D1 := D) (I2 := I2) (J2 := J) (D2 := D) ?_ ?_ (inv_txt h (fun p hp => far p (by omega) (by omega) (by omega) (by omega) (by omega) (by omega)) (fun p hp hp2 => far p (by omega) (by omega) (by omega) (by omega) (by omega) (by omega)) (fun j h1 _ h4 => by rw [g2 j h4, uIs, uU h1, i16]) (by rw [far iSCL (by decide) (by decide) (by decide) (by decide) (by decide) (by decide)]) ?_)
  · rw [e_134_0, e1, cal_v, kn, e_134_7, c_flt ch tb1 wd, cal_v, ka, e_134_14]
  · rw [e_263_0, e2, cal_v, ka, e_263_9]
  · refine txt_stay h.2.2.2.1 ?_ ?_ ?_ ?_
    · rw [g1 312 (by decide) (by decide) (by decide), uI (by decide), f2 3 (by decide)]
    · rw [far 313 (by decide) (by decide) (by decide) (by decide) (by decide) (by decide)]
    · rw [g2 8 (by decide), uIs, uU (by decide), i16]
    · rw [far 320 (by decide) (by decide) (by decide) (by decide) (by decide) (by decide)]
