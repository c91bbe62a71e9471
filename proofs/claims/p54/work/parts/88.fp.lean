/-! a quotient of whole numbers is a number -/
theorem b64t : FP.Core.b64.tails = 2 ^ 52 := by decide +kernel
theorem b64e : FP.Core.b64.exps = 2048 := by decide +kernel
theorem b64p : 2 ^ FP.Core.b64.p = 2 ^ 53 := by decide +kernel
theorem b64m : FP.Core.b64.qmin = -1074 := by decide +kernel
theorem b64x : FP.Core.b64.qmax = 971 := by decide +kernel
theorem enc_fin {s : Bool} {c : Nat} {q : Int} (hc : c < 2 ^ 53) (hq : q ≤ 971) : ∃ r, FP.Core.encode FP.Core.b64 (.fin s c q) = s.toNat * 2 ^ 63 + r ∧ r < 2047 * 2 ^ 52 := by
  unfold FP.Core.encode FP.Core.assemble
  show ∃ r, (if c < FP.Core.b64.tails then _ else _) = _ ∧ _
  rw [b64t, b64e, b64m]
  by_cases h : c < 2 ^ 52
  · exact ⟨c, by rw [if_pos h]; omega, by omega⟩
  · exact ⟨((q - -1074).toNat + 1) * 2 ^ 52 + (c - 2 ^ 52), by rw [if_neg h]; omega, by omega⟩
theorem ok_m {s : Bool} {r m : Nat} (hm : m = s.toNat * 2 ^ 63 + r) (hr : r ≤ 2047 * 2 ^ 52) : ok64 (UInt64.ofNat m) = true := by
  have hs : s.toNat ≤ 1 := by cases s <;> decide
  have e : (UInt64.ofNat m).toNat = m := by rw [UInt64.toNat_ofNat']; omega
  unfold ok64
  rw [decide_eq_true_iff, UInt64.le_iff_toNat_le, UInt64.toNat_and, e, show (9223372036854775807 : UInt64).toNat = 2 ^ 63 - 1 from rfl, Nat.and_two_pow_sub_one_eq_mod, show (9218868437227405312 : UInt64).toNat = 2047 * 2 ^ 52 from rfl]
  omega
theorem enc_inf {s : Bool} : FP.Core.encode FP.Core.b64 (.inf s) = s.toNat * 2 ^ 63 + 2047 * 2 ^ 52 := by
  unfold FP.Core.encode FP.Core.assemble
  show (s.toNat * FP.Core.b64.exps + (FP.Core.b64.exps - 1)) * FP.Core.b64.tails + 0 = _
  rw [b64t, b64e]
  omega
theorem bd_ok {s : Bool} {c : Nat} {q : Int} (hc : c < 2 ^ 53) : ok64 (UInt64.ofNat (FP.Core.encode FP.Core.b64 (FP.Core.bound FP.Core.b64 s c q))) = true := by
  unfold FP.Core.bound
  rw [b64x]
  by_cases h : q ≤ 971
  · rw [if_pos h]
    obtain ⟨r, e, hr⟩ := enc_fin (s := s) hc h
    exact ok_m e (by omega)
  · rw [if_neg h]
    exact ok_m enc_inf (Nat.le_refl _)
theorem rr_ok {s : Bool} {n d : Nat} {e : Int} : ok64 (UInt64.ofNat (FP.Core.encode FP.Core.b64 (FP.Core.roundRatio FP.Core.b64 s n d e))) = true := by
  unfold FP.Core.roundRatio
  by_cases h : n = 0
  · rw [if_pos h]
    obtain ⟨r, e, hr⟩ := enc_fin (s := s) (c := 0) (q := FP.Core.b64.qmin) (by decide) (by rw [b64m]; decide)
    exact ok_m e (by omega)
  · rw [if_neg h]
    unfold FP.Core.roundAt FP.Core.settle
    rw [b64p, b64t]
    split
    · rename_i hc
      exact bd_ok hc
    · exact bd_ok (by decide)
theorem dec_fin {s : Bool} {r m : Nat} (hm : m = s.toNat * 2 ^ 63 + r) (hr : r < 2047 * 2 ^ 52) : ∃ s c q, FP.Core.decode FP.Core.b64 m = .fin s c q := by
  have hs : s.toNat ≤ 1 := by cases s <;> decide
  unfold FP.Core.decode FP.Core.fieldE
  rw [b64t, b64e]
  rw [if_neg (show ¬ m / 2 ^ 52 % 2048 = 2048 - 1 by omega)]
  split
  · exact ⟨_, _, _, rfl⟩
  · exact ⟨_, _, _, rfl⟩
theorem log2_le {c k : Nat} (h : c < 2 ^ (k + 1)) : c.log2 ≤ k := by
  by_cases h0 : c = 0
  · subst h0; exact Nat.zero_le _
  · have := (Nat.log2_lt h0).mpr h
    omega
theorem i2d_fin (x : Int32) : ∃ s c q, FP.Core.decode FP.Core.b64 (FP.i2d x).toNat = .fin s c q := by
  have hx1 := Int32.toInt_lt x
  have hx2 := Int32.le_toInt x
  have e0 : (FP.i2d x).toNat = FP.Core.encode FP.Core.b64 (FP.Core.roundRatio FP.Core.b64 (decide (x.toInt < 0)) x.toInt.natAbs 1 0) % 2 ^ 64 := by
    show (UInt64.ofNat _).toNat = _
    rw [UInt64.toNat_ofNat']
    rfl
  have key : ∃ (s : Bool) (r : Nat), FP.Core.encode FP.Core.b64 (FP.Core.roundRatio FP.Core.b64 (decide (x.toInt < 0)) x.toInt.natAbs 1 0) = s.toNat * 2 ^ 63 + r ∧ r < 2047 * 2 ^ 52 := by
    refine ⟨decide (x.toInt < 0), ?_⟩
    unfold FP.Core.roundRatio
    by_cases h : x.toInt.natAbs = 0
    · rw [if_pos h]
      exact enc_fin (by decide) (by rw [b64m]; decide)
    · rw [if_neg h]
      have hl : x.toInt.natAbs.log2 ≤ 31 := log2_le (k := 31) (by omega)
      have hq : FP.Core.quantum FP.Core.b64 x.toInt.natAbs 1 0 ≤ 900 := by
        have hld : FP.Core.leading x.toInt.natAbs 1 ≤ 31 := by
          unfold FP.Core.leading
          have h1 : (((1 : Nat).log2 : Nat) : Int) = 0 := by decide
          show (if _ then _ else _) ≤ (31 : Int)
          have h2 : (x.toInt.natAbs.log2 : Int) - (((1 : Nat).log2 : Nat) : Int) ≤ 31 := by rw [h1]; omega
          split
          · exact h2
          · exact Int.le_trans (Int.sub_le_self _ (by decide)) h2
        unfold FP.Core.quantum
        rw [b64m, show (FP.Core.b64.p : Int) = 53 from rfl]
        omega
      unfold FP.Core.roundAt FP.Core.settle
      rw [b64p, b64t]
      have hb : ∀ c q, c < 2 ^ 53 → q ≤ (971 : Int) → ∃ r, FP.Core.encode FP.Core.b64 (FP.Core.bound FP.Core.b64 (decide (x.toInt < 0)) c q) = (decide (x.toInt < 0)).toNat * 2 ^ 63 + r ∧ r < 2047 * 2 ^ 52 := fun c q hc hq => by
        unfold FP.Core.bound
        rw [b64x, if_pos hq]
        exact enc_fin hc hq
      split
      · rename_i hc
        exact hb _ _ hc (by omega)
      · exact hb _ _ (by decide) (by omega)
  obtain ⟨s, r, e1, hr⟩ := key
  have hs : s.toNat ≤ 1 := by cases s <;> decide
  rw [e0, Nat.mod_eq_of_lt (by omega)]
  exact dec_fin e1 hr
def isPosD (d : FP.Core.Datum) : Bool := match d with
  | .fin _ c _ => decide (c ≠ 0)
  | _ => false
theorem den_ok : ∀ b, b < 800 → (Nat.beq b 0 || isPosD (FP.Core.decode FP.Core.b64 (FP.i2d (nI b)).toNat)) = true := by decide +kernel
theorem div_ok {x : Int32} {b : Nat} (h0 : 0 < b) (hb : b < 800) : ok64 (FP.ddiv (FP.i2d x) (FP.i2d (nI b))) = true := by
  obtain ⟨s, c, q, e1⟩ := i2d_fin x
  have h1 := den_ok b hb
  obtain ⟨t, d, r, e2⟩ := i2d_fin (nI b)
  rw [show Nat.beq b 0 = false from by rw [← Bool.not_eq_true, Nat.beq_eq]; omega, Bool.false_or, e2] at h1
  have hd : d ≠ 0 := of_decide_eq_true h1
  show ok64 (UInt64.ofNat (FP.Core.encode FP.Core.b64 (FP.Core.quotient FP.Core.b64 (FP.Core.decode FP.Core.b64 (FP.i2d x).toNat) (FP.Core.decode FP.Core.b64 (FP.i2d (nI b)).toNat)))) = true
  rw [e1, e2]
  show ok64 (UInt64.ofNat (FP.Core.encode FP.Core.b64 (if d = 0 then (if c = 0 then .nan else .inf (s != t)) else FP.Core.roundRatio FP.Core.b64 (s != t) c d (q - r)))) = true
  rw [if_neg hd]
  exact rr_ok
