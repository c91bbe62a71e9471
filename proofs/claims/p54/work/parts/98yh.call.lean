/-! a call of the book's from the law: its run over the law's memory, the ghost behind it -/
section CT
variable {n' : Nat} {S' : Nat → Nat × Nat} {R' : Nat → Nat → Option Nat} {QI : Nat → Nat → Int32} {QJ : Nat → Nat → Int64} {QD : Nat → Nat → UInt64}
theorem ovr_c {α : Type} {I I2 Q : Nat → Nat → α} (h : ∀ p, p < 316 → I2 p = I p) : ovr I2 Q = ovr I Q := by
  funext q
  unfold ovr
  cases hb : (Nat.ble 1 q && Nat.ble q 316) with
  | false => rfl
  | true =>
    rw [Bool.and_eq_true] at hb
    have h1 := Nat.ble_eq.mp hb.1
    have h2 := Nat.ble_eq.mp hb.2
    exact h (q - 1) (by omega)
theorem tm_kp {I I2 : Nat → Nat → Int32} {J J2 : Nat → Nat → Int64} {D D2 : Nat → Nat → UInt64} (k : Kp I J D I2 J2 D2) : Tm n' S' R' QI QJ QD I2 J2 D2 = Tm n' S' R' QI QJ QD I J D := by
  unfold Tm
  rw [show (fun q => bif Nat.ble 1 q && Nat.ble q 316 then D2 (q - 1) else QD q) = ovr D2 QD from rfl, show (fun q => bif Nat.ble 1 q && Nat.ble q 316 then D (q - 1) else QD q) = ovr D QD from rfl, ovr_c (fun p hp => (k p hp).1), ovr_c (fun p hp => (k p hp).2.1), ovr_c (fun p hp => (k p hp).2.2)]
theorem y_tm (B : Bas n' S' R') {μ kk : Nat} (hb : bk μ = true) {as : List Value} (hl : gl as) {I Ig : Nat → Nat → Int32} {J Jg : Nat → Nat → Int64} {D Dg : Nat → Nat → UInt64} (k : Kp I J D Ig Jg Dg) (h : CallY 5 kk μ as Ig Jg Dg) : ∃ o I1 J1 D1, ex (μ, 0, as, [], mm Ig Jg Dg) = some (o, mm I1 J1 D1) ∧ ((∀ z, o ≠ .inr (.inr z)) → ex (μ, 0, as.map tv, [], Tm n' S' R' QI QJ QD I J D) = some (tR o, Tm n' S' R' QI QJ QD I1 J1 D1)) ∧ CInv (kk + 1) I1 J1 D1 := by
  obtain ⟨o, I1, J1, D1, e1, I2, J2, D2, k2, hi⟩ := h
  refine ⟨o, I1, J1, D1, e1, fun hns => ?_, I2, J2, D2, k2, hi⟩
  rw [← tm_kp k]
  exact tr_ex B hb hl hns e1
end CT
