/-! the book in the law's memory: what tr_ex asks of it -/
def basB (S : Nat → Nat × Nat) (R : Nat → Nat → Option Nat) : Bool := (List.range 316).all (fun p => decide (S (p + 1) = S0 p) && (List.range 20).all (fun j => decide (R (p + 1) j = (R0 p j).map (fun q => q + 1)))) && ((List.range 3).all (fun i => decide (S (1000011 + i) = S0 (1000011 + i))) && ((List.range 6).all (fun i => decide (S (1000020 + i) = S0 (1000020 + i))) && (List.range 6).all (fun i => decide (S (1000030 + i) = S0 (1000030 + i)))))
theorem bas_of {n : Nat} {S : Nat → Nat × Nat} {R : Nat → Nat → Option Nat} (hn : 317 ≤ n) (h : basB S R = true) : Bas n S R := by
  unfold basB at h
  rw [Bool.and_eq_true, Bool.and_eq_true, Bool.and_eq_true] at h
  obtain ⟨h1, h2, h3, h4⟩ := h
  refine ⟨hn, fun p hp => ?_, fun p hg hp => ?_, fun p j hp hj => ?_⟩
  · have q := List.all_eq_true.mp h1 p (List.mem_range.mpr hp)
    rw [Bool.and_eq_true] at q
    exact of_decide_eq_true q.1
  · rcases hg with q | ⟨q1, q2⟩ | ⟨q1, q2⟩ | ⟨q1, q2⟩
    · exact absurd q hp
    · obtain ⟨i, rfl⟩ : ∃ i, p = 1000011 + i := ⟨p - 1000011, by omega⟩
      exact of_decide_eq_true (List.all_eq_true.mp h2 i (List.mem_range.mpr (by omega)))
    · obtain ⟨i, rfl⟩ : ∃ i, p = 1000020 + i := ⟨p - 1000020, by omega⟩
      exact of_decide_eq_true (List.all_eq_true.mp h3 i (List.mem_range.mpr (by omega)))
    · obtain ⟨i, rfl⟩ : ∃ i, p = 1000030 + i := ⟨p - 1000030, by omega⟩
      exact of_decide_eq_true (List.all_eq_true.mp h4 i (List.mem_range.mpr (by omega)))
  · have q := List.all_eq_true.mp h1 p (List.mem_range.mpr hp)
    rw [Bool.and_eq_true] at q
    exact of_decide_eq_true (List.all_eq_true.mp q.2 j (List.mem_range.mpr hj))
theorem bas_A : Bas 329 S54 R54 := bas_of (by decide) (by decide +kernel)
theorem bas_B : Bas 347 SB RB := bas_of (by decide) (by decide +kernel)
theorem bas_C : Bas 348 SC RC := bas_of (by decide) (by decide +kernel)
/-- the law's own numbers beside the book's -/
theorem ovr_i {α : Type} {I Q : Nat → Nat → α} {p : Nat} (h : p < 316) : ovr I Q (p + 1) = I p := by
  unfold ovr
  rw [Nat.ble_eq.mpr (show 1 ≤ p + 1 by omega), Nat.ble_eq.mpr (show p + 1 ≤ 316 by omega)]
  rfl
theorem ovr_upsL2 {J Q : Nat → Nat → Int64} {p k : Nat} {x : Int64} (h : (Nat.ble 1 p && Nat.ble p 316) = false) : upsL (ovr J Q) p k x = ovr J (upsL Q p k x) := by
  have un : ∀ {F : Nat → Nat → Int64} {q : Nat}, q ≠ p → upsL F p k x q = F q := fun {F q} hq => by unfold upsL; rw [nbeq hq]; rfl
  have us : ∀ {F : Nat → Nat → Int64}, upsL F p k x p = vp_updL (F p) k x := fun {F} => by unfold upsL; rw [nbeq_s]; rfl
  funext q
  by_cases hq : q = p
  · subst hq
    rw [us, ovr_o h, ovr_o h, us]
  · rw [un hq]
    unfold ovr
    cases hb : (Nat.ble 1 q && Nat.ble q 316) with
    | true => rfl
    | false => exact (un (F := Q) hq).symm
/-- what is left of calls: one is paid -/
theorem crd_ge {k n : Nat} (h : k ≤ n) (hn : n ≤ 100000) : decide (Int32.ofNat k ≤ Int32.ofNat n) = true := decide_eq_true (by
  rw [Int32.le_iff_toInt_le]
  have e1 : (Int32.ofNat k).toInt = (k : Int) := nI_toInt (n := k) (by omega)
  have e2 : (Int32.ofNat n).toInt = (n : Int) := nI_toInt (n := n) (by omega)
  omega)
theorem crd_su {k n : Nat} (h : k ≤ n) (hn : n ≤ 100000) : Int32.ofNat n - Int32.ofNat k = Int32.ofNat (n - k) := pk_sub (by omega)
/-- a call from the law, of the book's: it pays one -/
theorem bk_pay {μ a n : Nat} {I Q : Nat → Nat → Int32} (hμ : 318 ≤ μ) (ha : cK a = 1) (hc : Q iCRD 0 = Int32.ofNat (n + 1)) (hn : n < 100000) : cG μ a (ovr I Q) = true ∧ cI μ a (ovr I Q) = ovr I (ups Q iCRD 0 (Int32.ofNat n)) := by
  have hb : Nat.ble 318 μ = true := Nat.ble_eq.mpr hμ
  have e : ovr I Q iCRD 0 = Int32.ofNat (n + 1) := by rw [ovr_o (by decide)]; exact hc
  unfold cG cI
  rw [hb, cond_true, cond_true, e, ha]
  refine ⟨crd_ge (by omega) (by omega), ?_⟩
  rw [crd_su (by omega) (by omega), ovr_ups2 (by decide)]
  rfl
