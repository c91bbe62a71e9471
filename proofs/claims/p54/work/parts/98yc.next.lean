/-! the draws: a call of next from the law -/
theorem dr_div {Y n : Nat} (hY : Y < 65536) (hn : 0 < n) (hn2 : n < 65536) : nI Y - nI Y / nI n * nI n = nI (Y % n) := by
  have e1 : (nI Y).toInt = (Y : Int) := nI_toInt (by omega)
  have e2 : (nI n).toInt = (n : Int) := nI_toInt (by omega)
  have hq : Y / n ≤ Y := Nat.div_le_self Y n
  have e3 : nI Y / nI n = nI (Y / n) := by
    apply Int32.toInt_inj.mp
    rw [Int32.toInt_div, e1, e2, nI_toInt (by omega)]
    rw [Int.tdiv_eq_ediv_of_nonneg (by omega), ← Int.natCast_ediv]
    generalize Y / n = z at hq ⊢
    exact Int.bmod_eq_of_le (by omega) (by omega)
  have hm : Y / n * n + Y % n = Y := Nat.div_add_mod' Y n
  have hlt : Y / n * n ≤ Y := by omega
  have e4 : nI (Y / n) * nI n = nI (Y / n * n) := by
    apply Int32.toInt_inj.mp
    rw [Int32.toInt_mul, nI_toInt (by omega), e2, nI_toInt (by omega), ← Int.natCast_mul]
    exact Int.bmod_eq_of_le (by omega) (by omega)
  rw [e3, e4]
  apply Int32.toInt_inj.mp
  rw [Int32.toInt_sub, e1, nI_toInt (by omega), nI_toInt (by omega)]
  rw [Int.bmod_eq_of_le (by omega) (by omega)]
  omega
/-- the draws: the next number, and what is told of it -/
def adv (x : Int32) : Int32 := x * 1103515245 + 12345
def top (x : Int32) : Nat := x.toUInt32.toNat / 65536
theorem top_lt (x : Int32) : top x < 65536 := by
  have := x.toUInt32.toNat_lt
  unfold top
  omega
theorem top_eq (x : Int32) : (x.toUInt32 >>> ((16 : Int32).toUInt32 &&& Int32.toUInt32 31)).toInt32 = nI (top x) := by
  have e : (16 : Int32).toUInt32 &&& Int32.toUInt32 31 = (16 : UInt32) := by decide
  rw [e]
  have h1 : (x.toUInt32 >>> (16 : UInt32)).toNat = top x := by
    rw [UInt32.toNat_shiftRight]
    show x.toUInt32.toNat >>> 16 = _
    rw [Nat.shiftRight_eq_div_pow]
    rfl
  have h2 := top_lt x
  have h3 : x.toUInt32 >>> (16 : UInt32) = UInt32.ofNat (top x) := by
    apply UInt32.toNat_inj.mp
    rw [h1, UInt32.toNat_ofNat']
    exact (Nat.mod_eq_of_lt (by omega)).symm
  rw [h3]
  rfl
def drw (x : Int32) (n : Nat) : Nat := top (adv x) % n
theorem drw_lt {x : Int32} {n : Nat} (h : 0 < n) : drw x n < n := Nat.mod_lt _ h
/-- a call of 'next' from the law: the seed goes on, the rest is as it was -/
theorem cI_0 {μ a : Nat} {I : Nat → Nat → Int32} (ha : cK a = 0) : cI μ a I = I := by
  unfold cI
  cases Nat.ble 318 μ with
  | false => rfl
  | true =>
    rw [cond_true, ha]
    funext q j
    by_cases h1 : q = iCRD
    · subst h1
      by_cases h2 : j = 0
      · subst h2
        rw [w_us]
        exact Int32.sub_zero _
      · rw [w_uk h2]
    · rw [w_un h1]
theorem cG_0 {μ a k : Nat} {I Q : Nat → Nat → Int32} (ha : cK a = 0) (hc : Q iCRD 0 = Int32.ofNat k) (hk : k ≤ 100000) : cG μ a (ovr I Q) = true := by
  unfold cG
  cases Nat.ble 318 μ with
  | false => rfl
  | true =>
    rw [cond_true, ha, ovr_o (by decide), hc]
    exact crd_ge (Nat.zero_le _) hk
theorem q_put {Q : Nat → Nat → Int32} {k : Int32} {p j : Nat} {x c9 : Int32} (hp : p ≠ iCRD) (hc : Q iCRD 0 = k) : ups (ups (ups Q iCRD 0 c9) p j x) iCRD 0 k = ups Q p j x := by
  funext q i
  by_cases h1 : q = iCRD
  · subst h1
    by_cases h2 : i = 0
    · subst h2; rw [w_us, w_un (Ne.symm hp), hc]
    · rw [w_uk h2, w_un (Ne.symm hp), w_uk h2, w_un (Ne.symm hp)]
  · rw [w_un h1]
    by_cases h3 : q = p
    · subst h3
      by_cases h2 : i = j
      · subst h2; rw [w_us, w_us]
      · rw [w_uk h2, w_uk h2, w_un h1]
    · rw [w_un h3, w_un h3, w_un h1]
theorem next_A {n : Nat} (hn : 0 < n) (hn2 : n < 65536) (I : Nat → Nat → Int32) (J : Nat → Nat → Int64) (D : Nat → Nat → UInt64) : ex (319, 0, [.ref 328, .int (nI n)], [], mA I J D) = some (.inl (some (.int (nI (drw (I 328 0) n)))), mA (ups I 328 0 (adv (I 328 0))) J D) := by
  rw [eA_319_0, decide_eq_true (show ¬ nI n = (0 : Int32) from fun h => by have := (nI_eq (a := n) (b := 0) (by omega) (by decide)).mp h; omega), cond_true, w_us]
  show some ((.inl (some (.int (((adv (I 328 0)).toUInt32 >>> ((16 : Int32).toUInt32 &&& Int32.toUInt32 31)).toInt32 - ((adv (I 328 0)).toUInt32 >>> ((16 : Int32).toUInt32 &&& Int32.toUInt32 31)).toInt32 / nI n * nI n))), mA (ups I 328 0 (adv (I 328 0))) J D) : Ou) = _
  rw [top_eq, dr_div (top_lt _) hn hn2]
  rfl
/-- behind such a call -/
theorem nx_A {μ pc n : Nat} {ls st : List Value} (hμ : 318 ≤ μ) (hn : 0 < n) (hn2 : n < 65536) {I Q : Nat → Nat → Int32} (J : Nat → Nat → Int64) (D : Nat → Nat → UInt64) : calK μ pc ls st (mA (ovr I Q) J D) (ex (319, 0, [.ref 328, .int (nI n)], [], cIn 319 (mA (ovr I Q) J D))) = ex (μ, pc, ls, .int (nI (drw (Q 328 0) n)) :: st, mA (ovr I (ups Q 328 0 (adv (Q 328 0)))) J D) := by
  have hin : cIn 319 (mA (ovr I Q) J D) = mA (ovr I (ups Q iCRD 0 (Int32.ofNat (cK 319)))) J D := by
    show mA (ups (ovr I Q) iCRD 0 (Int32.ofNat (cK 319))) J D = _
    rw [ovr_ups2 (by decide)]
  have e0 : (ovr I (ups Q iCRD 0 (Int32.ofNat (cK 319)))) 328 0 = Q 328 0 := by rw [ovr_o (by decide), w_un (by decide)]
  rw [hin, next_A hn hn2, e0]
  have hout : cOut μ (mA (ovr I Q) J D) (mA (ups (ovr I (ups Q iCRD 0 (Int32.ofNat (cK 319)))) 328 0 (adv (Q 328 0))) J D) = mA (ovr I (ups Q 328 0 (adv (Q 328 0)))) J D := by
    unfold cOut
    rw [Nat.ble_eq.mpr hμ, cond_true]
    show mA (ups (ups (ovr I (ups Q iCRD 0 (Int32.ofNat (cK 319)))) 328 0 (adv (Q 328 0))) iCRD 0 (ovr I Q iCRD 0)) J D = _
    rw [ovr_ups2 (by decide), ovr_ups2 (by decide), ovr_o (I := I) (Q := Q) (p := iCRD) (by decide), q_put (by decide) rfl]
  show ex (μ, pc, ls, .int (nI (drw (Q 328 0) n)) :: st, cOut μ (mA (ovr I Q) J D) (mA (ups (ovr I (ups Q iCRD 0 (Int32.ofNat (cK 319)))) 328 0 (adv (Q 328 0))) J D)) = _
  rw [hout]
theorem next_B {n : Nat} (hn : 0 < n) (hn2 : n < 65536) (I : Nat → Nat → Int32) (J : Nat → Nat → Int64) (D : Nat → Nat → UInt64) : ex (319, 0, [.ref 328, .int (nI n)], [], mB I J D) = some (.inl (some (.int (nI (drw (I 328 0) n)))), mB (ups I 328 0 (adv (I 328 0))) J D) := by
  rw [eB_319_0, decide_eq_true (show ¬ nI n = (0 : Int32) from fun h => by have := (nI_eq (a := n) (b := 0) (by omega) (by decide)).mp h; omega), cond_true, w_us]
  show some ((.inl (some (.int (((adv (I 328 0)).toUInt32 >>> ((16 : Int32).toUInt32 &&& Int32.toUInt32 31)).toInt32 - ((adv (I 328 0)).toUInt32 >>> ((16 : Int32).toUInt32 &&& Int32.toUInt32 31)).toInt32 / nI n * nI n))), mB (ups I 328 0 (adv (I 328 0))) J D) : Ou) = _
  rw [top_eq, dr_div (top_lt _) hn hn2]
  rfl
/-- behind such a call -/
theorem nx_B {μ pc n : Nat} {ls st : List Value} (hμ : 318 ≤ μ) (hn : 0 < n) (hn2 : n < 65536) {I Q : Nat → Nat → Int32} (J : Nat → Nat → Int64) (D : Nat → Nat → UInt64) : calK μ pc ls st (mB (ovr I Q) J D) (ex (319, 0, [.ref 328, .int (nI n)], [], cIn 319 (mB (ovr I Q) J D))) = ex (μ, pc, ls, .int (nI (drw (Q 328 0) n)) :: st, mB (ovr I (ups Q 328 0 (adv (Q 328 0)))) J D) := by
  have hin : cIn 319 (mB (ovr I Q) J D) = mB (ovr I (ups Q iCRD 0 (Int32.ofNat (cK 319)))) J D := by
    show mB (ups (ovr I Q) iCRD 0 (Int32.ofNat (cK 319))) J D = _
    rw [ovr_ups2 (by decide)]
  have e0 : (ovr I (ups Q iCRD 0 (Int32.ofNat (cK 319)))) 328 0 = Q 328 0 := by rw [ovr_o (by decide), w_un (by decide)]
  rw [hin, next_B hn hn2, e0]
  have hout : cOut μ (mB (ovr I Q) J D) (mB (ups (ovr I (ups Q iCRD 0 (Int32.ofNat (cK 319)))) 328 0 (adv (Q 328 0))) J D) = mB (ovr I (ups Q 328 0 (adv (Q 328 0)))) J D := by
    unfold cOut
    rw [Nat.ble_eq.mpr hμ, cond_true]
    show mB (ups (ups (ovr I (ups Q iCRD 0 (Int32.ofNat (cK 319)))) 328 0 (adv (Q 328 0))) iCRD 0 (ovr I Q iCRD 0)) J D = _
    rw [ovr_ups2 (by decide), ovr_ups2 (by decide), ovr_o (I := I) (Q := Q) (p := iCRD) (by decide), q_put (by decide) rfl]
  show ex (μ, pc, ls, .int (nI (drw (Q 328 0) n)) :: st, cOut μ (mB (ovr I Q) J D) (mB (ups (ovr I (ups Q iCRD 0 (Int32.ofNat (cK 319)))) 328 0 (adv (Q 328 0))) J D)) = _
  rw [hout]
theorem next_C {n : Nat} (hn : 0 < n) (hn2 : n < 65536) (I : Nat → Nat → Int32) (J : Nat → Nat → Int64) (D : Nat → Nat → UInt64) : ex (319, 0, [.ref 328, .int (nI n)], [], mC I J D) = some (.inl (some (.int (nI (drw (I 328 0) n)))), mC (ups I 328 0 (adv (I 328 0))) J D) := by
  rw [eC_319_0, decide_eq_true (show ¬ nI n = (0 : Int32) from fun h => by have := (nI_eq (a := n) (b := 0) (by omega) (by decide)).mp h; omega), cond_true, w_us]
  show some ((.inl (some (.int (((adv (I 328 0)).toUInt32 >>> ((16 : Int32).toUInt32 &&& Int32.toUInt32 31)).toInt32 - ((adv (I 328 0)).toUInt32 >>> ((16 : Int32).toUInt32 &&& Int32.toUInt32 31)).toInt32 / nI n * nI n))), mC (ups I 328 0 (adv (I 328 0))) J D) : Ou) = _
  rw [top_eq, dr_div (top_lt _) hn hn2]
  rfl
/-- behind such a call -/
theorem nx_C {μ pc n : Nat} {ls st : List Value} (hμ : 318 ≤ μ) (hn : 0 < n) (hn2 : n < 65536) {I Q : Nat → Nat → Int32} (J : Nat → Nat → Int64) (D : Nat → Nat → UInt64) : calK μ pc ls st (mC (ovr I Q) J D) (ex (319, 0, [.ref 328, .int (nI n)], [], cIn 319 (mC (ovr I Q) J D))) = ex (μ, pc, ls, .int (nI (drw (Q 328 0) n)) :: st, mC (ovr I (ups Q 328 0 (adv (Q 328 0)))) J D) := by
  have hin : cIn 319 (mC (ovr I Q) J D) = mC (ovr I (ups Q iCRD 0 (Int32.ofNat (cK 319)))) J D := by
    show mC (ups (ovr I Q) iCRD 0 (Int32.ofNat (cK 319))) J D = _
    rw [ovr_ups2 (by decide)]
  have e0 : (ovr I (ups Q iCRD 0 (Int32.ofNat (cK 319)))) 328 0 = Q 328 0 := by rw [ovr_o (by decide), w_un (by decide)]
  rw [hin, next_C hn hn2, e0]
  have hout : cOut μ (mC (ovr I Q) J D) (mC (ups (ovr I (ups Q iCRD 0 (Int32.ofNat (cK 319)))) 328 0 (adv (Q 328 0))) J D) = mC (ovr I (ups Q 328 0 (adv (Q 328 0)))) J D := by
    unfold cOut
    rw [Nat.ble_eq.mpr hμ, cond_true]
    show mC (ups (ups (ovr I (ups Q iCRD 0 (Int32.ofNat (cK 319)))) 328 0 (adv (Q 328 0))) iCRD 0 (ovr I Q iCRD 0)) J D = _
    rw [ovr_ups2 (by decide), ovr_ups2 (by decide), ovr_o (I := I) (Q := Q) (p := iCRD) (by decide), q_put (by decide) rfl]
  show ex (μ, pc, ls, .int (nI (drw (Q 328 0) n)) :: st, cOut μ (mC (ovr I Q) J D) (mC (ups (ovr I (ups Q iCRD 0 (Int32.ofNat (cK 319)))) 328 0 (adv (Q 328 0))) J D)) = _
  rw [hout]
