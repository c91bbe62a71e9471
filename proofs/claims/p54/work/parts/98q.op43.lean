/-! type -/
def byt8 (v : Int64) (k : Nat) : Nat := (v.toBitVec.toNat >>> (8 * k)) % 256
theorem byt8_lt (v : Int64) (k : Nat) : byt8 v k < 256 := Nat.mod_lt _ (by decide)
theorem bvC (x : BitVec 64) (n : Nat) : ((x >>> n).setWidth 32 &&& 255#32) = BitVec.ofNat 32 ((x.toNat >>> n) % 256) := by
  refine BitVec.eq_of_toNat_eq ?_
  rw [BitVec.toNat_and, BitVec.toNat_setWidth, BitVec.toNat_ushiftRight, BitVec.toNat_ofNat, BitVec.toNat_ofNat, show 255 % 2 ^ 32 = 2 ^ 8 - 1 from rfl, Nat.and_two_pow_sub_one_eq_mod]
  omega
theorem bvM (x : BitVec 64) (n : Nat) (hn : n ≤ 56) : ((x.sshiftRight n) &&& 255#64).setWidth 32 = BitVec.ofNat 32 ((x.toNat >>> n) % 256) := by
  rw [← bvC]
  refine BitVec.eq_of_getLsbD_eq (fun i hi => ?_)
  rw [BitVec.getLsbD_setWidth, BitVec.getLsbD_and, BitVec.getLsbD_and, BitVec.getLsbD_setWidth, BitVec.getLsbD_sshiftRight, BitVec.getLsbD_ushiftRight, BitVec.getLsbD_ofNat, BitVec.getLsbD_ofNat]
  by_cases h8 : i < 8
  · rw [decide_eq_true hi, decide_eq_true (show i < 64 by omega), decide_eq_false (show ¬ 64 ≤ i by omega), if_pos (show n + i < 64 by omega)]
    simp
  · rw [show Nat.testBit 255 i = false from by
      rw [show 255 = 2 ^ 8 - 1 from rfl, Nat.testBit_two_pow_sub_one]; exact decide_eq_false h8]
    simp
theorem b_c7 (v : Int64) : ∀ k, k < 8 → ((((v.toUInt64 >>> (((8 : Int32) * nI k).toInt64.toUInt64 &&& Int64.toUInt64 63)).toInt64).toInt32) &&& 255) = nI (byt8 v k) := fun k hk => by
  have e : (((8 : Int32) * nI k).toInt64.toUInt64 &&& Int64.toUInt64 63) = UInt64.ofNat (8 * k) := by
    revert k; decide
  rw [e]
  refine Int32.toBitVec_inj.mp ?_
  have e2 : (UInt64.ofNat (8 * k)).toNat % 64 = 8 * k := by revert k; decide
  show ((v.toBitVec >>> ((UInt64.ofNat (8 * k)).toBitVec % 64#64)).signExtend 32) &&& 255#32 = BitVec.ofNat 32 (byt8 v k)
  rw [show (v.toBitVec >>> ((UInt64.ofNat (8 * k)).toBitVec % 64#64)) = v.toBitVec >>> (8 * k) from by
    show v.toBitVec >>> ((UInt64.ofNat (8 * k)).toBitVec % 64#64).toNat = _
    rw [BitVec.toNat_umod]
    exact congrArg (fun z => v.toBitVec >>> z) e2, BitVec.signExtend_eq_setWidth_of_le _ (by decide), bvC]
  rfl
theorem b_m7 (v : Int64) : ∀ k, k < 8 → (((v >>> ((nI (8 * k)).toInt64 &&& 63)) &&& 255).toInt32) = nI (byt8 v k) := fun k hk => by
  have e : ((nI (8 * k)).toInt64 &&& 63) = Int64.ofNat (8 * k) := by revert k; decide
  rw [e]
  refine Int32.toBitVec_inj.mp ?_
  have e2 : ((Int64.ofNat (8 * k)).toBitVec.smod 64#64).toNat = 8 * k := by revert k; decide
  show ((v.toBitVec.sshiftRight' ((Int64.ofNat (8 * k)).toBitVec.smod 64#64)) &&& 255#64).signExtend 32 = BitVec.ofNat 32 (byt8 v k)
  rw [show v.toBitVec.sshiftRight' ((Int64.ofNat (8 * k)).toBitVec.smod 64#64) = v.toBitVec.sshiftRight (8 * k) from by
    show v.toBitVec.sshiftRight ((Int64.ofNat (8 * k)).toBitVec.smod 64#64).toNat = _
    rw [e2], BitVec.signExtend_eq_setWidth_of_le _ (by decide), bvM _ _ (by omega)]
  rfl
def okBs (b : Nat → Nat) : Nat → Bool
  | 0 => true
  | r + 1 => (decide (b r = 0) || (decide (32 ≤ b r) && decide (b r ≤ 126))) && okBs b r
def nzA (b : Nat → Nat) : Nat → Nat
  | 0 => 0
  | r + 1 => (if b r = 0 then 0 else 1) + nzA b r
def apF (b : Nat → Nat) : Nat → Nat → (Nat → Int32) → (Nat → Int32)
  | 0, _, f => f
  | r + 1, n, f => if b r = 0 then apF b r n f else apF b r (n + 1) (upd f n (nI (b r)))
theorem nzA_le (b : Nat → Nat) : ∀ r, nzA b r ≤ r
  | 0 => Nat.le_refl _
  | r + 1 => by
    have := nzA_le b r
    show (if b r = 0 then 0 else 1) + nzA b r ≤ r + 1
    split <;> omega
theorem apF_ok {b : Nat → Nat} : ∀ r n (f g : Nat → Int32), okBs b r = true → (∀ k, k < n → f k = g k ∧ rg 32 126 (g k)) → ∀ k, k < n + nzA b r → apF b r n f k = apF b r n g k ∧ rg 32 126 (apF b r n g k)
  | 0, n, f, g, _, h, k, hk => h k hk
  | r + 1, n, f, g, ho, h, k, hk => by
    have ho : ((decide (b r = 0) || (decide (32 ≤ b r) && decide (b r ≤ 126))) && okBs b r) = true := ho
    rw [Bool.and_eq_true, Bool.or_eq_true, Bool.and_eq_true, decide_eq_true_eq, decide_eq_true_eq, decide_eq_true_eq] at ho
    have hk : k < n + ((if b r = 0 then 0 else 1) + nzA b r) := hk
    show (if b r = 0 then apF b r n f else apF b r (n + 1) (upd f n (nI (b r)))) k = (if b r = 0 then apF b r n g else apF b r (n + 1) (upd g n (nI (b r)))) k ∧ rg 32 126 ((if b r = 0 then apF b r n g else apF b r (n + 1) (upd g n (nI (b r)))) k)
    by_cases q : b r = 0
    · rw [if_pos q] at hk
      rw [if_pos q, if_pos q]
      exact apF_ok r n f g ho.2 h k (by omega)
    · rw [if_neg q] at hk
      rw [if_neg q, if_neg q]
      refine apF_ok r (n + 1) _ _ ho.2 (fun j hj => ?_) k (by omega)
      by_cases e : j = n
      · subst e
        rw [uUs, uUs]
        have : 32 ≤ b r ∧ b r ≤ 126 := by rcases ho.1 with w | w; exact absurd w q; exact w
        have t := nI_toInt (n := b r) (by omega)
        exact ⟨rfl, by omega, by omega⟩
      · rw [uU e, uU e]; exact h j (by omega)
theorem nar_ch : ∀ b, b < 256 → vp_nar .char (((nI b).toUInt32 % 65536).toInt32) = nI b := by decide +kernel
section TY
variable {I : Nat → Nat → Int32} {J : Nat → Nat → Int64} {D : Nat → Nat → UInt64} {v : Int64}
theorem nI_m1' (r : Nat) : nI (r + 1) - 1 + (-1) = nI r - 1 := by rw [nI_pred, nI_m1]
theorem c_sg : ∀ r, r ≤ 8 → ∀ n, ex (80, 5, [.long v, dv, .int (nI n), .int (nI r - 1), dv], [], mm I J D) = some (.inl (some (.int (bif okBs (byt8 v) r then nI (n + nzA (byt8 v) r) else -1))), mm I J D)
  | 0, _, n => by
    rw [e_80_5, decide_eq_true (show nI 0 - 1 < 0 by decide), cond_true, e_80_46]; rfl
  | r + 1, hr, n => by
    have hb := byt8_lt v r
    have nx : ∀ m, ex (80, 40, [.long v, dv, .int (nI m), .int (nI r), dv], [], mm I J D) = some (.inl (some (.int (bif okBs (byt8 v) r then nI (m + nzA (byt8 v) r) else -1))), mm I J D) := fun m => by
      rw [e_80_40, nI_m1]; exact c_sg r (by omega) m
    rw [e_80_5, nI_pred, decide_eq_false (nI_pos (by omega)), cond_false, e_80_9, e_79_0, b_c7 v r (by omega), cal_v, ka, e_80_14]
    show (_ : Option Ou) = some (.inl (some (.int (bif ((decide (byt8 v r = 0) || (decide (32 ≤ byt8 v r) && decide (byt8 v r ≤ 126))) && okBs (byt8 v) r) then nI (n + ((if byt8 v r = 0 then 0 else 1) + nzA (byt8 v) r)) else -1))), mm I J D)
    by_cases q : byt8 v r = 0
    · rw [q, decide_eq_true (show nI 0 = 0 from rfl), cond_true, nx n, if_pos rfl, decide_eq_true rfl, Bool.true_or, Bool.true_and, Nat.zero_add]
    · rw [decide_eq_false (nI_ne0 (by omega) (by omega)), cond_false, e_80_21, decide_eq_false q, if_neg q, Bool.false_or]
      by_cases q1 : 32 ≤ byt8 v r
      · rw [decide_eq_false (show ¬ nI (byt8 v r) < 32 from nI_nlt (b := 32) q1 (by omega)), cond_false, e_80_28, decide_eq_true q1, Bool.true_and]
        by_cases q2 : byt8 v r ≤ 126
        · rw [decide_eq_true (show nI (byt8 v r) ≤ 126 from (nI_leI (b := 126) (by omega) (by decide)).mpr q2), cond_true, e_80_37, nI_1, decide_eq_true q2, Bool.true_and]
          rw [nx (n + 1), show n + 1 + nzA (byt8 v) r = n + (1 + nzA (byt8 v) r) by omega]
        · rw [decide_eq_false (show ¬ nI (byt8 v r) ≤ 126 from fun w => q2 ((nI_leI (b := 126) (by omega) (by decide)).mp w)), cond_false, e_80_35, decide_eq_false q2, Bool.false_and]; rfl
      · rw [decide_eq_true (show nI (byt8 v r) < 32 from (nI_ltI (b := 32) (by omega) (by decide)).mpr (by omega)), cond_true, e_80_35, decide_eq_false q1, Bool.false_and, Bool.false_and]; rfl
/-- the bytes behind the text, by the book -/
theorem c_ad : ∀ r, r ≤ 8 → ∀ (I : Nat → Nat → Int32) n, I 312 3 = nI n → n + nzA (byt8 v) r ≤ 80 → ∃ I', ex (81, 3, [.ref 312, .long v, dv, .int (nI r - 1), dv], [], mm I J D) = some (.inl none, mm I' J D) ∧ (∀ p, p ≠ 312 → p ≠ 313 → I' p = I p) ∧ I' 312 3 = nI (n + nzA (byt8 v) r) ∧ I' 313 = apF (byt8 v) r n (I 313)
  | 0, _, I, n, h3, hn => ⟨I, by rw [e_81_3, decide_eq_true (show nI 0 - 1 < 0 by decide), cond_true, e_81_56], fun _ _ _ => rfl, h3, rfl⟩
  | r + 1, hr, I, n, h3, hn => by
    have hb := byt8_lt v r
    have e1 : nzA (byt8 v) (r + 1) = (if byt8 v r = 0 then 0 else 1) + nzA (byt8 v) r := rfl
    have e2 : ∀ f, apF (byt8 v) (r + 1) n f = if byt8 v r = 0 then apF (byt8 v) r n f else apF (byt8 v) r (n + 1) (upd f n (nI (byt8 v r))) := fun _ => rfl
    by_cases q : byt8 v r = 0
    · rw [if_pos q] at e1
      obtain ⟨I', g1, g2, g3, g4⟩ := c_ad r (by omega) I n h3 (by omega)
      refine ⟨I', ?_, g2, by rw [g3, e1, Nat.zero_add], by rw [g4, e2, if_pos q]⟩
      rw [e_81_3, nI_pred, decide_eq_false (nI_pos (by omega)), cond_false, e_81_7, e_79_0, b_c7 v r (by omega), cal_v, ka, e_81_12, q, decide_eq_true (show nI 0 = 0 from rfl), cond_true, e_81_50, nI_m1]
      exact g1
    · rw [if_neg q] at e1
      obtain ⟨I1, hI1⟩ : ∃ I1, I1 = ups (ups I 313 n (nI (byt8 v r))) 312 3 (nI (n + 1)) := ⟨_, rfl⟩
      obtain ⟨I', g1, g2, g3, g4⟩ := c_ad r (by omega) I1 (n + 1) (by rw [hI1, uIs, uUs]) (by omega)
      refine ⟨I', ?_, fun p h1 h2 => by rw [g2 p h1 h2, hI1, uI h1, uI h2], by rw [g3, e1]; congr 1; omega, by rw [g4, e2, if_neg q, hI1, uI (by decide), uIs]⟩
      rw [e_81_3, nI_pred, decide_eq_false (nI_pos (by omega)), cond_false, e_81_7, e_79_0, b_c7 v r (by omega), cal_v, ka, e_81_12, decide_eq_false (nI_ne0 (by omega) (by omega)), cond_false, e_81_19, h3, decide_eq_false (show ¬ (80 : Int32) ≤ nI n from nI_ge (a := n) (b := 80) (by omega) (by decide)), cond_false, e_81_28, h3, inb_n (show n < 80 by omega) (by decide), cond_true, nI_clamp (by omega), nar_ch _ hb, uI (show 312 ≠ 313 by decide), h3, nI_1, ← hI1, e_81_50, nI_m1]
      exact g1
/-- the model's first look -/
theorem m_sg : ∀ r, r ≤ 8 → ∀ n (o : Bool), ex (251, 9, [.ref 316, .long v, dv, .int (nI n), .int (bI o), .int (nI (8 * r) - 8), dv], [], mm I J D) = ex (251, 73, [.ref 316, .long v, dv, .int (nI (n + nzA (byt8 v) r)), .int (bI (o && okBs (byt8 v) r)), dv, dv], [], mm I J D)
  | 0, _, n, o => by
    rw [e_251_9, decide_eq_true (show nI (8 * 0) - 8 < 0 by decide), cond_true]
    show _ = ex (251, 73, [.ref 316, .long v, dv, .int (nI n), .int (bI (o && true)), dv, dv], [], mm I J D)
    rw [Bool.and_true]
  | r + 1, hr, n, o => by
    have hb := byt8_lt v r
    have e8 : nI (8 * (r + 1)) - 8 = nI (8 * r) := by
      rw [show (8 : Int32) = nI 8 from rfl, nI_sub (by omega)]; congr 1
    have e9 : nI (8 * r) + (-8) = nI (8 * r) - 8 := by rw [Int32.sub_eq_add_neg]
    have tail : ∀ o2 : Bool, o2 = (o && (decide (byt8 v r = 0) || (decide (32 ≤ byt8 v r) && decide (byt8 v r ≤ 126)))) → ex (251, 52, [.ref 316, .long v, dv, .int (nI n), dv, .int (nI (8 * r)), .int (nI (byt8 v r))], [.int (bI o2)], mm I J D) = ex (251, 73, [.ref 316, .long v, dv, .int (nI (n + nzA (byt8 v) (r + 1))), .int (bI (o && okBs (byt8 v) (r + 1))), dv, dv], [], mm I J D) := fun o2 ho => by
      have e2 : (o && okBs (byt8 v) (r + 1)) = (o2 && okBs (byt8 v) r) := by
        show (o && ((decide (byt8 v r = 0) || (decide (32 ≤ byt8 v r) && decide (byt8 v r ≤ 126))) && okBs (byt8 v) r)) = _
        rw [ho, Bool.and_assoc]
      have e1 : nzA (byt8 v) (r + 1) = (if byt8 v r = 0 then 0 else 1) + nzA (byt8 v) r := rfl
      rw [e2, e_251_52]
      by_cases q : byt8 v r = 0
      · rw [if_pos q, Nat.zero_add] at e1
        have ih := m_sg r (by omega) n o2
        rw [e1, q, decide_eq_false (show ¬ nI 0 ≠ 0 from fun w => w rfl), cond_false, e_251_60, e_251_65, e9, show nI n + 0 = nI n from nI_add n 0]
        exact ih
      · rw [if_neg q] at e1
        have ih := m_sg r (by omega) (n + 1) o2
        rw [e1, decide_eq_true (nI_ne0 (by omega) (by omega)), cond_true, e_251_64, e_251_65, e9, nI_1, show n + (1 + nzA (byt8 v) r) = n + 1 + nzA (byt8 v) r by omega]
        exact ih
    rw [e_251_9, e8, decide_eq_false (nI_pos (by omega)), cond_false, e_251_14, b_m7 v r (by omega)]
    cases o with
    | false =>
      rw [decide_eq_true (show bI false = 0 from rfl), cond_true, e_251_51]
      exact tail false rfl
    | true =>
      rw [decide_eq_false (show ¬ bI true = 0 by decide), cond_false, e_251_30]
      by_cases q : byt8 v r = 0
      · rw [decide_eq_true (by rw [q]; rfl), cond_true, e_251_47]
        exact tail true (by rw [decide_eq_true q]; rfl)
      · rw [decide_eq_false (nI_ne0 (by omega) (by omega)), cond_false, e_251_35]
        by_cases q1 : 32 ≤ byt8 v r ∧ byt8 v r ≤ 126
        · rw [x_inT (show (32 : Int32) ≤ nI (byt8 v r) ∧ nI (byt8 v r) ≤ 126 from ⟨(nI_leI (a := 32) (by decide) (by omega)).mpr q1.1, (nI_leI (b := 126) (by omega) (by decide)).mpr q1.2⟩), cal_v, ka, e_251_44, d10, cond_false, e_251_47]
          exact tail true (by rw [decide_eq_true q1.1, decide_eq_true q1.2, decide_eq_false q]; rfl)
        · rw [x_inF (show ¬ ((32 : Int32) ≤ nI (byt8 v r) ∧ nI (byt8 v r) ≤ 126) from fun w => q1 ⟨(nI_leI (a := 32) (by decide) (by omega)).mp w.1, (nI_leI (b := 126) (by omega) (by decide)).mp w.2⟩), cal_v, ka, e_251_44, d00, cond_true, e_251_51]
          refine tail false ?_
          rw [decide_eq_false q, Bool.false_or, Bool.true_and]
          by_cases q2 : 32 ≤ byt8 v r
          · rw [decide_eq_false (fun w => q1 ⟨q2, w⟩), Bool.and_false]
          · rw [decide_eq_false q2, Bool.false_and]
theorem m_ad : ∀ r, r ≤ 8 → ∀ (I : Nat → Nat → Int32) n, I 316 8 = nI n → n + nzA (byt8 v) r ≤ 80 → ∃ I', ex (251, 113, [.ref 316, .long v, dv, dv, dv, .int (nI (8 * r) - 8), dv], [], mm I J D) = some (.inl (some (.int (nI (n + nzA (byt8 v) r)))), mm I' J D) ∧ (∀ p, p ≠ 316 → p ≠ 320 → I' p = I p) ∧ (∀ j, j ≠ 8 → I' 316 j = I 316 j) ∧ I' 316 8 = nI (n + nzA (byt8 v) r) ∧ I' 320 = apF (byt8 v) r n (I 320)
  | 0, _, I, n, h3, hn => ⟨I, by rw [e_251_113, decide_eq_true (show nI (8 * 0) - 8 < 0 by decide), cond_true, e_251_161, h3]; rfl, fun _ _ _ => rfl, fun _ _ => rfl, h3, rfl⟩
  | r + 1, hr, I, n, h3, hn => by
    have hb := byt8_lt v r
    have e8 : nI (8 * (r + 1)) - 8 = nI (8 * r) := by
      rw [show (8 : Int32) = nI 8 from rfl, nI_sub (by omega)]; congr 1
    have e9 : nI (8 * r) + (-8) = nI (8 * r) - 8 := by rw [Int32.sub_eq_add_neg]
    have e1 : nzA (byt8 v) (r + 1) = (if byt8 v r = 0 then 0 else 1) + nzA (byt8 v) r := rfl
    have e2 : ∀ f, apF (byt8 v) (r + 1) n f = if byt8 v r = 0 then apF (byt8 v) r n f else apF (byt8 v) r (n + 1) (upd f n (nI (byt8 v r))) := fun _ => rfl
    by_cases q : byt8 v r = 0
    · rw [if_pos q, Nat.zero_add] at e1
      obtain ⟨I', g1, g2, g5, g3, g4⟩ := m_ad r (by omega) I n h3 (by omega)
      refine ⟨I', ?_, g2, g5, by rw [g3, e1], by rw [g4, e2, if_pos q]⟩
      rw [e_251_113, e8, decide_eq_false (nI_pos (by omega)), cond_false, e_251_118, b_m7 v r (by omega), q, decide_eq_true (show nI 0 = 0 from rfl), cond_true, e_251_155, e9, e1]
      exact g1
    · rw [if_neg q] at e1
      obtain ⟨I1, hI1⟩ : ∃ I1, I1 = ups (ups I 320 n (nI (byt8 v r))) 316 8 (nI (n + 1)) := ⟨_, rfl⟩
      obtain ⟨I', g1, g2, g5, g3, g4⟩ := m_ad r (by omega) I1 (n + 1) (by rw [hI1, uIs, uUs]) (by omega)
      have en : n + 1 + nzA (byt8 v) r = n + nzA (byt8 v) (r + 1) := by omega
      rw [en] at g1 g3
      refine ⟨I', ?_, fun p h1 h2 => by rw [g2 p h1 h2, hI1, uI h1, uI h2], fun j hj => by rw [g5 j hj, hI1, uIs, uU hj, uI (by decide)], g3, by rw [g4, e2, if_neg q, hI1, uI (by decide), uIs]⟩
      rw [e_251_113, e8, decide_eq_false (nI_pos (by omega)), cond_false, e_251_118, b_m7 v r (by omega), decide_eq_false (nI_ne0 (by omega) (by omega)), cond_false, e_251_134, h3, inb_n (show n < 80 by omega) (by decide), cond_true, nI_clamp (by omega), uI (show 316 ≠ 320 by decide), h3, nI_1, ← hI1, e_251_155, e9]
      exact g1
end TY
theorem tc_43_1 : ctc 305 4 1 = some 12 := by decide +kernel
theorem tc_43_0 : ctc 305 4 0 = some 16 := by decide +kernel
/-- the same, but for the text and 'raised' -/
theorem inv_txt {L kk : Nat} {I I2 : Nat → Nat → Int32} {J J2 : Nat → Nat → Int64} {D D2 : Nat → Nat → UInt64} (h : Inv L kk I J D) (h1 : ∀ p, p < 312 → I2 p = I p) (h2 : ∀ p, 317 ≤ p → p < 320 → I2 p = I p) (h3 : ∀ j, j ≠ 0 → j ≠ 8 → j ≠ 23 → I2 316 j = I 316 j) (hs : I2 iSCL 0 = I iSCL 0) (ht : RTxt I2) : Inv L (kk + 1) I2 J2 D2 := by
  obtain ⟨i0, i1, i2, -, i4⟩ := h
  refine ⟨hs.trans i0, i1.go (Nat.le_succ kk) (fun o k hr => ?_) (fun y hy => by rw [h2 317 (by decide) (by decide)]), his_stay i2 (by rw [h1 0 (by decide)]) (by rw [h1 0 (by decide)]) (fun p hp hq => h1 p (by omega)) (h3 3 (by decide) (by decide) (by decide)) (h3 4 (by decide) (by decide) (by decide)) (h2 318 (by decide) (by decide)), ht, rng_stay i4 (by rw [h1 245 (by decide)]) (h1 264 (by decide)) (h3 6 (by decide) (by decide) (by decide)) (h2 319 (by decide) (by decide))⟩
  have := rl_lt hr
  show I2 (1 + o) k = I (1 + o) k
  rw [h1 (1 + o) (by omega)]
theorem t_43 {L kk : Nat} {I : Nat → Nat → Int32} {J : Nat → Nat → Int64} {D : Nat → Nat → UInt64} (v : Int32) (h : Inv L kk I J D) (sc : ScOK v I) : Turn L kk 2776 v I J D := by
  obtain ⟨b, hb⟩ : ∃ b : Int64, b = ((((I 1000002 (v + 1).toNatClampNeg).toInt64) <<< ((32 : Int32).toInt64 &&& 63)) ||| (((I 1000002 (v + 2).toNatClampNeg).toInt64) &&& 4294967295)) := ⟨_, rfl⟩
  obtain ⟨t1, t2, t3⟩ := id h.2.2.2.1
  obtain ⟨n, hn, en⟩ := rg_nI (b := 80) t2 (by decide)
  have n8 := nzA_le (byt8 b) 8
  have sg := c_sg (I := I) (J := J) (D := D) (v := b) 8 (Nat.le_refl _) 0
  have ms : ∀ (I1 : Nat → Nat → Int32) (J1 : Nat → Nat → Int64), _ := fun I1 J1 => m_sg (I := I1) (J := J1) (D := D) (v := b) 8 (Nat.le_refl _) 0 true
  rw [Nat.zero_add] at sg
  -- the law's rows from the two calls
  have law : ∀ (k : Int32) (I1 I2 : Nat → Nat → Int32) (J1 : Nat → Nat → Int64) (s : Int32), I1 iSCL 0 = I iSCL 0 → I1 1000002 = I 1000002 → ex (305, 0, [.ref 0, .long b, dv, .ref 335, dv], [], mm I J D) = some (.inl (some (.int k)), mm I1 J1 D) → ex (251, 0, [.ref 316, .long b, dv, dv, dv, dv, dv], [], mm I1 J1 D) = some (.inl (some (.int s)), mm I2 J1 D) → I2 316 0 = k → (k = 0 → lg_cmp (J1 335 0) s.toInt64 = 0) → Inv L (kk + 1) I2 J1 D → Turn L kk 2776 v I J D := by
    intro k I1 I2 J1 s q1 q2 e1 e2 q3 q4 hi
    refine ⟨I2, J1, D, (e_309_2776 I J D v).trans ?_, hi⟩
    rw [sc1 sc, sc2 sc, cond_true, cond_true, ← hb, e1, cal_v, ka]
    refine (e_309_2803 I1 J1 D v k).trans ?_
    rw [q1, q2, sc1 sc, sc2 sc, cond_true, cond_true, ← hb, e2, cal_v, ka]
    refine (e_309_2831 _ _ _ v _ _).trans ?_
    rw [e_155_0, cal_v, ka, q3]
    refine (e_309_2837 _ _ _ v _ _ _).trans ?_
    rw [decide_eq_true rfl, cond_true]
    refine (e_309_2844 _ _ _ v _ _).trans ?_
    by_cases hk : k = 0
    · rw [decide_eq_false (fun w => w hk), cond_false]
      refine (e_309_2849 _ _ _ v _).trans ?_
      rw [decide_eq_true (q4 hk), cond_true]
      refine (e_309_2861 _ _ _ v).trans ?_
      exact e_309_3111 _ _ _ v
    · rw [decide_eq_true hk, cond_true]
      refine (e_309_2861 _ _ _ v).trans ?_
      exact e_309_3111 _ _ _ v
  cases ho : okBs (byt8 b) 8 with
  | false =>
    rw [ho, cond_false] at sg
    refine law 1 I (ups I 316 0 1) J 0 rfl rfl ?_ ?_ (by rw [uIs, uUs]) (fun w => absurd w (by decide)) (inv_r h)
    · rw [e_305_0, e_133_0, e_80_0]
      rw [show ex (80, 5, [.long b, dv, .int 0, .int 7, dv], [], mm I J D) = _ from sg, cal_v, ka, e_133_4, decide_eq_false (show ¬ (-1 : Int32) ≠ -1 from fun w => w rfl), cond_false, e_133_10, calH_x tc_43_1, e_305_12]
    · have m1 := ms I J
      rw [ho] at m1
      rw [e_251_0]
      rw [show ex (251, 9, [.ref 316, .long b, dv, .int 0, .int 1, .int 56, dv], [], mm I J D) = _ from m1, e_251_73, show bI (true && false) = 0 from rfl, x_canF, cal_v, ka, e_251_80, d00, cond_true, e_251_107]
  | true =>
    rw [ho, cond_true] at sg
    have ng : nI (nzA (byt8 b) 8) ≠ -1 := ne_m1 (by omega)
    have m1 : ∀ (I1 : Nat → Nat → Int32) (J1 : Nat → Nat → Int64), ex (251, 0, [.ref 316, .long b, dv, dv, dv, dv, dv], [], mm I1 J1 D) = ex (251, 83, [.ref 316, .long b, dv, .int (nI (nzA (byt8 b) 8)), dv, dv, dv], [], mm (ups I1 316 0 0) J1 D) := fun I1 J1 => by
      have m1 := ms I1 J1
      rw [ho, Nat.zero_add] at m1
      rw [e_251_0]
      rw [show ex (251, 9, [.ref 316, .long b, dv, .int 0, .int 1, .int 56, dv], [], mm I1 J1 D) = _ from m1, e_251_73, show bI (true && true) = 1 from rfl, x_canT, cal_v, ka, e_251_80, d10, cond_false]
    by_cases hl : n + nzA (byt8 b) 8 ≤ 80
    · obtain ⟨I1, a1, a2, a3, a4⟩ := c_ad (J := J) (D := D) (v := b) 8 (Nat.le_refl _) I n en hl
      obtain ⟨I2, b1, b2, b3, b4, b5⟩ := m_ad (J := upsL J 335 0 (nI (n + nzA (byt8 b) 8)).toInt64) (D := D) (v := b) 8 (Nat.le_refl _) (ups I1 316 0 0) n (by rw [uIs, uU (by decide), a2 316 (by decide) (by decide), t1]; exact en) hl
      have far : ∀ p, p ≠ 312 → p ≠ 313 → p ≠ 316 → p ≠ 320 → I2 p = I p := fun p h1 h2 h3 h4 => by rw [b2 p h3 h4, uI h3, a2 p h1 h2]
      refine law 0 I1 (ups I2 316 0 (I2 316 0)) (upsL J 335 0 (nI (n + nzA (byt8 b) 8)).toInt64) (nI (n + nzA (byt8 b) 8)) (by rw [a2 iSCL (by decide) (by decide)]) (a2 1000002 (by decide) (by decide)) ?_ ?_ ?_ (fun _ => by rw [upsL_s]; exact lgc _) ?_
      · rw [e_305_0, e_133_0, e_80_0]
        rw [show ex (80, 5, [.long b, dv, .int 0, .int 7, dv], [], mm I J D) = _ from sg, cal_v, ka, e_133_4, decide_eq_true ng, cond_true, e_133_21, en, nI_add, decide_eq_true (show nI (n + nzA (byt8 b) 8) ≤ 80 from (nI_leI (b := 80) (by omega) (by decide)).mpr hl), cond_true, e_133_46, e_81_0]
        rw [show ex (81, 3, [.ref 312, .long b, dv, .int 7, dv], [], mm I J D) = _ from a1, cal_v, kn, e_133_54, a3, calH_v, ka]
        rw [e_305_7, show inb 0 1 = true by decide, cond_true, e_305_20]
        rfl
      · have z : ups I2 316 0 (I2 316 0) = I2 := by
          funext p
          by_cases hp : p = 316
          · subst hp
            rw [uIs]
            funext j
            by_cases hj : j = 0
            · subst hj; rw [uUs]
            · rw [uU hj]
          · rw [uI hp]
        rw [z, m1, e_251_83, uIs, uU (by decide), a2 316 (by decide) (by decide), t1, en, nI_add, decide_eq_false (show ¬ (80 : Int32) < nI (n + nzA (byt8 b) 8) from nI_nlt (a := 80) hl (by decide)), cond_false, e_251_95, e_251_100, x_canT, cal_v, ka, uu, e_251_104, d11, cond_true, e_251_109]
        exact b1
      · rw [uIs, uUs, b3 0 (by decide), uIs, uUs]
      · have z : ups I2 316 0 (I2 316 0) = I2 := by
          funext p
          by_cases hp : p = 316
          · subst hp
            rw [uIs]
            funext j
            by_cases hj : j = 0
            · subst hj; rw [uUs]
            · rw [uU hj]
          · rw [uI hp]
        rw [z]
        refine inv_txt h (fun p hp => far p (by omega) (by omega) (by omega) (by omega)) (fun p h1 h2 => far p (by omega) (by omega) (by omega) (by omega)) (fun j h1 h2 _ => by rw [b3 j h2, uIs, uU h1, a2 316 (by decide) (by decide)]) (by rw [far iSCL (by decide) (by decide) (by decide) (by decide)]) ⟨?_, ?_, fun k hk => ?_⟩
        · rw [b4, b2 312 (by decide) (by decide), uI (by decide), a3]
        · rw [b2 312 (by decide) (by decide), uI (by decide), a3]
          have := nI_toInt (n := n + nzA (byt8 b) 8) (by omega)
          exact ⟨by omega, by omega⟩
        · rw [b2 312 (by decide) (by decide), uI (show 312 ≠ 316 by decide), a3, rN_nI (by omega)] at hk
          rw [b5, b2 313 (by decide) (by decide), uI (show 313 ≠ 316 by decide), a4, uI (show 320 ≠ 316 by decide), a2 320 (by decide) (by decide)]
          exact apF_ok 8 n (I 320) (I 313) ho (fun j hj => t3 j (by rw [en, rN_nI (by omega)]; exact hj)) k hk
    · refine law 2 I (ups I 316 0 2) J 0 rfl rfl ?_ ?_ (by rw [uIs, uUs]) (fun w => absurd w (by decide)) (inv_r h)
      · rw [e_305_0, e_133_0, e_80_0]
        rw [show ex (80, 5, [.long b, dv, .int 0, .int 7, dv], [], mm I J D) = _ from sg, cal_v, ka, e_133_4, decide_eq_true ng, cond_true, e_133_21, en, nI_add, decide_eq_false (show ¬ nI (n + nzA (byt8 b) 8) ≤ 80 from fun w => hl ((nI_leI (b := 80) (by omega) (by decide)).mp w)), cond_false, e_133_35, calH_x tc_43_0, e_305_16]
      · rw [m1, e_251_83, uIs, uU (by decide), t1, en, nI_add, decide_eq_true (show (80 : Int32) < nI (n + nzA (byt8 b) 8) from (nI_ltI (a := 80) (by decide) (by omega)).mpr (by omega)), cond_true, e_251_99, e_251_100, x_canF, cal_v, ka, uu, e_251_104, d01, cond_false, e_251_107]
