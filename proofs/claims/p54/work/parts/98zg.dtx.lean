/-! isDone: next over its layouts, the texts that it types -/
section DT
variable {QD : Nat → Nat → UInt64} {Q : Nat → Nat → Int32} {QJ : Nat → Nat → Int64} {I : Nat → Nat → Int32} {J : Nat → Nat → Int64} {D : Nat → Nat → UInt64}
theorem eL9_319 (I : Nat → Nat → Int32) (J : Nat → Nat → Int64) (D : Nat → Nat → UInt64) (v1 : Int32) : ex (319, 0, [.ref 328, .int v1], [], 350, SL9, RL9, I, J, D) = bif decide (¬ v1 = 0) then (some (.inl (some (.int (((((ups I 328 0 (((I 328 0) * 1103515245) + 12345)) 328 0).toUInt32 >>> ((16 : Int32).toUInt32 &&& Int32.toUInt32 31)).toInt32) - ((((ups I 328 0 (((I 328 0) * 1103515245) + 12345)) 328 0).toUInt32 >>> ((16 : Int32).toUInt32 &&& Int32.toUInt32 31)).toInt32) / v1 * v1))), 350, SL9, RL9, (ups I 328 0 (((I 328 0) * 1103515245) + 12345)), J, D)) else none := (ex_itr 15 _).trans rfl
theorem nl_L9 : NxL 350 SL9 RL9 := fun {m} hn hn2 I J D => by
  rw [eL9_319, decide_eq_true (show ¬ nI m = (0 : Int32) from fun h => by have := (nI_eq (a := m) (b := 0) (by omega) (by decide)).mp h; omega), cond_true, w_us]
  show some ((.inl (some (.int (((adv (I 328 0)).toUInt32 >>> ((16 : Int32).toUInt32 &&& Int32.toUInt32 31)).toInt32 - ((adv (I 328 0)).toUInt32 >>> ((16 : Int32).toUInt32 &&& Int32.toUInt32 31)).toInt32 / nI m * nI m))), 350, SL9, RL9, ups I 328 0 (adv (I 328 0)), J, D) : Ou) = _
  rw [top_eq, dr_div (top_lt _) hn hn2]
  rfl
theorem eO9_319 (I : Nat → Nat → Int32) (J : Nat → Nat → Int64) (D : Nat → Nat → UInt64) (v1 : Int32) : ex (319, 0, [.ref 328, .int v1], [], 354, SO9, RO9, I, J, D) = bif decide (¬ v1 = 0) then (some (.inl (some (.int (((((ups I 328 0 (((I 328 0) * 1103515245) + 12345)) 328 0).toUInt32 >>> ((16 : Int32).toUInt32 &&& Int32.toUInt32 31)).toInt32) - ((((ups I 328 0 (((I 328 0) * 1103515245) + 12345)) 328 0).toUInt32 >>> ((16 : Int32).toUInt32 &&& Int32.toUInt32 31)).toInt32) / v1 * v1))), 354, SO9, RO9, (ups I 328 0 (((I 328 0) * 1103515245) + 12345)), J, D)) else none := (ex_itr 15 _).trans rfl
theorem nl_O9 : NxL 354 SO9 RO9 := fun {m} hn hn2 I J D => by
  rw [eO9_319, decide_eq_true (show ¬ nI m = (0 : Int32) from fun h => by have := (nI_eq (a := m) (b := 0) (by omega) (by decide)).mp h; omega), cond_true, w_us]
  show some ((.inl (some (.int (((adv (I 328 0)).toUInt32 >>> ((16 : Int32).toUInt32 &&& Int32.toUInt32 31)).toInt32 - ((adv (I 328 0)).toUInt32 >>> ((16 : Int32).toUInt32 &&& Int32.toUInt32 31)).toInt32 / nI m * nI m))), 354, SO9, RO9, ups I 328 0 (adv (I 328 0)), J, D) : Ou) = _
  rw [top_eq, dr_div (top_lt _) hn hn2]
  rfl
theorem mt_st : ∀ i, i < 15 → 0 ≤ nI i ∧ nI i < 15 ∧ (nI i).toNatClampNeg = i ∧ inb (nI i) 15 = true := by decide +kernel
theorem mt_ok : ∀ k, k < 9 → ∀ m, m < 4 → ∀ i, i < 15 → (0 ≤ ((nI (mtx k m i) &&& 255).toUInt32 % 65536).toInt32 ∧ ((nI (mtx k m i) &&& 255).toUInt32 % 65536).toInt32 ≤ 65535) ∧ ((nI (mtx k m i) &&& 255).toUInt32 % 65536).toInt32 = nI (mtx k m i) ∧ (0 ≤ nI (mtx k m i) ∧ nI (mtx k m i) ≤ 65535) := by decide +kernel
theorem byT_i {k m i : Nat} (h : i < 15) : byT k m i = nI (mtx k m i) := by
  unfold byT va_cpy
  rw [if_pos ⟨Nat.zero_le _, by omega⟩, Nat.zero_add, Nat.sub_zero]
  unfold byM
  rw [blt_t h]
  rfl
theorem ln_m (h0 : Q 350 1 = 0) : ex (312, 0, [.ref 350], [], 352, SM9, RM9, ovr I Q, ovr J QJ, ovr D QD) = some (.inl (some (.int (nI 15))), 352, SM9, RM9, ovr I Q, ovr J QJ, ovr D QD) := by
  rw [eT_312_0x8, show cG 312 313 (ovr I Q) = true from rfl, cond_true, show cI 312 313 (ovr I Q) = ovr I Q from rfl, eT_313_0x8, show ovr I Q 350 1 = Q 350 1 by rw [ovr_o (by decide)], h0, decide_eq_true (show (-128 : Int32) ≤ 0 ∧ (0 : Int32) ≤ 127 by decide), cond_true]
  show ex (312, 9, [dv], [.int 0, .int 15], 352, SM9, RM9, ovr I Q, ovr J QJ, ovr D QD) = _
  rw [eT_312_9x6]
  rfl
theorem ch_m {k m : Nat} (hk : k < 9) (hm : m < 4) (h0 : Q 350 1 = 0) (h1 : Q 351 = byT k m) {i : Nat} (hi : i < 15) : ex (315, 0, [.ref 350, .int (nI i)], [], 352, SM9, RM9, ovr I Q, ovr J QJ, ovr D QD) = some (.inl (some (.int (nI (mtx k m i)))), 352, SM9, RM9, ovr I Q, ovr J QJ, ovr D QD) := by
  obtain ⟨g1, g2, g3, g4⟩ := mt_st i hi
  obtain ⟨g5, g6, g7⟩ := mt_ok k hk m hm i hi
  rw [eT_315_0x8, show cG 315 314 (ovr I Q) = true from rfl, cond_true, show cI 315 314 (ovr I Q) = ovr I Q from rfl, eT_314_0x8, show ovr I Q 350 1 = Q 350 1 by rw [ovr_o (by decide)], h0, decide_eq_false (show ¬ ¬ (0 : Int32) = 0 from fun k => k rfl), cond_false, eT_314_13]
  show ex (315, 4, [.ref 350, .int (nI i)], [.int 1], 352, SM9, RM9, ovr I Q, ovr J QJ, ovr D QD) = _
  rw [eT_315_4x8, decide_eq_false (show ¬ (1 : Int32) = 0 by decide), cond_false, eT_315_7x8, show cG 315 316 (ovr I Q) = true from rfl, cond_true, show cI 315 316 (ovr I Q) = ovr I Q from rfl, eT_316_0x8, decide_eq_true g1, decide_eq_true g2, show Nat.ble (csm []) 8 = true from rfl, Bool.and_self, Bool.and_self, cond_true, eT_316_6x8, g4, show Nat.blt 351 352 = true from rfl, Bool.and_self, cond_true, eT_316_9x8, g3, show ovr I Q 351 i = nI (mtx k m i) by rw [ovr_o (by decide), h1, byT_i hi], decide_eq_true g5, cond_true, g6]
  show ex (315, 15, [dv, dv], [.int (nI (mtx k m i))], 352, SM9, RM9, ovr I Q, ovr J QJ, ovr D QD) = _
  rw [eT_315_15x1, decide_eq_true g7, cond_true]
theorem tx_made {k m : Nat} (hk : k < 9) (hm : m < 4) (h0 : Q 350 1 = 0) (h1 : Q 351 = byT k m) : TxE 352 SM9 RM9 QD QJ 350 15 (mtx k m) Q :=
  ⟨by decide +kernel, fun Q2 h2 I J D => ⟨ln_m (by rw [h2 350 (by decide)]; exact h0), fun i hi => ch_m hk hm (by rw [h2 350 (by decide)]; exact h0) (by rw [h2 351 (by decide)]; exact h1) hi⟩⟩
theorem mtx_fl : ∀ k, k < 9 → ∀ m, m < 4 → fltV (mtx k m) 15 = -1 ∧ kdo (mtx k m) 15 = some 3 ∧ nor (mtx k m) 15 1 = nI 0 ∧ nor (mtx k m) 15 2 = nI (1 + k) ∧ nor (mtx k m) 15 3 = nI m := by decide +kernel
theorem mtx_ch : ∀ k, k < 9 → ∀ m, m < 4 → ∀ i, i < 15 → 32 ≤ mtx k m i ∧ mtx k m i ≤ 126 := by decide +kernel
def tc0 (i : Nat) : Nat := ([] : List Nat).getD i 0
theorem ln_c0 : ex (312, 0, [.ref 1000040], [], 354, SO9, RO9, ovr I Q, ovr J QJ, ovr D QD) = some (.inl (some (.int (nI 0))), 354, SO9, RO9, ovr I Q, ovr J QJ, ovr D QD) := by
  rw [eT_312_0, show cG 312 313 (ovr I Q) = true from rfl, cond_true, show cI 312 313 (ovr I Q) = ovr I Q from rfl, eT_313_0]
  show ex (312, 9, [dv], [.int 0, .int 0], 354, SO9, RO9, ovr I Q, ovr J QJ, ovr D QD) = _
  rw [eT_312_9]
  rfl
theorem tx_c0 : TxE 354 SO9 RO9 QD QJ 1000040 0 tc0 Q := ⟨by decide +kernel, fun Q2 h2 I J D => ⟨ln_c0, fun i hi => absurd hi (Nat.not_lt_zero i)⟩⟩
theorem fl_c0 : fltV tc0 0 = 0 := by decide +kernel
theorem ok_c0 : ∀ i, i < 0 → 32 ≤ tc0 i ∧ tc0 i ≤ 126 := by decide +kernel
def tc1 (i : Nat) : Nat := ([108, 101, 115, 116, 32, 49, 32, 50, 32, 51] : List Nat).getD i 0
theorem ln_c1 : ex (312, 0, [.ref 1000041], [], 354, SO9, RO9, ovr I Q, ovr J QJ, ovr D QD) = some (.inl (some (.int (nI 10))), 354, SO9, RO9, ovr I Q, ovr J QJ, ovr D QD) := by
  rw [eT_312_0x1, show cG 312 313 (ovr I Q) = true from rfl, cond_true, show cI 312 313 (ovr I Q) = ovr I Q from rfl, eT_313_0x1]
  show ex (312, 9, [dv], [.int 0, .int 10], 354, SO9, RO9, ovr I Q, ovr J QJ, ovr D QD) = _
  rw [eT_312_9x1]
  rfl
theorem st_c1 : ∀ i, i < 10 → 0 ≤ nI i ∧ nI i < 10 ∧ (nI i).toNatClampNeg = i ∧ inb (nI i) 10 = true ∧ (0 ≤ ((sta 1000051 i &&& 255).toUInt32 % 65536).toInt32 ∧ ((sta 1000051 i &&& 255).toUInt32 % 65536).toInt32 ≤ 65535) ∧ ((sta 1000051 i &&& 255).toUInt32 % 65536).toInt32 = sta 1000051 i ∧ (0 ≤ sta 1000051 i ∧ sta 1000051 i ≤ 65535) ∧ sta 1000051 i = nI (tc1 i) := by decide +kernel
theorem ch_c1 {i : Nat} (hi : i < 10) : ex (315, 0, [.ref 1000041, .int (nI i)], [], 354, SO9, RO9, ovr I Q, ovr J QJ, ovr D QD) = some (.inl (some (.int (nI (tc1 i)))), 354, SO9, RO9, ovr I Q, ovr J QJ, ovr D QD) := by
  obtain ⟨g1, g2, g3, g4, g5, g6, g7, g8⟩ := st_c1 i hi
  rw [eT_315_0x1, show cG 315 314 (ovr I Q) = true from rfl, cond_true, show cI 315 314 (ovr I Q) = ovr I Q from rfl, eT_314_0x1]
  show ex (315, 4, [.ref 1000041, .int (nI i)], [.int 1], 354, SO9, RO9, ovr I Q, ovr J QJ, ovr D QD) = _
  rw [eT_315_4x1, decide_eq_false (show ¬ (1 : Int32) = 0 by decide), cond_false, eT_315_7x1, show cG 315 316 (ovr I Q) = true from rfl, cond_true, show cI 315 316 (ovr I Q) = ovr I Q from rfl, eT_316_0x1, decide_eq_true g1, decide_eq_true g2, show Nat.ble (csm []) 8 = true from rfl, Bool.and_self, Bool.and_self, cond_true, eT_316_6x1, g4, cond_true, eT_316_9x1, g3, decide_eq_true g5, cond_true, g6]
  show ex (315, 15, [dv, dv], [.int (sta 1000051 i)], 354, SO9, RO9, ovr I Q, ovr J QJ, ovr D QD) = _
  rw [eT_315_15, decide_eq_true g7, cond_true, g8]
theorem tx_c1 : TxE 354 SO9 RO9 QD QJ 1000041 10 tc1 Q := ⟨by decide +kernel, fun Q2 h2 I J D => ⟨ln_c1, fun i hi => ch_c1 hi⟩⟩
theorem fl_c1 : fltV tc1 10 = 0 := by decide +kernel
theorem ok_c1 : ∀ i, i < 10 → 32 ≤ tc1 i ∧ tc1 i ≤ 126 := by decide +kernel
def tc2 (i : Nat) : Nat := ([108, 101, 97, 115, 116, 32, 49, 32, 120, 32, 51] : List Nat).getD i 0
theorem ln_c2 : ex (312, 0, [.ref 1000042], [], 354, SO9, RO9, ovr I Q, ovr J QJ, ovr D QD) = some (.inl (some (.int (nI 11))), 354, SO9, RO9, ovr I Q, ovr J QJ, ovr D QD) := by
  rw [eT_312_0x2, show cG 312 313 (ovr I Q) = true from rfl, cond_true, show cI 312 313 (ovr I Q) = ovr I Q from rfl, eT_313_0x2]
  show ex (312, 9, [dv], [.int 0, .int 11], 354, SO9, RO9, ovr I Q, ovr J QJ, ovr D QD) = _
  rw [eT_312_9x2]
  rfl
theorem st_c2 : ∀ i, i < 11 → 0 ≤ nI i ∧ nI i < 11 ∧ (nI i).toNatClampNeg = i ∧ inb (nI i) 11 = true ∧ (0 ≤ ((sta 1000052 i &&& 255).toUInt32 % 65536).toInt32 ∧ ((sta 1000052 i &&& 255).toUInt32 % 65536).toInt32 ≤ 65535) ∧ ((sta 1000052 i &&& 255).toUInt32 % 65536).toInt32 = sta 1000052 i ∧ (0 ≤ sta 1000052 i ∧ sta 1000052 i ≤ 65535) ∧ sta 1000052 i = nI (tc2 i) := by decide +kernel
theorem ch_c2 {i : Nat} (hi : i < 11) : ex (315, 0, [.ref 1000042, .int (nI i)], [], 354, SO9, RO9, ovr I Q, ovr J QJ, ovr D QD) = some (.inl (some (.int (nI (tc2 i)))), 354, SO9, RO9, ovr I Q, ovr J QJ, ovr D QD) := by
  obtain ⟨g1, g2, g3, g4, g5, g6, g7, g8⟩ := st_c2 i hi
  rw [eT_315_0x2, show cG 315 314 (ovr I Q) = true from rfl, cond_true, show cI 315 314 (ovr I Q) = ovr I Q from rfl, eT_314_0x2]
  show ex (315, 4, [.ref 1000042, .int (nI i)], [.int 1], 354, SO9, RO9, ovr I Q, ovr J QJ, ovr D QD) = _
  rw [eT_315_4x2, decide_eq_false (show ¬ (1 : Int32) = 0 by decide), cond_false, eT_315_7x2, show cG 315 316 (ovr I Q) = true from rfl, cond_true, show cI 315 316 (ovr I Q) = ovr I Q from rfl, eT_316_0x2, decide_eq_true g1, decide_eq_true g2, show Nat.ble (csm []) 8 = true from rfl, Bool.and_self, Bool.and_self, cond_true, eT_316_6x2, g4, cond_true, eT_316_9x2, g3, decide_eq_true g5, cond_true, g6]
  show ex (315, 15, [dv, dv], [.int (sta 1000052 i)], 354, SO9, RO9, ovr I Q, ovr J QJ, ovr D QD) = _
  rw [eT_315_15, decide_eq_true g7, cond_true, g8]
theorem tx_c2 : TxE 354 SO9 RO9 QD QJ 1000042 11 tc2 Q := ⟨by decide +kernel, fun Q2 h2 I J D => ⟨ln_c2, fun i hi => ch_c2 hi⟩⟩
theorem fl_c2 : fltV tc2 11 = 2 := by decide +kernel
theorem ok_c2 : ∀ i, i < 11 → 32 ≤ tc2 i ∧ tc2 i ≤ 126 := by decide +kernel
def tc3 (i : Nat) : Nat := ([109, 111, 115, 116, 32, 49, 32, 50] : List Nat).getD i 0
theorem ln_c3 : ex (312, 0, [.ref 1000043], [], 354, SO9, RO9, ovr I Q, ovr J QJ, ovr D QD) = some (.inl (some (.int (nI 8))), 354, SO9, RO9, ovr I Q, ovr J QJ, ovr D QD) := by
  rw [eT_312_0x3, show cG 312 313 (ovr I Q) = true from rfl, cond_true, show cI 312 313 (ovr I Q) = ovr I Q from rfl, eT_313_0x3]
  show ex (312, 9, [dv], [.int 0, .int 8], 354, SO9, RO9, ovr I Q, ovr J QJ, ovr D QD) = _
  rw [eT_312_9x3]
  rfl
theorem st_c3 : ∀ i, i < 8 → 0 ≤ nI i ∧ nI i < 8 ∧ (nI i).toNatClampNeg = i ∧ inb (nI i) 8 = true ∧ (0 ≤ ((sta 1000053 i &&& 255).toUInt32 % 65536).toInt32 ∧ ((sta 1000053 i &&& 255).toUInt32 % 65536).toInt32 ≤ 65535) ∧ ((sta 1000053 i &&& 255).toUInt32 % 65536).toInt32 = sta 1000053 i ∧ (0 ≤ sta 1000053 i ∧ sta 1000053 i ≤ 65535) ∧ sta 1000053 i = nI (tc3 i) := by decide +kernel
theorem ch_c3 {i : Nat} (hi : i < 8) : ex (315, 0, [.ref 1000043, .int (nI i)], [], 354, SO9, RO9, ovr I Q, ovr J QJ, ovr D QD) = some (.inl (some (.int (nI (tc3 i)))), 354, SO9, RO9, ovr I Q, ovr J QJ, ovr D QD) := by
  obtain ⟨g1, g2, g3, g4, g5, g6, g7, g8⟩ := st_c3 i hi
  rw [eT_315_0x3, show cG 315 314 (ovr I Q) = true from rfl, cond_true, show cI 315 314 (ovr I Q) = ovr I Q from rfl, eT_314_0x3]
  show ex (315, 4, [.ref 1000043, .int (nI i)], [.int 1], 354, SO9, RO9, ovr I Q, ovr J QJ, ovr D QD) = _
  rw [eT_315_4x3, decide_eq_false (show ¬ (1 : Int32) = 0 by decide), cond_false, eT_315_7x3, show cG 315 316 (ovr I Q) = true from rfl, cond_true, show cI 315 316 (ovr I Q) = ovr I Q from rfl, eT_316_0x3, decide_eq_true g1, decide_eq_true g2, show Nat.ble (csm []) 8 = true from rfl, Bool.and_self, Bool.and_self, cond_true, eT_316_6x3, g4, cond_true, eT_316_9x3, g3, decide_eq_true g5, cond_true, g6]
  show ex (315, 15, [dv, dv], [.int (sta 1000053 i)], 354, SO9, RO9, ovr I Q, ovr J QJ, ovr D QD) = _
  rw [eT_315_15, decide_eq_true g7, cond_true, g8]
theorem tx_c3 : TxE 354 SO9 RO9 QD QJ 1000043 8 tc3 Q := ⟨by decide +kernel, fun Q2 h2 I J D => ⟨ln_c3, fun i hi => ch_c3 hi⟩⟩
theorem fl_c3 : fltV tc3 8 = 3 := by decide +kernel
theorem ok_c3 : ∀ i, i < 8 → 32 ≤ tc3 i ∧ tc3 i ≤ 126 := by decide +kernel
def tc4 (i : Nat) : Nat := ([111, 110, 32, 49, 32, 50, 32, 51] : List Nat).getD i 0
theorem ln_c4 : ex (312, 0, [.ref 1000044], [], 354, SO9, RO9, ovr I Q, ovr J QJ, ovr D QD) = some (.inl (some (.int (nI 8))), 354, SO9, RO9, ovr I Q, ovr J QJ, ovr D QD) := by
  rw [eT_312_0x4, show cG 312 313 (ovr I Q) = true from rfl, cond_true, show cI 312 313 (ovr I Q) = ovr I Q from rfl, eT_313_0x4]
  show ex (312, 9, [dv], [.int 0, .int 8], 354, SO9, RO9, ovr I Q, ovr J QJ, ovr D QD) = _
  rw [eT_312_9x3]
  rfl
theorem st_c4 : ∀ i, i < 8 → 0 ≤ nI i ∧ nI i < 8 ∧ (nI i).toNatClampNeg = i ∧ inb (nI i) 8 = true ∧ (0 ≤ ((sta 1000054 i &&& 255).toUInt32 % 65536).toInt32 ∧ ((sta 1000054 i &&& 255).toUInt32 % 65536).toInt32 ≤ 65535) ∧ ((sta 1000054 i &&& 255).toUInt32 % 65536).toInt32 = sta 1000054 i ∧ (0 ≤ sta 1000054 i ∧ sta 1000054 i ≤ 65535) ∧ sta 1000054 i = nI (tc4 i) := by decide +kernel
theorem ch_c4 {i : Nat} (hi : i < 8) : ex (315, 0, [.ref 1000044, .int (nI i)], [], 354, SO9, RO9, ovr I Q, ovr J QJ, ovr D QD) = some (.inl (some (.int (nI (tc4 i)))), 354, SO9, RO9, ovr I Q, ovr J QJ, ovr D QD) := by
  obtain ⟨g1, g2, g3, g4, g5, g6, g7, g8⟩ := st_c4 i hi
  rw [eT_315_0x4, show cG 315 314 (ovr I Q) = true from rfl, cond_true, show cI 315 314 (ovr I Q) = ovr I Q from rfl, eT_314_0x4]
  show ex (315, 4, [.ref 1000044, .int (nI i)], [.int 1], 354, SO9, RO9, ovr I Q, ovr J QJ, ovr D QD) = _
  rw [eT_315_4x4, decide_eq_false (show ¬ (1 : Int32) = 0 by decide), cond_false, eT_315_7x4, show cG 315 316 (ovr I Q) = true from rfl, cond_true, show cI 315 316 (ovr I Q) = ovr I Q from rfl, eT_316_0x4, decide_eq_true g1, decide_eq_true g2, show Nat.ble (csm []) 8 = true from rfl, Bool.and_self, Bool.and_self, cond_true, eT_316_6x4, g4, cond_true, eT_316_9x4, g3, decide_eq_true g5, cond_true, g6]
  show ex (315, 15, [dv, dv], [.int (sta 1000054 i)], 354, SO9, RO9, ovr I Q, ovr J QJ, ovr D QD) = _
  rw [eT_315_15, decide_eq_true g7, cond_true, g8]
theorem tx_c4 : TxE 354 SO9 RO9 QD QJ 1000044 8 tc4 Q := ⟨by decide +kernel, fun Q2 h2 I J D => ⟨ln_c4, fun i hi => ch_c4 hi⟩⟩
theorem fl_c4 : fltV tc4 8 = 3 := by decide +kernel
theorem ok_c4 : ∀ i, i < 8 → 32 ≤ tc4 i ∧ tc4 i ≤ 126 := by decide +kernel
def tc5 (i : Nat) : Nat := ([108, 97, 121, 101, 114, 32, 52] : List Nat).getD i 0
theorem ln_c5 : ex (312, 0, [.ref 1000045], [], 354, SO9, RO9, ovr I Q, ovr J QJ, ovr D QD) = some (.inl (some (.int (nI 7))), 354, SO9, RO9, ovr I Q, ovr J QJ, ovr D QD) := by
  rw [eT_312_0x5, show cG 312 313 (ovr I Q) = true from rfl, cond_true, show cI 312 313 (ovr I Q) = ovr I Q from rfl, eT_313_0x5]
  show ex (312, 9, [dv], [.int 0, .int 7], 354, SO9, RO9, ovr I Q, ovr J QJ, ovr D QD) = _
  rw [eT_312_9x4]
  rfl
theorem st_c5 : ∀ i, i < 7 → 0 ≤ nI i ∧ nI i < 7 ∧ (nI i).toNatClampNeg = i ∧ inb (nI i) 7 = true ∧ (0 ≤ ((sta 1000055 i &&& 255).toUInt32 % 65536).toInt32 ∧ ((sta 1000055 i &&& 255).toUInt32 % 65536).toInt32 ≤ 65535) ∧ ((sta 1000055 i &&& 255).toUInt32 % 65536).toInt32 = sta 1000055 i ∧ (0 ≤ sta 1000055 i ∧ sta 1000055 i ≤ 65535) ∧ sta 1000055 i = nI (tc5 i) := by decide +kernel
theorem ch_c5 {i : Nat} (hi : i < 7) : ex (315, 0, [.ref 1000045, .int (nI i)], [], 354, SO9, RO9, ovr I Q, ovr J QJ, ovr D QD) = some (.inl (some (.int (nI (tc5 i)))), 354, SO9, RO9, ovr I Q, ovr J QJ, ovr D QD) := by
  obtain ⟨g1, g2, g3, g4, g5, g6, g7, g8⟩ := st_c5 i hi
  rw [eT_315_0x5, show cG 315 314 (ovr I Q) = true from rfl, cond_true, show cI 315 314 (ovr I Q) = ovr I Q from rfl, eT_314_0x5]
  show ex (315, 4, [.ref 1000045, .int (nI i)], [.int 1], 354, SO9, RO9, ovr I Q, ovr J QJ, ovr D QD) = _
  rw [eT_315_4x5, decide_eq_false (show ¬ (1 : Int32) = 0 by decide), cond_false, eT_315_7x5, show cG 315 316 (ovr I Q) = true from rfl, cond_true, show cI 315 316 (ovr I Q) = ovr I Q from rfl, eT_316_0x5, decide_eq_true g1, decide_eq_true g2, show Nat.ble (csm []) 8 = true from rfl, Bool.and_self, Bool.and_self, cond_true, eT_316_6x5, g4, cond_true, eT_316_9x5, g3, decide_eq_true g5, cond_true, g6]
  show ex (315, 15, [dv, dv], [.int (sta 1000055 i)], 354, SO9, RO9, ovr I Q, ovr J QJ, ovr D QD) = _
  rw [eT_315_15, decide_eq_true g7, cond_true, g8]
theorem tx_c5 : TxE 354 SO9 RO9 QD QJ 1000045 7 tc5 Q := ⟨by decide +kernel, fun Q2 h2 I J D => ⟨ln_c5, fun i hi => ch_c5 hi⟩⟩
theorem fl_c5 : fltV tc5 7 = 1 := by decide +kernel
theorem ok_c5 : ∀ i, i < 7 → 32 ≤ tc5 i ∧ tc5 i ≤ 126 := by decide +kernel
def tc6 (i : Nat) : Nat := ([100, 97, 116, 101, 32, 48, 32, 48, 32, 50, 49, 52, 55, 52, 56, 51, 54, 52, 56] : List Nat).getD i 0
theorem ln_c6 : ex (312, 0, [.ref 1000046], [], 354, SO9, RO9, ovr I Q, ovr J QJ, ovr D QD) = some (.inl (some (.int (nI 19))), 354, SO9, RO9, ovr I Q, ovr J QJ, ovr D QD) := by
  rw [eT_312_0x6, show cG 312 313 (ovr I Q) = true from rfl, cond_true, show cI 312 313 (ovr I Q) = ovr I Q from rfl, eT_313_0x6]
  show ex (312, 9, [dv], [.int 0, .int 19], 354, SO9, RO9, ovr I Q, ovr J QJ, ovr D QD) = _
  rw [eT_312_9x5]
  rfl
theorem st_c6 : ∀ i, i < 19 → 0 ≤ nI i ∧ nI i < 19 ∧ (nI i).toNatClampNeg = i ∧ inb (nI i) 19 = true ∧ (0 ≤ ((sta 1000056 i &&& 255).toUInt32 % 65536).toInt32 ∧ ((sta 1000056 i &&& 255).toUInt32 % 65536).toInt32 ≤ 65535) ∧ ((sta 1000056 i &&& 255).toUInt32 % 65536).toInt32 = sta 1000056 i ∧ (0 ≤ sta 1000056 i ∧ sta 1000056 i ≤ 65535) ∧ sta 1000056 i = nI (tc6 i) := by decide +kernel
theorem ch_c6 {i : Nat} (hi : i < 19) : ex (315, 0, [.ref 1000046, .int (nI i)], [], 354, SO9, RO9, ovr I Q, ovr J QJ, ovr D QD) = some (.inl (some (.int (nI (tc6 i)))), 354, SO9, RO9, ovr I Q, ovr J QJ, ovr D QD) := by
  obtain ⟨g1, g2, g3, g4, g5, g6, g7, g8⟩ := st_c6 i hi
  rw [eT_315_0x6, show cG 315 314 (ovr I Q) = true from rfl, cond_true, show cI 315 314 (ovr I Q) = ovr I Q from rfl, eT_314_0x6]
  show ex (315, 4, [.ref 1000046, .int (nI i)], [.int 1], 354, SO9, RO9, ovr I Q, ovr J QJ, ovr D QD) = _
  rw [eT_315_4x6, decide_eq_false (show ¬ (1 : Int32) = 0 by decide), cond_false, eT_315_7x6, show cG 315 316 (ovr I Q) = true from rfl, cond_true, show cI 315 316 (ovr I Q) = ovr I Q from rfl, eT_316_0x6, decide_eq_true g1, decide_eq_true g2, show Nat.ble (csm []) 8 = true from rfl, Bool.and_self, Bool.and_self, cond_true, eT_316_6x6, g4, cond_true, eT_316_9x6, g3, decide_eq_true g5, cond_true, g6]
  show ex (315, 15, [dv, dv], [.int (sta 1000056 i)], 354, SO9, RO9, ovr I Q, ovr J QJ, ovr D QD) = _
  rw [eT_315_15, decide_eq_true g7, cond_true, g8]
theorem tx_c6 : TxE 354 SO9 RO9 QD QJ 1000046 19 tc6 Q := ⟨by decide +kernel, fun Q2 h2 I J D => ⟨ln_c6, fun i hi => ch_c6 hi⟩⟩
theorem fl_c6 : fltV tc6 19 = 3 := by decide +kernel
theorem ok_c6 : ∀ i, i < 19 → 32 ≤ tc6 i ∧ tc6 i ≤ 126 := by decide +kernel
def tc7 (i : Nat) : Nat := ([98, 97, 110, 100, 32, 45, 32, 49, 32, 49] : List Nat).getD i 0
theorem ln_c7 : ex (312, 0, [.ref 1000047], [], 354, SO9, RO9, ovr I Q, ovr J QJ, ovr D QD) = some (.inl (some (.int (nI 10))), 354, SO9, RO9, ovr I Q, ovr J QJ, ovr D QD) := by
  rw [eT_312_0x7, show cG 312 313 (ovr I Q) = true from rfl, cond_true, show cI 312 313 (ovr I Q) = ovr I Q from rfl, eT_313_0x7]
  show ex (312, 9, [dv], [.int 0, .int 10], 354, SO9, RO9, ovr I Q, ovr J QJ, ovr D QD) = _
  rw [eT_312_9x1]
  rfl
theorem st_c7 : ∀ i, i < 10 → 0 ≤ nI i ∧ nI i < 10 ∧ (nI i).toNatClampNeg = i ∧ inb (nI i) 10 = true ∧ (0 ≤ ((sta 1000057 i &&& 255).toUInt32 % 65536).toInt32 ∧ ((sta 1000057 i &&& 255).toUInt32 % 65536).toInt32 ≤ 65535) ∧ ((sta 1000057 i &&& 255).toUInt32 % 65536).toInt32 = sta 1000057 i ∧ (0 ≤ sta 1000057 i ∧ sta 1000057 i ≤ 65535) ∧ sta 1000057 i = nI (tc7 i) := by decide +kernel
theorem ch_c7 {i : Nat} (hi : i < 10) : ex (315, 0, [.ref 1000047, .int (nI i)], [], 354, SO9, RO9, ovr I Q, ovr J QJ, ovr D QD) = some (.inl (some (.int (nI (tc7 i)))), 354, SO9, RO9, ovr I Q, ovr J QJ, ovr D QD) := by
  obtain ⟨g1, g2, g3, g4, g5, g6, g7, g8⟩ := st_c7 i hi
  rw [eT_315_0x7, show cG 315 314 (ovr I Q) = true from rfl, cond_true, show cI 315 314 (ovr I Q) = ovr I Q from rfl, eT_314_0x7]
  show ex (315, 4, [.ref 1000047, .int (nI i)], [.int 1], 354, SO9, RO9, ovr I Q, ovr J QJ, ovr D QD) = _
  rw [eT_315_4x7, decide_eq_false (show ¬ (1 : Int32) = 0 by decide), cond_false, eT_315_7x7, show cG 315 316 (ovr I Q) = true from rfl, cond_true, show cI 315 316 (ovr I Q) = ovr I Q from rfl, eT_316_0x7, decide_eq_true g1, decide_eq_true g2, show Nat.ble (csm []) 8 = true from rfl, Bool.and_self, Bool.and_self, cond_true, eT_316_6x7, g4, cond_true, eT_316_9x7, g3, decide_eq_true g5, cond_true, g6]
  show ex (315, 15, [dv, dv], [.int (sta 1000057 i)], 354, SO9, RO9, ovr I Q, ovr J QJ, ovr D QD) = _
  rw [eT_315_15, decide_eq_true g7, cond_true, g8]
theorem tx_c7 : TxE 354 SO9 RO9 QD QJ 1000047 10 tc7 Q := ⟨by decide +kernel, fun Q2 h2 I J D => ⟨ln_c7, fun i hi => ch_c7 hi⟩⟩
theorem fl_c7 : fltV tc7 10 = 1 := by decide +kernel
theorem ok_c7 : ∀ i, i < 10 → 32 ≤ tc7 i ∧ tc7 i ≤ 126 := by decide +kernel
end DT
