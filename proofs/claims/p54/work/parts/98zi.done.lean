/-! isDone: its layouts for the law's own typing, its whole run -/
section DO
theorem ovs_of {S : Nat → Nat × Nat} (h0 : S 0 = (12, 0)) (h1 : S 1 = (10, 0)) : ovS S = S := by
  funext p
  unfold ovS
  by_cases a : p = 0
  · subst a; rw [h0]; rfl
  · by_cases b : p = 1
    · subst b; rw [h1]; rfl
    · rw [nbeq a, nbeq b]; rfl
theorem ovr_of {R : Nat → Nat → Option Nat} (h : R 0 0 = some 1) : ovR R = R := by
  funext p j
  unfold ovR
  by_cases a : p = 0
  · subst a
    by_cases b : j = 0
    · subst b; rw [h]; rfl
    · rw [nbeq b]; rfl
  · rw [nbeq a]; rfl
theorem ovS_M : ovS SM9 = SM9 := ovs_of (by decide +kernel) (by decide +kernel)
theorem ovR_M : ovR RM9 = RM9 := ovr_of (by decide +kernel)
theorem ovS_O : ovS SO9 = SO9 := ovs_of (by decide +kernel) (by decide +kernel)
theorem ovR_O : ovR RO9 = RO9 := ovr_of (by decide +kernel)
variable {n n3 : Nat} {S S3 : Nat → Nat × Nat} {R R3 : Nat → Nat → Option Nat} {QD QD3 : Nat → Nat → UInt64}
variable {X : Nat → Nat → Int32} {QJ : Nat → Nat → Int64} {I : Nat → Nat → Int32} {J : Nat → Nat → Int64} {D : Nat → Nat → UInt64}
variable {T c pc : Nat} {ls st : List Value}
variable {Ps : Option Value → (Nat → Nat → Int32) → (Nat → Nat → Int64) → (Nat → Nat → Int32) → (Nat → Nat → Int64) → (Nat → Nat → UInt64) → Prop}
/-- a text that the law types where nothing is typed yet -/
theorem goT (B : Bas (n + 2) S R) (hS : ovS S = S) (hR : ovR R = R) {p L : Nat} {t : Nat → Nat} (hL : L ≤ 19) (ht : ∀ i, i < L → 32 ≤ t i ∧ t i ≤ 126) (s : St T c X I J D) (hc : 100 ≤ c) (tx : TxE (n + 2) S R QD QJ p L t X) (h0 : I 312 3 = 0)
    (K : ∀ X2 I2 J2 D2, (∀ q, q ≠ iCRD → X2 q = X q) → St T (c - 100) X2 I2 J2 D2 → TxA I2 L t → (∀ q, q < 312 → I2 q = I q) → WO n3 S3 R3 QD3 Ps (ex (356, pc, ls, st, n + 2, S, R, ovr I2 X2, ovr J2 QJ, ovr D2 QD))) :
    WO n3 S3 R3 QD3 Ps (bif cG 356 355 (ovr I X) then (calK 356 pc ls st (n + 2, S, R, cI 356 355 (ovr I X), ovr J QJ, ovr D QD) (ex (355, 0, [.ref 0, .ref p, dv, dv, dv, dv], [], cIn 355 (n + 2, S, R, cI 356 355 (ovr I X), ovr J QJ, ovr D QD)))) else none) := by
  refine goL (n2 := n + 2) (S2 := S) (R2 := R) (QD2 := QD) (Pc := fun v X2 QJ2 I2 _ _ => v = none ∧ TxA I2 L t ∧ (∀ q, q < 312 → I2 q = I q) ∧ (∀ q, q ≠ iCRD → X2 q = X q) ∧ QJ2 = QJ) (by decide) (by decide) (d := 100) rfl s hc (fun Q1 T1 hq s1 => ?_) (fun v Q2 Q3 QJ2 I2 J2 D2 hq s2 hp => ?_)
  · refine wo_mono (lw_type B hS hR hL ht (Nat.le_refl _) (tx.go hq) s1 ⟨h0, fun i hi => absurd hi (Nat.not_lt_zero i)⟩) (fun v Q QJ2 I2 J2 D2 h => ?_)
    obtain ⟨⟨⟨h1, h2, h3, h4⟩, h5⟩, h6⟩ := h
    exact ⟨⟨h1, h2, h3, fun q hq9 => (h4 q hq9).trans (hq q hq9), h6⟩, h5⟩
  · obtain ⟨h1, h2, h3, h4, h5⟩ := hp
    rw [h1, h5]
    exact K Q3 I2 J2 D2 (fun q hq9 => (hq q hq9).trans (h4 q hq9)) s2 h2 h3
theorem Same.tx {I2 : Nat → Nat → Int32} (s : Same I I2) (h : I 312 3 = 0) : I2 312 3 = 0 := by
  obtain ⟨-, -, -, ⟨-, -, e, -⟩, -⟩ := s
  rw [e, h]
/-- the row of faults -/
def flR (X : Nat → Nat → Int32) : Nat → Nat → Int32 := ups (ups (ups (ups (ups (ups (ups (ups (upR X 353 (fun _ => 0)) 353 0 0) 353 1 0) 353 2 2) 353 3 3) 353 4 3) 353 5 1) 353 6 3) 353 7 1
theorem flR_n {q : Nat} (h : q ≠ 353) : flR X q = X q := by
  unfold flR
  rw [w_un h, w_un h, w_un h, w_un h, w_un h, w_un h, w_un h, w_un h]
  exact upR_n (f := X) h
theorem flR_o : ups (ups (ups (ups (ups (ups (ups (ups (upR (ovr I X) 353 (fun _ => 0)) 353 0 0) 353 1 0) 353 2 2) 353 3 3) 353 4 3) 353 5 1) 353 6 3) 353 7 1 = ovr I (flR X) := by
  unfold flR
  rw [upo_R (by decide), ovr_ups2 (by decide), ovr_ups2 (by decide), ovr_ups2 (by decide), ovr_ups2 (by decide), ovr_ups2 (by decide), ovr_ups2 (by decide), ovr_ups2 (by decide), ovr_ups2 (by decide)]
theorem flR_7 : flR X 353 7 = 1 := w_us
theorem flR_6 : flR X 353 6 = 3 := by unfold flR; rw [w_uk (by decide), w_us]
theorem flR_5 : flR X 353 5 = 1 := by unfold flR; rw [w_uk (by decide), w_uk (by decide), w_us]
theorem flR_4 : flR X 353 4 = 3 := by unfold flR; rw [w_uk (by decide), w_uk (by decide), w_uk (by decide), w_us]
theorem flR_3 : flR X 353 3 = 3 := by unfold flR; rw [w_uk (by decide), w_uk (by decide), w_uk (by decide), w_uk (by decide), w_us]
theorem flR_2 : flR X 353 2 = 2 := by unfold flR; rw [w_uk (by decide), w_uk (by decide), w_uk (by decide), w_uk (by decide), w_uk (by decide), w_us]
theorem flR_1 : flR X 353 1 = 0 := by unfold flR; rw [w_uk (by decide), w_uk (by decide), w_uk (by decide), w_uk (by decide), w_uk (by decide), w_uk (by decide), w_us]
theorem flR_0 : flR X 353 0 = 0 := by unfold flR; rw [w_uk (by decide), w_uk (by decide), w_uk (by decide), w_uk (by decide), w_uk (by decide), w_uk (by decide), w_uk (by decide), w_us]
/-- behind isDone -/
def DnP (T : Nat) (v : Option Value) (X2 I2 : Nat → Nat → Int32) (J2 : Nat → Nat → Int64) (D2 : Nat → Nat → UInt64) : Prop := v = some (.int 1) ∧ ∃ c2, St T c2 X2 I2 J2 D2
/-- one of the wrong texts -/
theorem dn_tail {i P L : Nat} {t : Nat → Nat} {f : Int32}
    (e1 : ∀ I J D, ex (356, 241, [.ref 0, dv, .ref 352, .ref 353, dv], [.int (nI i)], 354, SO9, RO9, I, J, D) = bif cG 356 355 I then calK 356 251 [.ref 0, dv, dv, .ref 353, .int (nI i)] [] (354, SO9, RO9, cI 356 355 I, J, D) (ex (355, 0, [.ref 0, .ref P, dv, dv, dv, dv], [], cIn 355 (354, SO9, RO9, cI 356 355 I, J, D))) else none)
    (e2 : ∀ I J D, ex (356, 251, [.ref 0, dv, dv, .ref 353, .int (nI i)], [], 354, SO9, RO9, I, J, D) = bif cG 356 134 I then calK 356 258 [dv, dv, dv, .ref 353, .int (nI i)] [] (354, SO9, RO9, cI 356 134 I, J, D) (ex (134, 0, [.ref 1], [], 354, SO9, RO9, cI 356 134 I, J, D)) else none)
    (e3 : ∀ r I J D, ex (356, 258, [dv, dv, dv, .ref 353, .int (nI i)], [.int r], 354, SO9, RO9, I, J, D) = bif decide (¬ r = I 353 i) then ex (356, 269, [dv, dv, dv, dv, dv], [], 354, SO9, RO9, I, J, D) else ex (356, 265, [dv, dv, dv, dv, dv], [], 354, SO9, RO9, I, J, D))
    (tx : TxE 354 SO9 RO9 QD QJ P L t X) (hL : L ≤ 19) (ht : ∀ j, j < L → 32 ≤ t j ∧ t j ≤ 126) (hf : fltV t L = f) (s : St T c X I J D) (hc : 101 ≤ c) (h0 : I 312 3 = 0) (hx : X 353 i = f) :
    WO 354 SO9 RO9 QD (fun v X2 _ I2 J2 D2 => DnP T v X2 I2 J2 D2) (ex (356, 241, [.ref 0, dv, .ref 352, .ref 353, dv], [.int (nI i)], 354, SO9, RO9, ovr I X, ovr J QJ, ovr D QD)) := by
  obtain ⟨c, rfl⟩ : ∃ c', c = c' + 101 := ⟨c - 101, by omega⟩
  rw [e1]
  refine goT (n := 352) bas_O ovS_O ovR_O hL ht s (by omega) tx h0 (fun X2 I2 J2 D2 hx2 s2 ta f2 => ?_)
  rw [show c + 101 - 100 = c + 1 by omega] at s2
  show WO 354 SO9 RO9 QD (fun v X2 _ I2 J2 D2 => DnP T v X2 I2 J2 D2) (ex (356, 251, [.ref 0, dv, dv, .ref 353, .int (nI i)], [], 354, SO9, RO9, ovr I2 X2, ovr J2 QJ, ovr D2 QD))
  rw [e2]
  refine goK bas_O (by decide) rfl s2 (fun kk _ hi => q_fault hi ⟨by omega, ht⟩ ta) (fun X3 I3 J3 D3 hx3 s3 hp => ?_)
  have hv : ovr I3 X3 353 i = f := by rw [ovr_o (by decide), hx3 353 (by decide), hx2 353 (by decide)]; exact hx
  rw [ka, hf, e3, hv, decide_eq_false (show ¬ ¬ f = f from fun h => h rfl), cond_false, eJ_356_265]
  exact wo_ret ⟨rfl, c, s3⟩
theorem r9_m : ∀ j, j < 9 → 1 ≤ nI (1 + j) ∧ nI (1 + j) ≤ 9 := by decide
theorem r3_m : ∀ j, j < 4 → 0 ≤ nI j ∧ nI j ≤ 3 := by decide
/-- behind the act that is undone: the wrong texts -/
theorem lw_wrong (hc : 150 ≤ c) (s : St T c X I J D) (h0 : I 312 3 = 0) :
    WO 354 SO9 RO9 (upR QD 353 (fun _ => 0)) (fun v X2 _ I2 J2 D2 => DnP T v X2 I2 J2 D2) (ex (356, 137, [.ref 0, dv, dv, dv, dv], [], 352, SM9, RM9, ovr I X, ovr J QJ, ovr D QD)) := by
  rw [eJ_356_137, flR_o, upo_R (by decide), upo_R (by decide)]
  refine goN nl_O9 (by decide) (show (8 : Int32) = nI 8 from rfl) ⟨by omega, by omega⟩ (st_q s (by rw [flR_n (by decide)])) (fun X2 i hi hx2 s2 => ?_)
  have x2 : X2 353 = flR X 353 := hx2 353 (by decide)
  match i, hi with
  | 0, _ => exact dn_tail (fun _ _ _ => eJ_356_241) (fun _ _ _ => eJ_356_251) (fun _ _ _ _ => eJ_356_258) tx_c0 (by decide) ok_c0 fl_c0 s2 (by omega) h0 (by rw [x2]; exact flR_0)
  | 1, _ => exact dn_tail (fun _ _ _ => eJ_356_241x1) (fun _ _ _ => eJ_356_251x1) (fun _ _ _ _ => eJ_356_258x1) tx_c1 (by decide) ok_c1 fl_c1 s2 (by omega) h0 (by rw [x2]; exact flR_1)
  | 2, _ => exact dn_tail (fun _ _ _ => eJ_356_241x2) (fun _ _ _ => eJ_356_251x2) (fun _ _ _ _ => eJ_356_258x2) tx_c2 (by decide) ok_c2 fl_c2 s2 (by omega) h0 (by rw [x2]; exact flR_2)
  | 3, _ => exact dn_tail (fun _ _ _ => eJ_356_241x3) (fun _ _ _ => eJ_356_251x3) (fun _ _ _ _ => eJ_356_258x3) tx_c3 (by decide) ok_c3 fl_c3 s2 (by omega) h0 (by rw [x2]; exact flR_3)
  | 4, _ => exact dn_tail (fun _ _ _ => eJ_356_241x4) (fun _ _ _ => eJ_356_251x4) (fun _ _ _ _ => eJ_356_258x4) tx_c4 (by decide) ok_c4 fl_c4 s2 (by omega) h0 (by rw [x2]; exact flR_4)
  | 5, _ => exact dn_tail (fun _ _ _ => eJ_356_241x5) (fun _ _ _ => eJ_356_251x5) (fun _ _ _ _ => eJ_356_258x5) tx_c5 (by decide) ok_c5 fl_c5 s2 (by omega) h0 (by rw [x2]; exact flR_5)
  | 6, _ => exact dn_tail (fun _ _ _ => eJ_356_241x6) (fun _ _ _ => eJ_356_251x6) (fun _ _ _ _ => eJ_356_258x6) tx_c6 (by decide) ok_c6 fl_c6 s2 (by omega) h0 (by rw [x2]; exact flR_6)
  | 7, _ => exact dn_tail (fun _ _ _ => eJ_356_241x7) (fun _ _ _ => eJ_356_251x7) (fun _ _ _ _ => eJ_356_258x7) tx_c7 (by decide) ok_c7 fl_c7 s2 (by omega) h0 (by rw [x2]; exact flR_7)
  | i + 8, h => exact absurd h (by omega)
/-- what undo gives back hangs on the book alone -/
theorem und_all {g : Nat → Nat → Int32} (s : St T c X I J D) (hh : Hs I [g]) : ∃ v, v ≤ 8 ∧ ∀ kk, kk ≤ 5000 → Inv 5 kk I J D → Call kk 136 [.ref 1, dv] (.inl (some (.int (nI v)))) I J D (fun I2 => PG I2 = g ∧ Hs I2 [] ∧ I2 312 = I 312) := by
  obtain ⟨-, -, kk, -, hi⟩ := s
  obtain ⟨v, hv, ⟨Ia, Ja, Da, hans, -, -⟩⟩ := a_undoT hi hh
  refine ⟨v, hv, fun kk2 _ hi2 => ?_⟩
  obtain ⟨v2, hv2, ⟨Ib, Jb, Db, hans2, r2, r3⟩⟩ := a_undoT hi2 hh
  have e1 := hans 348 SC RC (fun _ _ => 0) (fun _ _ => 0) (fun _ _ => 0) bas_C
  have e2 := hans2 348 SC RC (fun _ _ => 0) (fun _ _ => 0) (fun _ _ => 0) bas_C
  rw [e1] at e2
  have e3 : (Sum.inl (some (Value.int (nI v))) : Rs) = Sum.inl (some (Value.int (nI v2))) := congrArg Prod.fst (Option.some.inj e2)
  have e4 : nI v = nI v2 := Value.int.inj (Option.some.inj (Sum.inl.inj e3))
  rw [e4]
  exact ⟨Ib, Jb, Db, hans2, r2, r3⟩
/-- from undo on -/
theorem lw_l3 {m0 : Nat} {g : Nat → Nat → Int32} (hc : 160 ≤ c) (s : St T c X I J D) (hh : Hs I [g]) (hg : g 9 4 = nI m0) (h0 : I 312 3 = 0) :
    WO 354 SO9 RO9 (upR QD 353 (fun _ => 0)) (fun v X2 _ I2 J2 D2 => DnP T v X2 I2 J2 D2) (ex (356, 113, [.ref 0, .int (nI m0), dv, dv, dv], [], 352, SM9, RM9, ovr I X, ovr J QJ, ovr D QD)) := by
  obtain ⟨c, rfl⟩ : ∃ c', c = c' + 1 + 1 := ⟨c - 2, by omega⟩
  obtain ⟨v1, hv1, ca1⟩ := und_all s hh
  rw [eJ_356_113]
  refine goK bas_M (by decide) rfl (c := c + 1) s ca1 (fun X8 I8 J8 D8 hx8 s8 hp8 => ?_)
  obtain ⟨p8, -, t8⟩ := hp8
  have b8 : I8 10 4 = nI m0 := by
    have e1 : PG I8 9 4 = I8 10 4 := pg_at rfl
    rw [← e1, p8]
    exact hg
  have t9 : I8 312 3 = 0 := by rw [t8]; exact h0
  rw [ka, eJ_356_120, decide_eq_false (nI_pos (by omega)), cond_false, eJ_356_123]
  refine goK bas_M (by decide) rfl (c := c) s8 (fun kk _ hi => q_cnt hi) (fun X9 I9 J9 D9 hx9 s9 hl9 => ?_)
  rw [ka, b8, eJ_356_131, decide_eq_true rfl, cond_true]
  exact lw_wrong (by omega) s9 (hl9.1.tx t9)
/-- behind the line -/
theorem lw_l2 {m0 : Nat} {g : Nat → Nat → Int32} (hc : 170 ≤ c) (s : St T c X I J D) (hh : Hs I [g]) (hg : g 9 4 = nI m0) (hm : I 10 4 = nI (m0 + 1)) (h0 : I 312 3 = 0) :
    WO 354 SO9 RO9 (upR QD 353 (fun _ => 0)) (fun v X2 _ I2 J2 D2 => DnP T v X2 I2 J2 D2) (ex (356, 87, [.ref 0, .int (nI m0), dv, dv, dv], [], 352, SM9, RM9, ovr I X, ovr J QJ, ovr D QD)) := by
  obtain ⟨c, rfl⟩ : ∃ c', c = c' + 1 + 1 := ⟨c - 2, by omega⟩
  rw [eJ_356_87]
  refine goK bas_M (by decide) rfl (c := c + 1) s (fun kk _ hi => q_cnt hi) (fun X6 I6 J6 D6 hx6 s6 hl6 => ?_)
  rw [ka, hm, eJ_356_95, nI_1, decide_eq_false (show ¬ ¬ nI (m0 + 1) = nI (m0 + 1) from fun h => h rfl), cond_false, eJ_356_101]
  have t6 : TxA I6 0 tc0 := ⟨hl6.1.tx h0, fun i hi => absurd hi (Nat.not_lt_zero i)⟩
  have h6 : Hs I6 [g] := hl6.1.hs hh
  refine goK bas_M (by decide) rfl (c := c) s6 (fun kk _ hi => q_fault hi ⟨by decide, ok_c0⟩ t6) (fun X7 I7 J7 D7 hx7 s7 hp7 => ?_)
  obtain ⟨t7, f7⟩ := hp7
  rw [ka, fl_c0, eJ_356_108, decide_eq_true rfl, cond_true]
  exact lw_l3 (by omega) s7 (hs_of h6 (by rw [f7 0 (by decide)]; exact ⟨rfl, rfl⟩) (fun p h1 h2 => f7 p (by omega))) hg t7.1
/-- behind the typing: the line -/
theorem lw_l1 {k m m0 : Nat} (hk : k < 9) (hmm : m < 4) (hc : 180 ≤ c) (s : St T c X I J D) (ta : TxA I 15 (mtx k m)) (hm : I 10 4 = nI m0) (h16 : m0 < 16) :
    WO 354 SO9 RO9 (upR QD 353 (fun _ => 0)) (fun v X2 _ I2 J2 D2 => DnP T v X2 I2 J2 D2) (ex (356, 65, [.ref 0, .int (nI m0), dv, dv, dv], [], 352, SM9, RM9, ovr I X, ovr J QJ, ovr D QD)) := by
  obtain ⟨c, rfl⟩ : ∃ c', c = c' + 1 + 1 := ⟨c - 2, by omega⟩
  obtain ⟨fl, kd, n1, n2, n3⟩ := mtx_fl k hk m hmm
  have ch : ChO (mtx k m) 15 := ⟨by decide, mtx_ch k hk m hmm⟩
  rw [eJ_356_65]
  refine goK bas_M (by decide) rfl (c := c + 1) s (fun kk _ hi => q_fault hi ch ta) (fun X4 I4 J4 D4 hx4 s4 hp4 => ?_)
  obtain ⟨ta4, f4⟩ := hp4
  rw [ka, fl, eJ_356_72, decide_eq_false (show ¬ ¬ (-1 : Int32) = -1 from fun h => h rfl), cond_false, eJ_356_76]
  have b4 : I4 10 4 = nI m0 := by rw [f4 10 (by decide)]; exact hm
  have hn : Hs I4 [] := by
    obtain ⟨-, -, kk, -, hi⟩ := id s4
    exact hs_nil hi
  refine goK bas_M (by decide) rfl (c := c) s4 (fun kk _ hi => a_line hi ch ta4 fl kd n1 n2 n3 b4 h16 (r9_m k hk) (r3_m m hmm)) (fun X5 I5 J5 D5 hx5 s5 hp5 => ?_)
  obtain ⟨a5, t5, hs5⟩ := hp5
  have b5 : I5 10 4 = nI (m0 + 1) := by
    rw [a5 10 (by decide) (by decide)]
    exact w_us
  have e2 : PG I4 9 4 = I4 10 4 := pg_at rfl
  rw [ka, eJ_356_83, decide_eq_false (show ¬ ¬ nI m0 = nI m0 from fun h => h rfl), cond_false]
  exact lw_l2 (by omega) s5 (hs5 [] (by simp) hn) (e2.trans b4) b5 t5
/-- behind the made text -/
theorem lw_line {k m m0 : Nat} (hk : k < 9) (hmm : m < 4) (hc : 300 ≤ c) (s : St T c X I J D) (h350 : X 350 1 = 0) (h351 : X 351 = byT k m) (hm : I 10 4 = nI m0) (h16 : m0 < 16) (h0 : I 312 3 = 0) :
    WO 354 SO9 RO9 (upR QD 353 (fun _ => 0)) (fun v X2 _ I2 J2 D2 => DnP T v X2 I2 J2 D2) (ex (356, 62, [.ref 0, .int (nI m0), dv, dv, dv], [.ref 350, .ref 0], 352, SM9, RM9, ovr I X, ovr J QJ, ovr D QD)) := by
  rw [eJ_356_62]
  refine goT (n := 350) bas_M ovS_M ovR_M (by decide) (mtx_ch k hk m hmm) s (by omega) (tx_made hk hmm h350 h351) h0 (fun X3 I3 J3 D3 hx3 s3 ta3 f3 => ?_)
  exact lw_l1 hk hmm (by omega) s3 ta3 (by rw [f3 10 (by decide)]; exact hm) h16
/-- the whole of isDone -/
theorem lw_done {m0 : Nat} (s : St T 700 X I J D) (hm : I 10 4 = nI m0) (h16 : m0 < 16) (h0 : I 312 3 = 0) :
    WO 354 SO9 RO9 (upR (upR (upR QD 349 (fun _ => 0)) 351 (fun _ => 0)) 353 (fun _ => 0)) (fun v X2 _ I2 J2 D2 => DnP T v X2 I2 J2 D2) (ex (356, 0, [.ref 0, dv, dv, dv, dv], [], 348, SC, RC, ovr I X, ovr J QJ, ovr D QD)) := by
  rw [eJ_356_0]
  refine goK bas_C (by decide) rfl (c := 699) s (fun kk _ hi => q_cnt hi) (fun X1 I1 J1 D1 hx1 s1 hl1 => ?_)
  rw [ka, hm]
  refine dn_made (c := 699) (by omega) s1 (fun k m hk hmm X2 h350 h351 s2 => ?_)
  exact lw_line hk hmm (by omega) s2 h350 h351 (by rw [hl1.2 10 (by decide)]; exact hm) h16 (hl1.1.tx h0)
end DO
