/-! the JDK's texts: what the calls do that isDone makes -/
section JW
variable {n n2 n3 : Nat} {S S2 S3 : Nat → Nat × Nat} {R R2 R3 : Nat → Nat → Option Nat} {QD QD2 QD3 : Nat → Nat → UInt64}
variable {Q G : Nat → Nat → Int32} {QJ QJ2 : Nat → Nat → Int64} {I : Nat → Nat → Int32} {J : Nat → Nat → Int64} {D : Nat → Nat → UInt64}
variable {T c d μ a pc : Nat} {ls st as : List Value} {x : Option Value}
variable {Ps : Option Value → (Nat → Nat → Int32) → (Nat → Nat → Int64) → (Nat → Nat → Int32) → (Nat → Nat → Int64) → (Nat → Nat → UInt64) → Prop}
theorem upo_R {α : Type} {I Q : Nat → Nat → α} {p : Nat} {f : Nat → α} (h : (Nat.ble 1 p && Nat.ble p 316) = false) : upR (ovr I Q) p f = ovr I (upR Q p f) := by
  funext q
  by_cases hq : q = p
  · subst hq
    rw [upR_s, ovr_o h, upR_s]
  · rw [upR_n hq]
    unfold ovr
    cases hb : (Nat.ble 1 q && Nat.ble q 316) with
    | true => rfl
    | false => exact (upR_n (f := Q) hq).symm
/-- alike but for what is left of calls -/
def EqX (G Q : Nat → Nat → Int32) : Prop := ∀ p, p ≠ iCRD → Q p = G p
theorem EqX.rfl' : EqX Q Q := fun _ _ => rfl
theorem EqX.tr {A B C : Nat → Nat → Int32} (h : EqX B C) (k : EqX A B) : EqX A C := fun p hp => (h p hp).trans (k p hp)
theorem EqX.ups {A B : Nat → Nat → Int32} (h : EqX A B) {p k : Nat} {v : Int32} : EqX (ups A p k v) (ups B p k v) := fun q hq => by
  by_cases e : q = p
  · subst e
    show upR B q (upd (B q) k v) q = upR A q (upd (A q) k v) q
    rw [upR_s, upR_s, h q hq]
  · rw [w_un e, w_un e, h q hq]
theorem EqX.upR {A B : Nat → Nat → Int32} (h : EqX A B) {p : Nat} {f g : Nat → Int32} (e : g = f) : EqX (upR A p f) (upR B p g) := fun q hq => by
  subst e
  by_cases e : q = p
  · subst e; rw [upR_s, upR_s]
  · rw [upR_n (f := B) e, upR_n (f := A) e, h q hq]
theorem EqX.atp {Q1 : Nat → Nat → Int32} (h : EqX Q Q1) {p : Nat} (hp : p ≠ iCRD := by decide) : Q1 p = Q p := h p hp
/-- a call that leaves the book as it is -/
abbrev WJ (n : Nat) (S : Nat → Nat × Nat) (R : Nat → Nat → Option Nat) (QD : Nat → Nat → UInt64) (QJ : Nat → Nat → Int64) (T : Nat) (v : Option Value) (I : Nat → Nat → Int32) (J : Nat → Nat → Int64) (D : Nat → Nat → UInt64) (G : Nat → Nat → Int32) (x : Option Ou) : Prop :=
  WO n S R QD (fun v2 Q2 QJ2 I2 J2 D2 => (v2 = v ∧ I2 = I ∧ J2 = J ∧ D2 = D ∧ QJ2 = QJ ∧ EqX G Q2) ∧ ∃ c2, St T c2 Q2 I2 J2 D2) x
theorem wj_ret (s : St T c Q I J D) (h : EqX G Q) : WJ n S R QD QJ T x I J D G (some (.inl x, n, S, R, ovr I Q, ovr J QJ, ovr D QD)) := ⟨_, _, _, _, _, _, rfl, ⟨rfl, rfl, rfl, rfl, rfl, h⟩, _, s⟩
theorem st_q {Q2 : Nat → Nat → Int32} (s : St T c Q I J D) (h : Q2 iCRD 0 = Q iCRD 0) : St T c Q2 I J D := ⟨h.trans s.1, s.2⟩
theorem wj_mono {G2 : Nat → Nat → Int32} {x9 : Option Ou} (h : EqX G G2) (k : WJ n S R QD QJ T x I J D G2 x9) : WJ n S R QD QJ T x I J D G x9 := by
  obtain ⟨v, Q2, QJ2, I2, J2, D2, e, ⟨h1, h2, h3, h4, h5, h6⟩, h7⟩ := k
  exact ⟨v, Q2, QJ2, I2, J2, D2, e, ⟨h1, h2, h3, h4, h5, EqX.tr h6 h⟩, h7⟩
theorem goJ (hμ : 318 ≤ μ) (ha9 : 318 ≤ a) (hd : cK a = d) (s : St T c Q I J D) (ha : d ≤ c)
    (hc : ∀ Q1 T1, EqX Q Q1 → St T1 d Q1 I J D → WJ n2 S2 R2 QD2 QJ2 T1 x I J D G (ex (a, 0, as, [], n, S, R, ovr I Q1, ovr J QJ, ovr D QD)))
    (K : ∀ Q3, EqX G Q3 → St T (c - d) Q3 I J D → WO n3 S3 R3 QD3 Ps (ex (μ, pc, ls, x.toList ++ st, n2, S2, R2, ovr I Q3, ovr J QJ2, ovr D QD2))) :
    WO n3 S3 R3 QD3 Ps (bif cG μ a (ovr I Q) then (calK μ pc ls st (n, S, R, cI μ a (ovr I Q), ovr J QJ, ovr D QD) (ex (a, 0, as, [], cIn a (n, S, R, cI μ a (ovr I Q), ovr J QJ, ovr D QD)))) else none) := by
  refine goL (n2 := n2) (S2 := S2) (R2 := R2) (QD2 := QD2) (Pc := fun v2 Q2 QJ9 I2 J2 D2 => v2 = x ∧ I2 = I ∧ J2 = J ∧ D2 = D ∧ QJ9 = QJ2 ∧ EqX G Q2) hμ ha9 hd s ha (fun Q1 T1 h1 s1 => hc Q1 T1 h1 s1) (fun v Q2 Q3 QJ9 I2 J2 D2 h3 s3 hp => ?_)
  obtain ⟨rfl, rfl, rfl, rfl, rfl, hp⟩ := hp
  exact K Q3 (EqX.tr h3 hp) s3
/-- the builder is of plain letters, and so long -/
def SbQ (Q : Nat → Nat → Int32) (n : Nat) : Prop := Q 348 1 = 0 ∧ Q 348 3 = nI n
theorem SbQ.go {Q1 : Nat → Nat → Int32} {n : Nat} (b : SbQ Q n) (h : EqX Q Q1) : SbQ Q1 n := by unfold SbQ; rw [h.atp]; exact b
theorem o348 {k : Nat} : ovr I Q 348 k = Q 348 k := by rw [ovr_o (by decide)]
theorem w_367 {k : Nat} (hk : k ≤ 16) {b : Nat} (h : SbQ Q b) (s : St T c Q I J D) : WJ 350 SL9 RL9 QD QJ T none I J D Q (ex (367, 0, [.ref 348, .int (nI k), dv], [], 350, SL9, RL9, ovr I Q, ovr J QJ, ovr D QD)) := by
  have e : (nI k - (16 >>> ((0 : Int32) &&& 31))) ≤ 0 := (show ∀ k, k ≤ 16 → (nI k - ((16 : Int32) >>> ((0 : Int32) &&& 31))) ≤ 0 by decide) k hk
  rw [eJ_367_0, o348, h.1, decide_eq_true e, cond_true, eJ_367_38]
  exact wj_ret s EqX.rfl'
theorem w_370 {b : Nat} (h : SbQ Q b) (s : St T c Q I J D) : WJ 350 SL9 RL9 QD QJ T (some (.int 1)) I J D Q (ex (370, 0, [.ref 348], [], 350, SL9, RL9, ovr I Q, ovr J QJ, ovr D QD)) := by
  rw [eJ_370_0, o348, h.1, decide_eq_false (show ¬ ¬ (0 : Int32) = 0 from fun k => k rfl), cond_false, eJ_370_13]
  exact wj_ret s EqX.rfl'
theorem w_370p {b : Nat} (h : SbQ Q b) (s : St T c Q I J D) : WJ 351 SP9 RP9 QD QJ T (some (.int 1)) I J D Q (ex (370, 0, [.ref 348], [], 351, SP9, RP9, ovr I Q, ovr J QJ, ovr D QD)) := by
  rw [eJ_370_0x1, o348, h.1, decide_eq_false (show ¬ ¬ (0 : Int32) = 0 from fun k => k rfl), cond_false, eJ_370_13x1]
  exact wj_ret s EqX.rfl'
theorem w_359 (s : St T c Q I J D) (hq : Q 348 = fun _ => 0) : WJ 350 SL9 RL9 (upR QD 349 (fun _ => 0)) (upR QJ 349 (fun _ => 0)) T none I J D (ups (upR Q 349 (fun _ => 0)) 348 1 0) (ex (359, 0, [.ref 348], [], 349, SK9, RK9, ovr I Q, ovr J QJ, ovr D QD)) := by
  rw [eJ_359_0]
  refine goJ (n2 := 350) (S2 := SL9) (R2 := RL9) (QD2 := upR QD 349 (fun _ => 0)) (QJ2 := upR QJ 349 (fun _ => 0)) (x := none) (G := ups (upR Q 349 (fun _ => 0)) 348 1 0) (by decide) (by decide) rfl s (Nat.zero_le _) (fun Q1 T1 h1 s1 => ?_) (fun Q3 h3 s3 => ?_)
  · rw [eJ_364_0, upo_R (by decide), upo_R (by decide), upo_R (by decide), ovr_ups2 (by decide)]
    exact wj_ret (st_q s1 (by rw [w_un (by decide), upR_n (f := Q1) (by decide)])) (h1.upR rfl).ups
  · rw [kn, eJ_359_6]
    exact wj_ret s3 h3

set_option maxRecDepth 100000 in
theorem st_22 {n : Nat} {S : Nat → Nat × Nat} {R : Nat → Nat → Option Nat} {I : Nat → Nat → Int32} {J : Nat → Nat → Int64} {D : Nat → Nat → UInt64} {p q a0 a1 : Nat} {sp dp z x y : Int32} : st1 (375, 22, [.ref a0, .ref a1, .int x, .int y], [.int z, .int dp, .ref q, .int sp, .ref p], n, S, R, I, J, D) = bif (Nat.beq (S p).1 29 || Nat.beq (S p).1 44) && Nat.beq (S q).1 29 then
            gd ((decide (¬ sp < 0) && (decide (¬ dp < 0) && decide (¬ z < 0))) && ((Nat.ble (sp.toNatClampNeg + z.toNatClampNeg) (S p).2 && Nat.ble (dp.toNatClampNeg + z.toNatClampNeg) (S q).2) && (((Nat.blt p n || Nat.beq (S p).1 44) && Nat.blt q n) && (Nat.ble (csm []) 8 && (List.range z.toNatClampNeg).all (fun i => decide (0 ≤ (bif Nat.beq (S p).1 44 then sta p else I p) (sp.toNatClampNeg + i)) && decide ((bif Nat.beq (S p).1 44 then sta p else I p) (sp.toNatClampNeg + i) ≤ 127)))))) 375 25 [.ref a0, .ref a1, .int x, .int y] [] (n, S, R, upR I q (va_cpy (bif Nat.beq (S p).1 44 then sta p else I p) (I q) sp.toNatClampNeg dp.toNatClampNeg z.toNatClampNeg), J, D) else hl := rfl
set_option maxRecDepth 100000 in
theorem st_27 {n : Nat} {S : Nat → Nat × Nat} {R : Nat → Nat → Option Nat} {I : Nat → Nat → Int32} {J : Nat → Nat → Int64} {D : Nat → Nat → UInt64} {p q a0 a1 : Nat} {sp dp z x y v : Int32} : st1 (379, 27, [.ref a0, .int x, .int y, .int v, .ref a1], [.int z, .int dp, .ref q, .int sp, .ref p], n, S, R, I, J, D) = bif (Nat.beq (S p).1 29 || Nat.beq (S p).1 44) && Nat.beq (S q).1 29 then
            gd ((decide (¬ sp < 0) && (decide (¬ dp < 0) && decide (¬ z < 0))) && ((Nat.ble (sp.toNatClampNeg + z.toNatClampNeg) (S p).2 && Nat.ble (dp.toNatClampNeg + z.toNatClampNeg) (S q).2) && (((Nat.blt p n || Nat.beq (S p).1 44) && Nat.blt q n) && (Nat.ble (csm []) 8 && (List.range z.toNatClampNeg).all (fun i => decide (0 ≤ (bif Nat.beq (S p).1 44 then sta p else I p) (sp.toNatClampNeg + i)) && decide ((bif Nat.beq (S p).1 44 then sta p else I p) (sp.toNatClampNeg + i) ≤ 127)))))) 379 30 [.ref a0, .int x, .int y, .int v, .ref a1] [] (n, S, R, upR I q (va_cpy (bif Nat.beq (S p).1 44 then sta p else I p) (I q) sp.toNatClampNeg dp.toNatClampNeg z.toNatClampNeg), J, D) else hl := rfl
theorem w_312a : ex (312, 0, [.ref 1000048], [], 350, SL9, RL9, ovr I Q, ovr J QJ, ovr D QD) = some (.inl (some (.int (nI 9))), 350, SL9, RL9, ovr I Q, ovr J QJ, ovr D QD) := ex_some (n := 100) (by with_unfolding_all rfl)
theorem w_313a : ex (313, 0, [.ref 1000048], [], 350, SL9, RL9, ovr I Q, ovr J QJ, ovr D QD) = some (.inl (some (.int 0)), 350, SL9, RL9, ovr I Q, ovr J QJ, ovr D QD) := ex_some (n := 100) (by with_unfolding_all rfl)
theorem w_22a (hS : S 1000058 = (44, 9)) (h9 : S 349 = (29, 16)) {I : Nat → Nat → Int32} {J : Nat → Nat → Int64} {D : Nat → Nat → UInt64} : ex (375, 22, [.ref 1000048, .ref 349, .int 0, .int 0], [.int 9, .int 0, .ref 349, .int 0, .ref 1000058], 350, S, R, I, J, D) = ex (375, 25, [.ref 1000048, .ref 349, .int 0, .int 0], [], 350, S, R, upR I 349 (va_cpy (sta 1000058) (I 349) 0 0 9), J, D) := by
  have hb : ((decide (¬ (0 : Int32) < 0) && (decide (¬ (0 : Int32) < 0) && decide (¬ (9 : Int32) < 0))) && ((Nat.ble ((0 : Int32).toNatClampNeg + (9 : Int32).toNatClampNeg) 9 && Nat.ble ((0 : Int32).toNatClampNeg + (9 : Int32).toNatClampNeg) 16) && (((Nat.blt 1000058 350 || true) && Nat.blt 349 350) && (Nat.ble (csm []) 8 && (List.range (9 : Int32).toNatClampNeg).all (fun i => decide (0 ≤ sta 1000058 ((0 : Int32).toNatClampNeg + i)) && decide (sta 1000058 ((0 : Int32).toNatClampNeg + i) ≤ 127)))))) = true := by decide +kernel
  have e := st_22 (n := 350) (S := S) (R := R) (I := I) (J := J) (D := D) (p := 1000058) (q := 349) (a0 := 1000048) (a1 := 349) (sp := 0) (dp := 0) (z := 9) (x := 0) (y := 0)
  rw [hS, h9, show ((44, 9) : Nat × Nat).1 = 44 from rfl, show ((44, 9) : Nat × Nat).2 = 9 from rfl, show ((29, 16) : Nat × Nat).1 = 29 from rfl, show ((29, 16) : Nat × Nat).2 = 16 from rfl, show Nat.beq 44 44 = true from rfl, cond_true, show ((Nat.beq 44 29 || true) && Nat.beq 29 29) = true from rfl, cond_true, hb] at e
  rw [ex_fix, e]
  rfl
theorem w_375a (s : St T (c + 1) Q I J D) : WJ 350 SL9 RL9 QD QJ T none I J D (upR Q 349 (va_cpy (sta 1000058) (Q 349) 0 0 9)) (ex (375, 0, [.ref 1000048, .ref 349, .int 0, .int 0], [], 350, SL9, RL9, ovr I Q, ovr J QJ, ovr D QD)) := by
  rw [eJ_375_0]
  refine goS (by decide) rfl s (fun Q2 h2 => w_313a) (fun Q1 h1 s1 => ?_)
  rw [ka, eJ_375_4, decide_eq_false (show ¬ ¬ (0 : Int32) = 0 from fun k => k rfl), cond_false, eJ_375_8, show (0 : Int32) <<< ((0 : Int32) &&& 31) = 0 by decide, w_22a (show SL9 1000058 = (44, 9) by decide +kernel) (show SL9 349 = (29, 16) by decide +kernel), eJ_375_25, upo_R (by decide), ovr_o (by decide)]
  exact wj_ret (st_q s1 (by rw [upR_n (f := Q1) (by decide)])) ((show EqX Q Q1 from h1).upR (by rw [h1 349 (by decide)]))
theorem w_369a {b : Nat} (h : SbQ Q b) (s : St T (c + 1) Q I J D) : WJ 350 SL9 RL9 QD QJ T none I J D Q (ex (369, 0, [.ref 348, .ref 1000048], [], 350, SL9, RL9, ovr I Q, ovr J QJ, ovr D QD)) := by
  rw [eJ_369_0]
  refine goS (by decide) rfl s (fun Q2 h2 => w_313a) (fun Q1 h1 s1 => ?_)
  rw [ka, o348, h.1, eJ_369_14, decide_eq_true rfl, cond_true, eJ_369_21]
  exact wj_ret s1 h1
theorem w_372a {b : Nat} (h : SbQ Q b) (s : St T 2 Q I J D) : WJ 350 SL9 RL9 QD QJ T none I J D (upR Q 349 (va_cpy (sta 1000058) (Q 349) 0 0 9)) (ex (372, 0, [.ref 348, .int 0, .ref 1000048], [], 350, SL9, RL9, ovr I Q, ovr J QJ, ovr D QD)) := by
  rw [eJ_372_0]
  refine goJ (n2 := 350) (S2 := SL9) (R2 := RL9) (QD2 := QD) (QJ2 := QJ) (x := none) (G := Q) (by decide) (by decide) rfl s (by decide) (fun Q1 T1 h1 s1 => by have := w_369a (QD := QD) (QJ := QJ) (c := 0) (h.go h1) s1; exact wj_mono h1 this) (fun Q3 h3 s3 => ?_)
  rw [kn, eJ_372_5, o348, (h.go h3).1]
  have h39 : EqX Q Q3 := fun p hp => h3 p hp
  refine goJ (n2 := 350) (S2 := SL9) (R2 := RL9) (QD2 := QD) (QJ2 := QJ) (x := none) (G := upR Q 349 (va_cpy (sta 1000058) (Q 349) 0 0 9)) (by decide) (by decide) rfl s3 (by decide) (fun Q4 T4 h4 s4 => wj_mono ((EqX.tr h4 h3).upR (by rw [(EqX.tr h4 h3).atp])) (w_375a (c := 0) s4)) (fun Q5 h5 s5 => ?_)
  rw [kn, eJ_372_18]
  exact wj_ret s5 h5

theorem w_312b : ex (312, 0, [.ref 1000049], [], 350, SL9, RL9, ovr I Q, ovr J QJ, ovr D QD) = some (.inl (some (.int (nI 3))), 350, SL9, RL9, ovr I Q, ovr J QJ, ovr D QD) := ex_some (n := 100) (by with_unfolding_all rfl)
theorem w_313b : ex (313, 0, [.ref 1000049], [], 350, SL9, RL9, ovr I Q, ovr J QJ, ovr D QD) = some (.inl (some (.int 0)), 350, SL9, RL9, ovr I Q, ovr J QJ, ovr D QD) := ex_some (n := 100) (by with_unfolding_all rfl)
theorem w_22b (hS : S 1000059 = (44, 3)) (h9 : S 349 = (29, 16)) {I : Nat → Nat → Int32} {J : Nat → Nat → Int64} {D : Nat → Nat → UInt64} : ex (375, 22, [.ref 1000049, .ref 349, .int 10, .int 0], [.int 3, .int 10, .ref 349, .int 0, .ref 1000059], 350, S, R, I, J, D) = ex (375, 25, [.ref 1000049, .ref 349, .int 10, .int 0], [], 350, S, R, upR I 349 (va_cpy (sta 1000059) (I 349) 0 10 3), J, D) := by
  have hb : ((decide (¬ (0 : Int32) < 0) && (decide (¬ (10 : Int32) < 0) && decide (¬ (3 : Int32) < 0))) && ((Nat.ble ((0 : Int32).toNatClampNeg + (3 : Int32).toNatClampNeg) 3 && Nat.ble ((10 : Int32).toNatClampNeg + (3 : Int32).toNatClampNeg) 16) && (((Nat.blt 1000059 350 || true) && Nat.blt 349 350) && (Nat.ble (csm []) 8 && (List.range (3 : Int32).toNatClampNeg).all (fun i => decide (0 ≤ sta 1000059 ((0 : Int32).toNatClampNeg + i)) && decide (sta 1000059 ((0 : Int32).toNatClampNeg + i) ≤ 127)))))) = true := by decide +kernel
  have e := st_22 (n := 350) (S := S) (R := R) (I := I) (J := J) (D := D) (p := 1000059) (q := 349) (a0 := 1000049) (a1 := 349) (sp := 0) (dp := 10) (z := 3) (x := 10) (y := 0)
  rw [hS, h9, show ((44, 3) : Nat × Nat).1 = 44 from rfl, show ((44, 3) : Nat × Nat).2 = 3 from rfl, show ((29, 16) : Nat × Nat).1 = 29 from rfl, show ((29, 16) : Nat × Nat).2 = 16 from rfl, show Nat.beq 44 44 = true from rfl, cond_true, show ((Nat.beq 44 29 || true) && Nat.beq 29 29) = true from rfl, cond_true, hb] at e
  rw [ex_fix, e]
  rfl
theorem w_375b (s : St T (c + 1) Q I J D) : WJ 350 SL9 RL9 QD QJ T none I J D (upR Q 349 (va_cpy (sta 1000059) (Q 349) 0 10 3)) (ex (375, 0, [.ref 1000049, .ref 349, .int 10, .int 0], [], 350, SL9, RL9, ovr I Q, ovr J QJ, ovr D QD)) := by
  rw [eJ_375_0x1]
  refine goS (by decide) rfl s (fun Q2 h2 => w_313b) (fun Q1 h1 s1 => ?_)
  rw [ka, eJ_375_4x1, decide_eq_false (show ¬ ¬ (0 : Int32) = 0 from fun k => k rfl), cond_false, eJ_375_8x1, show (10 : Int32) <<< ((0 : Int32) &&& 31) = 10 by decide, w_22b (show SL9 1000059 = (44, 3) by decide +kernel) (show SL9 349 = (29, 16) by decide +kernel), eJ_375_25x1, upo_R (by decide), ovr_o (by decide)]
  exact wj_ret (st_q s1 (by rw [upR_n (f := Q1) (by decide)])) ((show EqX Q Q1 from h1).upR (by rw [h1 349 (by decide)]))
theorem w_369b {b : Nat} (h : SbQ Q b) (s : St T (c + 1) Q I J D) : WJ 350 SL9 RL9 QD QJ T none I J D Q (ex (369, 0, [.ref 348, .ref 1000049], [], 350, SL9, RL9, ovr I Q, ovr J QJ, ovr D QD)) := by
  rw [eJ_369_0x1]
  refine goS (by decide) rfl s (fun Q2 h2 => w_313b) (fun Q1 h1 s1 => ?_)
  rw [ka, o348, h.1, eJ_369_14, decide_eq_true rfl, cond_true, eJ_369_21]
  exact wj_ret s1 h1
theorem w_372b {b : Nat} (h : SbQ Q b) (s : St T 2 Q I J D) : WJ 350 SL9 RL9 QD QJ T none I J D (upR Q 349 (va_cpy (sta 1000059) (Q 349) 0 10 3)) (ex (372, 0, [.ref 348, .int 10, .ref 1000049], [], 350, SL9, RL9, ovr I Q, ovr J QJ, ovr D QD)) := by
  rw [eJ_372_0x1]
  refine goJ (n2 := 350) (S2 := SL9) (R2 := RL9) (QD2 := QD) (QJ2 := QJ) (x := none) (G := Q) (by decide) (by decide) rfl s (by decide) (fun Q1 T1 h1 s1 => by have := w_369b (QD := QD) (QJ := QJ) (c := 0) (h.go h1) s1; exact wj_mono h1 this) (fun Q3 h3 s3 => ?_)
  rw [kn, eJ_372_5x1, o348, (h.go h3).1]
  have h39 : EqX Q Q3 := fun p hp => h3 p hp
  refine goJ (n2 := 350) (S2 := SL9) (R2 := RL9) (QD2 := QD) (QJ2 := QJ) (x := none) (G := upR Q 349 (va_cpy (sta 1000059) (Q 349) 0 10 3)) (by decide) (by decide) rfl s3 (by decide) (fun Q4 T4 h4 s4 => wj_mono ((EqX.tr h4 h3).upR (by rw [(EqX.tr h4 h3).atp])) (w_375b (c := 0) s4)) (fun Q5 h5 s5 => ?_)
  rw [kn, eJ_372_18]
  exact wj_ret s5 h5

theorem w_312c : ex (312, 0, [.ref 1000060], [], 350, SL9, RL9, ovr I Q, ovr J QJ, ovr D QD) = some (.inl (some (.int (nI 1))), 350, SL9, RL9, ovr I Q, ovr J QJ, ovr D QD) := ex_some (n := 100) (by with_unfolding_all rfl)
theorem w_313c : ex (313, 0, [.ref 1000060], [], 350, SL9, RL9, ovr I Q, ovr J QJ, ovr D QD) = some (.inl (some (.int 0)), 350, SL9, RL9, ovr I Q, ovr J QJ, ovr D QD) := ex_some (n := 100) (by with_unfolding_all rfl)
theorem w_22c (hS : S 1000070 = (44, 1)) (h9 : S 349 = (29, 16)) {I : Nat → Nat → Int32} {J : Nat → Nat → Int64} {D : Nat → Nat → UInt64} : ex (375, 22, [.ref 1000060, .ref 349, .int 14, .int 0], [.int 1, .int 14, .ref 349, .int 0, .ref 1000070], 350, S, R, I, J, D) = ex (375, 25, [.ref 1000060, .ref 349, .int 14, .int 0], [], 350, S, R, upR I 349 (va_cpy (sta 1000070) (I 349) 0 14 1), J, D) := by
  have hb : ((decide (¬ (0 : Int32) < 0) && (decide (¬ (14 : Int32) < 0) && decide (¬ (1 : Int32) < 0))) && ((Nat.ble ((0 : Int32).toNatClampNeg + (1 : Int32).toNatClampNeg) 1 && Nat.ble ((14 : Int32).toNatClampNeg + (1 : Int32).toNatClampNeg) 16) && (((Nat.blt 1000070 350 || true) && Nat.blt 349 350) && (Nat.ble (csm []) 8 && (List.range (1 : Int32).toNatClampNeg).all (fun i => decide (0 ≤ sta 1000070 ((0 : Int32).toNatClampNeg + i)) && decide (sta 1000070 ((0 : Int32).toNatClampNeg + i) ≤ 127)))))) = true := by decide +kernel
  have e := st_22 (n := 350) (S := S) (R := R) (I := I) (J := J) (D := D) (p := 1000070) (q := 349) (a0 := 1000060) (a1 := 349) (sp := 0) (dp := 14) (z := 1) (x := 14) (y := 0)
  rw [hS, h9, show ((44, 1) : Nat × Nat).1 = 44 from rfl, show ((44, 1) : Nat × Nat).2 = 1 from rfl, show ((29, 16) : Nat × Nat).1 = 29 from rfl, show ((29, 16) : Nat × Nat).2 = 16 from rfl, show Nat.beq 44 44 = true from rfl, cond_true, show ((Nat.beq 44 29 || true) && Nat.beq 29 29) = true from rfl, cond_true, hb] at e
  rw [ex_fix, e]
  rfl
theorem w_375c (s : St T (c + 1) Q I J D) : WJ 350 SL9 RL9 QD QJ T none I J D (upR Q 349 (va_cpy (sta 1000070) (Q 349) 0 14 1)) (ex (375, 0, [.ref 1000060, .ref 349, .int 14, .int 0], [], 350, SL9, RL9, ovr I Q, ovr J QJ, ovr D QD)) := by
  rw [eJ_375_0x2]
  refine goS (by decide) rfl s (fun Q2 h2 => w_313c) (fun Q1 h1 s1 => ?_)
  rw [ka, eJ_375_4x2, decide_eq_false (show ¬ ¬ (0 : Int32) = 0 from fun k => k rfl), cond_false, eJ_375_8x2, show (14 : Int32) <<< ((0 : Int32) &&& 31) = 14 by decide, w_22c (show SL9 1000070 = (44, 1) by decide +kernel) (show SL9 349 = (29, 16) by decide +kernel), eJ_375_25x2, upo_R (by decide), ovr_o (by decide)]
  exact wj_ret (st_q s1 (by rw [upR_n (f := Q1) (by decide)])) ((show EqX Q Q1 from h1).upR (by rw [h1 349 (by decide)]))
theorem w_369c {b : Nat} (h : SbQ Q b) (s : St T (c + 1) Q I J D) : WJ 350 SL9 RL9 QD QJ T none I J D Q (ex (369, 0, [.ref 348, .ref 1000060], [], 350, SL9, RL9, ovr I Q, ovr J QJ, ovr D QD)) := by
  rw [eJ_369_0x2]
  refine goS (by decide) rfl s (fun Q2 h2 => w_313c) (fun Q1 h1 s1 => ?_)
  rw [ka, o348, h.1, eJ_369_14, decide_eq_true rfl, cond_true, eJ_369_21]
  exact wj_ret s1 h1
theorem w_372c {b : Nat} (h : SbQ Q b) (s : St T 2 Q I J D) : WJ 350 SL9 RL9 QD QJ T none I J D (upR Q 349 (va_cpy (sta 1000070) (Q 349) 0 14 1)) (ex (372, 0, [.ref 348, .int 14, .ref 1000060], [], 350, SL9, RL9, ovr I Q, ovr J QJ, ovr D QD)) := by
  rw [eJ_372_0x2]
  refine goJ (n2 := 350) (S2 := SL9) (R2 := RL9) (QD2 := QD) (QJ2 := QJ) (x := none) (G := Q) (by decide) (by decide) rfl s (by decide) (fun Q1 T1 h1 s1 => by have := w_369c (QD := QD) (QJ := QJ) (c := 0) (h.go h1) s1; exact wj_mono h1 this) (fun Q3 h3 s3 => ?_)
  rw [kn, eJ_372_5x2, o348, (h.go h3).1]
  have h39 : EqX Q Q3 := fun p hp => h3 p hp
  refine goJ (n2 := 350) (S2 := SL9) (R2 := RL9) (QD2 := QD) (QJ2 := QJ) (x := none) (G := upR Q 349 (va_cpy (sta 1000070) (Q 349) 0 14 1)) (by decide) (by decide) rfl s3 (by decide) (fun Q4 T4 h4 s4 => wj_mono ((EqX.tr h4 h3).upR (by rw [(EqX.tr h4 h3).atp])) (w_375c (c := 0) s4)) (fun Q5 h5 s5 => ?_)
  rw [kn, eJ_372_18]
  exact wj_ret s5 h5

end JW
