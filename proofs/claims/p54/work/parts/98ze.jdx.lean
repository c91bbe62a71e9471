/-! the JDK's texts: append and toString -/
section JX
variable {QD : Nat → Nat → UInt64} {Q : Nat → Nat → Int32} {QJ : Nat → Nat → Int64} {I : Nat → Nat → Int32} {J : Nat → Nat → Int64} {D : Nat → Nat → UInt64}
variable {T c : Nat}
theorem krf {p : Nat} {st : List Value} : (some (Value.ref p)).toList ++ st = .ref p :: st := rfl
theorem upR_u {α : Type} {F : Nat → α} {p : Nat} {f g : α} : upR (upR F p f) p g = upR F p g := by
  funext q
  by_cases h : q = p
  · subst h; rw [upR_s, upR_s]
  · rw [upR_n (f := upR F p f) h, upR_n (f := F) h, upR_n (f := F) h]
theorem sbq_R {n p : Nat} {f : Nat → Int32} (hp : p ≠ 348) (h : SbQ Q n) : SbQ (upR Q p f) n := by unfold SbQ; rw [upR_n (f := Q) (Ne.symm hp)]; exact h
theorem sbq_u {n p k : Nat} {f : Int32} (hp : p ≠ 348) (h : SbQ Q n) : SbQ (ups Q p k f) n := by unfold SbQ; rw [w_un (Ne.symm hp)]; exact h

theorem w_365a (h : SbQ Q 0) (s : St T 3 Q I J D) : WJ 350 SL9 RL9 QD QJ T (some (.ref 348)) I J D (ups (upR Q 349 (va_cpy (sta 1000058) (Q 349) 0 0 9)) 348 3 (nI 9)) (ex (365, 0, [.ref 348, .ref 1000048, dv], [], 350, SL9, RL9, ovr I Q, ovr J QJ, ovr D QD)) := by
  rw [eJ_365_0]
  refine goS (c := 2) (by decide) rfl s (fun Q2 h2 => w_312a) (fun Q1 h1 s1 => ?_)
  have hx1 : EqX Q Q1 := h1
  have b1 := h.go hx1
  rw [ka, eJ_365_13, o348, b1.2, show nI 0 + nI 9 = nI 9 from by decide]
  refine goJ (n2 := 350) (S2 := SL9) (R2 := RL9) (QD2 := QD) (QJ2 := QJ) (x := none) (G := Q) (by decide) (by decide) rfl s1 (by decide) (fun Q2 T1 h2 s2 => wj_mono (EqX.tr h2 hx1) (w_367 (k := 9) (by decide) (b1.go h2) s2)) (fun Q3 h3 s3 => ?_)
  rw [kn, eJ_365_24, o348, (h.go h3).2, show nI 0 = 0 from rfl]
  refine goJ (n2 := 350) (S2 := SL9) (R2 := RL9) (QD2 := QD) (QJ2 := QJ) (x := none) (G := upR Q 349 (va_cpy (sta 1000058) (Q 349) 0 0 9)) (by decide) (by decide) rfl s3 (by decide) (fun Q4 T1 h4 s4 => wj_mono ((EqX.tr h4 h3).upR (by rw [(EqX.tr h4 h3).atp])) (w_372a (h.go (EqX.tr h4 h3)) s4)) (fun Q5 h5 s5 => ?_)
  have b5 : SbQ Q5 0 := (sbq_R (by decide) h).go h5
  rw [kn, eJ_365_33, o348, b5.2, show nI 0 + nI 9 = nI 9 from by decide, ovr_ups2 (by decide)]
  exact wj_ret (st_q s5 (by rw [w_un (by decide)])) h5.ups
theorem w_360a (h : SbQ Q 0) (s : St T 3 Q I J D) : WJ 350 SL9 RL9 QD QJ T (some (.ref 348)) I J D (ups (upR Q 349 (va_cpy (sta 1000058) (Q 349) 0 0 9)) 348 3 (nI 9)) (ex (360, 0, [.ref 348, .ref 1000048], [], 350, SL9, RL9, ovr I Q, ovr J QJ, ovr D QD)) := by
  rw [eJ_360_0]
  refine goJ (n2 := 350) (S2 := SL9) (R2 := RL9) (QD2 := QD) (QJ2 := QJ) (x := some (.ref 348)) (G := ups (upR Q 349 (va_cpy (sta 1000058) (Q 349) 0 0 9)) 348 3 (nI 9)) (by decide) (by decide) rfl s (by decide) (fun Q4 T1 h4 s4 => wj_mono ((h4.upR (by rw [h4.atp])).ups) (w_365a (h.go h4) s4)) (fun Q5 h5 s5 => ?_)
  rw [krf, eJ_360_5]
  exact wj_ret s5 h5

theorem w_365b (h : SbQ Q 10) (s : St T 3 Q I J D) : WJ 350 SL9 RL9 QD QJ T (some (.ref 348)) I J D (ups (upR Q 349 (va_cpy (sta 1000059) (Q 349) 0 10 3)) 348 3 (nI 13)) (ex (365, 0, [.ref 348, .ref 1000049, dv], [], 350, SL9, RL9, ovr I Q, ovr J QJ, ovr D QD)) := by
  rw [eJ_365_0x1]
  refine goS (c := 2) (by decide) rfl s (fun Q2 h2 => w_312b) (fun Q1 h1 s1 => ?_)
  have hx1 : EqX Q Q1 := h1
  have b1 := h.go hx1
  rw [ka, eJ_365_13x1, o348, b1.2, show nI 10 + nI 3 = nI 13 from by decide]
  refine goJ (n2 := 350) (S2 := SL9) (R2 := RL9) (QD2 := QD) (QJ2 := QJ) (x := none) (G := Q) (by decide) (by decide) rfl s1 (by decide) (fun Q2 T1 h2 s2 => wj_mono (EqX.tr h2 hx1) (w_367 (k := 13) (by decide) (b1.go h2) s2)) (fun Q3 h3 s3 => ?_)
  rw [kn, eJ_365_24x1, o348, (h.go h3).2, show nI 10 = 10 from rfl]
  refine goJ (n2 := 350) (S2 := SL9) (R2 := RL9) (QD2 := QD) (QJ2 := QJ) (x := none) (G := upR Q 349 (va_cpy (sta 1000059) (Q 349) 0 10 3)) (by decide) (by decide) rfl s3 (by decide) (fun Q4 T1 h4 s4 => wj_mono ((EqX.tr h4 h3).upR (by rw [(EqX.tr h4 h3).atp])) (w_372b (h.go (EqX.tr h4 h3)) s4)) (fun Q5 h5 s5 => ?_)
  have b5 : SbQ Q5 10 := (sbq_R (by decide) h).go h5
  rw [kn, eJ_365_33, o348, b5.2, show nI 10 + nI 3 = nI 13 from by decide, ovr_ups2 (by decide)]
  exact wj_ret (st_q s5 (by rw [w_un (by decide)])) h5.ups
theorem w_360b (h : SbQ Q 10) (s : St T 3 Q I J D) : WJ 350 SL9 RL9 QD QJ T (some (.ref 348)) I J D (ups (upR Q 349 (va_cpy (sta 1000059) (Q 349) 0 10 3)) 348 3 (nI 13)) (ex (360, 0, [.ref 348, .ref 1000049], [], 350, SL9, RL9, ovr I Q, ovr J QJ, ovr D QD)) := by
  rw [eJ_360_0x1]
  refine goJ (n2 := 350) (S2 := SL9) (R2 := RL9) (QD2 := QD) (QJ2 := QJ) (x := some (.ref 348)) (G := ups (upR Q 349 (va_cpy (sta 1000059) (Q 349) 0 10 3)) 348 3 (nI 13)) (by decide) (by decide) rfl s (by decide) (fun Q4 T1 h4 s4 => wj_mono ((h4.upR (by rw [h4.atp])).ups) (w_365b (h.go h4) s4)) (fun Q5 h5 s5 => ?_)
  rw [krf, eJ_360_5]
  exact wj_ret s5 h5

theorem w_365c (h : SbQ Q 14) (s : St T 3 Q I J D) : WJ 350 SL9 RL9 QD QJ T (some (.ref 348)) I J D (ups (upR Q 349 (va_cpy (sta 1000070) (Q 349) 0 14 1)) 348 3 (nI 15)) (ex (365, 0, [.ref 348, .ref 1000060, dv], [], 350, SL9, RL9, ovr I Q, ovr J QJ, ovr D QD)) := by
  rw [eJ_365_0x2]
  refine goS (c := 2) (by decide) rfl s (fun Q2 h2 => w_312c) (fun Q1 h1 s1 => ?_)
  have hx1 : EqX Q Q1 := h1
  have b1 := h.go hx1
  rw [ka, eJ_365_13x2, o348, b1.2, show nI 14 + nI 1 = nI 15 from by decide]
  refine goJ (n2 := 350) (S2 := SL9) (R2 := RL9) (QD2 := QD) (QJ2 := QJ) (x := none) (G := Q) (by decide) (by decide) rfl s1 (by decide) (fun Q2 T1 h2 s2 => wj_mono (EqX.tr h2 hx1) (w_367 (k := 15) (by decide) (b1.go h2) s2)) (fun Q3 h3 s3 => ?_)
  rw [kn, eJ_365_24x2, o348, (h.go h3).2, show nI 14 = 14 from rfl]
  refine goJ (n2 := 350) (S2 := SL9) (R2 := RL9) (QD2 := QD) (QJ2 := QJ) (x := none) (G := upR Q 349 (va_cpy (sta 1000070) (Q 349) 0 14 1)) (by decide) (by decide) rfl s3 (by decide) (fun Q4 T1 h4 s4 => wj_mono ((EqX.tr h4 h3).upR (by rw [(EqX.tr h4 h3).atp])) (w_372c (h.go (EqX.tr h4 h3)) s4)) (fun Q5 h5 s5 => ?_)
  have b5 : SbQ Q5 14 := (sbq_R (by decide) h).go h5
  rw [kn, eJ_365_33, o348, b5.2, show nI 14 + nI 1 = nI 15 from by decide, ovr_ups2 (by decide)]
  exact wj_ret (st_q s5 (by rw [w_un (by decide)])) h5.ups
theorem w_360c (h : SbQ Q 14) (s : St T 3 Q I J D) : WJ 350 SL9 RL9 QD QJ T (some (.ref 348)) I J D (ups (upR Q 349 (va_cpy (sta 1000070) (Q 349) 0 14 1)) 348 3 (nI 15)) (ex (360, 0, [.ref 348, .ref 1000060], [], 350, SL9, RL9, ovr I Q, ovr J QJ, ovr D QD)) := by
  rw [eJ_360_0x2]
  refine goJ (n2 := 350) (S2 := SL9) (R2 := RL9) (QD2 := QD) (QJ2 := QJ) (x := some (.ref 348)) (G := ups (upR Q 349 (va_cpy (sta 1000070) (Q 349) 0 14 1)) 348 3 (nI 15)) (by decide) (by decide) rfl s (by decide) (fun Q4 T1 h4 s4 => wj_mono ((h4.upR (by rw [h4.atp])).ups) (w_365c (h.go h4) s4)) (fun Q5 h5 s5 => ?_)
  rw [krf, eJ_360_5]
  exact wj_ret s5 h5

set_option maxRecDepth 100000 in
theorem p_376_1 {I : Nat → Nat → Int32} {J : Nat → Nat → Int64} {D : Nat → Nat → UInt64} : ex (376, 0, [.int 1, dv, dv, dv], [], 350, SL9, RL9, I, J, D) = some (.inl (some (.int 1)), 350, SL9, RL9, I, J, D) := ex_some (n := 60) (by with_unfolding_all rfl)
set_option maxRecDepth 100000 in
theorem p_377_d0 {I : Nat → Nat → Int32} {J : Nat → Nat → Int64} {D : Nat → Nat → UInt64} : ex (377, 0, [.int 1, .int 10, .ref 349, dv, dv, dv, dv], [], 350, SL9, RL9, I, J, D) = some (.inl (some (.int 9)), 350, SL9, RL9, ups I 349 9 49, J, D) := ex_some (n := 80) (by with_unfolding_all rfl)
theorem w_366d0 (h : SbQ Q 9) (s : St T c Q I J D) : WJ 350 SL9 RL9 QD QJ T (some (.ref 348)) I J D (ups (ups Q 349 9 49) 348 3 (nI 10)) (ex (366, 0, [.ref 348, .int 1, dv, dv], [], 350, SL9, RL9, ovr I Q, ovr J QJ, ovr D QD)) := by
  rw [eJ_366_0]
  refine goJ (n2 := 350) (S2 := SL9) (R2 := RL9) (QD2 := QD) (QJ2 := QJ) (x := some (.int 1)) (G := Q) (by decide) (by decide) rfl s (Nat.zero_le _) (fun Q2 T1 h2 s2 => by rw [p_376_1]; exact wj_ret s2 h2) (fun Q1 h1 s1 => ?_)
  rw [ka, eJ_366_10, o348, h.2, show nI 9 + 1 = nI 10 from by decide]
  refine goJ (n2 := 350) (S2 := SL9) (R2 := RL9) (QD2 := QD) (QJ2 := QJ) (x := none) (G := Q) (by decide) (by decide) rfl s1 (Nat.zero_le _) (fun Q2 T1 h2 s2 => wj_mono (EqX.tr h2 h1) (w_367 (k := 10) (by decide) (h.go (EqX.tr h2 h1)) s2)) (fun Q3 h3 s3 => ?_)
  rw [kn, eJ_366_17]
  refine goJ (n2 := 350) (S2 := SL9) (R2 := RL9) (QD2 := QD) (QJ2 := QJ) (x := some (.int 1)) (G := Q) (by decide) (by decide) rfl s3 (Nat.zero_le _) (fun Q2 T1 h2 s2 => wj_mono (EqX.tr h2 h3) (w_370 (h.go (EqX.tr h2 h3)) s2)) (fun Q4 h4 s4 => ?_)
  rw [ka, eJ_366_21, decide_eq_false (show ¬ (1 : Int32) = 0 by decide), cond_false, eJ_366_24, show nI 10 = 10 from rfl]
  refine goJ (n2 := 350) (S2 := SL9) (R2 := RL9) (QD2 := QD) (QJ2 := QJ) (x := some (.int 9)) (G := ups Q 349 9 49) (by decide) (by decide) rfl s4 (Nat.zero_le _) (fun Q2 T1 h2 s2 => by rw [p_377_d0, ovr_ups2 (by decide)]; exact wj_ret (st_q s2 (by rw [w_un (by decide)])) (EqX.tr h2 h4).ups) (fun Q5 h5 s5 => ?_)
  rw [ka, eJ_366_33, ovr_ups2 (by decide)]
  exact wj_ret (st_q s5 (by rw [w_un (by decide)])) h5.ups
theorem w_361d0 (h : SbQ Q 9) (s : St T c Q I J D) : WJ 350 SL9 RL9 QD QJ T (some (.ref 348)) I J D (ups (ups Q 349 9 49) 348 3 (nI 10)) (ex (361, 0, [.ref 348, .int 1], [], 350, SL9, RL9, ovr I Q, ovr J QJ, ovr D QD)) := by
  rw [eJ_361_0]
  refine goJ (n2 := 350) (S2 := SL9) (R2 := RL9) (QD2 := QD) (QJ2 := QJ) (x := some (.ref 348)) (G := ups (ups Q 349 9 49) 348 3 (nI 10)) (by decide) (by decide) rfl s (Nat.zero_le _) (fun Q4 T1 h4 s4 => wj_mono (h4.ups.ups) (w_366d0 (h.go h4) s4)) (fun Q5 h5 s5 => ?_)
  rw [krf, eJ_361_5]
  exact wj_ret s5 h5

set_option maxRecDepth 100000 in
theorem p_376_2 {I : Nat → Nat → Int32} {J : Nat → Nat → Int64} {D : Nat → Nat → UInt64} : ex (376, 0, [.int 2, dv, dv, dv], [], 350, SL9, RL9, I, J, D) = some (.inl (some (.int 1)), 350, SL9, RL9, I, J, D) := ex_some (n := 60) (by with_unfolding_all rfl)
set_option maxRecDepth 100000 in
theorem p_377_d1 {I : Nat → Nat → Int32} {J : Nat → Nat → Int64} {D : Nat → Nat → UInt64} : ex (377, 0, [.int 2, .int 10, .ref 349, dv, dv, dv, dv], [], 350, SL9, RL9, I, J, D) = some (.inl (some (.int 9)), 350, SL9, RL9, ups I 349 9 50, J, D) := ex_some (n := 80) (by with_unfolding_all rfl)
theorem w_366d1 (h : SbQ Q 9) (s : St T c Q I J D) : WJ 350 SL9 RL9 QD QJ T (some (.ref 348)) I J D (ups (ups Q 349 9 50) 348 3 (nI 10)) (ex (366, 0, [.ref 348, .int 2, dv, dv], [], 350, SL9, RL9, ovr I Q, ovr J QJ, ovr D QD)) := by
  rw [eJ_366_0]
  refine goJ (n2 := 350) (S2 := SL9) (R2 := RL9) (QD2 := QD) (QJ2 := QJ) (x := some (.int 1)) (G := Q) (by decide) (by decide) rfl s (Nat.zero_le _) (fun Q2 T1 h2 s2 => by rw [p_376_2]; exact wj_ret s2 h2) (fun Q1 h1 s1 => ?_)
  rw [ka, eJ_366_10, o348, h.2, show nI 9 + 1 = nI 10 from by decide]
  refine goJ (n2 := 350) (S2 := SL9) (R2 := RL9) (QD2 := QD) (QJ2 := QJ) (x := none) (G := Q) (by decide) (by decide) rfl s1 (Nat.zero_le _) (fun Q2 T1 h2 s2 => wj_mono (EqX.tr h2 h1) (w_367 (k := 10) (by decide) (h.go (EqX.tr h2 h1)) s2)) (fun Q3 h3 s3 => ?_)
  rw [kn, eJ_366_17]
  refine goJ (n2 := 350) (S2 := SL9) (R2 := RL9) (QD2 := QD) (QJ2 := QJ) (x := some (.int 1)) (G := Q) (by decide) (by decide) rfl s3 (Nat.zero_le _) (fun Q2 T1 h2 s2 => wj_mono (EqX.tr h2 h3) (w_370 (h.go (EqX.tr h2 h3)) s2)) (fun Q4 h4 s4 => ?_)
  rw [ka, eJ_366_21, decide_eq_false (show ¬ (1 : Int32) = 0 by decide), cond_false, eJ_366_24, show nI 10 = 10 from rfl]
  refine goJ (n2 := 350) (S2 := SL9) (R2 := RL9) (QD2 := QD) (QJ2 := QJ) (x := some (.int 9)) (G := ups Q 349 9 50) (by decide) (by decide) rfl s4 (Nat.zero_le _) (fun Q2 T1 h2 s2 => by rw [p_377_d1, ovr_ups2 (by decide)]; exact wj_ret (st_q s2 (by rw [w_un (by decide)])) (EqX.tr h2 h4).ups) (fun Q5 h5 s5 => ?_)
  rw [ka, eJ_366_33, ovr_ups2 (by decide)]
  exact wj_ret (st_q s5 (by rw [w_un (by decide)])) h5.ups
theorem w_361d1 (h : SbQ Q 9) (s : St T c Q I J D) : WJ 350 SL9 RL9 QD QJ T (some (.ref 348)) I J D (ups (ups Q 349 9 50) 348 3 (nI 10)) (ex (361, 0, [.ref 348, .int 2], [], 350, SL9, RL9, ovr I Q, ovr J QJ, ovr D QD)) := by
  rw [eJ_361_0]
  refine goJ (n2 := 350) (S2 := SL9) (R2 := RL9) (QD2 := QD) (QJ2 := QJ) (x := some (.ref 348)) (G := ups (ups Q 349 9 50) 348 3 (nI 10)) (by decide) (by decide) rfl s (Nat.zero_le _) (fun Q4 T1 h4 s4 => wj_mono (h4.ups.ups) (w_366d1 (h.go h4) s4)) (fun Q5 h5 s5 => ?_)
  rw [krf, eJ_361_5]
  exact wj_ret s5 h5

set_option maxRecDepth 100000 in
theorem p_376_3 {I : Nat → Nat → Int32} {J : Nat → Nat → Int64} {D : Nat → Nat → UInt64} : ex (376, 0, [.int 3, dv, dv, dv], [], 350, SL9, RL9, I, J, D) = some (.inl (some (.int 1)), 350, SL9, RL9, I, J, D) := ex_some (n := 60) (by with_unfolding_all rfl)
set_option maxRecDepth 100000 in
theorem p_377_d2 {I : Nat → Nat → Int32} {J : Nat → Nat → Int64} {D : Nat → Nat → UInt64} : ex (377, 0, [.int 3, .int 10, .ref 349, dv, dv, dv, dv], [], 350, SL9, RL9, I, J, D) = some (.inl (some (.int 9)), 350, SL9, RL9, ups I 349 9 51, J, D) := ex_some (n := 80) (by with_unfolding_all rfl)
theorem w_366d2 (h : SbQ Q 9) (s : St T c Q I J D) : WJ 350 SL9 RL9 QD QJ T (some (.ref 348)) I J D (ups (ups Q 349 9 51) 348 3 (nI 10)) (ex (366, 0, [.ref 348, .int 3, dv, dv], [], 350, SL9, RL9, ovr I Q, ovr J QJ, ovr D QD)) := by
  rw [eJ_366_0]
  refine goJ (n2 := 350) (S2 := SL9) (R2 := RL9) (QD2 := QD) (QJ2 := QJ) (x := some (.int 1)) (G := Q) (by decide) (by decide) rfl s (Nat.zero_le _) (fun Q2 T1 h2 s2 => by rw [p_376_3]; exact wj_ret s2 h2) (fun Q1 h1 s1 => ?_)
  rw [ka, eJ_366_10, o348, h.2, show nI 9 + 1 = nI 10 from by decide]
  refine goJ (n2 := 350) (S2 := SL9) (R2 := RL9) (QD2 := QD) (QJ2 := QJ) (x := none) (G := Q) (by decide) (by decide) rfl s1 (Nat.zero_le _) (fun Q2 T1 h2 s2 => wj_mono (EqX.tr h2 h1) (w_367 (k := 10) (by decide) (h.go (EqX.tr h2 h1)) s2)) (fun Q3 h3 s3 => ?_)
  rw [kn, eJ_366_17]
  refine goJ (n2 := 350) (S2 := SL9) (R2 := RL9) (QD2 := QD) (QJ2 := QJ) (x := some (.int 1)) (G := Q) (by decide) (by decide) rfl s3 (Nat.zero_le _) (fun Q2 T1 h2 s2 => wj_mono (EqX.tr h2 h3) (w_370 (h.go (EqX.tr h2 h3)) s2)) (fun Q4 h4 s4 => ?_)
  rw [ka, eJ_366_21, decide_eq_false (show ¬ (1 : Int32) = 0 by decide), cond_false, eJ_366_24, show nI 10 = 10 from rfl]
  refine goJ (n2 := 350) (S2 := SL9) (R2 := RL9) (QD2 := QD) (QJ2 := QJ) (x := some (.int 9)) (G := ups Q 349 9 51) (by decide) (by decide) rfl s4 (Nat.zero_le _) (fun Q2 T1 h2 s2 => by rw [p_377_d2, ovr_ups2 (by decide)]; exact wj_ret (st_q s2 (by rw [w_un (by decide)])) (EqX.tr h2 h4).ups) (fun Q5 h5 s5 => ?_)
  rw [ka, eJ_366_33, ovr_ups2 (by decide)]
  exact wj_ret (st_q s5 (by rw [w_un (by decide)])) h5.ups
theorem w_361d2 (h : SbQ Q 9) (s : St T c Q I J D) : WJ 350 SL9 RL9 QD QJ T (some (.ref 348)) I J D (ups (ups Q 349 9 51) 348 3 (nI 10)) (ex (361, 0, [.ref 348, .int 3], [], 350, SL9, RL9, ovr I Q, ovr J QJ, ovr D QD)) := by
  rw [eJ_361_0]
  refine goJ (n2 := 350) (S2 := SL9) (R2 := RL9) (QD2 := QD) (QJ2 := QJ) (x := some (.ref 348)) (G := ups (ups Q 349 9 51) 348 3 (nI 10)) (by decide) (by decide) rfl s (Nat.zero_le _) (fun Q4 T1 h4 s4 => wj_mono (h4.ups.ups) (w_366d2 (h.go h4) s4)) (fun Q5 h5 s5 => ?_)
  rw [krf, eJ_361_5]
  exact wj_ret s5 h5

set_option maxRecDepth 100000 in
theorem p_376_4 {I : Nat → Nat → Int32} {J : Nat → Nat → Int64} {D : Nat → Nat → UInt64} : ex (376, 0, [.int 4, dv, dv, dv], [], 350, SL9, RL9, I, J, D) = some (.inl (some (.int 1)), 350, SL9, RL9, I, J, D) := ex_some (n := 60) (by with_unfolding_all rfl)
set_option maxRecDepth 100000 in
theorem p_377_d3 {I : Nat → Nat → Int32} {J : Nat → Nat → Int64} {D : Nat → Nat → UInt64} : ex (377, 0, [.int 4, .int 10, .ref 349, dv, dv, dv, dv], [], 350, SL9, RL9, I, J, D) = some (.inl (some (.int 9)), 350, SL9, RL9, ups I 349 9 52, J, D) := ex_some (n := 80) (by with_unfolding_all rfl)
theorem w_366d3 (h : SbQ Q 9) (s : St T c Q I J D) : WJ 350 SL9 RL9 QD QJ T (some (.ref 348)) I J D (ups (ups Q 349 9 52) 348 3 (nI 10)) (ex (366, 0, [.ref 348, .int 4, dv, dv], [], 350, SL9, RL9, ovr I Q, ovr J QJ, ovr D QD)) := by
  rw [eJ_366_0]
  refine goJ (n2 := 350) (S2 := SL9) (R2 := RL9) (QD2 := QD) (QJ2 := QJ) (x := some (.int 1)) (G := Q) (by decide) (by decide) rfl s (Nat.zero_le _) (fun Q2 T1 h2 s2 => by rw [p_376_4]; exact wj_ret s2 h2) (fun Q1 h1 s1 => ?_)
  rw [ka, eJ_366_10, o348, h.2, show nI 9 + 1 = nI 10 from by decide]
  refine goJ (n2 := 350) (S2 := SL9) (R2 := RL9) (QD2 := QD) (QJ2 := QJ) (x := none) (G := Q) (by decide) (by decide) rfl s1 (Nat.zero_le _) (fun Q2 T1 h2 s2 => wj_mono (EqX.tr h2 h1) (w_367 (k := 10) (by decide) (h.go (EqX.tr h2 h1)) s2)) (fun Q3 h3 s3 => ?_)
  rw [kn, eJ_366_17]
  refine goJ (n2 := 350) (S2 := SL9) (R2 := RL9) (QD2 := QD) (QJ2 := QJ) (x := some (.int 1)) (G := Q) (by decide) (by decide) rfl s3 (Nat.zero_le _) (fun Q2 T1 h2 s2 => wj_mono (EqX.tr h2 h3) (w_370 (h.go (EqX.tr h2 h3)) s2)) (fun Q4 h4 s4 => ?_)
  rw [ka, eJ_366_21, decide_eq_false (show ¬ (1 : Int32) = 0 by decide), cond_false, eJ_366_24, show nI 10 = 10 from rfl]
  refine goJ (n2 := 350) (S2 := SL9) (R2 := RL9) (QD2 := QD) (QJ2 := QJ) (x := some (.int 9)) (G := ups Q 349 9 52) (by decide) (by decide) rfl s4 (Nat.zero_le _) (fun Q2 T1 h2 s2 => by rw [p_377_d3, ovr_ups2 (by decide)]; exact wj_ret (st_q s2 (by rw [w_un (by decide)])) (EqX.tr h2 h4).ups) (fun Q5 h5 s5 => ?_)
  rw [ka, eJ_366_33, ovr_ups2 (by decide)]
  exact wj_ret (st_q s5 (by rw [w_un (by decide)])) h5.ups
theorem w_361d3 (h : SbQ Q 9) (s : St T c Q I J D) : WJ 350 SL9 RL9 QD QJ T (some (.ref 348)) I J D (ups (ups Q 349 9 52) 348 3 (nI 10)) (ex (361, 0, [.ref 348, .int 4], [], 350, SL9, RL9, ovr I Q, ovr J QJ, ovr D QD)) := by
  rw [eJ_361_0]
  refine goJ (n2 := 350) (S2 := SL9) (R2 := RL9) (QD2 := QD) (QJ2 := QJ) (x := some (.ref 348)) (G := ups (ups Q 349 9 52) 348 3 (nI 10)) (by decide) (by decide) rfl s (Nat.zero_le _) (fun Q4 T1 h4 s4 => wj_mono (h4.ups.ups) (w_366d3 (h.go h4) s4)) (fun Q5 h5 s5 => ?_)
  rw [krf, eJ_361_5]
  exact wj_ret s5 h5

set_option maxRecDepth 100000 in
theorem p_376_5 {I : Nat → Nat → Int32} {J : Nat → Nat → Int64} {D : Nat → Nat → UInt64} : ex (376, 0, [.int 5, dv, dv, dv], [], 350, SL9, RL9, I, J, D) = some (.inl (some (.int 1)), 350, SL9, RL9, I, J, D) := ex_some (n := 60) (by with_unfolding_all rfl)
set_option maxRecDepth 100000 in
theorem p_377_d4 {I : Nat → Nat → Int32} {J : Nat → Nat → Int64} {D : Nat → Nat → UInt64} : ex (377, 0, [.int 5, .int 10, .ref 349, dv, dv, dv, dv], [], 350, SL9, RL9, I, J, D) = some (.inl (some (.int 9)), 350, SL9, RL9, ups I 349 9 53, J, D) := ex_some (n := 80) (by with_unfolding_all rfl)
theorem w_366d4 (h : SbQ Q 9) (s : St T c Q I J D) : WJ 350 SL9 RL9 QD QJ T (some (.ref 348)) I J D (ups (ups Q 349 9 53) 348 3 (nI 10)) (ex (366, 0, [.ref 348, .int 5, dv, dv], [], 350, SL9, RL9, ovr I Q, ovr J QJ, ovr D QD)) := by
  rw [eJ_366_0]
  refine goJ (n2 := 350) (S2 := SL9) (R2 := RL9) (QD2 := QD) (QJ2 := QJ) (x := some (.int 1)) (G := Q) (by decide) (by decide) rfl s (Nat.zero_le _) (fun Q2 T1 h2 s2 => by rw [p_376_5]; exact wj_ret s2 h2) (fun Q1 h1 s1 => ?_)
  rw [ka, eJ_366_10, o348, h.2, show nI 9 + 1 = nI 10 from by decide]
  refine goJ (n2 := 350) (S2 := SL9) (R2 := RL9) (QD2 := QD) (QJ2 := QJ) (x := none) (G := Q) (by decide) (by decide) rfl s1 (Nat.zero_le _) (fun Q2 T1 h2 s2 => wj_mono (EqX.tr h2 h1) (w_367 (k := 10) (by decide) (h.go (EqX.tr h2 h1)) s2)) (fun Q3 h3 s3 => ?_)
  rw [kn, eJ_366_17]
  refine goJ (n2 := 350) (S2 := SL9) (R2 := RL9) (QD2 := QD) (QJ2 := QJ) (x := some (.int 1)) (G := Q) (by decide) (by decide) rfl s3 (Nat.zero_le _) (fun Q2 T1 h2 s2 => wj_mono (EqX.tr h2 h3) (w_370 (h.go (EqX.tr h2 h3)) s2)) (fun Q4 h4 s4 => ?_)
  rw [ka, eJ_366_21, decide_eq_false (show ¬ (1 : Int32) = 0 by decide), cond_false, eJ_366_24, show nI 10 = 10 from rfl]
  refine goJ (n2 := 350) (S2 := SL9) (R2 := RL9) (QD2 := QD) (QJ2 := QJ) (x := some (.int 9)) (G := ups Q 349 9 53) (by decide) (by decide) rfl s4 (Nat.zero_le _) (fun Q2 T1 h2 s2 => by rw [p_377_d4, ovr_ups2 (by decide)]; exact wj_ret (st_q s2 (by rw [w_un (by decide)])) (EqX.tr h2 h4).ups) (fun Q5 h5 s5 => ?_)
  rw [ka, eJ_366_33, ovr_ups2 (by decide)]
  exact wj_ret (st_q s5 (by rw [w_un (by decide)])) h5.ups
theorem w_361d4 (h : SbQ Q 9) (s : St T c Q I J D) : WJ 350 SL9 RL9 QD QJ T (some (.ref 348)) I J D (ups (ups Q 349 9 53) 348 3 (nI 10)) (ex (361, 0, [.ref 348, .int 5], [], 350, SL9, RL9, ovr I Q, ovr J QJ, ovr D QD)) := by
  rw [eJ_361_0]
  refine goJ (n2 := 350) (S2 := SL9) (R2 := RL9) (QD2 := QD) (QJ2 := QJ) (x := some (.ref 348)) (G := ups (ups Q 349 9 53) 348 3 (nI 10)) (by decide) (by decide) rfl s (Nat.zero_le _) (fun Q4 T1 h4 s4 => wj_mono (h4.ups.ups) (w_366d4 (h.go h4) s4)) (fun Q5 h5 s5 => ?_)
  rw [krf, eJ_361_5]
  exact wj_ret s5 h5

set_option maxRecDepth 100000 in
theorem p_376_6 {I : Nat → Nat → Int32} {J : Nat → Nat → Int64} {D : Nat → Nat → UInt64} : ex (376, 0, [.int 6, dv, dv, dv], [], 350, SL9, RL9, I, J, D) = some (.inl (some (.int 1)), 350, SL9, RL9, I, J, D) := ex_some (n := 60) (by with_unfolding_all rfl)
set_option maxRecDepth 100000 in
theorem p_377_d5 {I : Nat → Nat → Int32} {J : Nat → Nat → Int64} {D : Nat → Nat → UInt64} : ex (377, 0, [.int 6, .int 10, .ref 349, dv, dv, dv, dv], [], 350, SL9, RL9, I, J, D) = some (.inl (some (.int 9)), 350, SL9, RL9, ups I 349 9 54, J, D) := ex_some (n := 80) (by with_unfolding_all rfl)
theorem w_366d5 (h : SbQ Q 9) (s : St T c Q I J D) : WJ 350 SL9 RL9 QD QJ T (some (.ref 348)) I J D (ups (ups Q 349 9 54) 348 3 (nI 10)) (ex (366, 0, [.ref 348, .int 6, dv, dv], [], 350, SL9, RL9, ovr I Q, ovr J QJ, ovr D QD)) := by
  rw [eJ_366_0]
  refine goJ (n2 := 350) (S2 := SL9) (R2 := RL9) (QD2 := QD) (QJ2 := QJ) (x := some (.int 1)) (G := Q) (by decide) (by decide) rfl s (Nat.zero_le _) (fun Q2 T1 h2 s2 => by rw [p_376_6]; exact wj_ret s2 h2) (fun Q1 h1 s1 => ?_)
  rw [ka, eJ_366_10, o348, h.2, show nI 9 + 1 = nI 10 from by decide]
  refine goJ (n2 := 350) (S2 := SL9) (R2 := RL9) (QD2 := QD) (QJ2 := QJ) (x := none) (G := Q) (by decide) (by decide) rfl s1 (Nat.zero_le _) (fun Q2 T1 h2 s2 => wj_mono (EqX.tr h2 h1) (w_367 (k := 10) (by decide) (h.go (EqX.tr h2 h1)) s2)) (fun Q3 h3 s3 => ?_)
  rw [kn, eJ_366_17]
  refine goJ (n2 := 350) (S2 := SL9) (R2 := RL9) (QD2 := QD) (QJ2 := QJ) (x := some (.int 1)) (G := Q) (by decide) (by decide) rfl s3 (Nat.zero_le _) (fun Q2 T1 h2 s2 => wj_mono (EqX.tr h2 h3) (w_370 (h.go (EqX.tr h2 h3)) s2)) (fun Q4 h4 s4 => ?_)
  rw [ka, eJ_366_21, decide_eq_false (show ¬ (1 : Int32) = 0 by decide), cond_false, eJ_366_24, show nI 10 = 10 from rfl]
  refine goJ (n2 := 350) (S2 := SL9) (R2 := RL9) (QD2 := QD) (QJ2 := QJ) (x := some (.int 9)) (G := ups Q 349 9 54) (by decide) (by decide) rfl s4 (Nat.zero_le _) (fun Q2 T1 h2 s2 => by rw [p_377_d5, ovr_ups2 (by decide)]; exact wj_ret (st_q s2 (by rw [w_un (by decide)])) (EqX.tr h2 h4).ups) (fun Q5 h5 s5 => ?_)
  rw [ka, eJ_366_33, ovr_ups2 (by decide)]
  exact wj_ret (st_q s5 (by rw [w_un (by decide)])) h5.ups
theorem w_361d5 (h : SbQ Q 9) (s : St T c Q I J D) : WJ 350 SL9 RL9 QD QJ T (some (.ref 348)) I J D (ups (ups Q 349 9 54) 348 3 (nI 10)) (ex (361, 0, [.ref 348, .int 6], [], 350, SL9, RL9, ovr I Q, ovr J QJ, ovr D QD)) := by
  rw [eJ_361_0]
  refine goJ (n2 := 350) (S2 := SL9) (R2 := RL9) (QD2 := QD) (QJ2 := QJ) (x := some (.ref 348)) (G := ups (ups Q 349 9 54) 348 3 (nI 10)) (by decide) (by decide) rfl s (Nat.zero_le _) (fun Q4 T1 h4 s4 => wj_mono (h4.ups.ups) (w_366d5 (h.go h4) s4)) (fun Q5 h5 s5 => ?_)
  rw [krf, eJ_361_5]
  exact wj_ret s5 h5

set_option maxRecDepth 100000 in
theorem p_376_7 {I : Nat → Nat → Int32} {J : Nat → Nat → Int64} {D : Nat → Nat → UInt64} : ex (376, 0, [.int 7, dv, dv, dv], [], 350, SL9, RL9, I, J, D) = some (.inl (some (.int 1)), 350, SL9, RL9, I, J, D) := ex_some (n := 60) (by with_unfolding_all rfl)
set_option maxRecDepth 100000 in
theorem p_377_d6 {I : Nat → Nat → Int32} {J : Nat → Nat → Int64} {D : Nat → Nat → UInt64} : ex (377, 0, [.int 7, .int 10, .ref 349, dv, dv, dv, dv], [], 350, SL9, RL9, I, J, D) = some (.inl (some (.int 9)), 350, SL9, RL9, ups I 349 9 55, J, D) := ex_some (n := 80) (by with_unfolding_all rfl)
theorem w_366d6 (h : SbQ Q 9) (s : St T c Q I J D) : WJ 350 SL9 RL9 QD QJ T (some (.ref 348)) I J D (ups (ups Q 349 9 55) 348 3 (nI 10)) (ex (366, 0, [.ref 348, .int 7, dv, dv], [], 350, SL9, RL9, ovr I Q, ovr J QJ, ovr D QD)) := by
  rw [eJ_366_0]
  refine goJ (n2 := 350) (S2 := SL9) (R2 := RL9) (QD2 := QD) (QJ2 := QJ) (x := some (.int 1)) (G := Q) (by decide) (by decide) rfl s (Nat.zero_le _) (fun Q2 T1 h2 s2 => by rw [p_376_7]; exact wj_ret s2 h2) (fun Q1 h1 s1 => ?_)
  rw [ka, eJ_366_10, o348, h.2, show nI 9 + 1 = nI 10 from by decide]
  refine goJ (n2 := 350) (S2 := SL9) (R2 := RL9) (QD2 := QD) (QJ2 := QJ) (x := none) (G := Q) (by decide) (by decide) rfl s1 (Nat.zero_le _) (fun Q2 T1 h2 s2 => wj_mono (EqX.tr h2 h1) (w_367 (k := 10) (by decide) (h.go (EqX.tr h2 h1)) s2)) (fun Q3 h3 s3 => ?_)
  rw [kn, eJ_366_17]
  refine goJ (n2 := 350) (S2 := SL9) (R2 := RL9) (QD2 := QD) (QJ2 := QJ) (x := some (.int 1)) (G := Q) (by decide) (by decide) rfl s3 (Nat.zero_le _) (fun Q2 T1 h2 s2 => wj_mono (EqX.tr h2 h3) (w_370 (h.go (EqX.tr h2 h3)) s2)) (fun Q4 h4 s4 => ?_)
  rw [ka, eJ_366_21, decide_eq_false (show ¬ (1 : Int32) = 0 by decide), cond_false, eJ_366_24, show nI 10 = 10 from rfl]
  refine goJ (n2 := 350) (S2 := SL9) (R2 := RL9) (QD2 := QD) (QJ2 := QJ) (x := some (.int 9)) (G := ups Q 349 9 55) (by decide) (by decide) rfl s4 (Nat.zero_le _) (fun Q2 T1 h2 s2 => by rw [p_377_d6, ovr_ups2 (by decide)]; exact wj_ret (st_q s2 (by rw [w_un (by decide)])) (EqX.tr h2 h4).ups) (fun Q5 h5 s5 => ?_)
  rw [ka, eJ_366_33, ovr_ups2 (by decide)]
  exact wj_ret (st_q s5 (by rw [w_un (by decide)])) h5.ups
theorem w_361d6 (h : SbQ Q 9) (s : St T c Q I J D) : WJ 350 SL9 RL9 QD QJ T (some (.ref 348)) I J D (ups (ups Q 349 9 55) 348 3 (nI 10)) (ex (361, 0, [.ref 348, .int 7], [], 350, SL9, RL9, ovr I Q, ovr J QJ, ovr D QD)) := by
  rw [eJ_361_0]
  refine goJ (n2 := 350) (S2 := SL9) (R2 := RL9) (QD2 := QD) (QJ2 := QJ) (x := some (.ref 348)) (G := ups (ups Q 349 9 55) 348 3 (nI 10)) (by decide) (by decide) rfl s (Nat.zero_le _) (fun Q4 T1 h4 s4 => wj_mono (h4.ups.ups) (w_366d6 (h.go h4) s4)) (fun Q5 h5 s5 => ?_)
  rw [krf, eJ_361_5]
  exact wj_ret s5 h5

set_option maxRecDepth 100000 in
theorem p_376_8 {I : Nat → Nat → Int32} {J : Nat → Nat → Int64} {D : Nat → Nat → UInt64} : ex (376, 0, [.int 8, dv, dv, dv], [], 350, SL9, RL9, I, J, D) = some (.inl (some (.int 1)), 350, SL9, RL9, I, J, D) := ex_some (n := 60) (by with_unfolding_all rfl)
set_option maxRecDepth 100000 in
theorem p_377_d7 {I : Nat → Nat → Int32} {J : Nat → Nat → Int64} {D : Nat → Nat → UInt64} : ex (377, 0, [.int 8, .int 10, .ref 349, dv, dv, dv, dv], [], 350, SL9, RL9, I, J, D) = some (.inl (some (.int 9)), 350, SL9, RL9, ups I 349 9 56, J, D) := ex_some (n := 80) (by with_unfolding_all rfl)
theorem w_366d7 (h : SbQ Q 9) (s : St T c Q I J D) : WJ 350 SL9 RL9 QD QJ T (some (.ref 348)) I J D (ups (ups Q 349 9 56) 348 3 (nI 10)) (ex (366, 0, [.ref 348, .int 8, dv, dv], [], 350, SL9, RL9, ovr I Q, ovr J QJ, ovr D QD)) := by
  rw [eJ_366_0]
  refine goJ (n2 := 350) (S2 := SL9) (R2 := RL9) (QD2 := QD) (QJ2 := QJ) (x := some (.int 1)) (G := Q) (by decide) (by decide) rfl s (Nat.zero_le _) (fun Q2 T1 h2 s2 => by rw [p_376_8]; exact wj_ret s2 h2) (fun Q1 h1 s1 => ?_)
  rw [ka, eJ_366_10, o348, h.2, show nI 9 + 1 = nI 10 from by decide]
  refine goJ (n2 := 350) (S2 := SL9) (R2 := RL9) (QD2 := QD) (QJ2 := QJ) (x := none) (G := Q) (by decide) (by decide) rfl s1 (Nat.zero_le _) (fun Q2 T1 h2 s2 => wj_mono (EqX.tr h2 h1) (w_367 (k := 10) (by decide) (h.go (EqX.tr h2 h1)) s2)) (fun Q3 h3 s3 => ?_)
  rw [kn, eJ_366_17]
  refine goJ (n2 := 350) (S2 := SL9) (R2 := RL9) (QD2 := QD) (QJ2 := QJ) (x := some (.int 1)) (G := Q) (by decide) (by decide) rfl s3 (Nat.zero_le _) (fun Q2 T1 h2 s2 => wj_mono (EqX.tr h2 h3) (w_370 (h.go (EqX.tr h2 h3)) s2)) (fun Q4 h4 s4 => ?_)
  rw [ka, eJ_366_21, decide_eq_false (show ¬ (1 : Int32) = 0 by decide), cond_false, eJ_366_24, show nI 10 = 10 from rfl]
  refine goJ (n2 := 350) (S2 := SL9) (R2 := RL9) (QD2 := QD) (QJ2 := QJ) (x := some (.int 9)) (G := ups Q 349 9 56) (by decide) (by decide) rfl s4 (Nat.zero_le _) (fun Q2 T1 h2 s2 => by rw [p_377_d7, ovr_ups2 (by decide)]; exact wj_ret (st_q s2 (by rw [w_un (by decide)])) (EqX.tr h2 h4).ups) (fun Q5 h5 s5 => ?_)
  rw [ka, eJ_366_33, ovr_ups2 (by decide)]
  exact wj_ret (st_q s5 (by rw [w_un (by decide)])) h5.ups
theorem w_361d7 (h : SbQ Q 9) (s : St T c Q I J D) : WJ 350 SL9 RL9 QD QJ T (some (.ref 348)) I J D (ups (ups Q 349 9 56) 348 3 (nI 10)) (ex (361, 0, [.ref 348, .int 8], [], 350, SL9, RL9, ovr I Q, ovr J QJ, ovr D QD)) := by
  rw [eJ_361_0]
  refine goJ (n2 := 350) (S2 := SL9) (R2 := RL9) (QD2 := QD) (QJ2 := QJ) (x := some (.ref 348)) (G := ups (ups Q 349 9 56) 348 3 (nI 10)) (by decide) (by decide) rfl s (Nat.zero_le _) (fun Q4 T1 h4 s4 => wj_mono (h4.ups.ups) (w_366d7 (h.go h4) s4)) (fun Q5 h5 s5 => ?_)
  rw [krf, eJ_361_5]
  exact wj_ret s5 h5

set_option maxRecDepth 100000 in
theorem p_376_9 {I : Nat → Nat → Int32} {J : Nat → Nat → Int64} {D : Nat → Nat → UInt64} : ex (376, 0, [.int 9, dv, dv, dv], [], 350, SL9, RL9, I, J, D) = some (.inl (some (.int 1)), 350, SL9, RL9, I, J, D) := ex_some (n := 60) (by with_unfolding_all rfl)
set_option maxRecDepth 100000 in
theorem p_377_d8 {I : Nat → Nat → Int32} {J : Nat → Nat → Int64} {D : Nat → Nat → UInt64} : ex (377, 0, [.int 9, .int 10, .ref 349, dv, dv, dv, dv], [], 350, SL9, RL9, I, J, D) = some (.inl (some (.int 9)), 350, SL9, RL9, ups I 349 9 57, J, D) := ex_some (n := 80) (by with_unfolding_all rfl)
theorem w_366d8 (h : SbQ Q 9) (s : St T c Q I J D) : WJ 350 SL9 RL9 QD QJ T (some (.ref 348)) I J D (ups (ups Q 349 9 57) 348 3 (nI 10)) (ex (366, 0, [.ref 348, .int 9, dv, dv], [], 350, SL9, RL9, ovr I Q, ovr J QJ, ovr D QD)) := by
  rw [eJ_366_0]
  refine goJ (n2 := 350) (S2 := SL9) (R2 := RL9) (QD2 := QD) (QJ2 := QJ) (x := some (.int 1)) (G := Q) (by decide) (by decide) rfl s (Nat.zero_le _) (fun Q2 T1 h2 s2 => by rw [p_376_9]; exact wj_ret s2 h2) (fun Q1 h1 s1 => ?_)
  rw [ka, eJ_366_10, o348, h.2, show nI 9 + 1 = nI 10 from by decide]
  refine goJ (n2 := 350) (S2 := SL9) (R2 := RL9) (QD2 := QD) (QJ2 := QJ) (x := none) (G := Q) (by decide) (by decide) rfl s1 (Nat.zero_le _) (fun Q2 T1 h2 s2 => wj_mono (EqX.tr h2 h1) (w_367 (k := 10) (by decide) (h.go (EqX.tr h2 h1)) s2)) (fun Q3 h3 s3 => ?_)
  rw [kn, eJ_366_17]
  refine goJ (n2 := 350) (S2 := SL9) (R2 := RL9) (QD2 := QD) (QJ2 := QJ) (x := some (.int 1)) (G := Q) (by decide) (by decide) rfl s3 (Nat.zero_le _) (fun Q2 T1 h2 s2 => wj_mono (EqX.tr h2 h3) (w_370 (h.go (EqX.tr h2 h3)) s2)) (fun Q4 h4 s4 => ?_)
  rw [ka, eJ_366_21, decide_eq_false (show ¬ (1 : Int32) = 0 by decide), cond_false, eJ_366_24, show nI 10 = 10 from rfl]
  refine goJ (n2 := 350) (S2 := SL9) (R2 := RL9) (QD2 := QD) (QJ2 := QJ) (x := some (.int 9)) (G := ups Q 349 9 57) (by decide) (by decide) rfl s4 (Nat.zero_le _) (fun Q2 T1 h2 s2 => by rw [p_377_d8, ovr_ups2 (by decide)]; exact wj_ret (st_q s2 (by rw [w_un (by decide)])) (EqX.tr h2 h4).ups) (fun Q5 h5 s5 => ?_)
  rw [ka, eJ_366_33, ovr_ups2 (by decide)]
  exact wj_ret (st_q s5 (by rw [w_un (by decide)])) h5.ups
theorem w_361d8 (h : SbQ Q 9) (s : St T c Q I J D) : WJ 350 SL9 RL9 QD QJ T (some (.ref 348)) I J D (ups (ups Q 349 9 57) 348 3 (nI 10)) (ex (361, 0, [.ref 348, .int 9], [], 350, SL9, RL9, ovr I Q, ovr J QJ, ovr D QD)) := by
  rw [eJ_361_0]
  refine goJ (n2 := 350) (S2 := SL9) (R2 := RL9) (QD2 := QD) (QJ2 := QJ) (x := some (.ref 348)) (G := ups (ups Q 349 9 57) 348 3 (nI 10)) (by decide) (by decide) rfl s (Nat.zero_le _) (fun Q4 T1 h4 s4 => wj_mono (h4.ups.ups) (w_366d8 (h.go h4) s4)) (fun Q5 h5 s5 => ?_)
  rw [krf, eJ_361_5]
  exact wj_ret s5 h5

set_option maxRecDepth 100000 in
theorem p_376_0 {I : Nat → Nat → Int32} {J : Nat → Nat → Int64} {D : Nat → Nat → UInt64} : ex (376, 0, [.int 0, dv, dv, dv], [], 350, SL9, RL9, I, J, D) = some (.inl (some (.int 1)), 350, SL9, RL9, I, J, D) := ex_some (n := 60) (by with_unfolding_all rfl)
set_option maxRecDepth 100000 in
theorem p_377_m0 {I : Nat → Nat → Int32} {J : Nat → Nat → Int64} {D : Nat → Nat → UInt64} : ex (377, 0, [.int 0, .int 14, .ref 349, dv, dv, dv, dv], [], 350, SL9, RL9, I, J, D) = some (.inl (some (.int 13)), 350, SL9, RL9, ups I 349 13 48, J, D) := ex_some (n := 80) (by with_unfolding_all rfl)
theorem w_366m0 (h : SbQ Q 13) (s : St T c Q I J D) : WJ 350 SL9 RL9 QD QJ T (some (.ref 348)) I J D (ups (ups Q 349 13 48) 348 3 (nI 14)) (ex (366, 0, [.ref 348, .int 0, dv, dv], [], 350, SL9, RL9, ovr I Q, ovr J QJ, ovr D QD)) := by
  rw [eJ_366_0]
  refine goJ (n2 := 350) (S2 := SL9) (R2 := RL9) (QD2 := QD) (QJ2 := QJ) (x := some (.int 1)) (G := Q) (by decide) (by decide) rfl s (Nat.zero_le _) (fun Q2 T1 h2 s2 => by rw [p_376_0]; exact wj_ret s2 h2) (fun Q1 h1 s1 => ?_)
  rw [ka, eJ_366_10, o348, h.2, show nI 13 + 1 = nI 14 from by decide]
  refine goJ (n2 := 350) (S2 := SL9) (R2 := RL9) (QD2 := QD) (QJ2 := QJ) (x := none) (G := Q) (by decide) (by decide) rfl s1 (Nat.zero_le _) (fun Q2 T1 h2 s2 => wj_mono (EqX.tr h2 h1) (w_367 (k := 14) (by decide) (h.go (EqX.tr h2 h1)) s2)) (fun Q3 h3 s3 => ?_)
  rw [kn, eJ_366_17]
  refine goJ (n2 := 350) (S2 := SL9) (R2 := RL9) (QD2 := QD) (QJ2 := QJ) (x := some (.int 1)) (G := Q) (by decide) (by decide) rfl s3 (Nat.zero_le _) (fun Q2 T1 h2 s2 => wj_mono (EqX.tr h2 h3) (w_370 (h.go (EqX.tr h2 h3)) s2)) (fun Q4 h4 s4 => ?_)
  rw [ka, eJ_366_21, decide_eq_false (show ¬ (1 : Int32) = 0 by decide), cond_false, eJ_366_24, show nI 14 = 14 from rfl]
  refine goJ (n2 := 350) (S2 := SL9) (R2 := RL9) (QD2 := QD) (QJ2 := QJ) (x := some (.int 13)) (G := ups Q 349 13 48) (by decide) (by decide) rfl s4 (Nat.zero_le _) (fun Q2 T1 h2 s2 => by rw [p_377_m0, ovr_ups2 (by decide)]; exact wj_ret (st_q s2 (by rw [w_un (by decide)])) (EqX.tr h2 h4).ups) (fun Q5 h5 s5 => ?_)
  rw [ka, eJ_366_33, ovr_ups2 (by decide)]
  exact wj_ret (st_q s5 (by rw [w_un (by decide)])) h5.ups
theorem w_361m0 (h : SbQ Q 13) (s : St T c Q I J D) : WJ 350 SL9 RL9 QD QJ T (some (.ref 348)) I J D (ups (ups Q 349 13 48) 348 3 (nI 14)) (ex (361, 0, [.ref 348, .int 0], [], 350, SL9, RL9, ovr I Q, ovr J QJ, ovr D QD)) := by
  rw [eJ_361_0]
  refine goJ (n2 := 350) (S2 := SL9) (R2 := RL9) (QD2 := QD) (QJ2 := QJ) (x := some (.ref 348)) (G := ups (ups Q 349 13 48) 348 3 (nI 14)) (by decide) (by decide) rfl s (Nat.zero_le _) (fun Q4 T1 h4 s4 => wj_mono (h4.ups.ups) (w_366m0 (h.go h4) s4)) (fun Q5 h5 s5 => ?_)
  rw [krf, eJ_361_5]
  exact wj_ret s5 h5

set_option maxRecDepth 100000 in
theorem p_377_m1 {I : Nat → Nat → Int32} {J : Nat → Nat → Int64} {D : Nat → Nat → UInt64} : ex (377, 0, [.int 1, .int 14, .ref 349, dv, dv, dv, dv], [], 350, SL9, RL9, I, J, D) = some (.inl (some (.int 13)), 350, SL9, RL9, ups I 349 13 49, J, D) := ex_some (n := 80) (by with_unfolding_all rfl)
theorem w_366m1 (h : SbQ Q 13) (s : St T c Q I J D) : WJ 350 SL9 RL9 QD QJ T (some (.ref 348)) I J D (ups (ups Q 349 13 49) 348 3 (nI 14)) (ex (366, 0, [.ref 348, .int 1, dv, dv], [], 350, SL9, RL9, ovr I Q, ovr J QJ, ovr D QD)) := by
  rw [eJ_366_0]
  refine goJ (n2 := 350) (S2 := SL9) (R2 := RL9) (QD2 := QD) (QJ2 := QJ) (x := some (.int 1)) (G := Q) (by decide) (by decide) rfl s (Nat.zero_le _) (fun Q2 T1 h2 s2 => by rw [p_376_1]; exact wj_ret s2 h2) (fun Q1 h1 s1 => ?_)
  rw [ka, eJ_366_10, o348, h.2, show nI 13 + 1 = nI 14 from by decide]
  refine goJ (n2 := 350) (S2 := SL9) (R2 := RL9) (QD2 := QD) (QJ2 := QJ) (x := none) (G := Q) (by decide) (by decide) rfl s1 (Nat.zero_le _) (fun Q2 T1 h2 s2 => wj_mono (EqX.tr h2 h1) (w_367 (k := 14) (by decide) (h.go (EqX.tr h2 h1)) s2)) (fun Q3 h3 s3 => ?_)
  rw [kn, eJ_366_17]
  refine goJ (n2 := 350) (S2 := SL9) (R2 := RL9) (QD2 := QD) (QJ2 := QJ) (x := some (.int 1)) (G := Q) (by decide) (by decide) rfl s3 (Nat.zero_le _) (fun Q2 T1 h2 s2 => wj_mono (EqX.tr h2 h3) (w_370 (h.go (EqX.tr h2 h3)) s2)) (fun Q4 h4 s4 => ?_)
  rw [ka, eJ_366_21, decide_eq_false (show ¬ (1 : Int32) = 0 by decide), cond_false, eJ_366_24, show nI 14 = 14 from rfl]
  refine goJ (n2 := 350) (S2 := SL9) (R2 := RL9) (QD2 := QD) (QJ2 := QJ) (x := some (.int 13)) (G := ups Q 349 13 49) (by decide) (by decide) rfl s4 (Nat.zero_le _) (fun Q2 T1 h2 s2 => by rw [p_377_m1, ovr_ups2 (by decide)]; exact wj_ret (st_q s2 (by rw [w_un (by decide)])) (EqX.tr h2 h4).ups) (fun Q5 h5 s5 => ?_)
  rw [ka, eJ_366_33, ovr_ups2 (by decide)]
  exact wj_ret (st_q s5 (by rw [w_un (by decide)])) h5.ups
theorem w_361m1 (h : SbQ Q 13) (s : St T c Q I J D) : WJ 350 SL9 RL9 QD QJ T (some (.ref 348)) I J D (ups (ups Q 349 13 49) 348 3 (nI 14)) (ex (361, 0, [.ref 348, .int 1], [], 350, SL9, RL9, ovr I Q, ovr J QJ, ovr D QD)) := by
  rw [eJ_361_0]
  refine goJ (n2 := 350) (S2 := SL9) (R2 := RL9) (QD2 := QD) (QJ2 := QJ) (x := some (.ref 348)) (G := ups (ups Q 349 13 49) 348 3 (nI 14)) (by decide) (by decide) rfl s (Nat.zero_le _) (fun Q4 T1 h4 s4 => wj_mono (h4.ups.ups) (w_366m1 (h.go h4) s4)) (fun Q5 h5 s5 => ?_)
  rw [krf, eJ_361_5]
  exact wj_ret s5 h5

set_option maxRecDepth 100000 in
theorem p_377_m2 {I : Nat → Nat → Int32} {J : Nat → Nat → Int64} {D : Nat → Nat → UInt64} : ex (377, 0, [.int 2, .int 14, .ref 349, dv, dv, dv, dv], [], 350, SL9, RL9, I, J, D) = some (.inl (some (.int 13)), 350, SL9, RL9, ups I 349 13 50, J, D) := ex_some (n := 80) (by with_unfolding_all rfl)
theorem w_366m2 (h : SbQ Q 13) (s : St T c Q I J D) : WJ 350 SL9 RL9 QD QJ T (some (.ref 348)) I J D (ups (ups Q 349 13 50) 348 3 (nI 14)) (ex (366, 0, [.ref 348, .int 2, dv, dv], [], 350, SL9, RL9, ovr I Q, ovr J QJ, ovr D QD)) := by
  rw [eJ_366_0]
  refine goJ (n2 := 350) (S2 := SL9) (R2 := RL9) (QD2 := QD) (QJ2 := QJ) (x := some (.int 1)) (G := Q) (by decide) (by decide) rfl s (Nat.zero_le _) (fun Q2 T1 h2 s2 => by rw [p_376_2]; exact wj_ret s2 h2) (fun Q1 h1 s1 => ?_)
  rw [ka, eJ_366_10, o348, h.2, show nI 13 + 1 = nI 14 from by decide]
  refine goJ (n2 := 350) (S2 := SL9) (R2 := RL9) (QD2 := QD) (QJ2 := QJ) (x := none) (G := Q) (by decide) (by decide) rfl s1 (Nat.zero_le _) (fun Q2 T1 h2 s2 => wj_mono (EqX.tr h2 h1) (w_367 (k := 14) (by decide) (h.go (EqX.tr h2 h1)) s2)) (fun Q3 h3 s3 => ?_)
  rw [kn, eJ_366_17]
  refine goJ (n2 := 350) (S2 := SL9) (R2 := RL9) (QD2 := QD) (QJ2 := QJ) (x := some (.int 1)) (G := Q) (by decide) (by decide) rfl s3 (Nat.zero_le _) (fun Q2 T1 h2 s2 => wj_mono (EqX.tr h2 h3) (w_370 (h.go (EqX.tr h2 h3)) s2)) (fun Q4 h4 s4 => ?_)
  rw [ka, eJ_366_21, decide_eq_false (show ¬ (1 : Int32) = 0 by decide), cond_false, eJ_366_24, show nI 14 = 14 from rfl]
  refine goJ (n2 := 350) (S2 := SL9) (R2 := RL9) (QD2 := QD) (QJ2 := QJ) (x := some (.int 13)) (G := ups Q 349 13 50) (by decide) (by decide) rfl s4 (Nat.zero_le _) (fun Q2 T1 h2 s2 => by rw [p_377_m2, ovr_ups2 (by decide)]; exact wj_ret (st_q s2 (by rw [w_un (by decide)])) (EqX.tr h2 h4).ups) (fun Q5 h5 s5 => ?_)
  rw [ka, eJ_366_33, ovr_ups2 (by decide)]
  exact wj_ret (st_q s5 (by rw [w_un (by decide)])) h5.ups
theorem w_361m2 (h : SbQ Q 13) (s : St T c Q I J D) : WJ 350 SL9 RL9 QD QJ T (some (.ref 348)) I J D (ups (ups Q 349 13 50) 348 3 (nI 14)) (ex (361, 0, [.ref 348, .int 2], [], 350, SL9, RL9, ovr I Q, ovr J QJ, ovr D QD)) := by
  rw [eJ_361_0]
  refine goJ (n2 := 350) (S2 := SL9) (R2 := RL9) (QD2 := QD) (QJ2 := QJ) (x := some (.ref 348)) (G := ups (ups Q 349 13 50) 348 3 (nI 14)) (by decide) (by decide) rfl s (Nat.zero_le _) (fun Q4 T1 h4 s4 => wj_mono (h4.ups.ups) (w_366m2 (h.go h4) s4)) (fun Q5 h5 s5 => ?_)
  rw [krf, eJ_361_5]
  exact wj_ret s5 h5

set_option maxRecDepth 100000 in
theorem p_377_m3 {I : Nat → Nat → Int32} {J : Nat → Nat → Int64} {D : Nat → Nat → UInt64} : ex (377, 0, [.int 3, .int 14, .ref 349, dv, dv, dv, dv], [], 350, SL9, RL9, I, J, D) = some (.inl (some (.int 13)), 350, SL9, RL9, ups I 349 13 51, J, D) := ex_some (n := 80) (by with_unfolding_all rfl)
theorem w_366m3 (h : SbQ Q 13) (s : St T c Q I J D) : WJ 350 SL9 RL9 QD QJ T (some (.ref 348)) I J D (ups (ups Q 349 13 51) 348 3 (nI 14)) (ex (366, 0, [.ref 348, .int 3, dv, dv], [], 350, SL9, RL9, ovr I Q, ovr J QJ, ovr D QD)) := by
  rw [eJ_366_0]
  refine goJ (n2 := 350) (S2 := SL9) (R2 := RL9) (QD2 := QD) (QJ2 := QJ) (x := some (.int 1)) (G := Q) (by decide) (by decide) rfl s (Nat.zero_le _) (fun Q2 T1 h2 s2 => by rw [p_376_3]; exact wj_ret s2 h2) (fun Q1 h1 s1 => ?_)
  rw [ka, eJ_366_10, o348, h.2, show nI 13 + 1 = nI 14 from by decide]
  refine goJ (n2 := 350) (S2 := SL9) (R2 := RL9) (QD2 := QD) (QJ2 := QJ) (x := none) (G := Q) (by decide) (by decide) rfl s1 (Nat.zero_le _) (fun Q2 T1 h2 s2 => wj_mono (EqX.tr h2 h1) (w_367 (k := 14) (by decide) (h.go (EqX.tr h2 h1)) s2)) (fun Q3 h3 s3 => ?_)
  rw [kn, eJ_366_17]
  refine goJ (n2 := 350) (S2 := SL9) (R2 := RL9) (QD2 := QD) (QJ2 := QJ) (x := some (.int 1)) (G := Q) (by decide) (by decide) rfl s3 (Nat.zero_le _) (fun Q2 T1 h2 s2 => wj_mono (EqX.tr h2 h3) (w_370 (h.go (EqX.tr h2 h3)) s2)) (fun Q4 h4 s4 => ?_)
  rw [ka, eJ_366_21, decide_eq_false (show ¬ (1 : Int32) = 0 by decide), cond_false, eJ_366_24, show nI 14 = 14 from rfl]
  refine goJ (n2 := 350) (S2 := SL9) (R2 := RL9) (QD2 := QD) (QJ2 := QJ) (x := some (.int 13)) (G := ups Q 349 13 51) (by decide) (by decide) rfl s4 (Nat.zero_le _) (fun Q2 T1 h2 s2 => by rw [p_377_m3, ovr_ups2 (by decide)]; exact wj_ret (st_q s2 (by rw [w_un (by decide)])) (EqX.tr h2 h4).ups) (fun Q5 h5 s5 => ?_)
  rw [ka, eJ_366_33, ovr_ups2 (by decide)]
  exact wj_ret (st_q s5 (by rw [w_un (by decide)])) h5.ups
theorem w_361m3 (h : SbQ Q 13) (s : St T c Q I J D) : WJ 350 SL9 RL9 QD QJ T (some (.ref 348)) I J D (ups (ups Q 349 13 51) 348 3 (nI 14)) (ex (361, 0, [.ref 348, .int 3], [], 350, SL9, RL9, ovr I Q, ovr J QJ, ovr D QD)) := by
  rw [eJ_361_0]
  refine goJ (n2 := 350) (S2 := SL9) (R2 := RL9) (QD2 := QD) (QJ2 := QJ) (x := some (.ref 348)) (G := ups (ups Q 349 13 51) 348 3 (nI 14)) (by decide) (by decide) rfl s (Nat.zero_le _) (fun Q4 T1 h4 s4 => wj_mono (h4.ups.ups) (w_366m3 (h.go h4) s4)) (fun Q5 h5 s5 => ?_)
  rw [krf, eJ_361_5]
  exact wj_ret s5 h5


/-- the text to be made: '  band 0 D +0M ' -/
def mtx (k m : Nat) : Nat → Nat
  | 0 => 32 | 1 => 32 | 2 => 98 | 3 => 97 | 4 => 110 | 5 => 100 | 6 => 32 | 7 => 48 | 8 => 32 | 9 => 49 + k | 10 => 32 | 11 => 43 | 12 => 48 | 13 => 48 + m | 14 => 32
  | _ => 0
def byM (k m n : Nat) : Nat → Int32 := fun j => bif Nat.blt j n then nI (mtx k m j) else 0
def byT (k m : Nat) : Nat → Int32 := va_cpy (byM k m 15) (fun _ => 0) 0 0 15
theorem byM_ok : ∀ k, k < 9 → ∀ m, m < 4 → (List.range (15 : Int32).toNatClampNeg).all (fun i => decide (0 ≤ byM k m 15 ((0 : Int32).toNatClampNeg + i)) && decide (byM k m 15 ((0 : Int32).toNatClampNeg + i) ≤ 127)) = true := by decide +kernel
theorem w_30 {a0 : Nat} {x y v : Int32} {I : Nat → Nat → Int32} {J : Nat → Nat → Int64} {D : Nat → Nat → UInt64} : ex (379, 30, [.ref a0, .int x, .int y, .int v, .ref 351], [], 352, SQ9, RQ9, I, J, D) = some (.inl (some (.ref 351)), 352, SQ9, RQ9, I, J, D) := (ex_itr 2 _).trans rfl
theorem w_27 {k m : Nat} (hk : k < 9) (hm : m < 4) {S : Nat → Nat × Nat} {R : Nat → Nat → Option Nat} (hS : S 349 = (29, 16)) (h9 : S 351 = (29, 15)) {I : Nat → Nat → Int32} (hI : I 349 = byM k m 15) (hI2 : I 351 = fun _ => 0) {J : Nat → Nat → Int64} {D : Nat → Nat → UInt64} : ex (379, 27, [.ref 349, .int 0, .int 15, .int 15, .ref 351], [.int 15, .int 0, .ref 351, .int 0, .ref 349], 352, S, R, I, J, D) = ex (379, 30, [.ref 349, .int 0, .int 15, .int 15, .ref 351], [], 352, S, R, upR I 351 (byT k m), J, D) := by
  have hb := byM_ok k hk m hm
  have hg : ((decide (¬ (0 : Int32) < 0) && (decide (¬ (0 : Int32) < 0) && decide (¬ (15 : Int32) < 0))) && ((Nat.ble ((0 : Int32).toNatClampNeg + (15 : Int32).toNatClampNeg) 16 && Nat.ble ((0 : Int32).toNatClampNeg + (15 : Int32).toNatClampNeg) 15) && (((Nat.blt 349 352 || false) && Nat.blt 351 352) && (Nat.ble (csm []) 8 && true)))) = true := by decide +kernel
  have e := st_27 (n := 352) (S := S) (R := R) (I := I) (J := J) (D := D) (p := 349) (q := 351) (a0 := 349) (a1 := 351) (sp := 0) (dp := 0) (z := 15) (x := 0) (y := 15) (v := 15)
  rw [hS, h9, show ((29, 16) : Nat × Nat).1 = 29 from rfl, show ((29, 16) : Nat × Nat).2 = 16 from rfl, show ((29, 15) : Nat × Nat).2 = 15 from rfl, show Nat.beq 29 44 = false from rfl, cond_false, show ((Nat.beq 29 29 || false) && Nat.beq 29 29) = true from rfl, cond_true, hI, hb, hg, hI2] at e
  rw [ex_fix, e]
  rfl
theorem w_379 {k m : Nat} (hk : k < 9) (hm : m < 4) (hq : Q 349 = byM k m 15) (s : St T c Q I J D) : WJ 352 SQ9 RQ9 (upR QD 351 (fun _ => 0)) (upR QJ 351 (fun _ => 0)) T (some (.ref 351)) I J D (upR Q 351 (byT k m)) (ex (379, 0, [.ref 349, .int 0, .int 15, dv, dv], [], 351, SP9, RP9, ovr I Q, ovr J QJ, ovr D QD)) := by
  rw [eJ_379_0]
  refine goJ (n2 := 351) (S2 := SP9) (R2 := RP9) (QD2 := QD) (QJ2 := QJ) (x := none) (G := Q) (by decide) (by decide) rfl s (Nat.zero_le _) (fun Q2 T1 h2 s2 => by rw [eJ_380_0]; exact wj_ret s2 h2) (fun Q1 h1 s1 => ?_)
  rw [kn, eJ_379_5, if_pos (show (15 : Nat) - 0 < 16 - 0 by decide), show (15 : Int32) - 0 = 15 by decide, upo_R (by decide), upo_R (by decide), upo_R (by decide)]
  rw [w_27 hk hm (show SQ9 349 = (29, 16) by decide +kernel) (show SQ9 351 = (29, 15) by decide +kernel) (by rw [ovr_o (by decide), upR_n (f := Q1) (by decide), h1.atp, hq]) (by rw [ovr_o (by decide), upR_s]), w_30, upo_R (by decide), upR_u]
  exact wj_ret (st_q s1 (by rw [upR_n (f := Q1) (by decide)])) (h1.upR rfl)
theorem w_378 {k m : Nat} (hk : k < 9) (hm : m < 4) (hq : Q 349 = byM k m 15) (s : St T c Q I J D) : WJ 352 SQ9 RQ9 (upR QD 351 (fun _ => 0)) (upR QJ 351 (fun _ => 0)) T (some (.ref 351)) I J D (upR Q 351 (byT k m)) (ex (378, 0, [.ref 349, .int 0, .int 15], [], 351, SP9, RP9, ovr I Q, ovr J QJ, ovr D QD)) := by
  rw [eJ_378_0, decide_eq_false (show ¬ (15 : Int32) = 16 by decide), cond_false, eJ_378_10]
  refine goJ (n2 := 352) (S2 := SQ9) (R2 := RQ9) (QD2 := upR QD 351 (fun _ => 0)) (QJ2 := upR QJ 351 (fun _ => 0)) (x := some (.ref 351)) (G := upR Q 351 (byT k m)) (by decide) (by decide) rfl s (Nat.zero_le _) (fun Q2 T1 h2 s2 => wj_mono (h2.upR rfl) (w_379 hk hm (h2.atp.trans hq) s2)) (fun Q1 h1 s1 => ?_)
  rw [krf, eJ_378_16]
  exact wj_ret s1 h1
theorem w_373 {k m : Nat} (hk : k < 9) (hm : m < 4) (b : SbQ Q 15) (hq : Q 349 = byM k m 15) (s : St T c Q I J D) : WJ 352 SM9 RM9 (upR QD 351 (fun _ => 0)) (upR QJ 351 (fun _ => 0)) T none I J D (upR (ups Q 350 1 0) 351 (byT k m)) (ex (373, 0, [.ref 350, .ref 348, .null, dv, dv], [], 351, SP9, RP9, ovr I Q, ovr J QJ, ovr D QD)) := by
  rw [eJ_373_0]
  refine goJ (n2 := 351) (S2 := SP9) (R2 := RP9) (QD2 := QD) (QJ2 := QJ) (x := some (.ref 349)) (G := Q) (by decide) (by decide) rfl s (Nat.zero_le _) (fun Q2 T1 h2 s2 => by rw [eJ_368_0]; exact wj_ret s2 h2) (fun Q1 h1 s1 => ?_)
  rw [krf, eJ_373_8]
  refine goJ (n2 := 351) (S2 := SP9) (R2 := RP9) (QD2 := QD) (QJ2 := QJ) (x := some (.int 15)) (G := Q) (by decide) (by decide) rfl s1 (Nat.zero_le _) (fun Q2 T1 h2 s2 => ?_) (fun Q3 h3 s3 => ?_)
  · rw [eJ_363_0]
    refine goJ (n2 := 351) (S2 := SP9) (R2 := RP9) (QD2 := QD) (QJ2 := QJ) (x := some (.int 15)) (G := Q) (by decide) (by decide) rfl s2 (Nat.zero_le _) (fun Q4 T4 h4 s4 => ?_) (fun Q4 h4 s4 => ?_)
    · rw [eJ_371_0, o348, ((b.go h1).go (EqX.tr h4 h2)).2, show nI 15 = 15 from rfl]
      exact wj_ret s4 (EqX.tr (EqX.tr h4 h2) h1)
    · rw [ka, eJ_363_4]
      exact wj_ret s4 h4
  rw [ka, eJ_373_13]
  refine goJ (n2 := 351) (S2 := SP9) (R2 := RP9) (QD2 := QD) (QJ2 := QJ) (x := some (.int 1)) (G := Q) (by decide) (by decide) rfl s3 (Nat.zero_le _) (fun Q2 T1 h2 s2 => wj_mono (EqX.tr h2 h3) (w_370p (b.go (EqX.tr h2 h3)) s2)) (fun Q4 h4 s4 => ?_)
  rw [ka, eJ_373_19, decide_eq_false (show ¬ (1 : Int32) = 0 by decide), cond_false, eJ_373_22, ovr_ups2 (by decide)]
  refine goJ (n2 := 352) (S2 := SQ9) (R2 := RQ9) (QD2 := upR QD 351 (fun _ => 0)) (QJ2 := upR QJ 351 (fun _ => 0)) (x := some (.ref 351)) (G := upR (ups Q 350 1 0) 351 (byT k m)) (by decide) (by decide) rfl (st_q s4 (by rw [w_un (by decide)])) (Nat.zero_le _) (fun Q2 T1 h2 s2 => wj_mono ((EqX.tr h2 h4.ups).upR rfl) (w_378 hk hm (by rw [h2.atp, w_un (by decide), h4.atp]; exact hq) s2)) (fun Q5 h5 s5 => ?_)
  rw [krf, eJ_373_35]
  exact wj_ret s5 h5
theorem w_374 {k m : Nat} (hk : k < 9) (hm : m < 4) (b : SbQ Q 15) (hq : Q 349 = byM k m 15) (s : St T c Q I J D) : WJ 352 SM9 RM9 (upR QD 351 (fun _ => 0)) (upR QJ 351 (fun _ => 0)) T none I J D (upR (ups Q 350 1 0) 351 (byT k m)) (ex (374, 0, [.ref 350, .ref 348], [], 351, SP9, RP9, ovr I Q, ovr J QJ, ovr D QD)) := by
  rw [eJ_374_0]
  refine goJ (n2 := 352) (S2 := SM9) (R2 := RM9) (QD2 := upR QD 351 (fun _ => 0)) (QJ2 := upR QJ 351 (fun _ => 0)) (x := none) (G := upR (ups Q 350 1 0) 351 (byT k m)) (by decide) (by decide) rfl s (Nat.zero_le _) (fun Q2 T1 h2 s2 => wj_mono (h2.ups.upR rfl) (w_373 hk hm (b.go h2) (h2.atp.trans hq) s2)) (fun Q5 h5 s5 => ?_)
  rw [kn, eJ_374_6]
  exact wj_ret s5 h5
/-- the text is made -/
theorem w_362 {k m : Nat} (hk : k < 9) (hm : m < 4) (b : SbQ Q 15) (hq : Q 349 = byM k m 15) (s : St T c Q I J D) : WJ 352 SM9 RM9 (upR QD 351 (fun _ => 0)) (upR (upR QJ 350 (fun _ => 0)) 351 (fun _ => 0)) T (some (.ref 350)) I J D (upR (ups (upR Q 350 (fun _ => 0)) 350 1 0) 351 (byT k m)) (ex (362, 0, [.ref 348], [], 350, SL9, RL9, ovr I Q, ovr J QJ, ovr D QD)) := by
  rw [eJ_362_0, upo_R (by decide), upo_R (by decide)]
  refine goJ (n2 := 352) (S2 := SM9) (R2 := RM9) (QD2 := upR QD 351 (fun _ => 0)) (QJ2 := upR (upR QJ 350 (fun _ => 0)) 351 (fun _ => 0)) (x := none) (G := upR (ups (upR Q 350 (fun _ => 0)) 350 1 0) 351 (byT k m)) (by decide) (by decide) rfl (st_q s (by rw [upR_n (f := Q) (by decide)])) (Nat.zero_le _) (fun Q2 T1 h2 s2 => wj_mono (h2.ups.upR rfl) (w_374 hk hm ((sbq_R (by decide) b).go h2) (by rw [h2.atp, upR_n (f := Q) (by decide)]; exact hq) s2)) (fun Q5 h5 s5 => ?_)
  rw [kn, eJ_362_8]
  exact wj_ret s5 h5

end JX
