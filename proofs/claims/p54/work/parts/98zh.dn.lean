/-! isDone: the text is made -/
section DN
variable {n3 : Nat} {S3 : Nat → Nat × Nat} {R3 : Nat → Nat → Option Nat} {QD QD3 : Nat → Nat → UInt64}
variable {X : Nat → Nat → Int32} {QJ : Nat → Nat → Int64} {I : Nat → Nat → Int32} {J : Nat → Nat → Int64} {D : Nat → Nat → UInt64}
variable {T : Nat}
variable {Ps : Option Value → (Nat → Nat → Int32) → (Nat → Nat → Int64) → (Nat → Nat → Int32) → (Nat → Nat → Int64) → (Nat → Nat → UInt64) → Prop}
theorem byM_t {k m n j : Nat} (h : j < n) : byM k m n j = nI (mtx k m j) := by unfold byM; rw [blt_t h]; rfl
theorem byM_f {k m n j : Nat} (h : ¬ j < n) : byM k m n j = 0 := by
  unfold byM
  rw [show Nat.blt j n = false from by cases hb : Nat.blt j n with | false => rfl | true => exact absurd (Nat.blt_eq.mp hb) h]
  rfl
theorem byM_1 {k m n : Nat} {x : Int32} (h : x = nI (mtx k m n)) : upd (byM k m n) n x = byM k m (n + 1) := by
  subst h
  funext j
  by_cases h1 : j = n
  · subst h1; rw [show upd (byM k m j) j _ j = _ from if_pos rfl, byM_t (Nat.lt_succ_self j)]
  · rw [show upd (byM k m n) n _ j = byM k m n j from if_neg h1]
    by_cases h2 : j < n
    · rw [byM_t h2, byM_t (by omega)]
    · rw [byM_f h2, byM_f (by omega)]
theorem byM_c {k m n z P : Nat} (h : ∀ i, i < z → sta P (0 + i) = nI (mtx k m (n + i))) : va_cpy (sta P) (byM k m n) 0 n z = byM k m (n + z) := by
  funext j
  unfold va_cpy
  by_cases h1 : n ≤ j ∧ j < n + z
  · rw [if_pos h1, h _ (by omega), byM_t (by omega), show n + (j - n) = j by omega]
  · rw [if_neg h1]
    by_cases h2 : j < n
    · rw [byM_t h2, byM_t (by omega)]
    · rw [byM_f h2, byM_f (by omega)]
/-- letters before k, m are told do not hang on them -/
theorem byM_k {k k2 m m2 n : Nat} (h : n ≤ 9) : byM k m n = byM k2 m2 n := by
  funext j
  by_cases h1 : j < n
  · rw [byM_t h1, byM_t h1]
    match j, (show j < 9 by omega) with
    | 0, _ | 1, _ | 2, _ | 3, _ | 4, _ | 5, _ | 6, _ | 7, _ | 8, _ => rfl
  · rw [byM_f h1, byM_f h1]
theorem byM_m {k m m2 n : Nat} (h : n ≤ 13) : byM k m n = byM k m2 n := by
  funext j
  by_cases h1 : j < n
  · rw [byM_t h1, byM_t h1]
    match j, (show j < 13 by omega) with
    | 0, _ | 1, _ | 2, _ | 3, _ | 4, _ | 5, _ | 6, _ | 7, _ | 8, _ | 9, _ | 10, _ | 11, _ | 12, _ => rfl
  · rw [byM_f h1, byM_f h1]
theorem byM_0 {k m : Nat} : (fun _ => 0) = byM k m 0 := by
  funext j
  rw [byM_f (Nat.not_lt_zero j)]
theorem w_361D {k c : Nat} (hk : k < 9) (h : SbQ X 9) (s : St T c X I J D) : WJ 350 SL9 RL9 QD QJ T (some (.ref 348)) I J D (ups (ups X 349 9 (nI (49 + k))) 348 3 (nI 10)) (ex (361, 0, [.ref 348, .int (1 + nI k)], [], 350, SL9, RL9, ovr I X, ovr J QJ, ovr D QD)) := by
  match k, hk with
  | 0, _ => rw [show (1 : Int32) + nI 0 = 1 by decide, show nI (49 + 0) = 49 from rfl]; exact w_361d0 h s
  | 1, _ => rw [show (1 : Int32) + nI 1 = 2 by decide, show nI (49 + 1) = 50 from rfl]; exact w_361d1 h s
  | 2, _ => rw [show (1 : Int32) + nI 2 = 3 by decide, show nI (49 + 2) = 51 from rfl]; exact w_361d2 h s
  | 3, _ => rw [show (1 : Int32) + nI 3 = 4 by decide, show nI (49 + 3) = 52 from rfl]; exact w_361d3 h s
  | 4, _ => rw [show (1 : Int32) + nI 4 = 5 by decide, show nI (49 + 4) = 53 from rfl]; exact w_361d4 h s
  | 5, _ => rw [show (1 : Int32) + nI 5 = 6 by decide, show nI (49 + 5) = 54 from rfl]; exact w_361d5 h s
  | 6, _ => rw [show (1 : Int32) + nI 6 = 7 by decide, show nI (49 + 6) = 55 from rfl]; exact w_361d6 h s
  | 7, _ => rw [show (1 : Int32) + nI 7 = 8 by decide, show nI (49 + 7) = 56 from rfl]; exact w_361d7 h s
  | 8, _ => rw [show (1 : Int32) + nI 8 = 9 by decide, show nI (49 + 8) = 57 from rfl]; exact w_361d8 h s
  | k + 9, h => exact absurd h (by omega)
theorem w_361M {k c : Nat} (hk : k < 4) (h : SbQ X 13) (s : St T c X I J D) : WJ 350 SL9 RL9 QD QJ T (some (.ref 348)) I J D (ups (ups X 349 13 (nI (48 + k))) 348 3 (nI 14)) (ex (361, 0, [.ref 348, .int (nI k)], [], 350, SL9, RL9, ovr I X, ovr J QJ, ovr D QD)) := by
  match k, hk with
  | 0, _ => rw [show nI 0 = 0 from rfl, show nI (48 + 0) = 48 from rfl]; exact w_361m0 h s
  | 1, _ => rw [show nI 1 = 1 from rfl, show nI (48 + 1) = 49 from rfl]; exact w_361m1 h s
  | 2, _ => rw [show nI 2 = 2 from rfl, show nI (48 + 2) = 50 from rfl]; exact w_361m2 h s
  | 3, _ => rw [show nI 3 = 3 from rfl, show nI (48 + 3) = 51 from rfl]; exact w_361m3 h s
  | k + 4, h => exact absurd h (by omega)
/-- what the builder holds -/
def Bld (k m n : Nat) (X : Nat → Nat → Int32) : Prop := SbQ X n ∧ X 349 = byM k m n
theorem bld_c {k m n z P : Nat} {X2 : Nat → Nat → Int32} (h : ∀ i, i < z → sta P (0 + i) = nI (mtx k m (n + i))) (b : Bld k m n X) (e : EqX (ups (upR X 349 (va_cpy (sta P) (X 349) 0 n z)) 348 3 (nI (n + z))) X2) : Bld k m (n + z) X2 := by
  refine ⟨⟨?_, ?_⟩, ?_⟩
  · rw [e.atp, w_uk (by decide), upR_n (f := X) (by decide)]; exact b.1.1
  · rw [e.atp, w_us]
  · rw [e.atp, w_un (by decide), upR_s, b.2]; exact byM_c h
theorem bld_i {k m n : Nat} {x : Int32} {X2 : Nat → Nat → Int32} (h : x = nI (mtx k m n)) (b : Bld k m n X) (e : EqX (ups (ups X 349 n x) 348 3 (nI (n + 1))) X2) : Bld k m (n + 1) X2 := by
  refine ⟨⟨?_, ?_⟩, ?_⟩
  · rw [e.atp, w_uk (by decide), w_un (by decide)]; exact b.1.1
  · rw [e.atp, w_us]
  · rw [e.atp, w_un (by decide), show ups X 349 n x 349 = upd (X 349) n x from upR_s, b.2]; exact byM_1 h
theorem sa_9 {k m : Nat} : ∀ i, i < 9 → sta 1000058 (0 + i) = nI (mtx k m (0 + i)) := fun i hi => by
    match i, hi with
    | 0, _ => rfl
    | 1, _ => rfl
    | 2, _ => rfl
    | 3, _ => rfl
    | 4, _ => rfl
    | 5, _ => rfl
    | 6, _ => rfl
    | 7, _ => rfl
    | 8, _ => rfl
    | i + 9, h => exact absurd h (by omega)
theorem sa_3 {k m : Nat} : ∀ i, i < 3 → sta 1000059 (0 + i) = nI (mtx k m (10 + i)) := fun i hi => by
    match i, hi with
    | 0, _ => rfl
    | 1, _ => rfl
    | 2, _ => rfl
    | i + 3, h => exact absurd h (by omega)
theorem sa_1 {k m : Nat} : ∀ i, i < 1 → sta 1000070 (0 + i) = nI (mtx k m (14 + i)) := fun i hi => by
    match i, hi with
    | 0, _ => rfl
    | i + 1, h => exact absurd h (by omega)
theorem dn_made {c : Nat} {r : Int32} (hc : 9 ≤ c) (s : St T c X I J D)
    (K : ∀ k m, k < 9 → m < 4 → ∀ X2, X2 350 1 = 0 → X2 351 = byT k m → St T (c - 9) X2 I J D → WO n3 S3 R3 QD3 Ps (ex (356, 62, [.ref 0, .int r, dv, dv, dv], [.ref 350, .ref 0], 352, SM9, RM9, ovr I X2, ovr J (upR (upR (upR (upR QJ 348 (fun _ => 0)) 349 (fun _ => 0)) 350 (fun _ => 0)) 351 (fun _ => 0)), ovr D (upR (upR QD 349 (fun _ => 0)) 351 (fun _ => 0))))) :
    WO n3 S3 R3 QD3 Ps (ex (356, 8, [.ref 0, dv, dv, dv, dv], [.int r], 348, SC, RC, ovr I X, ovr J QJ, ovr D QD)) := by
  rw [eJ_356_8, upo_R (by decide), upo_R (by decide)]
  refine goJ (d := 0) (n2 := 350) (S2 := SL9) (R2 := RL9) (QD2 := upR QD 349 (fun _ => 0)) (QJ2 := upR (upR QJ 348 (fun _ => 0)) 349 (fun _ => 0)) (x := none) (G := ups (upR (upR X 348 (fun _ => 0)) 349 (fun _ => 0)) 348 1 0) (by decide) (by decide) rfl (st_q s (by rw [upR_n (f := X) (by decide)])) (Nat.zero_le _) (fun Q1 T1 h1 s1 => wj_mono ((h1.upR rfl).ups) (w_359 s1 (by rw [h1.atp, upR_s]))) (fun X1 h1 s1 => ?_)
  have b1 : ∀ k m, Bld k m 0 X1 := fun k m => ⟨⟨by rw [h1.atp, w_us], by rw [h1.atp, w_uk (by decide), upR_n (f := upR X 348 (fun _ => 0)) (by decide), upR_s]; rfl⟩, by rw [h1.atp, w_un (by decide), upR_s]; exact byM_0⟩
  rw [kn, eJ_356_17]
  refine goJ (d := 3) (n2 := 350) (S2 := SL9) (R2 := RL9) (QD2 := upR QD 349 (fun _ => 0)) (QJ2 := upR (upR QJ 348 (fun _ => 0)) 349 (fun _ => 0)) (x := some (.ref 348)) (G := ups (upR X1 349 (va_cpy (sta 1000058) (X1 349) 0 0 9)) 348 3 (nI 9)) (by decide) (by decide) rfl s1 (by omega) (fun Q1 T1 h t => wj_mono ((h.upR (by rw [h.atp])).ups) (w_360a ((b1 0 0).1.go h) t)) (fun X2 h2 s2 => ?_)
  have b2 : ∀ k m, Bld k m 9 X2 := fun k m => bld_c sa_9 (b1 k m) h2
  rw [krf, eJ_356_22]
  refine goN nl_L9 (by decide) (show (9 : Int32) = nI 9 from rfl) ⟨by omega, by omega⟩ s2 (fun X3 k hk h3 s3 => ?_)
  have b3 : ∀ m, Bld k m 9 X3 := fun m => ⟨by unfold SbQ; rw [h3 348 (by decide)]; exact (b2 k m).1, by rw [h3 349 (by decide)]; exact (b2 k m).2⟩
  rw [eJ_356_32]
  refine goJ (d := 0) (n2 := 350) (S2 := SL9) (R2 := RL9) (QD2 := upR QD 349 (fun _ => 0)) (QJ2 := upR (upR QJ 348 (fun _ => 0)) 349 (fun _ => 0)) (x := some (.ref 348)) (G := ups (ups X3 349 9 (nI (49 + k))) 348 3 (nI 10)) (by decide) (by decide) rfl s3 (Nat.zero_le _) (fun Q1 T1 h t => wj_mono h.ups.ups (w_361D hk ((b3 0).1.go h) t)) (fun X4 h4 s4 => ?_)
  have b4 : ∀ m, Bld k m 10 X4 := fun m => bld_i rfl (b3 m) h4
  rw [krf, eJ_356_36]
  refine goJ (d := 3) (n2 := 350) (S2 := SL9) (R2 := RL9) (QD2 := upR QD 349 (fun _ => 0)) (QJ2 := upR (upR QJ 348 (fun _ => 0)) 349 (fun _ => 0)) (x := some (.ref 348)) (G := ups (upR X4 349 (va_cpy (sta 1000059) (X4 349) 0 10 3)) 348 3 (nI 13)) (by decide) (by decide) rfl s4 (by omega) (fun Q1 T1 h t => wj_mono ((h.upR (by rw [h.atp])).ups) (w_360b ((b4 0).1.go h) t)) (fun X5 h5 s5 => ?_)
  have b5 : ∀ m, Bld k m 13 X5 := fun m => bld_c sa_3 (b4 m) h5
  rw [krf, eJ_356_42]
  refine goN nl_L9 (by decide) (show (4 : Int32) = nI 4 from rfl) ⟨by omega, by omega⟩ s5 (fun X6 m hm h6 s6 => ?_)
  have b6 : Bld k m 13 X6 := ⟨by unfold SbQ; rw [h6 348 (by decide)]; exact (b5 m).1, by rw [h6 349 (by decide)]; exact (b5 m).2⟩
  rw [eJ_356_50]
  refine goJ (d := 0) (n2 := 350) (S2 := SL9) (R2 := RL9) (QD2 := upR QD 349 (fun _ => 0)) (QJ2 := upR (upR QJ 348 (fun _ => 0)) 349 (fun _ => 0)) (x := some (.ref 348)) (G := ups (ups X6 349 13 (nI (48 + m))) 348 3 (nI 14)) (by decide) (by decide) rfl s6 (Nat.zero_le _) (fun Q1 T1 h t => wj_mono h.ups.ups (w_361M hm (b6.1.go h) t)) (fun X7 h7 s7 => ?_)
  have b7 : Bld k m 14 X7 := bld_i rfl b6 h7
  rw [krf, eJ_356_53]
  refine goJ (d := 3) (n2 := 350) (S2 := SL9) (R2 := RL9) (QD2 := upR QD 349 (fun _ => 0)) (QJ2 := upR (upR QJ 348 (fun _ => 0)) 349 (fun _ => 0)) (x := some (.ref 348)) (G := ups (upR X7 349 (va_cpy (sta 1000070) (X7 349) 0 14 1)) 348 3 (nI 15)) (by decide) (by decide) rfl s7 (by omega) (fun Q1 T1 h t => wj_mono ((h.upR (by rw [h.atp])).ups) (w_360c (b7.1.go h) t)) (fun X8 h8 s8 => ?_)
  have b8 : Bld k m 15 X8 := bld_c sa_1 b7 h8
  rw [krf, eJ_356_59]
  refine goJ (d := 0) (n2 := 352) (S2 := SM9) (R2 := RM9) (QD2 := upR (upR QD 349 (fun _ => 0)) 351 (fun _ => 0)) (QJ2 := upR (upR (upR (upR QJ 348 (fun _ => 0)) 349 (fun _ => 0)) 350 (fun _ => 0)) 351 (fun _ => 0)) (x := some (.ref 350)) (G := upR (ups (upR X8 350 (fun _ => 0)) 350 1 0) 351 (byT k m)) (by decide) (by decide) rfl s8 (Nat.zero_le _) (fun Q1 T1 h t => wj_mono ((h.upR rfl).ups.upR rfl) (w_362 hk hm (b8.1.go h) (h.atp.trans b8.2) t)) (fun X9 h9 s9 => ?_)
  rw [krf]
  exact K k m hk hm X9 (by rw [h9.atp, upR_n (f := ups (upR X8 350 (fun _ => 0)) 350 1 0) (by decide), w_us]) (by rw [h9.atp, upR_s]) (by rw [show c - 9 = c - 0 - 3 - 0 - 3 - 0 - 3 - 0 by omega]; exact s9)
end DN
