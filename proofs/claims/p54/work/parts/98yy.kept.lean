/-! the glacier: the calls that the law makes of it, isKept -/
section KP
variable {kk n : Nat} {TT : Nat} {QJ : Nat → Nat → Int64} {QD : Nat → Nat → UInt64}
variable {X I : Nat → Nat → Int32} {J : Nat → Nat → Int64} {D : Nat → Nat → UInt64}
variable {X0 I0 G : Nat → Nat → Int32}
theorem with_sc4 {kk : Nat} (x y z u : Int32) (h : Inv 5 kk I J D) : ∃ I' : Nat → Nat → Int32, (∀ p, p ≠ 1000002 → I' p = I p) ∧ Inv 5 kk I' J D ∧ ScOK 0 I' ∧ I' 1000002 1 = x ∧ I' 1000002 2 = y ∧ I' 1000002 3 = z ∧ I' 1000002 4 = u := by
  refine ⟨fun p j => bif Nat.beq p 1000002 then (bif Nat.beq j 1 then x else bif Nat.beq j 2 then y else bif Nat.beq j 3 then z else u) else I p j, fun p hp => ?_, ?_, fun j hj => ?_, rfl, rfl, rfl, rfl⟩
  · funext j
    have e : Nat.beq p 1000002 = false := by
      cases hb : Nat.beq p 1000002 with
      | false => rfl
      | true => exact absurd (beq_e hb) hp
    show (bif Nat.beq p 1000002 then _ else I p j) = I p j
    rw [e]
    rfl
  · obtain ⟨i0, i1, i2, i3, i4⟩ := h
    have e : ∀ p, p ≠ 1000002 → (fun j => bif Nat.beq p 1000002 then (bif Nat.beq j 1 then x else bif Nat.beq j 2 then y else bif Nat.beq j 3 then z else u) else I p j) = I p := fun p hp => by
      funext j
      have e : Nat.beq p 1000002 = false := by
        cases hb : Nat.beq p 1000002 with
        | false => rfl
        | true => exact absurd (beq_e hb) hp
      show (bif Nat.beq p 1000002 then _ else I p j) = I p j
      rw [e]
      rfl
    obtain ⟨I', hI'⟩ : ∃ I' : Nat → Nat → Int32, I' = fun p j => bif Nat.beq p 1000002 then (bif Nat.beq j 1 then x else bif Nat.beq j 2 then y else bif Nat.beq j 3 then z else u) else I p j := ⟨_, rfl⟩
    have e' : ∀ p, p ≠ 1000002 → I' p = I p := fun p hp => by rw [hI']; exact e p hp
    rw [← hI']
    refine ⟨by rw [e' iSCL (by decide)]; exact i0, i1.go (Nat.le_refl _) (fun o k hr => ?_) (fun y _ => by rw [e' 317 (by decide)]), ?_, txt_stay i3 (by rw [e' 312 (by decide)]) (e' 313 (by decide)) (by rw [e' 316 (by decide)]) (e' 320 (by decide)), rng_stay i4 (by rw [e' 245 (by decide)]) (e' 264 (by decide)) (by rw [e' 316 (by decide)]) (e' 319 (by decide))⟩
    · have := rl_lt hr
      show I' (1 + o) k = I (1 + o) k
      rw [e' (1 + o) (by omega)]
    · obtain ⟨a, x, e9, h1, h2, h3, h4, h5, h6, h7, h8, h9⟩ := i2
      refine ⟨a, x, e9, h1, h2, h3, h4, by rw [e' 0 (by decide)]; exact h5, by rw [e' 0 (by decide)]; exact h6, by rw [e' 316 (by decide)]; exact h7, by rw [e' 316 (by decide)]; exact h8, fun s hs hv => ?_⟩
      refine (h9 s hs hv).go (Nat.le_refl _) (fun o k hr => ?_) (fun y _ => by rw [e' 318 (by decide)])
      have := rl_lt hr
      show I' (29 + 27 * s + o) k = I (29 + 27 * s + o) k
      rw [e' (29 + 27 * s + o) (by omega)]
  · obtain ⟨i0, -⟩ := h
    show 0 ≤ (0 : Int32) + nI j ∧ (0 : Int32) + nI j < (bif Nat.beq iSCL 1000002 then _ else I iSCL 0)
    rw [show Nat.beq iSCL 1000002 = false from by decide, cond_false, i0]
    have : ∀ j, j < 5 → 0 ≤ (0 : Int32) + nI j ∧ (0 : Int32) + nI j < Int32.ofNat 5 := by decide
    exact this j hj
theorem a_cell (h : Inv 5 kk I J D) {c : Nat} (hc : c < 12) {y z : Int32} (hy : in999 y) (hz : in999 z) :
    Call kk 129 [.ref 1, .int (nI c), .int y, .int z, dv] (.inl (some (.int (I 26 c)))) I J D (fun I2 => I2 10 = I 10) := by
  obtain ⟨I', k1, h', sc, s1, s2, s3⟩ := with_sc (nI c) y z h
  obtain ⟨I1, e1, f1, hs⟩ := rem_h h'.2.2.1 h'.2.1.th J D
  have lo1 : ∀ p, 1 ≤ p → p < 28 → I1 p = I p := fun p h1 h2 => by rw [f1 p (by omega) (by omega), k1 p (by omega)]
  have hx : 0 ≤ nI c ∧ nI c < 12 := ⟨nI_pos' (by omega), (nI_ltI (a := c) (b := 12) (by omega) (by decide)).mpr hc⟩
  refine call_a (as := [.ref 0, .int (nI c), .int y, .int z, dv]) (o := .inl (some (.int (I 26 c)))) (fun p hp => k1 p (by omega)) rfl (gl_of rfl) (fun z hz => by cases hz) (callY (y_39 0 h' sc) (by show ((129, [.ref 0, .int (I' 1000002 1), .int (I' 1000002 2), .int (I' 1000002 3), dv]) : Nat × List Value) = _; rw [s1, s2, s3])) (I2 := ups (ups I1 25 c y) 26 c z) (J2 := J) (D2 := D) ?_ (fun I3 h3 => by rw [h3 10 (by decide), uI (by decide), uI (by decide)]; exact lo1 10 (by decide) (by decide))
  rw [e_129_0, x_ni hx, cal_v, kn, e_129_6, x_nr hy, cal_v, kn, e_129_14, x_nr hz, cal_v, kn, e_129_22, e1, cal_v, kn, e_129_26, inb_n hc (by decide), cond_true, cond_true, cond_true, nI_clamp (by omega), lo1 26 (by decide) (by decide)]
theorem q_ice (h : Inv 5 kk I J D) {c : Nat} (hc : c < 12) : Call kk 131 [.ref 1, .int (nI c)] (.inl (some (.int (I 26 c)))) I J D (Lay2 I) := by
  have hx : 0 ≤ nI c ∧ nI c < 12 := ⟨nI_pos' (by omega), (nI_ltI (a := c) (b := 12) (by omega) (by decide)).mpr hc⟩
  refine q_lay (as := [.ref 0, .int (nI c)]) (v := some (.int (I 26 c))) h rfl (gl_of rfl) ?_
  rw [e_131_0, x_ni hx, cal_v, kn, e_131_6, inb_n hc (by decide), cond_true, nI_clamp (by omega)]
theorem q_won (h : Inv 5 kk I J D) : Call kk 132 [.ref 1] (.inl (some (.int (I 24 3)))) I J D (Lay2 I) := by
  refine q_lay (as := [.ref 0]) (v := some (.int (I 24 3))) h rfl (gl_of rfl) ?_
  rw [e_132_0]
theorem a_flow (h : Inv 5 kk I J D) (hkk : kk ≤ 5000) {N : Nat} (h1 : 1 ≤ N) (h2 : N ≤ 50) {l s m : Int32} (hl : 0 ≤ l ∧ l ≤ 2000) (hs : 0 ≤ s ∧ s ≤ 20) (hm : 0 ≤ m ∧ m ≤ 20) :
    Call kk 130 [.ref 1, .int (nI N), .int l, .int s, .int m, dv] (.inl (some (.int (totN (itA (I 25) l s m N (I 26, I 24 3)).1 12)))) I J D (fun I2 => (I2 26 = (itA (I 25) l s m N (I 26, I 24 3)).1 ∧ I2 24 3 = (itA (I 25) l s m N (I 26, I 24 3)).2) ∧ ∀ l, l.length ≤ 7 → Hs I l → Hs I2 (PG I :: l)) := by
  obtain ⟨I', k1, h', sc, s1, s2, s3, s4⟩ := with_sc4 (nI N) l s m h
  obtain ⟨I1, e1, f1, hsp⟩ := rem_h h'.2.2.1 h'.2.1.th J D
  have ep : PG I' = PG I := ag_sc k1
  have hI : Kpt I I' := kpt_lo fun p hp => k1 p (by omega)
  have lo1 : ∀ p, 1 ≤ p → p < 28 → I1 p = I p := fun p h1 h2 => by rw [f1 p (by omega) (by omega), k1 p (by omega)]
  have hN : 1 ≤ nI N ∧ nI N ≤ 50 := ⟨(nI_leI (a := 1) (by decide) (by omega)).mpr h1, (nI_leI (b := 50) (by omega) (by decide)).mpr h2⟩
  obtain ⟨I2, e2, o1, o2, o3, o4⟩ := c_steps (b := I 25) (a := I 26) (g := I 24 3) (l := l) (s := s) (m := m) (J := J) (D := D) h2 N 0 (by omega) I1 (lo1 25 (by decide) (by decide)) (lo1 26 (by decide) (by decide)) (by rw [lo1 24 (by decide) (by decide)]; rfl)
  refine call_a (as := [.ref 0, .int (nI N), .int l, .int s, .int m, dv]) (o := .inl (some (.int (totN (itA (I 25) l s m N (I 26, I 24 3)).1 12)))) (fun p hp => k1 p (by omega)) rfl (gl_of rfl) (fun z hz => by cases hz) (callY (y_40 0 h' sc (by omega)) (by show ((130, [.ref 0, .int (I' 1000002 1), .int (I' 1000002 2), .int (I' 1000002 3), .int (I' 1000002 4), dv]) : Nat × List Value) = _; rw [s1, s2, s3, s4])) (I2 := I2) (J2 := J) (D2 := D) ?_ (fun I3 h3 => ⟨⟨?_, ?_⟩, fun l hl hh => ?_⟩)
  · have ht := c_tot (I := I2) (J := J) (D := D) (a := (itA (I 25) l s m N (I 26, I 24 3)).1) (fun j _ => by rw [o3]) 12 0 (by omega)
    rw [e_130_0, x_nr hN, cal_v, kn, e_130_7, x_nr hl, cal_v, kn, e_130_15, x_nr hs, cal_v, kn, e_130_22, x_nr hm, cal_v, kn, e_130_30, e1, cal_v, kn, e_130_34, show (Value.int 0) = Value.int (nI 0) from rfl, e2, e_130_73, e_32_0]
    have ht2 : ex (32, 4, [.ref 24, .int 0, .int 0], [], mm I2 J D) = _ := ht
    rw [ht2, cal_v, ka, e_130_83]
  · rw [h3 26 (by decide)]; exact o3
  · rw [h3 24 (by decide)]; exact o4
  · rw [← ep]
    exact hsp I3 (by rw [h3 0 (by decide), o1 0 (by decide) (by decide) (by decide)]; exact ⟨rfl, rfl⟩) (fun p h1 h2 => by rw [h3 p (by omega), o1 p (by omega) (by omega) (by omega)]) l hl (hI.2 l hh)
/-- what is won is what more there is -/
theorem mv_tot {b a : Nat → Int32} : ∀ n, n < 12 → totN (mvN b a) (n + 1) = totN a (n + 1) - ouR b a n := by
  intro n
  induction n with
  | zero =>
    intro h
    show totN (mvN b a) 0 + mvN b a 0 = totN a 0 + a 0 - ouR b a 0
    have e : mvN b a 0 = a 0 + (inL b a 0 - ouR b a 0) := by unfold mvN; rw [if_pos (by decide)]
    have e2 : inL b a 0 = 0 := by unfold inL; rw [if_pos rfl]
    rw [e, e2]
    show (0 : Int32) + (a 0 + (0 - ouR b a 0)) = 0 + a 0 - ouR b a 0
    grind
  | succ n ih =>
    intro h
    have ih := ih (by omega)
    show totN (mvN b a) (n + 1) + mvN b a (n + 1) = totN a (n + 1) + a (n + 1) - ouR b a (n + 1)
    have e : mvN b a (n + 1) = a (n + 1) + (inL b a (n + 1) - ouR b a (n + 1)) := by unfold mvN; rw [if_pos h]
    have e2 : inL b a (n + 1) = ouR b a n := by unfold inL ouR; rw [if_neg (by omega), if_pos (by omega)]; rfl
    rw [ih, e, e2]
    generalize totN a (n + 1) = t; generalize ouR b a n = u; generalize ouR b a (n + 1) = w; generalize a (n + 1) = v
    grind
theorem mv_tot12 {b a : Nat → Int32} : totN (mvN b a) 12 = totN a 12 := by
  rw [mv_tot 11 (by decide)]
  have : ouR b a 11 = 0 := by unfold ouR; rw [if_neg (by decide)]
  rw [this]
  grind
theorem wt_tot {b a : Nat → Int32} {l s m g : Int32} : ∀ n, n ≤ 12 → totN (wtN b a l s m) n + g = totN a n + gsN b a l s m g n := by
  intro n
  induction n with
  | zero => intro h; rfl
  | succ n ih =>
    intro h
    have ih := ih (by omega)
    show totN (wtN b a l s m) n + wtN b a l s m n + g = totN a n + a n + (gsN b a l s m g n + gnN b a l s m n)
    have e : wtN b a l s m n = a n + gnN b a l s m n := by unfold wtN; rw [if_pos (by omega)]
    rw [e]
    generalize totN (wtN b a l s m) n = t at ih ⊢; generalize totN a n = u at ih ⊢; generalize gsN b a l s m g n = w at ih ⊢; generalize gnN b a l s m n = q; generalize a n = v
    grind
theorem it_tot {b : Nat → Int32} {l s m : Int32} {x : (Nat → Int32) × Int32} : ∀ n, totN (itA b l s m n x).1 12 + x.2 = totN x.1 12 + (itA b l s m n x).2 := by
  intro n
  induction n with
  | zero => rfl
  | succ n ih =>
    have e1 : (itA b l s m (n + 1) x).1 = wtN b (mvN b (itA b l s m n x).1) l s m := rfl
    have e2 : (itA b l s m (n + 1) x).2 = gsN b (mvN b (itA b l s m n x).1) l s m (itA b l s m n x).2 12 := rfl
    have k := wt_tot (b := b) (a := mvN b (itA b l s m n x).1) (l := l) (s := s) (m := m) (g := (itA b l s m n x).2) 12 (Nat.le_refl _)
    rw [mv_tot12] at k
    rw [e1, e2]
    generalize totN (itA b l s m n x).1 12 = A at ih k
    generalize (itA b l s m n x).2 = B at ih k ⊢
    generalize totN (wtN b (mvN b (itA b l s m n x).1) l s m) 12 = C at k ⊢
    generalize gsN b (mvN b (itA b l s m n x).1) l s m B 12 = E at k ⊢
    grind
theorem hs_eq {I2 : Nat → Nat → Int32} {l : List (Nat → Nat → Int32)} (h : Hs I l) (f : ∀ p, p < 273 → I2 p = I p) : Hs I2 l := hs_of h (by rw [f 0 (by decide)]; exact ⟨rfl, rfl⟩) (fun p h1 h2 => f p (by omega))
/-- all the ice -/
theorem lw_ice {c : Nat} (s : St TT c X I J D) (hc : 12 ≤ c) : WP 348 SC RC QD TT X QJ (fun v I2 => v = some (.int (totN (I 26) 12)) ∧ ∀ p, p < 273 → I2 p = I p) (ex (353, 0, [.ref 0, dv, dv], [], 348, SC, RC, ovr I X, ovr J QJ, ovr D QD)) := by
  have go : ∀ q i, i + q = 12 → ∀ (X1 I1 : Nat → Nat → Int32) (J1 : Nat → Nat → Int64) (D1 : Nat → Nat → UInt64) c, q ≤ c → St TT c X1 I1 J1 D1 → (∀ p, p ≠ iCRD → X1 p = X p) → (∀ p, p < 273 → I1 p = I p) →
      WP 348 SC RC QD TT X QJ (fun v I2 => v = some (.int (totN (I 26) 12)) ∧ ∀ p, p < 273 → I2 p = I p) (ex (353, 4, [.ref 0, .int (totN (I 26) i), .int (nI i)], [], 348, SC, RC, ovr I1 X1, ovr J1 QJ, ovr D1 QD)) := by
    intro q
    induction q with
    | zero =>
      intro i hi X1 I1 J1 D1 c hc s kx f
      have hi : i = 12 := by omega
      subst hi
      rw [eC_353_4, decide_eq_true (show (12 : Int32) ≤ nI 12 by decide), cond_true, eC_353_27]
      exact wp_ret ⟨rfl, f⟩ kx s
    | succ q ih =>
      intro i hi X1 I1 J1 D1 c hc s kx f
      obtain ⟨c, rfl⟩ : ∃ c', c = c' + 1 := ⟨c - 1, by omega⟩
      rw [eC_353_4, decide_eq_false (show ¬ (12 : Int32) ≤ nI i from nI_ge (b := 12) (by omega) (by decide)), cond_false, eC_353_10]
      refine goK bas_C (by decide) rfl s (fun kk _ hi9 => q_ice hi9 (show i < 12 by omega)) (fun X2 I2 J2 D2 hx2 s2 hl2 => ?_)
      rw [ka, eC_353_19, nI_1, f 26 (by decide)]
      exact ih (i + 1) (by omega) X2 I2 J2 D2 c (by omega) s2 (fun p hp => (hx2 p hp).trans (kx p hp)) (fun p hp => (hl2.2 p hp).trans (f p hp))
  rw [eC_353_0]
  exact go 12 0 rfl X I J D c hc s (fun _ _ => rfl) (fun _ _ => rfl)
/-- behind isKept -/
def KpP (T : Nat) (u : Int32) (X0 : Nat → Nat → Int32) (v : Option Value) (X2 : Nat → Nat → Int32) (I2 : Nat → Nat → Int32) (J2 : Nat → Nat → Int64) (D2 : Nat → Nat → UInt64) : Prop :=
  (v = some (.int 1) ∧ I2 10 4 = u ∧ XK X0 X2) ∧ ∃ c2, St T c2 X2 I2 J2 D2
abbrev WK (TT : Nat) (u : Int32) (QD : Nat → Nat → UInt64) (X0 : Nat → Nat → Int32) (x : Option Ou) : Prop := WO 348 SC RC QD (fun v X2 _ I2 J2 D2 => KpP TT u X0 v X2 I2 J2 D2) x
theorem nn_a {a b : Nat → Int32} {S : Int} (h : IceOK b a S) {j : Nat} (hj : j < 12) : 0 ≤ a j := Int32.le_iff_toInt_le.mpr (h.2.1 j hj)
/-- from undo on -/
theorem lw_kend {g : Nat → Nat → Int32} {u v w : Int32} (hu : g 9 4 = u) (hv : totN (g 25) 12 = v) (hw : g 23 3 = w) {c : Nat} (hc : 17 ≤ c) (s : St TT c X I J D) (kx : XK X0 X) (hh : Hs I [g]) :
    WK TT u QD X0 (ex (354, 181, [.ref 0, .int v, .int w, dv, dv], [], 348, SC, RC, ovr I X, ovr J QJ, ovr D QD)) := by
  obtain ⟨c, rfl⟩ : ∃ c', c = c' + 17 := ⟨c - 17, by omega⟩
  obtain ⟨v1, hv1, ca1⟩ : ∃ v, v ≤ 8 ∧ ∀ kk, kk ≤ 5000 → Inv 5 kk I J D → Call kk 136 [.ref 1, dv] (.inl (some (.int (nI v)))) I J D (fun I2 => PG I2 = g ∧ Hs I2 []) := by
    obtain ⟨-, -, kk, -, hi⟩ := id s
    obtain ⟨v, hv, ⟨Ia, Ja, Da, hans, -, -⟩⟩ := a_undo hi hh
    refine ⟨v, hv, fun kk2 _ hi2 => ?_⟩
    obtain ⟨v2, hv2, ⟨Ib, Jb, Db, hans2, r2, r3⟩⟩ := a_undo hi2 hh
    have e1 := hans 348 SC RC X QJ QD bas_C
    have e2 := hans2 348 SC RC X QJ QD bas_C
    rw [e1] at e2
    have e3 := congrArg Prod.fst (Option.some.inj e2)
    have e4 : nI v = nI v2 := by injection e3 with e3; injection e3 with e3; injection e3
    rw [e4]
    exact ⟨Ib, Jb, Db, hans2, r2, r3⟩
  rw [eC_354_181]
  refine goK bas_C (by decide) rfl (c := c + 16) s ca1 (fun X1 I1 J1 D1 hx1 s1 hs1 => ?_)
  rw [ka, eC_354_188, decide_eq_false (nI_pos (by omega)), cond_false, eC_354_191]
  have t1 : totN (I1 26) 12 = v := by
    have ce : ∀ n, n ≤ 12 → totN (I1 26) n = totN (g 25) n := by
      intro n
      induction n with
      | zero => intro _; rfl
      | succ n ih =>
        intro h
        show totN (I1 26) n + I1 26 n = totN (g 25) n + g 25 n
        have : PG I1 25 n = I1 26 n := pg_at (show rl 25 n = true from Nat.blt_eq.mpr (by omega))
        rw [ih (by omega), ← this, hs1.1]
    rw [ce 12 (Nat.le_refl _), hv]
  have w1 : I1 24 3 = w := by
    have : PG I1 23 3 = I1 24 3 := pg_at (show rl 23 3 = true from rfl)
    rw [← this, hs1.1, hw]
  refine goP (by decide) (by decide) (d := 15) rfl s1 (by omega) (fun Q1 T1 hq9 s2 => lw_ice s2 (by omega)) (fun v2 X2 I2 J2 D2 hx2 s2 hp => ?_)
  obtain ⟨rfl, f2⟩ := hp
  rw [ka, eC_354_195, t1, decide_eq_false (fun h => h rfl), cond_false, eC_354_199]
  rw [show c + 16 - 15 = c + 1 by omega] at s2
  refine goK bas_C (by decide) rfl s2 (fun kk _ hi9 => q_won hi9) (fun X3 I3 J3 D3 hx3 s3 hl3 => ?_)
  rw [ka, eC_354_206, f2 24 (by decide), w1, decide_eq_false (fun h => h rfl), cond_false, eC_354_210, eC_354_215, decide_eq_true (show (1 : Int32) = 0 ∨ (1 : Int32) = 1 from Or.inr rfl), cond_true]
  have u1 : I3 10 4 = u := by
    have : PG I1 9 4 = I1 10 4 := pg_at rfl
    rw [hl3.2 10 (by decide), f2 10 (by decide), ← this, hs1.1, hu]
  exact wo_ret ⟨⟨rfl, u1, fun p h1 h2 => by rw [hx3 p h1, hx2 p h1, hx1 p h1]; exact kx p h1 h2⟩, c, s3⟩
/-- every cell keeps some -/
theorem lw_kcell {g : Nat → Nat → Int32} {u v w : Int32} (hu : g 9 4 = u) (hv : totN (g 25) 12 = v) (hw : g 23 3 = w) : ∀ q i, i + q = 12 → ∀ (X I : Nat → Nat → Int32) (J : Nat → Nat → Int64) (D : Nat → Nat → UInt64) c, q + 17 ≤ c → St TT c X I J D → XK X0 X → Hs I [g] →
    WK TT u QD X0 (ex (354, 154, [.ref 0, .int v, .int w, dv, .int (nI i)], [], 348, SC, RC, ovr I X, ovr J QJ, ovr D QD)) := by
  intro q
  induction q with
  | zero =>
    intro i hi X I J D c hc s kx hh
    have hi : i = 12 := by omega
    subst hi
    rw [eC_354_154, decide_eq_true (show (12 : Int32) ≤ nI 12 by decide), cond_true]
    exact lw_kend hu hv hw (by omega) s kx hh
  | succ q ih =>
    intro i hi X I J D c hc s kx hh
    obtain ⟨c, rfl⟩ : ∃ c', c = c' + 1 := ⟨c - 1, by omega⟩
    obtain ⟨-, -, kk, -, hi8⟩ := id s
    have h0 : 0 ≤ I 26 i := nn_a (inv_ice hi8.2.1).1 (by omega)
    rw [eC_354_154, decide_eq_false (show ¬ (12 : Int32) ≤ nI i from nI_ge (b := 12) (by omega) (by decide)), cond_false, eC_354_161]
    refine goK bas_C (by decide) rfl s (fun kk _ hi9 => q_ice hi9 (show i < 12 by omega)) (fun X2 I2 J2 D2 hx2 s2 hl2 => ?_)
    rw [ka, eC_354_170, decide_eq_true h0, cond_true, eC_354_175, nI_1]
    exact ih (i + 1) (by omega) X2 I2 J2 D2 c (by omega) s2 (fun p h1 h2 => (hx2 p h1).trans (kx p h1 h2)) (hs_eq hh hl2.2)
theorem lw_kflow {u : Int32} {c : Nat} (hu : I 10 4 = u) (hc : 80 ≤ c) (s : St TT c X I J D) (kx : XK X0 X) : WK TT u QD X0 (ex (354, 63, [.ref 0, dv, dv, dv, dv], [], 348, SC, RC, ovr I X, ovr J QJ, ovr D QD)) := by
  obtain ⟨c, rfl⟩ : ∃ c', c = c' + 80 := ⟨c - 80, by omega⟩
  rw [eC_354_63]
  refine goP (by decide) (by decide) (d := 15) rfl s (by omega) (fun Q1 T1 hq9 s2 => lw_ice s2 (by omega)) (fun v X1 I1 J1 D1 hx1 s1 hp => ?_)
  obtain ⟨rfl, f1⟩ := hp
  rw [ka, eC_354_67]
  rw [show c + 80 - 15 = c + 64 + 1 by omega] at s1
  refine goK bas_C (by decide) rfl s1 (fun kk _ hi9 => q_won hi9) (fun X2 I2 J2 D2 hx2 s2 hl2 => ?_)
  have f2 : ∀ p, p < 273 → I2 p = I p := fun p hp => (hl2.2 p hp).trans (f1 p hp)
  rw [ka, eC_354_75, f1 24 (by decide)]
  refine goN nl_C (by decide) (show (12 : Int32) = nI 12 from rfl) ⟨by omega, by omega⟩ s2 (fun X3 a ha hx3 s3 => ?_)
  rw [eC_354_90]
  refine goN nl_C (by decide) (show (400 : Int32) = nI 400 from rfl) ⟨by omega, by omega⟩ s3 (fun X4 b hb hx4 s4 => ?_)
  rw [eC_354_103]
  refine goN nl_C (by decide) (show (9 : Int32) = nI 9 from rfl) ⟨by omega, by omega⟩ s4 (fun X5 d hd hx5 s5 => ?_)
  rw [eC_354_113]
  refine goN nl_C (by decide) (show (9 : Int32) = nI 9 from rfl) ⟨by omega, by omega⟩ s5 (fun X6 e he hx6 s6 => ?_)
  rw [eC_354_122, show (1 : Int32) + nI a = nI (1 + a) from nI_add 1 a, show (100 : Int32) + nI b = nI (100 + b) from nI_add 100 b]
  have r20 : ∀ j, j < 9 → 0 ≤ nI j ∧ nI j ≤ 20 := by decide
  refine goK bas_C (by decide) rfl (c := c + 63) s6 (fun kk hk hi9 => a_flow hi9 hk (show 1 ≤ 1 + a by omega) (show 1 + a ≤ 50 by omega) (l := nI (100 + b)) ⟨nI_pos' (by omega), (nI_leI (b := 2000) (by omega) (by decide)).mpr (by omega)⟩ (r20 d hd) (r20 e he)) (fun X7 I7 J7 D7 hx7 s7 hp7 => ?_)
  obtain ⟨⟨p1, p2⟩, p3⟩ := hp7
  have tt := it_tot (b := I2 25) (l := nI (100 + b)) (s := nI d) (m := nI e) (x := (I2 26, I2 24 3)) (1 + a)
  have hs0 : Hs I2 [] := by
    obtain ⟨-, -, kk, -, hi⟩ := id s6
    exact hs_nil hi
  have hs7 : Hs I7 [PG I2] := p3 [] (by simp) hs0
  rw [← p1, ← p2] at tt
  rw [ka, ← p1, eC_354_125]
  refine goP (by decide) (by decide) (d := 15) rfl s7 (by omega) (fun Q1 T1 hq9 s2 => lw_ice s2 (by omega)) (fun v X8 I8 J8 D8 hx8 s8 hp => ?_)
  obtain ⟨rfl, f8⟩ := hp
  rw [ka, eC_354_131, decide_eq_false (fun h => h rfl), cond_false, eC_354_134]
  rw [show c + 63 - 15 = c + 47 + 1 by omega] at s8
  refine goK bas_C (by decide) rfl s8 (fun kk _ hi9 => q_won hi9) (fun X9 I9 J9 D9 hx9 s9 hl9 => ?_)
  have eq : totN (I7 26) 12 - totN (I 26) 12 = I7 24 3 - I 24 3 := by
    have tt : totN (I7 26) 12 + I2 24 3 = totN (I2 26) 12 + I7 24 3 := tt
    rw [f2 26 (by decide), f2 24 (by decide)] at tt
    generalize totN (I7 26) 12 = A at tt ⊢; generalize totN (I 26) 12 = B at tt ⊢; generalize I7 24 3 = C at tt ⊢; generalize I 24 3 = E at tt ⊢
    grind
  rw [ka, eC_354_144, f8 24 (by decide), decide_eq_true eq, cond_true, eC_354_151, show (Value.int 0) = Value.int (nI 0) from rfl]
  have gv : totN (PG I2 25) 12 = totN (I 26) 12 := by
    have ce : ∀ n, n ≤ 12 → totN (PG I2 25) n = totN (I 26) n := by
      intro n
      induction n with
      | zero => intro _; rfl
      | succ n ih =>
        intro h
        show totN (PG I2 25) n + PG I2 25 n = totN (I 26) n + I 26 n
        have : PG I2 25 n = I2 26 n := pg_at (show rl 25 n = true from Nat.blt_eq.mpr (by omega))
        rw [ih (by omega), this, f2 26 (by decide)]
    exact ce 12 (Nat.le_refl _)
  have gw : PG I2 23 3 = I 24 3 := by
    have : PG I2 23 3 = I2 24 3 := pg_at (show rl 23 3 = true from rfl)
    rw [this, f2 24 (by decide)]
  have gu : PG I2 9 4 = u := by
    have : PG I2 9 4 = I2 10 4 := pg_at rfl
    rw [this, f2 10 (by decide), hu]
  refine lw_kcell gu gv gw 12 0 rfl X9 I9 J9 D9 (c + 47) (by omega) s9 (fun p h1 h2 => ?_) (hs_eq (hs_eq hs7 f8) hl9.2)
  rw [hx9 p h1, hx8 p h1, hx7 p h1, hx6 p h2, hx5 p h2, hx4 p h2, hx3 p h2, hx2 p h1, hx1 p h1]
  exact kx p h1 h2
theorem lw_kset {u : Int32} : ∀ q, q ≤ 8 → ∀ (X I : Nat → Nat → Int32) (J : Nat → Nat → Int64) (D : Nat → Nat → UInt64) c, q + 80 ≤ c → St TT c X I J D → I 10 4 = u → XK X0 X →
    WK TT u QD X0 (ex (354, 12, [.ref 0, .int (nI q), dv, dv, dv], [], 348, SC, RC, ovr I X, ovr J QJ, ovr D QD)) := by
  intro q
  induction q with
  | zero =>
    intro hq X I J D c hc s hu kx
    rw [eC_354_12, decide_eq_true (show nI 0 ≤ 0 by decide), cond_true]
    exact lw_kflow hu (by omega) s kx
  | succ q ih =>
    intro hq X I J D c hc s hu kx
    obtain ⟨c, rfl⟩ : ∃ c', c = c' + 1 := ⟨c - 1, by omega⟩
    rw [eC_354_12, decide_eq_false (show ¬ nI (q + 1) ≤ 0 from nI_nle (by omega) (by omega)), cond_false, eC_354_16]
    refine goN nl_C (by decide) (show (12 : Int32) = nI 12 from rfl) ⟨by omega, by omega⟩ s (fun X1 z hz hx1 s1 => ?_)
    rw [eC_354_29]
    refine goN nl_C (by decide) (show (400 : Int32) = nI 400 from rfl) ⟨by omega, by omega⟩ s1 (fun X2 a ha hx2 s2 => ?_)
    rw [eC_354_39]
    refine goN nl_C (by decide) (show (300 : Int32) = nI 300 from rfl) ⟨by omega, by omega⟩ s2 (fun X3 b hb hx3 s3 => ?_)
    rw [eC_354_49]
    obtain ⟨-, -, kk, -, hi8⟩ := id s3
    have h0 : 0 ≤ I 26 z := nn_a (inv_ice hi8.2.1).1 hz
    have r9 : ∀ j, j < 400 → in999 (nI j) := fun j hj => ⟨nI_pos' (by omega), (nI_leI (b := 999) (by omega) (by decide)).mpr (by omega)⟩
    refine goK bas_C (by decide) rfl s3 (fun kk _ hi9 => a_cell hi9 hz (r9 a ha) (r9 b (by omega))) (fun X4 I4 J4 D4 hx4 s4 hp => ?_)
    rw [ka, eC_354_52, decide_eq_true h0, cond_true, eC_354_57, show nI (q + 1) + (-1) = nI q from nI_dec q]
    exact ih (by omega) X4 I4 J4 D4 c (by omega) s4 (by rw [hp]; exact hu) (fun p h1 h2 => by rw [hx4 p h1, hx3 p h2, hx2 p h2, hx1 p h2]; exact kx p h1 h2)
theorem lw_kept (s : St TT 100 X I J D) : WK TT (I 10 4) QD X (ex (354, 0, [.ref 0, dv, dv, dv, dv], [], 348, SC, RC, ovr I X, ovr J QJ, ovr D QD)) := by
  rw [eC_354_0]
  refine goN nl_C (by decide) (show (7 : Int32) = nI 7 from rfl) ⟨by omega, by omega⟩ s (fun X1 q hq hx1 s1 => ?_)
  rw [eC_354_10, show (2 : Int32) + nI q = nI (2 + q) from nI_add 2 q]
  exact lw_kset (2 + q) (by omega) X1 I J D 100 (by omega) s1 rfl (fun p h1 h2 => hx1 p h2)
end KP
