/-! doLine -/
def LnOK (L kk : Nat) (I : Nat → Nat → Int32) (J : Nat → Nat → Int64) (D : Nat → Nat → UInt64) (k : Nat) (x y z : Int32) : Prop := ∃ I1 : Nat → Nat → Int32, (∀ p, 316 ≤ p → I1 p = I p) ∧
  ((∃ r : Int32, ex (145, 0, [.ref 0, .int (nI k), .int x, .int y, .int z], [], mm I J D) = some (.inl (some (.int r)), mm I1 J D) ∧ ∀ J2 D2 I7, MPt I1 I7 → ∃ I2, ex (264, 52, [.ref 316, .int (nI k), .int x, .int y, .int z], [.int (nI k)], mm I7 J2 D2) = some (.inl (some (.int r)), mm I2 J2 D2) ∧ I2 316 0 = 0 ∧ Inv0 L (kk + 1) I2 ∧ TxtKeep I I2) ∨
   ∃ (E : Nat) (c : Int32), ((k < 5 ∧ ((E = 2 ∧ c = 1) ∨ (E = 1 ∧ c = 2) ∨ (E = 0 ∧ c = 3))) ∨ (k = 5 ∧ E = 0 ∧ c = 1)) ∧ ex (145, 0, [.ref 0, .int (nI k), .int x, .int y, .int z], [], mm I J D) = some (.inr (.inl E), mm I1 J D) ∧ ∀ J2 D2 I7, MPt I1 I7 → ∃ (s : Int32) (I2 : Nat → Nat → Int32), ex (264, 52, [.ref 316, .int (nI k), .int x, .int y, .int z], [.int (nI k)], mm I7 J2 D2) = some (.inl (some (.int s)), mm I2 J2 D2) ∧ I2 316 0 = c ∧ Inv0 L (kk + 1) I2 ∧ TxtKeep I I2)
theorem LnOK.of {L kk : Nat} {I : Nat → Nat → Int32} {J : Nat → Nat → Int64} {D : Nat → Nat → UInt64} {k μ1 μ2 pc1 pc2 : Nat} {x y z : Int32} {a1 a2 l1 l2 : List Value} (hk : k < 5) (h : ActOK L kk I J D μ1 a1 μ2 a2)
    (e1 : ∀ I J D, ex (145, 0, [.ref 0, .int (nI k), .int x, .int y, .int z], [], mm I J D) = cal 145 pc1 l1 [] (ex (μ1, 0, a1, [], mm I J D))) (k1 : ∀ I J D (r : Int32), ex (145, pc1, l1, [.int r], mm I J D) = some (.inl (some (.int r)), mm I J D))
    (e2 : ∀ I J D, ex (264, 52, [.ref 316, .int (nI k), .int x, .int y, .int z], [.int (nI k)], mm I J D) = cal 264 pc2 l2 [] (ex (μ2, 0, a2, [], mm I J D))) (k2 : ∀ I J D (r : Int32), ex (264, pc2, l2, [.int r], mm I J D) = some (.inl (some (.int r)), mm I J D)) : LnOK L kk I J D k x y z := by
  obtain ⟨I1, q1, ⟨r, f1, nx⟩ | ⟨E, c, hE, f1, nx⟩⟩ := h
  · refine ⟨I1, q1, Or.inl ⟨r, by rw [e1, f1, cal_v, ka, k1], fun J2 D2 I7 h7 => ?_⟩⟩
    obtain ⟨I2, f2, q3, i2⟩ := nx J2 D2 I7 h7
    exact ⟨I2, by rw [e2, f2, cal_v, ka, k2], q3, i2⟩
  · refine ⟨I1, q1, Or.inr ⟨E, c, Or.inl ⟨hk, hE⟩, by rw [e1, f1, cal_e], fun J2 D2 I7 h7 => ?_⟩⟩
    obtain ⟨s, I2, f2, q3, i2⟩ := nx J2 D2 I7 h7
    exact ⟨s, I2, by rw [e2, f2, cal_v, ka, k2], q3, i2⟩
section LO
variable {L kk : Nat} {I : Nat → Nat → Int32} {J : Nat → Nat → Int64} {D : Nat → Nat → UInt64}
theorem ln_5 (h : Inv0 L kk I) (x y z : Int32) : LnOK L kk I J D 5 x y z := by
  have e1 : ∀ I J D, ex (145, 0, [.ref 0, .int (nI 5), .int x, .int y, .int z], [], mm I J D) = cal 145 83 [dv, dv, dv, dv, dv] [] (ex (90, 0, [.ref 0], [], mm I J D)) := fun I J D => (e_145_0 I J D (nI 5) x y z).trans ((sw_145_1_d I J D (nI 5) x y z (Or.inr (by decide))).trans (e_145_79 I J D x y z))
  have e2 : ∀ I J D, ex (264, 52, [.ref 316, .int (nI 5), .int x, .int y, .int z], [.int (nI 5)], mm I J D) = cal 264 135 [dv, dv, dv, dv, dv] [] (ex (164, 0, [.ref 316], [], mm I J D)) := fun I J D => (sw_264_52_d I J D (nI 5) x y z (Or.inr (by decide))).trans (e_264_131 I J D x y z)
  obtain ⟨n, h16, c8, w0, -⟩ := inv_pil h.2.1
  by_cases hn : n < 16
  · obtain ⟨I1, a1, lo, hi, nx⟩ := act_all3 h J D
    obtain ⟨I2, hI2⟩ : ∃ I2, I2 = ups I1 8 1 (nI (n + 1)) := ⟨_, rfl⟩
    have cf : CFar I1 I2 := by rw [hI2]; exact cfar_ups cfar_0 (by decide)
    have i2f : ∀ p, 316 ≤ p → I2 p = I p := fun p hp => by rw [cf.2.2.2 p hp, hi p (by omega)]
    refine ⟨I2, i2f, Or.inl ⟨nI (n + 1), ?_, fun J2 D2 I7 h7 => ?_⟩⟩
    · rw [e1, e_90_0, c8, decide_eq_true ((i16 (by omega)).mpr hn), cond_true, e_90_25, a1, cal_v, kn, e_90_29, lo 8 (by decide) (by decide), c8, nI_1, ← hI2, cal_v]
      show ex (145, 83, [dv, dv, dv, dv, dv], [.int (I2 8 1)], mm I2 J D) = _
      rw [hI2, uIs, uUs, e_145_83]
    · have w7 : I7 317 = I 317 := by rw [h7.w]; exact i2f 317 (by decide)
      obtain ⟨I4, g1, g2, g3, g4, fin⟩ := nx I2 (ups I7 316 0 0) cf h7.far.r (by rw [uI (by decide), h7.w]) J2 D2
      refine ⟨ups I4 317 0 (nI (n + 1)), ?_, by rw [uI (by decide), g3, uIs, uUs], fin _ (MFw.z.u (by decide)) ?_⟩
      · rw [e2, e_164_0, w7, w0, decide_eq_false (fun q => by have := (i16l (by omega)).mp q; omega), cond_false, e_164_12, e_164_17, x_canT, cal_v, ka, e_164_21, d11, cond_true, e_164_26, g1, cal_v, kn, e_164_30, g2, w0, nI_1, cal_v]
        show ex (264, 135, [dv, dv, dv, dv, dv], [.int ((ups I4 317 0 (nI (n + 1))) 317 0)], mm (ups I4 317 0 (nI (n + 1))) J2 D2) = _
        rw [uIs, uUs, e_264_135]
      · unfold PgRel
        rw [hI2, g_ups (o := 7) rfl rfl, g_same lo, n_upd (by omega), g2]
        exact pg_layer h.2.1 (by rw [nrm_at (by rfl)]; exact c8) hn
  · refine ⟨I, fun _ _ => rfl, Or.inr ⟨0, 1, Or.inr ⟨rfl, rfl, rfl⟩, ?_, fun J2 D2 I7 h7 => ⟨0, ups I7 316 0 1, ?_, by rw [uIs, uUs], inv0_mpt h h7⟩⟩⟩
    · rw [e1, e_90_0, c8, decide_eq_false (fun q => hn ((i16 h16).mp q)), cond_false, e_90_15, cal_e]
    · rw [e2, m_add1 (n := n) (by omega) h16 (by rw [h7.w]; exact w0), cal_v, ka, e_264_135]
theorem ln_ok (h : Inv0 L kk I) {k : Nat} (hk : k < 6) (x y z : Int32) : LnOK L kk I J D k x y z := by
  rcases (show k = 0 ∨ k = 1 ∨ k = 2 ∨ k = 3 ∨ k = 4 ∨ k = 5 by omega) with rfl | rfl | rfl | rfl | rfl | rfl
  · exact LnOK.of (by decide) (a_1 h x y z) (fun I J D => (e_145_0 I J D (nI 0) x y z).trans ((sw_145_1_0 I J D (nI 0) x y z).trans (e_145_36 I J D x y z))) (fun I J D r => e_145_44 I J D r) (fun I J D => (sw_264_52_0 I J D (nI 0) x y z).trans (e_264_88 I J D x y z)) (fun I J D r => e_264_96 I J D r)
  · exact LnOK.of (by decide) (a_2 h x y z) (fun I J D => (e_145_0 I J D (nI 1) x y z).trans ((sw_145_1_1 I J D (nI 1) x y z).trans (e_145_45 I J D x y z))) (fun I J D r => e_145_53 I J D r) (fun I J D => (sw_264_52_1 I J D (nI 1) x y z).trans (e_264_97 I J D x y z)) (fun I J D r => e_264_105 I J D r)
  · exact LnOK.of (by decide) (a_11 h x y) (fun I J D => (e_145_0 I J D (nI 2) x y z).trans ((sw_145_1_2 I J D (nI 2) x y z).trans (e_145_54 I J D x y z))) (fun I J D r => e_145_60 I J D r) (fun I J D => (sw_264_52_2 I J D (nI 2) x y z).trans (e_264_106 I J D x y z)) (fun I J D r => e_264_112 I J D r)
  · exact LnOK.of (by decide) (a_19 h x y z) (fun I J D => (e_145_0 I J D (nI 3) x y z).trans ((sw_145_1_3 I J D (nI 3) x y z).trans (e_145_61 I J D x y z))) (fun I J D r => e_145_69 I J D r) (fun I J D => (sw_264_52_3 I J D (nI 3) x y z).trans (e_264_113 I J D x y z)) (fun I J D r => e_264_121 I J D r)
  · exact LnOK.of (by decide) (a_28 h x y z) (fun I J D => (e_145_0 I J D (nI 4) x y z).trans ((sw_145_1_4 I J D (nI 4) x y z).trans (e_145_70 I J D x y z))) (fun I J D r => e_145_78 I J D r) (fun I J D => (sw_264_52_4 I J D (nI 4) x y z).trans (e_264_122 I J D x y z)) (fun I J D r => e_264_130 I J D r)
  · exact ln_5 h x y z
end LO
def nor (c : Nat → Nat) (n j : Nat) : Int32 := if j < (wss c n).length then (match nuW c n j with
  | none => 0
  | some z => Int32.ofInt z) else 0
section NO
variable {I : Nat → Nat → Int32} {J : Nat → Nat → Int64} {D : Nat → Nat → UInt64} {c : Nat → Nat} {n : Nat}
theorem c_nor (ch : ChO c n) (ht : Txt c n (I 313)) (wd : WdB c n I) {j : Nat} (hj : j < 40) : ex (88, 0, [.ref 312, .int (nI j), dv, dv], [], mm I J D) = some (.inl (some (.int (nor c n j))), mm I J D) := by
  have w40 := ws_b ch
  unfold nor
  rw [e_88_0, wd.1]
  by_cases q : j < (wss c n).length
  · obtain ⟨hs, he⟩ := wd.2 j q
    have ok := ws_ok q
    rw [if_pos q, decide_eq_false (show ¬ nI (wss c n).length ≤ nI j from nI_ge q (by omega)), cond_false, e_88_8, c_num ch ht hj hs he ok.1 ok.2, cal_v]
    refine (e_88_13 I J D _).trans ?_
    have no : (lg_cmp (nL (numO c (wSb c n j) (wEn c n j))) 4294967294 ≠ 0) ↔ (nuW c n j).isSome = true := nL_no (fun z hz => numO_b hz)
    cases e : nuW c n j with
    | none =>
      rw [e] at no
      rw [e_88_19, decide_eq_false (fun w => by have := no.mp w; cases this), cond_false, e_88_28, e_88_34]
    | some z =>
      rw [e] at no
      have e' : numO c (wSb c n j) (wEn c n j) = some z := e
      rw [e_88_19, decide_eq_true (no.mpr rfl), cond_true, e', e_88_32, e_88_34, show nL (some z) = Int64.ofInt z from rfl, Int64.toInt32_ofInt]
  · rw [if_neg q, decide_eq_true ((nI_leI (by omega) (by omega)).mpr (by omega)), cond_true, e_88_16]
    refine (e_88_19 I J D _).trans ?_
    rw [decide_eq_false (show ¬ lg_cmp 4294967294 4294967294 ≠ 0 by decide +kernel), cond_false, e_88_28, e_88_34]
theorem ffl_m {W N : Nat} {ok : Nat → Bool} (hN : N ≤ 3) : ∀ r k, k + r = N + 1 → ffl W ok N r k = -1 → W ≤ N + 1 ∧ ∀ j, k ≤ j → j < N + 1 → j < W ∧ ok j = true
  | 0, k, h, e => by
    have e : (if N + 1 < W then nI (N + 1) else -1) = -1 := e
    by_cases q : N + 1 < W
    · rw [if_pos q] at e; exact absurd e (ne_m1 (by omega))
    · exact ⟨by omega, fun j h1 h2 => by omega⟩
  | r + 1, k, h, e => by
    have e : (if k < W ∧ ok k = true then ffl W ok N r (k + 1) else nI k) = -1 := e
    by_cases q : k < W ∧ ok k = true
    · rw [if_pos q] at e
      have ih := ffl_m hN r (k + 1) (by omega) e
      refine ⟨ih.1, fun j h1 h2 => ?_⟩
      by_cases w : j = k
      · subst w; exact q
      · exact ih.2 j (by omega) h2
    · rw [if_neg q] at e; exact absurd e (ne_m1 (by omega))
theorem flt_no (h : fltV c n = -1) : ∃ k, kdo c n = some k ∧ k < 6 ∧ (wss c n).length = nmb k + 1 ∧ ∀ j, 1 ≤ j → j ≤ nmb k → ∃ z, nuW c n j = some z := by
  unfold fltV at h
  cases hk : kdo c n with
  | none =>
    rw [hk] at h
    have h : (0 : Int32) = -1 := h
    exact absurd h (by decide)
  | some k =>
    rw [hk] at h
    have h : ffl (wss c n).length (fun j => (nuW c n j).isSome) (nmb k) (nmb k) 1 = -1 := h
    have k6 := kdo_lt hk
    have n3 := (sta13 k k6.1).2
    have f := ffl_m n3 (nmb k) 1 (by omega) h
    refine ⟨k, rfl, k6.1, ?_, fun j h1 h2 => ?_⟩
    · by_cases q : nmb k = 0
      · omega
      · have := (f.2 (nmb k) (by omega) (by omega)).1
        omega
    · have := (f.2 j h1 (by omega)).2
      exact Option.isSome_iff_exists.mp this
theorem m_nor (ch : ChO c n) (ht : Txt c n (I 320)) (wd : WdM c n I) {j : Nat} (hj : j < (wss c n).length) {z : Int} (hz : nuW c n j = some z) : ex (258, 0, [.ref 316, .int (nI j)], [], mm I J D) = some (.inl (some (.int (nor c n j))), mm I J D) := by
  have w40 := ws_b ch
  obtain ⟨hs, he⟩ := wd.2 j hj
  have ok := ws_ok hj
  rw [m_nof ch ht (by omega) hs he ok.1 ok.2 hz]
  unfold nor
  rw [if_pos hj, hz]
theorem nor_0 {j : Nat} (h : (wss c n).length ≤ j) : nor c n j = 0 := if_neg (by omega)
theorem m_does (ch : ChO c n) (ht : Txt c n (I 320)) (wd : WdM c n I) {k : Nat} (hk : k < 6) (hW : (wss c n).length = nmb k + 1) (hz : ∀ j, 1 ≤ j → j ≤ nmb k → ∃ z, nuW c n j = some z) : ex (264, 0, [.ref 316, .int (nI k), dv, dv, dv], [], mm I J D) = ex (264, 52, [.ref 316, .int (nI k), .int (nor c n 1), .int (nor c n 2), .int (nor c n 3)], [.int (nI k)], mm I J D) := by
  have nm : ∀ j, 1 ≤ j → j ≤ nmb k → ex (258, 0, [.ref 316, .int (nI j)], [], mm I J D) = some (.inl (some (.int (nor c n j))), mm I J D) := fun j h1 h2 => by
    obtain ⟨z, e⟩ := hz j h1 h2
    exact m_nor ch ht wd (by omega) e
  by_cases q5 : k = 5
  · subst q5
    have hW : (wss c n).length = 1 := hW
    rw [nor_0 (j := 1) (by omega), nor_0 (j := 2) (by omega), nor_0 (j := 3) (by omega), e_264_0, decide_eq_false (show ¬ nI 5 ≠ 5 from fun w => w rfl), cond_false, e_264_5, e_264_14, decide_eq_false (show ¬ nI 5 ≠ 5 from fun w => w rfl), cond_false, e_264_20, e_264_29, decide_eq_true (show nI 5 = 5 from rfl), cond_true, e_264_40, e_264_49]
  · have n5 : nI k ≠ 5 := fun w => q5 ((nI_eq (b := 5) (by omega) (by decide)).mp w)
    have n2 : 2 ≤ nmb k := by rcases (show k = 0 ∨ k = 1 ∨ k = 2 ∨ k = 3 ∨ k = 4 by omega) with rfl | rfl | rfl | rfl | rfl <;> decide
    rw [e_264_0, decide_eq_true n5, cond_true, e_264_9]
    rw [show ex (258, 0, [.ref 316, .int 1], [], mm I J D) = _ from nm 1 (by decide) (by omega), cal_v, ka, e_264_14, decide_eq_true n5, cond_true, e_264_24]
    rw [show ex (258, 0, [.ref 316, .int 2], [], mm I J D) = _ from nm 2 (by decide) n2, cal_v, ka, e_264_29, decide_eq_false n5, cond_false, e_264_35]
    by_cases q2 : k = 2
    · subst q2
      have hW : (wss c n).length = 3 := hW
      rw [decide_eq_false (show ¬ nI 2 ≠ 2 from fun w => w rfl), cond_false, e_264_40, e_264_49, nor_0 (j := 3) (by omega)]
    · have n3 : nmb k = 3 := by rcases (show k = 0 ∨ k = 1 ∨ k = 3 ∨ k = 4 by omega) with rfl | rfl | rfl | rfl <;> rfl
      rw [decide_eq_true (show nI k ≠ 2 from fun w => q2 ((nI_eq (b := 2) (by omega) (by decide)).mp w)), cond_true, e_264_44]
      rw [show ex (258, 0, [.ref 316, .int 3], [], mm I J D) = _ from nm 3 (by decide) (by omega), cal_v, ka, e_264_49]
/-- what 'raised' comes to behind a line -/
def rmp (k : Nat) (c : Int32) : Int32 := if k = 5 ∧ c = 1 then 3 else if c = 1 then 2 else if c = 2 then 1 else c
theorem m_aft {k : Nat} (hk : k < 6) {r cc : Int32} (h0 : I 316 0 = cc) : ex (265, 40, [.ref 316, dv, .int (nI k), dv], [.int r], mm I J D) = some (.inl (some (.int r)), mm (ups (ups I 316 8 0) 316 0 (rmp k cc)) J D) := by
  have z0 : (ups I 316 8 0) 316 0 = cc := by rw [uIs, uU (by decide)]; exact h0
  have m64 : ¬ (k = 5 ∧ cc = 1) → ex (265, 64, [.ref 316, dv, dv, .int r], [.ref 316], mm (ups I 316 8 0) J D) = some (.inl (some (.int r)), mm (ups (ups I 316 8 0) 316 0 (rmp k cc)) J D) := fun hno => by
    unfold rmp
    rw [if_neg hno, e_265_64, z0]
    by_cases q1 : cc = 1
    · rw [decide_eq_false (fun w => w q1), cond_false, e_265_72, e_265_92, if_pos q1]
    · rw [decide_eq_true q1, cond_true, e_265_76, z0, if_neg q1]
      by_cases q2 : cc = 2
      · rw [decide_eq_false (fun w => w q2), cond_false, e_265_84, e_265_92, if_pos q2]
      · rw [decide_eq_true q2, cond_true, e_265_88, z0, e_265_92, if_neg q2]
  rw [e_265_40]
  by_cases q5 : k = 5
  · subst q5
    rw [decide_eq_false (show ¬ nI 5 ≠ 5 from fun w => w rfl), cond_false, e_265_52, z0]
    by_cases q1 : cc = 1
    · rw [decide_eq_false (fun w => w q1), cond_false, e_265_60, e_265_92]
      unfold rmp
      rw [if_pos ⟨rfl, q1⟩]
    · rw [decide_eq_true q1, cond_true]
      exact m64 (fun w => q1 w.2)
  · rw [decide_eq_true (show nI k ≠ 5 from fun w => q5 ((nI_eq (b := 5) (by omega) (by decide)).mp w)), cond_true]
    exact m64 (fun w => q5 w.1)
end NO
/-- the text is empty in both -/
theorem inv_fin {L kk : Nat} {Ib I2 I3 : Nat → Nat → Int32} {J : Nat → Nat → Int64} {D : Nat → Nat → UInt64} (h : Inv0 L kk I2) (t : TxtKeep Ib I2) (hb : Ib 312 3 = 0) (h1 : ∀ p, p ≠ 316 → I3 p = I2 p) (h2 : ∀ j, j ≠ 0 → j ≠ 8 → I3 316 j = I2 316 j) (h3 : I3 316 8 = 0) : Inv L kk I3 J D := by
  obtain ⟨i0, i1, ⟨a, x, e, r1, r2, r3, r4, r5, r6, r7, r8, r9⟩, i4⟩ := h
  have t0 : I3 312 3 = 0 := by rw [h1 312 (by decide), t.1, hb]
  refine ⟨by rw [h1 iSCL (by decide)]; exact i0, i1.go (Nat.le_refl kk) (fun o k hr => ?_) (fun y _ => by rw [h1 317 (by decide)]), ⟨a, x, e, r1, r2, r3, r4, by rw [h1 0 (by decide)]; exact r5, by rw [h1 0 (by decide)]; exact r6, by rw [h2 3 (by decide) (by decide)]; exact r7, by rw [h2 4 (by decide) (by decide)]; exact r8, fun s hs hs2 => ?_⟩, ⟨by rw [h3, t0], by rw [t0]; exact ⟨by decide, by decide⟩, fun k hk => ?_⟩, rng_stay i4 (by rw [h1 245 (by decide)]) (h1 264 (by decide)) (h2 6 (by decide) (by decide)) (h1 319 (by decide))⟩
  · have := rl_lt hr
    show I3 (1 + o) k = I2 (1 + o) k
    rw [h1 (1 + o) (by omega)]
  · refine (r9 s hs hs2).go (Nat.le_refl kk) (fun o k hr => ?_) (fun y _ => by rw [h1 318 (by decide)])
    have := rl_lt hr
    show I3 (29 + 27 * s + o) k = I2 (29 + 27 * s + o) k
    rw [h1 _ (by omega)]
  · rw [t0] at hk; exact absurd hk (Nat.not_lt_zero _)
theorem inv0_312 {L kk : Nat} {I I2 : Nat → Nat → Int32} (h : Inv0 L kk I) (h1 : ∀ p, p ≠ 312 → p ≠ 314 → p ≠ 315 → I2 p = I p) : Inv0 L kk I2 := by
  obtain ⟨i0, i1, ⟨a, x, e, r1, r2, r3, r4, r5, r6, r7, r8, r9⟩, i4⟩ := h
  refine ⟨by rw [h1 iSCL (by decide) (by decide) (by decide)]; exact i0, i1.go (Nat.le_refl kk) (fun o k hr => ?_) (fun y _ => by rw [h1 317 (by decide) (by decide) (by decide)]), ⟨a, x, e, r1, r2, r3, r4, by rw [h1 0 (by decide) (by decide) (by decide)]; exact r5, by rw [h1 0 (by decide) (by decide) (by decide)]; exact r6, by rw [h1 316 (by decide) (by decide) (by decide)]; exact r7, by rw [h1 316 (by decide) (by decide) (by decide)]; exact r8, fun s hs hs2 => ?_⟩, rng_stay i4 (by rw [h1 245 (by decide) (by decide) (by decide)]) (h1 264 (by decide) (by decide) (by decide)) (by rw [h1 316 (by decide) (by decide) (by decide)]) (h1 319 (by decide) (by decide) (by decide))⟩
  · have := rl_lt hr
    show I2 (1 + o) k = I (1 + o) k
    rw [h1 (1 + o) (by omega) (by omega) (by omega)]
  · refine (r9 s hs hs2).go (Nat.le_refl kk) (fun o k hr => ?_) (fun y _ => by rw [h1 318 (by decide) (by decide) (by decide)])
    have := rl_lt hr
    show I2 (29 + 27 * s + o) k = I (29 + 27 * s + o) k
    rw [h1 _ (by omega) (by omega) (by omega)]
theorem t_45 {L kk : Nat} {I : Nat → Nat → Int32} {J : Nat → Nat → Int64} {D : Nat → Nat → UInt64} (v : Int32) (h : Inv L kk I J D) : Turn L kk 2877 v I J D := by
  obtain ⟨n, c, ch, h3, h8, tb, tm⟩ := inv_txt0 h.2.2.2.1
  obtain ⟨I1, e1, f1, f2, wd⟩ := c_words (J := J) (D := D) ch h3 tb
  have tb1 : Txt c n (I1 313) := by rw [f1 313 (by decide) (by decide) (by decide)]; exact tb
  obtain ⟨Ib, hIb⟩ : ∃ Ib, Ib = ups I1 312 3 0 := ⟨_, rfl⟩
  have fb : ∀ p, p ≠ 312 → p ≠ 314 → p ≠ 315 → Ib p = I p := fun p q1 q2 q3 => by rw [hIb, uI q1, f1 p q1 q2 q3]
  have b0 : Ib 312 3 = 0 := by rw [hIb, uIs, uUs]
  have h0 : Inv0 L kk Ib := inv0_312 (inv_to h) fb
  have i16 : Ib 316 = I 316 := fb 316 (by decide) (by decide) (by decide)
  have i20 : Ib 320 = I 320 := fb 320 (by decide) (by decide) (by decide)
  have nr : ∀ j, j < 40 → ex (88, 0, [.ref 312, .int (nI j), dv, dv], [], mm I1 J D) = some (.inl (some (.int (nor c n j))), mm I1 J D) := fun j hj => c_nor ch tb1 wd hj
  -- the book, as far as its line
  have bk : ∀ (s : Int32), (fltV c n = -1 → s = 0) → (fltV c n ≠ -1 → s = 1) → ex (135, 0, [.ref 0, dv, dv, dv, dv, dv], [], mm I J D) = bif decide (s = 0) then ex (135, 84, [.ref 0, dv, .int (kdI (kdo c n)), .int (nor c n 1), .int (nor c n 2), .int (nor c n 3)], [], mm Ib J D) else ex (135, 73, [dv, dv, dv, dv, dv, dv], [], mm Ib J D) := fun s s1 s2 => by
    have t : ex (135, 14, [.ref 0, dv, dv, dv, dv, dv], [.int (fltV c n)], mm I1 J D) = ex (135, 23, [.ref 0, dv, dv, dv, dv, dv], [.int s], mm I1 J D) := by
      rw [e_135_14]
      by_cases q : fltV c n = -1
      · rw [decide_eq_true q, cond_true, e_135_22, s1 q]
      · rw [decide_eq_false q, cond_false, e_135_18, s2 q]
    rw [e_135_0, e1, cal_v, kn, e_135_7, c_flt ch tb1 wd, cal_v, ka, t, e_135_23, c_kind ch tb1 wd, cal_v, ka, e_135_31]
    rw [show ex (88, 0, [.ref 312, .int 1, dv, dv], [], mm I1 J D) = _ from nr 1 (by decide), cal_v, ka, e_135_40]
    rw [show ex (88, 0, [.ref 312, .int 2, dv, dv], [], mm I1 J D) = _ from nr 2 (by decide), cal_v, ka, e_135_49]
    rw [show ex (88, 0, [.ref 312, .int 3, dv, dv], [], mm I1 J D) = _ from nr 3 (by decide), cal_v, ka, e_135_59, ← hIb]
  by_cases hf : fltV c n = -1
  · obtain ⟨k, hk, k6, hW, hz⟩ := flt_no hf
    have bk := bk 0 (fun _ => rfl) (fun w => absurd hf w)
    rw [decide_eq_true rfl, cond_true, hk, show kdI (some k) = nI k from rfl, e_135_84] at bk
    -- the model, as far as its line
    have md : ∀ (Ia : Nat → Nat → Int32) (J2 : Nat → Nat → Int64) (D2 : Nat → Nat → UInt64), (∀ p, 316 ≤ p → Ia p = Ib p) → ∃ I7, MPt Ia I7 ∧ ∀ (r : Int32) (I2 : Nat → Nat → Int32) (cc : Int32), ex (264, 52, [.ref 316, .int (nI k), .int (nor c n 1), .int (nor c n 2), .int (nor c n 3)], [.int (nI k)], mm I7 J2 D2) = some (.inl (some (.int r)), mm I2 J2 D2) → I2 316 0 = cc → ex (265, 0, [.ref 316, dv, dv, dv], [], mm Ia J2 D2) = some (.inl (some (.int r)), mm (ups (ups I2 316 8 0) 316 0 (rmp k cc)) J2 D2) := fun Ia J2 D2 hI => by
      obtain ⟨I6, m1, m2, m3, m4⟩ := m_flt (I := Ia) (J := J2) (D := D2) ch (by rw [hI 316 (by decide), i16]; exact h8) (by rw [hI 320 (by decide), i20]; exact tm)
      have t6 : Txt c n (I6 320) := by rw [m2 320 (by decide) (by decide) (by decide), hI 320 (by decide), i20]; exact tm
      have wd6 : WdM c n (ups I6 316 0 0) := ⟨by rw [uIs, uU (by decide)]; exact m4.1, fun j hj => by rw [uI (by decide), uI (by decide)]; exact m4.2 j hj⟩
      refine ⟨ups I6 316 0 0, ⟨fun p q1 q2 q3 => by rw [uI q1]; exact m2 p q1 q2 q3, fun j q1 q2 => by rw [uIs, uU q1]; exact m3 j q2⟩, fun r I2 cc e2 q => ?_⟩
      rw [e_265_0, m1, cal_v, ka, e_265_4, hf, decide_eq_false (show ¬ (-1 : Int32) ≠ -1 from fun w => w rfl), cond_false, e_265_8, e_265_13, m_kind ch t6 m4, hk, show kdI (some k) = nI k from rfl, cal_v, ka, e_265_18, x_canT, cal_v, ka, e_265_25, d11, cond_true, e_265_35, m_does ch (by rw [uI (by decide)]; exact t6) wd6 k6 hW hz, e2, cal_v, ka]
      exact m_aft k6 q
    have fin : ∀ (I2 : Nat → Nat → Int32) (q : Int32) (J2 : Nat → Nat → Int64) (D2 : Nat → Nat → UInt64), Inv0 L (kk + 1) I2 ∧ TxtKeep Ib I2 → Inv L (kk + 1) (ups (ups I2 316 8 0) 316 0 q) J2 D2 := fun I2 q J2 D2 w => inv_fin w.1 w.2 b0 (fun p hp => by rw [uI hp, uI hp]) (fun j q1 q2 => by rw [uIs, uU q1, uIs, uU q2]) (by rw [uIs, uU (by decide), uIs, uUs])
    obtain ⟨Ia, qa, ⟨r, g1, nx⟩ | ⟨E, cc, hE, g1, nx⟩⟩ := ln_ok (J := J) (D := D) h0 k6 (nor c n 1) (nor c n 2) (nor c n 3)
    · obtain ⟨I7, p7, m7⟩ := md Ia (upsL J 335 0 r.toInt64) D qa
      obtain ⟨I2, g2, g3, g4⟩ := nx (upsL J 335 0 r.toInt64) D I7 p7
      have m8 := m7 r I2 0 g2 g3
      have z : rmp k 0 = 0 := by
        unfold rmp
        rw [if_neg (fun w => absurd w.2 (by decide)), if_neg (by decide), if_neg (by decide)]
      refine tk_45 (r := r) (I1 := Ia) (J1 := J) (D1 := D) (I2 := ups (ups I2 316 8 0) 316 0 (rmp k 0)) (J2 := upsL J 335 0 r.toInt64) (D2 := D) ?_ ?_ ?_ m8 (by rw [uIs, uUs, z]) upsL_s (fin I2 _ _ _ g4)
      · rw [bk, g1, cal_v, ka, e_135_94]
      · rw [qa iSCL (by decide), fb iSCL (by decide) (by decide) (by decide)]
      · rw [qa 1000002 (by decide), fb 1000002 (by decide) (by decide) (by decide)]
    · obtain ⟨I7, p7, m7⟩ := md Ia J D qa
      obtain ⟨s, I2, g2, g3, g4⟩ := nx J D I7 p7
      have m8 := m7 s I2 cc g2 g3
      have bk2 : ex (135, 0, [.ref 0, dv, dv, dv, dv, dv], [], mm I J D) = some (.inr (.inl E), mm Ia J D) := by rw [bk, g1, cal_e]
      have q1 : Ia iSCL 0 = I iSCL 0 := by rw [qa iSCL (by decide), fb iSCL (by decide) (by decide) (by decide)]
      have q2 : Ia 1000002 = I 1000002 := by rw [qa 1000002 (by decide), fb 1000002 (by decide) (by decide) (by decide)]
      rcases hE with ⟨k5, ⟨rfl, rfl⟩ | ⟨rfl, rfl⟩ | ⟨rfl, rfl⟩⟩ | ⟨k5, rfl, rfl⟩
      · refine te_45_2 bk2 q1 q2 m8 ?_ (fin I2 _ _ _ g4)
        rw [uIs, uUs]; unfold rmp; rw [if_neg (fun w => by omega), if_pos rfl]
      · refine te_45_1 bk2 q1 q2 m8 ?_ (fin I2 _ _ _ g4)
        rw [uIs, uUs]; unfold rmp; rw [if_neg (fun w => by omega), if_neg (by decide), if_pos rfl]
      · refine te_45_0 bk2 q1 q2 m8 ?_ (fin I2 _ _ _ g4)
        rw [uIs, uUs]; unfold rmp; rw [if_neg (fun w => by omega), if_neg (by decide), if_neg (by decide)]
      · refine te_45_0 bk2 q1 q2 m8 ?_ (fin I2 _ _ _ g4)
        rw [uIs, uUs]; unfold rmp; rw [if_pos ⟨k5, rfl⟩]
  · have bk := bk 1 (fun w => absurd w hf) (fun _ => rfl)
    rw [d10, cond_false, e_135_73] at bk
    obtain ⟨I6, m1, m2, m3, m4⟩ := m_flt (I := Ib) (J := J) (D := D) ch (by rw [i16]; exact h8) (by rw [i20]; exact tm)
    have t6 : Txt c n (I6 320) := by rw [m2 320 (by decide) (by decide) (by decide), i20]; exact tm
    have w := inv0_mpt (r := 1) h0 (⟨m2, fun j _ q => m3 j q⟩ : MPt Ib I6)
    refine te_45_1 (s := 0) (I2 := ups (ups I6 316 0 1) 316 8 0) (J2 := J) (D2 := D) bk (by rw [fb iSCL (by decide) (by decide) (by decide)]) (fb 1000002 (by decide) (by decide) (by decide)) ?_ (by rw [uIs, uU (by decide), uIs, uUs]) (inv_fin w.1 w.2 b0 (fun p hp => by rw [uI hp]) (fun j _ q2 => by rw [uIs, uU q2]) (by rw [uIs, uUs]))
    rw [e_265_0, m1, cal_v, ka, e_265_4, decide_eq_true hf, cond_true, e_265_12, e_265_13, m_kind ch t6 m4, cal_v, ka, e_265_18, x_canF, cal_v, ka, e_265_25, d01, cond_false, e_265_28]
