/-! layOn, takeOff, isAbove, lineCount: the turns -/
theorem act_all2 {L kk : Nat} {I : Nat → Nat → Int32} (h : Inv0 L kk I) (J1 : Nat → Nat → Int64) (D1 : Nat → Nat → UInt64) :
    ∃ I1, ex (141, 0, [.ref 0, dv], [], mm I J1 D1) = some (.inl none, mm I1 J1 D1) ∧ (∀ p, p ≠ 0 → p < 29 → I1 p = I p) ∧ (∀ p, 245 ≤ p → I1 p = I p) ∧
      ∀ I2 I3, CFar I1 I2 → MFar I2 I3 → I3 317 = I2 317 → ∀ (J2 : Nat → Nat → Int64) (D2 : Nat → Nat → UInt64), ∃ I4, ex (161, 0, [.ref 316, dv, dv], [], mm I3 J2 D2) = some (.inl none, mm I4 J2 D2) ∧ I4 317 = I 317 ∧ I4 316 0 = I3 316 0 ∧ (∀ p, p ≠ 316 → p ≠ 318 → I4 p = I3 p) ∧
        ∀ (I5 : Nat → Nat → Int32), MFar I4 I5 → PgRel (kk + 1) (pgF I2 1) (I5 317) → Inv0 L (kk + 1) I5 ∧ TxtKeep I I5 := by
  obtain ⟨i0, i1, ⟨a, xx, e, r1, r2, r3, r4, r5, r6, r7, r8, r9⟩, i4⟩ := id h
  obtain ⟨I1, e1, c⟩ := c_rem (kk := 0) r2 r1 r5 r6 (fun k hk => i1.th k hk) J1 D1
  have far1 : ∀ p, p ≠ 0 → 245 ≤ p → I1 p = I p := fun p h0 hp => c.2.2.2 p h0 (Or.inr (by omega))
  refine ⟨I1, e1, fun p h0 hp => c.2.2.2 p h0 (Or.inl (by omega)), fun p hp => far1 p (by omega) hp, fun I2 I3 cf mf m17 J2 D2 => ?_⟩
  have far2 : ∀ p, 316 ≤ p → I2 p = I p := fun p hp => by rw [cf.2.2.2 p hp, far1 p (by omega) (by omega)]
  obtain ⟨I4, e2, e3, k⟩ := x_keep r3 r1 (I := I3) (by rw [mf.2.1 4 (by decide), far2 316 (by decide)]; exact r8) (by rw [mf.2.1 3 (by decide), far2 316 (by decide)]; exact r7) J2 D2
  have k' := id k
  obtain ⟨k1, k2, k3, k4, k5, k6, k7, k8⟩ := k'
  refine ⟨I4, e3, ?_, ?_, fun p hp hq => ?_, fun I5 mf5 hp => ?_⟩
  · rw [k6 317 (by decide) (by decide), m17, far2 317 (by decide)]
  · rw [k5 0 (by decide) (by decide)]
  · rw [k6 p hp hq]
  · exact act_inv0 h r1 r2 r4 r9 c cf ⟨mf, m17⟩ k mf5 hp
theorem mfar_R {I1 I2 : Nat → Nat → Int32} {p : Nat} {f : Nat → Int32} (h : MFar I1 I2) (hp : p = 317 ∨ (321 ≤ p ∧ p < 1000000)) : MFar I1 (upR I2 p f) := by
  obtain ⟨f1, f2, f3, f4, f5, f6⟩ := h
  have hs : iSCL ≠ p := by rcases hp with rfl | hp; decide; unfold iSCL; omega
  exact ⟨fun q hq => by rw [uR (by omega)]; exact f1 q hq, fun j hj => by rw [uR (by omega)]; exact f2 j hj, by rw [uR (by omega)]; exact f3, by rw [uR (by omega)]; exact f4, by rw [uR (by omega)]; exact f5, by rw [uR hs]; exact f6⟩
theorem mfar_r {I1 I2 : Nat → Nat → Int32} {v : Int32} (h : MFar I1 I2) : MFar I1 (ups I2 316 0 v) := by
  obtain ⟨f1, f2, f3, f4, f5, f6⟩ := h
  exact ⟨fun q hq => by rw [uI (by omega)]; exact f1 q hq, fun j hj => by rw [uIs, uU hj]; exact f2 j hj, by rw [uI (by decide)]; exact f3, by rw [uI (by decide)]; exact f4, by rw [uI (by decide)]; exact f5, by rw [uI (by decide)]; exact f6⟩
theorem cfar_o {I I' : Nat → Nat → Int32} (h : ∀ p, p ≠ 265 → p ≠ 266 → p ≠ 267 → p ≠ 268 → I' p = I p) : CFar I I' :=
  ⟨⟨by rw [h 0 (by decide) (by decide) (by decide) (by decide)], by rw [h 0 (by decide) (by decide) (by decide) (by decide)]⟩, fun p h1 _ => h p (by omega) (by omega) (by omega) (by omega), ⟨by rw [h 245 (by decide) (by decide) (by decide) (by decide)], h 264 (by decide) (by decide) (by decide) (by decide), by rw [h 312 (by decide) (by decide) (by decide) (by decide)], h 313 (by decide) (by decide) (by decide) (by decide)⟩, fun p h1 => h p (by omega) (by omega) (by omega) (by omega)⟩
theorem cfar_tr {I I1 I2 : Nat → Nat → Int32} (h : CFar I I1) (g : CFar I1 I2) : CFar I I2 := by
  obtain ⟨⟨a1, a2⟩, a3, ⟨a4, a5, a6, a7⟩, a8⟩ := h
  obtain ⟨⟨b1, b2⟩, b3, ⟨b4, b5, b6, b7⟩, b8⟩ := g
  exact ⟨⟨b1.trans a1, b2.trans a2⟩, fun p h1 h2 => (b3 p h1 h2).trans (a3 p h1 h2), ⟨b4.trans a4, b5.trans a5, b6.trans a6, b7.trans a7⟩, fun p h1 => (b8 p h1).trans (a8 p h1)⟩
theorem Same.o {I I' : Nat → Nat → Int32} (h : ∀ p, p ≠ 265 → p ≠ 266 → p ≠ 267 → p ≠ 268 → I' p = I p) : Same I I' := Same.of (fun p hp => h p (by rintro rfl; revert hp; decide) (by rintro rfl; revert hp; decide) (by rintro rfl; revert hp; decide) (by rintro rfl; revert hp; decide))
theorem Same.R {I : Nat → Nat → Int32} {p : Nat} {f : Nat → Int32} (hp : scr p = true) : Same I (upR I p f) := Same.of (fun q hq => uR (by rintro rfl; rw [hp] at hq; cases hq))
/-- nothing that lasts has changed: the same count of turns -/
theorem inv0_same {L kk : Nat} {I I2 : Nat → Nat → Int32} (h : Inv0 L kk I) (s : Same I I2) : Inv0 L kk I2 := by
  obtain ⟨i0, i1, ⟨a, x, e, r1, r2, r3, r4, r5, r6, r7, r8, r9⟩, i4⟩ := h
  obtain ⟨s1, ⟨s2, s3⟩, s4, ⟨s5, s6, s7, s8⟩, ⟨s9, s10, s11, s12⟩, s13, s14, s15, s16, s17⟩ := s
  refine ⟨by rw [s17]; exact i0, i1.go (Nat.le_refl kk) s1 s13, ⟨a, x, e, r1, r2, r3, r4, by rw [s2]; exact r5, by rw [s3]; exact r6, by rw [s9]; exact r7, by rw [s10]; exact r8, fun s hs hs2 => ?_⟩, rng_stay i4 s5 s6 s11 s15⟩
  refine (r9 s hs hs2).go (Nat.le_refl kk) (fun o k hr => ?_) (fun y _ => by rw [s14])
  have := rl_lt hr
  show I2 (29 + 27 * s + o) k = I (29 + 27 * s + o) k
  rw [s4 _ (by omega) (by omega)]
theorem txt_same {I I2 : Nat → Nat → Int32} (s : Same I I2) : TxtKeep I I2 := by
  obtain ⟨s1, ⟨s2, s3⟩, s4, ⟨s5, s6, s7, s8⟩, ⟨s9, s10, s11, s12⟩, s13, s14, s15, s16, s17⟩ := s
  exact ⟨s7, s8, s12, s16⟩
theorem TxtKeep.tr {I I1 I2 : Nat → Nat → Int32} (h : TxtKeep I I1) (g : TxtKeep I1 I2) : TxtKeep I I2 := ⟨g.1.trans h.1, g.2.1.trans h.2.1, g.2.2.1.trans h.2.2.1, g.2.2.2.trans h.2.2.2⟩
theorem inv0_up {L kk : Nat} {I : Nat → Nat → Int32} (h : Inv0 L kk I) : Inv0 L (kk + 1) I := by
  obtain ⟨i0, i1, i2, i4⟩ := h
  exact ⟨i0, i1.go (Nat.le_succ kk) (fun _ _ _ => rfl) (fun _ _ => rfl), his_stay i2 rfl rfl (fun _ _ _ => rfl) rfl rfl rfl, i4⟩
theorem inv0_st {L kk : Nat} {I I2 : Nat → Nat → Int32} (h : Inv0 L kk I) (s : Same I I2) : Inv0 L (kk + 1) I2 ∧ TxtKeep I I2 := ⟨inv0_up (inv0_same h s), txt_same s⟩
section LY
variable {I : Nat → Nat → Int32} {J : Nat → Nat → Int64} {D : Nat → Nat → UInt64}
theorem c_lyT {v : Int32} (h : 1 ≤ v ∧ v ≤ I 8 1) : ex (147, 0, [.ref 0, .int v], [], mm I J D) = some (.inl none, mm I J D) := by
  rw [e_147_0, decide_eq_false (Int32.not_lt.mpr h.1), cond_false, e_147_5, decide_eq_true h.2, cond_true, e_147_30]
theorem c_lyF {v : Int32} (h : ¬ (1 ≤ v ∧ v ≤ I 8 1)) : ex (147, 0, [.ref 0, .int v], [], mm I J D) = some (.inr (.inl 2), mm I J D) := by
  by_cases h1 : v < 1
  · rw [e_147_0, decide_eq_true h1, cond_true, e_147_19]
  · rw [e_147_0, decide_eq_false h1, cond_false, e_147_5, decide_eq_false (fun h2 => h ⟨Int32.not_lt.mp h1, h2⟩), cond_false, e_147_19]
theorem m_lyT {v : Int32} (h : 1 ≤ v ∧ v ≤ I 317 0) : ex (166, 0, [.ref 316, .int v], [], mm I J D) = some (.inl (some (.int 1)), mm I J D) := by
  rw [e_166_0, x_inT h, cal_v, ka, e_166_11, decide_eq_true (Or.inr rfl), cond_true]
theorem m_lyF {v : Int32} (h : ¬ (1 ≤ v ∧ v ≤ I 317 0)) : ex (166, 0, [.ref 316, .int v], [], mm I J D) = some (.inl (some (.int 0)), mm I J D) := by
  rw [e_166_0, x_inF h, cal_v, ka, e_166_11, decide_eq_true (Or.inl rfl), cond_true]
theorem ly_of {v : Int32} {n : Nat} (hn : n ≤ 16) (h : 1 ≤ v ∧ v ≤ nI n) : ∃ a, (1 ≤ a ∧ a ≤ n) ∧ v = nI a := by
  have h1 := Int32.le_iff_toInt_le.mp h.1
  have h2 := Int32.le_iff_toInt_le.mp h.2
  rw [nI_toInt (by omega)] at h2
  have e1 : (1 : Int32).toInt = 1 := rfl
  rw [e1] at h1
  obtain ⟨a, ha, rfl⟩ := rg_nI (b := 16) (v := v) ⟨by omega, by omega⟩ (by decide)
  rw [nI_toInt (by omega)] at h1 h2
  exact ⟨a, by omega, rfl⟩
theorem tld_c {a b : Nat} {R : Nat → Nat → Bool} (h : RwF (I 9) R) (ha : a < 17) (h1 : 1 ≤ b) (hb : b ≤ 16) : ex (52, 0, [.ref 8, .int (nI a), .int (nI b)], [], mm I J D) = some (.inl (some (.int (b2i (R a b)))), mm I J D) := by
  have hh := (h a ha).has (bit_b h1 hb)
  rw [row_at h1 hb] at hh
  rw [e_52_0, inb_n ha (by decide), cond_true, nI_clamp (by omega), e_49_0, cal_v, ka, e_52_10]
  cases hr : R a b with
  | false => rw [decide_eq_true (hh.mpr hr), cond_true, e_52_18, e_52_19]; rfl
  | true => rw [decide_eq_false (fun e => by have := hh.mp e; rw [hr] at this; cases this), cond_false, e_52_14, e_52_19]; rfl
theorem c_tell {a b : Nat} (ha : a < 17) : ex (50, 0, [.ref 8, .int (nI a), .int (nI b)], [], mm I J D) = some (.inl none, mm (ups I 9 a (I 9 a ||| 1 <<< ((nI b - 1) &&& 31))) J D) := by
  rw [e_50_0, inb_n ha (by decide), cond_true, nI_clamp (by omega), e_49_0, cal_v, ka, e_50_11, inb_n ha (by decide), cond_true, nI_clamp (by omega)]
theorem c_untell {a b : Nat} (ha : a < 17) : ex (51, 0, [.ref 8, .int (nI a), .int (nI b)], [], mm I J D) = some (.inl none, mm (ups I 9 a (I 9 a &&& ((1 <<< ((nI b - 1) &&& 31)) ^^^ (-1)))) J D) := by
  rw [e_51_0, inb_n ha (by decide), cond_true, nI_clamp (by omega), e_49_0, cal_v, ka, e_51_11, inb_n ha (by decide), cond_true, nI_clamp (by omega)]
end LY
def addT (T : Nat → Nat → Bool) (a b x y : Nat) : Bool := T x y || (decide (x = a) && decide (y = b))
def delT (T : Nat → Nat → Bool) (a b x y : Nat) : Bool := T x y && !(decide (x = a) && decide (y = b))
theorem bl16 {i : Nat} : Nat.blt i 16 = decide (i < 16) := by
  by_cases h : i < 16
  · rw [decide_eq_true h]; exact Nat.blt_eq.mpr h
  · rw [decide_eq_false h, ← Bool.not_eq_true, Nat.blt_eq]; exact h
theorem rw_add {T : Nat → Nat → Bool} {F : Nat → Int32} {a b : Nat} (h : RwF F T) (h1 : 1 ≤ b) (hb : b ≤ 16) : RwF (upd F a (F a ||| 1 <<< ((nI b - 1) &&& 31))) (addT T a b) := fun x hx => by
  by_cases q : x = a
  · subst q
    rw [uUs]
    refine ((h x hx).or (bit_b h1 hb)).cg (fun i => ?_)
    unfold row addT
    rw [bl16]
    grind
  · rw [uU q]
    refine (h x hx).cg (fun i => ?_)
    unfold row addT
    rw [decide_eq_false q, Bool.false_and, Bool.or_false]
theorem rw_del {T : Nat → Nat → Bool} {F : Nat → Int32} {a b : Nat} (h : RwF F T) (h1 : 1 ≤ b) (hb : b ≤ 16) : RwF (upd F a (F a &&& ((1 <<< ((nI b - 1) &&& 31)) ^^^ (-1)))) (delT T a b) := fun x hx => by
  by_cases q : x = a
  · subst q
    rw [uUs]
    refine ((h x hx).andn (bit_b h1 hb)).cg (fun i => ?_)
    unfold row delT
    rw [bl16]
    grind
  · rw [uU q]
    refine (h x hx).cg (fun i => ?_)
    unfold row delT
    rw [decide_eq_false q, Bool.false_and]
    simp
theorem wab_add {T : Nat → Nat → Bool} {w : Nat → Int32} {a b : Nat} (hb : b < 17) (h : Wab T w) : Wab (addT T a b) (upd w (202 + 17 * a + b) 1) := fun x y hx hy => by
  unfold addT
  by_cases q : x = a ∧ y = b
  · obtain ⟨rfl, rfl⟩ := q
    rw [uUs, decide_eq_true rfl, decide_eq_true rfl]; simp; rfl
  · rw [uU (by omega), h x y hx hy]
    by_cases q1 : x = a
    · rw [decide_eq_false (show ¬ y = b from fun e => q ⟨q1, e⟩), Bool.and_false, Bool.or_false]
    · rw [decide_eq_false q1, Bool.false_and, Bool.or_false]
theorem wab_del {T : Nat → Nat → Bool} {w : Nat → Int32} {a b : Nat} (hb : b < 17) (h : Wab T w) : Wab (delT T a b) (upd w (202 + 17 * a + b) 0) := fun x y hx hy => by
  unfold delT
  by_cases q : x = a ∧ y = b
  · obtain ⟨rfl, rfl⟩ := q
    rw [uUs, decide_eq_true rfl, decide_eq_true rfl]; simp; rfl
  · rw [uU (by omega), h x y hx hy]
    by_cases q1 : x = a
    · rw [decide_eq_false (show ¬ y = b from fun e => q ⟨q1, e⟩), Bool.and_false]; simp
    · rw [decide_eq_false q1, Bool.false_and]; simp
theorem add_in {n : Nat} {T : Nat → Nat → Bool} (h : In n T) {a b : Nat} (ha : 1 ≤ a ∧ a ≤ n) (hb : 1 ≤ b ∧ b ≤ n) : In n (addT T a b) := fun x y e => by
  unfold addT at e
  rw [Bool.or_eq_true, Bool.and_eq_true, decide_eq_true_eq, decide_eq_true_eq] at e
  rcases e with e | ⟨rfl, rfl⟩
  · exact h x y e
  · exact ⟨ha, hb⟩
theorem del_s {T : Nat → Nat → Bool} {a b x y : Nat} (e : delT T a b x y = true) : T x y = true := by
  unfold delT at e
  rw [Bool.and_eq_true] at e
  exact e.1
theorem pg_pil {kk n : Nat} {I I4 : Nat → Nat → Int32} {w6 : Nat → Int32} {T : Nat → Nat → Bool} (h : PgRel kk (pgF I 1) (I 317)) (h1 : ∀ p, 1 ≤ p → p < 28 → p ≠ 9 → I4 p = I p) (h2 : ∀ y, y < 825 → y < 202 ∨ 491 ≤ y → w6 y = I 317 y) (hn : I 8 1 = nI n) (h16 : n ≤ 16) (hin : In n T) (hT : RwF (I4 9) T) (hW : Wab T w6) (hr : ∃ r : Nat → Nat, ∀ a b, T a b = true → r a < r b) : PgRel (kk + 1) (pgF I4 1) w6 := by
  have e8 : ∀ a, a < 17 → nrm (pgF I4 1) 8 a = I4 9 a := fun a ha => nrm_at (show rl 8 a = true from Nat.blt_eq.mpr ha)
  have e7 : nrm (pgF I4 1) 7 1 = nI n := by rw [nrm_at (show rl 7 1 = true from rfl)]; show I4 8 1 = _; rw [h1 8 (by decide) (by decide) (by decide), hn]
  have et : ∀ a b, a < 17 → tld (nrm (pgF I4 1)) a b = T a b := fun a b ha => by
    unfold tld
    rw [e8 a ha]
    obtain ⟨v, hv, ev, hb⟩ := (hT a ha).nat row_16
    rw [ev, rN_nI (by omega), hb]
    by_cases q : 1 ≤ b
    · rw [Nat.ble_eq.mpr q, Bool.true_and]
      unfold row
      rw [bl16, show b - 1 + 1 = b by omega]
      by_cases q2 : b - 1 < 16
      · rw [decide_eq_true q2, Bool.true_and]
      · rw [decide_eq_false q2, hin.f (by omega)]; rfl
    · rw [hin.f (b := b) (by omega), show Nat.ble 1 b = false from by rw [← Bool.not_eq_true, Nat.ble_eq]; exact q]; rfl
  refine pgx_pil h (fun o ho => ?_) (fun y hy hy2 => by unfold nrw; rw [h2 y hy hy2]) ⟨fun a ha => ?_, fun a b ha hb => ?_, fun a b ha e => ?_, ?_⟩
  · funext k
    unfold nrm
    cases hr : rl o k with
    | false => rfl
    | true =>
      have := rl_lt hr
      by_cases h26 : o = 26
      · subst h26; rw [rl26] at hr; cases hr
      · show I4 (1 + o) k = I (1 + o) k
        rw [h1 (1 + o) (by omega) (by omega) (by omega)]
  · rw [e8 a ha]
    obtain ⟨v, hv, ev, hb⟩ := (hT a ha).nat row_16
    rw [ev]
    have := nI_toInt (n := v) (by omega)
    exact ⟨by omega, by omega⟩
  · rw [nrw_at (by omega), et a b ha, hW a b ha hb]; rfl
  · rw [et a b ha] at e
    rw [e7, rN_nI (by omega)]
    exact hin a b e
  · obtain ⟨r, hr⟩ := hr
    exact ⟨r, fun a b ha e => hr a b (by rw [et a b ha] at e; exact e)⟩

theorem le_n {a n : Nat} (h : 1 ≤ a ∧ a ≤ n) (h16 : n ≤ 16) : (1 : Int32) ≤ nI a ∧ nI a ≤ nI n := ⟨(nI_leI (a := 1) (by decide) (by omega)).mpr h.1, (nI_leI (by omega) (by omega)).mpr h.2⟩
theorem a_11 {L kk : Nat} {I : Nat → Nat → Int32} {J : Nat → Nat → Int64} {D : Nat → Nat → UInt64} (h : Inv0 L kk I) (x y : Int32) : ActOK L kk I J D 101 [.ref 0, .int x, .int y] 189 [.ref 316, .int x, .int y] := by
  obtain ⟨n, h16, c8, w0, hin, hT, hW, hr⟩ := inv_pil h.2.1
  by_cases hx : 1 ≤ x ∧ x ≤ nI n
  · obtain ⟨a, ha, rfl⟩ := ly_of h16 hx
    by_cases hy : 1 ≤ y ∧ y ≤ nI n
    · obtain ⟨b, hb, rfl⟩ := ly_of h16 hy
      have cx : 1 ≤ nI a ∧ nI a ≤ I 8 1 := by rw [c8]; exact hx
      have cy : 1 ≤ nI b ∧ nI b ≤ I 8 1 := by rw [c8]; exact hy
      have mx : 1 ≤ nI a ∧ nI a ≤ I 317 0 := by rw [w0]; exact hx
      have my : 1 ≤ nI b ∧ nI b ≤ I 317 0 := by rw [w0]; exact hy
      by_cases hab : a = b
      · subst hab
        refine ActOK.no h 1 2 0 (by decide) ?_ (fun J2 D2 I7 h7 => ?_)
        · rw [e_101_0, c_lyT cx, cal_v, kn, e_101_5, c_lyT cy, cal_v, kn, e_101_10, decide_eq_false (fun e => e rfl), cond_false, e_101_15]
        · have mx7 := mx
          rw [← h7.w] at mx7
          have my7 := my
          rw [← h7.w] at my7
          rw [e_189_0, m_lyT mx7, cal_v, ka, e_189_6, d10, cond_false, e_189_9, m_lyT my7, cal_v, ka, e_189_14, d10, cond_false, e_189_17, e_189_22, x_canT, cal_v, ka, e_189_26, d10, cond_false, e_189_29, decide_eq_true (rfl), cond_true, e_189_39, e_189_40, x_canF, cal_v, ka, uu, e_189_44, d01, cond_false, e_189_47]
      · have hne : nI a ≠ nI b := fun e => hab ((nI_eq (by omega) (by omega)).mp e)
        obtain ⟨I1, d1, d2, d3⟩ := c_draw (J := J) (D := D) c8 h16 hin hT
        have s1 : Same I I1 := Same.o d2
        have hi1 := wsh_in hin 16
        have has := c_has (J := J) (D := D) d3.2.1 (a := b) (b := a) (by omega) ha.1 (by omega)
        have hW1 : Wab (TI I) ((ups I1 316 0 0) 317) := by rw [uI (by decide), d2 317 (by decide) (by decide) (by decide) (by decide)]; exact hW
        have mx1 : 1 ≤ nI a ∧ nI a ≤ I1 317 0 := by rw [d2 317 (by decide) (by decide) (by decide) (by decide)]; exact mx
        have my1 : 1 ≤ nI b ∧ nI b ≤ I1 317 0 := by rw [d2 317 (by decide) (by decide) (by decide) (by decide)]; exact my
        cases hR : clo (TI I) b a with
        | true =>
          rw [show wsh (TI I) 16 = clo (TI I) from rfl] at hi1
          rw [hR] at has
          refine ⟨I1, fun p hp => d2 p (by omega) (by omega) (by omega) (by omega), Or.inr ⟨0, 3, by decide, ?_, fun J2 D2 I7 h7 => ?_⟩⟩
          · rw [show b2i true = 1 from rfl] at has
            rw [e_101_0, c_lyT cx, cal_v, kn, e_101_5, c_lyT cy, cal_v, kn, e_101_10, decide_eq_true (hne), cond_true, e_101_25, d1, cal_v, krw _, e_101_29, has, cal_v, ka, e_101_34, d10, cond_false, e_101_37]
          · have w7 : I7 317 = I 317 := by rw [h7.w, d2 317 (by decide) (by decide) (by decide) (by decide)]
            have mx1 : 1 ≤ nI a ∧ nI a ≤ I7 317 0 := by rw [w7]; exact mx
            have my1 : 1 ≤ nI b ∧ nI b ≤ I7 317 0 := by rw [w7]; exact my
            obtain ⟨F, f1, f2⟩ := m_abv (I := ups I7 316 0 0) (J := J2) (D := D2) hin (by rw [uI (by decide), w7]; exact hW)
            have l := m_lies (I := upR (ups I7 316 0 0) 324 F) (J := J2) (D := D2) (by rw [uRs]; exact f2) (a := b) (b := a) (by omega) (by omega)
            rw [hR, show b2i true = 1 from rfl] at l
            refine ⟨0, ups (upR (ups I7 316 0 0) 324 F) 316 0 3, ?_, by rw [uIs, uUs], ?_⟩
            · rw [e_189_0, m_lyT mx1, cal_v, ka, e_189_6, d10, cond_false, e_189_9, m_lyT my1, cal_v, ka, e_189_14, d10, cond_false, e_189_17, e_189_22, x_canT, cal_v, ka, e_189_26, d10, cond_false, e_189_29, decide_eq_false (hne), cond_false, e_189_35, e_189_40, x_canT, cal_v, ka, uu, e_189_44, d11, cond_true, e_189_49, f1, cal_v, kn, e_189_53, l, cal_v, ka, e_189_60, d11, cond_true, e_189_67, e_189_68, x_canF, cal_v, ka, e_189_72, d01, cond_false, e_189_75]
            · exact inv0_st h ((((s1.tr (Same.m h7)).tr Same.r).tr (Same.R (by decide))).tr Same.r)
        | false =>
          rw [hR] at has
          rw [show b2i false = 0 from rfl] at has
          obtain ⟨I2, e1, lo, hi, nx⟩ := act_all3 (inv0_same h s1) J D
          obtain ⟨I3, hI3⟩ : ∃ I3, I3 = ups I2 9 a (I2 9 a ||| 1 <<< ((nI b - 1) &&& 31)) := ⟨_, rfl⟩
          have lo2 : ∀ p, 1 ≤ p → p < 28 → I2 p = I p := fun p h1 h2 => by rw [lo p (by omega) (by omega), d2 p (by omega) (by omega) (by omega) (by omega)]
          have hT2 : RwF (I3 9) (addT (TI I) a b) := by rw [hI3, uIs, lo2 9 (by decide) (by decide)]; exact rw_add hT hb.1 (by omega)
          have c83 : I3 8 1 = nI n := by rw [hI3, uI (by decide), lo2 8 (by decide) (by decide), c8]
          have hin2 := add_in hin ha hb
          obtain ⟨I4, g1, g2, g3⟩ := c_draw (J := J) (D := D) c83 h16 hin2 hT2
          have ln := c_lines (J := J) (D := D) g3 h16
          have el : lnN (clo (addT (TI I) a b)) n = lnN (clo (addT (TI I) a b)) 16 := by
            have := lnN_n (wsh_in hin2 16) (16 - n)
            rw [show n + (16 - n) = 16 by omega] at this
            exact this.symm
          have i4s : ∀ p, 316 ≤ p → I4 p = I p := fun p hp => by rw [g2 p (by omega) (by omega) (by omega) (by omega), hI3, uI (by omega), hi p (by omega), d2 p (by omega) (by omega) (by omega) (by omega)]
          refine ⟨I4, i4s, Or.inl ⟨nI (lnN (clo (addT (TI I) a b)) n), ?_, fun J2 D2 I7 h7 => ?_⟩⟩
          · rw [e_101_0, c_lyT cx, cal_v, kn, e_101_5, c_lyT cy, cal_v, kn, e_101_10, decide_eq_true (hne), cond_true, e_101_25, d1, cal_v, krw _, e_101_29, has, cal_v, ka, e_101_34, d00, cond_true, e_101_47, e1, cal_v, kn, e_101_51, c_tell (by omega), cal_v, kn, ← hI3, e_101_63, g1, cal_v, krw _, e_101_67, ln, cal_v, ka, e_101_70]
          · have w4 : I7 317 = I 317 := by rw [h7.w]; exact i4s 317 (by decide)
            obtain ⟨F, f1, f2⟩ := m_abv (I := ups I7 316 0 0) (J := J2) (D := D2) hin (by rw [uI (by decide), w4]; exact hW)
            have l := m_lies (I := upR (ups I7 316 0 0) 324 F) (J := J2) (D := D2) (by rw [uRs]; exact f2) (a := b) (b := a) (by omega) (by omega)
            rw [hR, show b2i false = 0 from rfl] at l
            obtain ⟨I5, k1, k2, k3, k4, fin⟩ := nx I4 (ups (upR (ups I7 316 0 0) 324 F) 316 0 0) (cfar_tr (cfar_ups (p := 9) (k := a) cfar_0 (by decide)) (by rw [hI3] at g2; exact cfar_o g2)) ((h7.far.r.R (by decide)).r) (by rw [uI (by decide), uR (by decide), uI (by decide), h7.w]) J2 D2
            have w5 : I5 317 = I 317 := by rw [k2, d2 317 (by decide) (by decide) (by decide) (by decide)]
            have hW5 : Wab (addT (TI I) a b) (upd (I5 317) (202 + 17 * a + b) 1) := by rw [w5]; exact wab_add (by omega) hW
            obtain ⟨F2, m1, m2⟩ := m_lines (I := ups I5 317 (202 + 17 * a + b) 1) (J := J2) (D := D2) hin2 (by rw [uIs]; exact hW5)
            have mx4 : 1 ≤ nI a ∧ nI a ≤ I7 317 0 := by rw [w4]; exact mx
            have my4 : 1 ≤ nI b ∧ nI b ≤ I7 317 0 := by rw [w4]; exact my
            refine ⟨upR (ups I5 317 (202 + 17 * a + b) 1) 324 F2, ?_, ?_, ?_⟩
            · rw [e_189_0, m_lyT mx4, cal_v, ka, e_189_6, d10, cond_false, e_189_9, m_lyT my4, cal_v, ka, e_189_14, d10, cond_false, e_189_17, e_189_22, x_canT, cal_v, ka, e_189_26, d10, cond_false, e_189_29, decide_eq_false (hne), cond_false, e_189_35, e_189_40, x_canT, cal_v, ka, uu, e_189_44, d11, cond_true, e_189_49, f1, cal_v, kn, e_189_53, l, cal_v, ka, e_189_60, d01, cond_false, e_189_63, e_189_68, x_canT, cal_v, ka, e_189_72, d11, cond_true, e_189_77, k1, cal_v, kn, e_189_81, m17', inb_n (show 202 + 17 * a + b < 850 by omega) (by decide), cond_true, nI_clamp (by omega), m1, cal_v, ka, e_189_101, el]
            · rw [uR (by decide), uI (by decide), k3, uIs, uUs]
            · have q := fin (upR (ups I5 317 (202 + 17 * a + b) 1) 324 F2) ((MFw.z.u (by decide)).R (by decide)) (by
                rw [uR (by decide), uIs]
                refine pg_pil h.2.1 (fun p h1 h2 h3 => ?_) (fun y hy h2 => by rw [uU (by omega), w5]) c8 h16 hin2 ?_ hW5 ?_
                · rw [g2 p (by omega) (by omega) (by omega) (by omega), hI3, uI h3, lo2 p h1 (by omega)]
                · rw [g2 9 (by decide) (by decide) (by decide) (by decide)]; exact hT2
                · obtain ⟨r, hr⟩ := hr
                  refine rank_add (r := r) hin h16 hr hab hR (fun x y e => ?_)
                  unfold addT at e
                  rw [Bool.or_eq_true, Bool.and_eq_true, decide_eq_true_eq, decide_eq_true_eq] at e
                  exact e)
              exact ⟨q.1, (txt_same s1).tr q.2⟩
    · have cx : 1 ≤ nI a ∧ nI a ≤ I 8 1 := by rw [c8]; exact hx
      have cy : ¬ (1 ≤ y ∧ y ≤ I 8 1) := by rw [c8]; exact hy
      have mx : 1 ≤ nI a ∧ nI a ≤ I 317 0 := by rw [w0]; exact hx
      have my : ¬ (1 ≤ y ∧ y ≤ I 317 0) := by rw [w0]; exact hy
      refine ActOK.no h 2 1 0 (by decide) ?_ (fun J2 D2 I7 h7 => ?_)
      · rw [e_101_0, c_lyT cx, cal_v, kn, e_101_5, c_lyF cy, cal_e]
      · have mx7 := mx
        rw [← h7.w] at mx7
        have my7 := my
        rw [← h7.w] at my7
        rw [e_189_0, m_lyT mx7, cal_v, ka, e_189_6, d10, cond_false, e_189_9, m_lyF my7, cal_v, ka, e_189_14, d00, cond_true, e_189_21, e_189_22, x_canF, cal_v, ka, e_189_26, d00, cond_true, e_189_47]
  · have cx : ¬ (1 ≤ x ∧ x ≤ I 8 1) := by rw [c8]; exact hx
    have mx : ¬ (1 ≤ x ∧ x ≤ I 317 0) := by rw [w0]; exact hx
    refine ActOK.no h 2 1 0 (by decide) ?_ (fun J2 D2 I7 h7 => ?_)
    · rw [e_101_0, c_lyF cx, cal_e]
    · have mx7 := mx
      rw [← h7.w] at mx7
      rw [e_189_0, m_lyF mx7, cal_v, ka, e_189_6, d00, cond_true, e_189_21, e_189_22, x_canF, cal_v, ka, e_189_26, d00, cond_true, e_189_47]

