/-! acts whose model half begins behind other scratch of the model -/
/-- the model's words apart, nothing is another -/
def MPt (I I' : Nat → Nat → Int32) : Prop := (∀ p, p ≠ 316 → p ≠ 333 → p ≠ 334 → I' p = I p) ∧ ∀ j, j ≠ 0 → j ≠ 23 → I' 316 j = I 316 j
theorem MPt.z {I : Nat → Nat → Int32} : MPt I I := ⟨fun _ _ _ _ => rfl, fun _ _ _ => rfl⟩
theorem MPt.w {I I' : Nat → Nat → Int32} (h : MPt I I') : I' 317 = I 317 := h.1 317 (by decide) (by decide) (by decide)
theorem MPt.go {I I' : Nat → Nat → Int32} (h : MPt I I') {p : Nat} (h1 : p ≠ 316) (h2 : p ≠ 333) (h3 : p ≠ 334) : I' p = I p := h.1 p h1 h2 h3
def MFw (I I' : Nat → Nat → Int32) : Prop := (∀ p, p < 316 → I' p = I p) ∧ (∀ j, j ≠ 0 → j ≠ 23 → I' 316 j = I 316 j) ∧ I' 318 = I 318 ∧ I' 319 = I 319 ∧ I' 320 = I 320 ∧ I' iSCL 0 = I iSCL 0
theorem MFar.w {I I' : Nat → Nat → Int32} (h : MFar I I') : MFw I I' := ⟨h.1, fun j h1 _ => h.2.1 j h1, h.2.2⟩
theorem MPt.far {I I' : Nat → Nat → Int32} (h : MPt I I') : MFw I I' := ⟨fun p hp => h.go (by omega) (by omega) (by omega), h.2, h.go (by decide) (by decide) (by decide), h.go (by decide) (by decide) (by decide), h.go (by decide) (by decide) (by decide), by rw [h.go (p := iSCL) (by decide) (by decide) (by decide)]⟩
theorem MFw.z {I : Nat → Nat → Int32} : MFw I I := ⟨fun _ _ => rfl, fun _ _ _ => rfl, rfl, rfl, rfl, rfl⟩
theorem MFw.R {I1 I2 : Nat → Nat → Int32} {p : Nat} {f : Nat → Int32} (h : MFw I1 I2) (hp : p = 317 ∨ (321 ≤ p ∧ p < 1000000)) : MFw I1 (upR I2 p f) := by
  obtain ⟨f1, f2, f3, f4, f5, f6⟩ := h
  have hs : iSCL ≠ p := by rcases hp with rfl | hp; decide; unfold iSCL; omega
  exact ⟨fun q hq => by rw [uR (by omega)]; exact f1 q hq, fun j hj hj2 => by rw [uR (by omega)]; exact f2 j hj hj2, by rw [uR (by omega)]; exact f3, by rw [uR (by omega)]; exact f4, by rw [uR (by omega)]; exact f5, by rw [uR hs]; exact f6⟩
theorem MFw.u {I1 I2 : Nat → Nat → Int32} {p k : Nat} {v : Int32} (h : MFw I1 I2) (hp : p = 317 ∨ (321 ≤ p ∧ p < 1000000)) : MFw I1 (ups I2 p k v) := h.R (f := upd (I2 p) k v) hp
theorem MFw.r {I1 I2 : Nat → Nat → Int32} {v : Int32} (h : MFw I1 I2) : MFw I1 (ups I2 316 0 v) := by
  obtain ⟨f1, f2, f3, f4, f5, f6⟩ := h
  exact ⟨fun q hq => by rw [uI (by omega)]; exact f1 q hq, fun j hj hj2 => by rw [uIs, uU hj]; exact f2 j hj hj2, by rw [uI (by decide)]; exact f3, by rw [uI (by decide)]; exact f4, by rw [uI (by decide)]; exact f5, by rw [uI (by decide)]; exact f6⟩
theorem act_inv0w {L kk a x e e2 : Nat} {I I1 I2 I3 I4 I5 : Nat → Nat → Int32} (h : Inv0 L kk I) (ha : a ≤ 8) (hx : x < 8) (he : (e + a) % 8 = x)
    (hh : ∀ s, s < 8 → (x + 7 - s) % 8 < a → PgRel kk (pgF I (29 + 27 * s)) (fun y => I 318 (825 * s + y)))
    (c : CRem x a I I1) (cf : CFar I1 I2) (m : MFw I2 I3 ∧ I3 317 = I2 317) (k : KeepOK e a I3 I4 e2) (mf : MFw I4 I5) (hp : PgRel (kk + 1) (pgF I2 1) (I5 317)) : Inv0 L (kk + 1) I5 ∧ TxtKeep I I5 := by
  obtain ⟨i0, i1, -, i4⟩ := h
  obtain ⟨c1, c2, c3, c4⟩ := c
  obtain ⟨⟨f1, f2⟩, f3, ⟨f4, f5, f6, f7⟩, f8⟩ := cf
  obtain ⟨⟨n1, n2, n3, n4, n5, n6⟩, n7⟩ := m
  obtain ⟨k1, k2, k3, k4, k5, k6, k7, k8⟩ := k
  obtain ⟨l1, l2, l3, l4, l5, l6⟩ := mf
  rw [he] at k4 k7 k8
  have far1 : ∀ p, 245 ≤ p → I1 p = I p := fun p hp => c4 p (by omega) (Or.inr (by omega))
  have lo : ∀ p, p < 316 → I5 p = I2 p := fun p hp => by rw [l1 p hp, k6 p (by omega) (by omega), n1 p hp]
  have w0 : I3 317 = I 317 := by rw [n7, f8 317 (by decide), far1 317 (by decide)]
  have o18 : I3 318 = I 318 := by rw [n3, f8 318 (by decide), far1 318 (by decide)]
  have o16 : ∀ j, j ≠ 0 → j ≠ 3 → j ≠ 4 → j ≠ 23 → I5 316 j = I 316 j := fun j h1 h2 h3 h4 => by rw [l2 j h1 h4, k5 j h2 h3, n2 j h1 h4, f8 316 (by decide), far1 316 (by decide)]
  refine ⟨⟨?_, hp.go (Nat.le_refl _) (fun o k hr => ?_) (fun _ _ => rfl), ?_, ?_⟩, ?_, ?_, o16 8 (by decide) (by decide) (by decide) (by decide), ?_⟩
  · rw [l6, k6 iSCL (by decide) (by decide), n6, f8 iSCL (by decide), far1 iSCL (by decide)]; exact i0
  · have := rl_lt hr
    show I5 (1 + o) k = I2 (1 + o) k
    rw [lo (1 + o) (by omega)]
  · refine his_act ha hx he hh i1 ?_ ?_ (fun o k hr => ?_) (fun p h1 h2 h3 => ?_) k1 ?_ ?_ k4 (fun y hy => ?_) (fun z hz => ?_)
    · rw [lo 0 (by decide), f1]; exact c1
    · rw [lo 0 (by decide), f2]; exact c2
    · have ho := rl_lt hr
      show I5 (29 + 27 * x + o) k = _
      rw [lo (29 + 27 * x + o) (by omega), f3 _ (by omega) (by omega)]
      exact c3 o k hr
    · rw [lo p (by omega), f3 p (by omega) h2, c4 p (by omega) h3]
    · rw [l2 4 (by decide) (by decide)]; exact k2
    · rw [l2 3 (by decide) (by decide)]; exact k3
    · rw [l3, k7 y hy, w0]
    · rw [l3, k8 z hz, o18]
  · refine rng_stay i4 ?_ ?_ (o16 6 (by decide) (by decide) (by decide) (by decide)) ?_
    · rw [lo 245 (by decide), f4, far1 245 (by decide)]
    · rw [lo 264 (by decide), f5, far1 264 (by decide)]
    · rw [l4, k6 319 (by decide) (by decide), n4, f8 319 (by decide), far1 319 (by decide)]
  · rw [lo 312 (by decide), f6, far1 312 (by decide)]
  · rw [lo 313 (by decide), f7, far1 313 (by decide)]
  · rw [l5, k6 320 (by decide) (by decide), n5, f8 320 (by decide), far1 320 (by decide)]
theorem act_all3 {L kk : Nat} {I : Nat → Nat → Int32} (h : Inv0 L kk I) (J1 : Nat → Nat → Int64) (D1 : Nat → Nat → UInt64) :
    ∃ I1, ex (141, 0, [.ref 0, dv], [], mm I J1 D1) = some (.inl none, mm I1 J1 D1) ∧ (∀ p, p ≠ 0 → p < 29 → I1 p = I p) ∧ (∀ p, 245 ≤ p → I1 p = I p) ∧
      ∀ I2 I3, CFar I1 I2 → MFw I2 I3 → I3 317 = I2 317 → ∀ (J2 : Nat → Nat → Int64) (D2 : Nat → Nat → UInt64), ∃ I4, ex (161, 0, [.ref 316, dv, dv], [], mm I3 J2 D2) = some (.inl none, mm I4 J2 D2) ∧ I4 317 = I 317 ∧ I4 316 0 = I3 316 0 ∧ (∀ p, p ≠ 316 → p ≠ 318 → I4 p = I3 p) ∧
        ∀ (I5 : Nat → Nat → Int32), MFw I4 I5 → PgRel (kk + 1) (pgF I2 1) (I5 317) → Inv0 L (kk + 1) I5 ∧ TxtKeep I I5 := by
  obtain ⟨i0, i1, ⟨a, xx, e, r1, r2, r3, r4, r5, r6, r7, r8, r9⟩, i4⟩ := id h
  obtain ⟨I1, e1, c⟩ := c_rem (kk := 0) r2 r1 r5 r6 (fun k hk => i1.th k hk) J1 D1
  have far1 : ∀ p, p ≠ 0 → 245 ≤ p → I1 p = I p := fun p h0 hp => c.2.2.2 p h0 (Or.inr (by omega))
  refine ⟨I1, e1, fun p h0 hp => c.2.2.2 p h0 (Or.inl (by omega)), fun p hp => far1 p (by omega) hp, fun I2 I3 cf mf m17 J2 D2 => ?_⟩
  have far2 : ∀ p, 316 ≤ p → I2 p = I p := fun p hp => by rw [cf.2.2.2 p hp, far1 p (by omega) (by omega)]
  obtain ⟨I4, e2, e3, k⟩ := x_keep r3 r1 (I := I3) (by rw [mf.2.1 4 (by decide) (by decide), far2 316 (by decide)]; exact r8) (by rw [mf.2.1 3 (by decide) (by decide), far2 316 (by decide)]; exact r7) J2 D2
  have k' := id k
  obtain ⟨k1, k2, k3, k4, k5, k6, k7, k8⟩ := k'
  refine ⟨I4, e3, ?_, ?_, fun p hp hq => ?_, fun I5 mf5 hp => ?_⟩
  · rw [k6 317 (by decide) (by decide), m17, far2 317 (by decide)]
  · rw [k5 0 (by decide) (by decide)]
  · rw [k6 p hp hq]
  · exact act_inv0w h r1 r2 r4 r9 c cf ⟨mf, m17⟩ k mf5 hp
/-- behind a call that both refuse: only the model's words and 'raised' are others -/
theorem inv0_mpt {L kk : Nat} {I I2 : Nat → Nat → Int32} {r : Int32} (h : Inv0 L kk I) (m : MPt I I2) : Inv0 L (kk + 1) (ups I2 316 0 r) ∧ TxtKeep I (ups I2 316 0 r) := by
  obtain ⟨i0, i1, i2, i4⟩ := h
  have e6 : ∀ j, j ≠ 0 → j ≠ 23 → ups I2 316 0 r 316 j = I 316 j := fun j hj h2 => by rw [uIs, uU hj]; exact m.2 j hj h2
  have eo : ∀ p, p ≠ 316 → p ≠ 333 → p ≠ 334 → ups I2 316 0 r p = I p := fun p h1 h2 h3 => by rw [uI h1]; exact m.1 p h1 h2 h3
  refine ⟨⟨by rw [eo iSCL (by decide) (by decide) (by decide)]; exact i0, i1.go (Nat.le_succ kk) (fun o k hr => ?_) (fun y _ => by rw [eo 317 (by decide) (by decide) (by decide)]), his_stay i2 (by rw [eo 0 (by decide) (by decide) (by decide)]) (by rw [eo 0 (by decide) (by decide) (by decide)]) (fun p h1 h2 => eo p (by omega) (by omega) (by omega)) (e6 3 (by decide) (by decide)) (e6 4 (by decide) (by decide)) (eo 318 (by decide) (by decide) (by decide)), rng_stay i4 (by rw [eo 245 (by decide) (by decide) (by decide)]) (eo 264 (by decide) (by decide) (by decide)) (e6 6 (by decide) (by decide)) (eo 319 (by decide) (by decide) (by decide))⟩, by rw [eo 312 (by decide) (by decide) (by decide)], eo 313 (by decide) (by decide) (by decide), e6 8 (by decide) (by decide), eo 320 (by decide) (by decide) (by decide)⟩
  have := rl_lt hr
  show ups I2 316 0 r (1 + o) k = I (1 + o) k
  rw [eo (1 + o) (by omega) (by omega) (by omega)]
theorem Same.m {I I' : Nat → Nat → Int32} (h : MPt I I') : Same I I' :=
  ⟨fun o k hr => by have := rl_lt hr; rw [h.go (p := 1 + o) (by omega) (by omega) (by omega)], ⟨by rw [h.go (p := 0) (by decide) (by decide) (by decide)], by rw [h.go (p := 0) (by decide) (by decide) (by decide)]⟩, fun p h1 h2 => h.go (by omega) (by omega) (by omega),
    ⟨by rw [h.go (p := 245) (by decide) (by decide) (by decide)], h.go (by decide) (by decide) (by decide), by rw [h.go (p := 312) (by decide) (by decide) (by decide)], h.go (by decide) (by decide) (by decide)⟩, ⟨h.2 3 (by decide) (by decide), h.2 4 (by decide) (by decide), h.2 6 (by decide) (by decide), h.2 8 (by decide) (by decide)⟩, fun y _ => by rw [h.w], h.go (by decide) (by decide) (by decide), h.go (by decide) (by decide) (by decide), h.go (by decide) (by decide) (by decide), by rw [h.go (p := iSCL) (by decide) (by decide) (by decide)]⟩
