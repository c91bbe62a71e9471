/-! acts and asks, ready to use -/
theorem d10 : decide ((1 : Int32) = 0) = false := by decide
theorem d11 : decide ((1 : Int32) ≠ 0) = true := by decide
theorem d00 : decide ((0 : Int32) = 0) = true := by decide
theorem d01 : decide ((0 : Int32) ≠ 0) = false := by decide
theorem uu {I : Nat → Nat → Int32} {p k : Nat} {a b : Int32} : ups (ups I p k a) p k b = ups I p k b := by
  funext q j
  by_cases hq : q = p
  · subst hq
    rw [uIs, uIs, uIs]
    by_cases hj : j = k
    · subst hj; rw [uUs, uUs]
    · rw [uU hj, uU hj, uU hj]
  · rw [uI hq, uI hq, uI hq]
section KT
variable {I : Nat → Nat → Int32} {J : Nat → Nat → Int64} {D : Nat → Nat → UInt64}
theorem x_canT {wh : Int32} : ex (156, 0, [.ref 316, .int 1, .int wh], [], mm I J D) = some (.inl (some (.int 1)), mm (ups I 316 0 0) J D) := x_can true wh I J D
theorem x_canF {wh : Int32} : ex (156, 0, [.ref 316, .int 0, .int wh], [], mm I J D) = some (.inl (some (.int 0)), mm (ups I 316 0 wh) J D) := x_can false wh I J D
theorem x_inT {v a b : Int32} (h : a ≤ v ∧ v ≤ b) : ex (157, 0, [.int v, .int a, .int b], [], mm I J D) = some (.inl (some (.int 1)), mm I J D) := by rw [x_in, bI1 h]
theorem x_inF {v a b : Int32} (h : ¬ (a ≤ v ∧ v ≤ b)) : ex (157, 0, [.int v, .int a, .int b], [], mm I J D) = some (.inl (some (.int 0)), mm I J D) := by rw [x_in, bI0 h]
end KT
/-- as Inv, but for the text -/
def Inv0 (L : Nat) (kk : Nat) (I : Nat → Nat → Int32) : Prop := I iSCL 0 = Int32.ofNat L ∧ PgRel kk (pgF I 1) (I 317) ∧ RHis kk I ∧ RRng I
def TxtKeep (I I' : Nat → Nat → Int32) : Prop := I' 312 3 = I 312 3 ∧ I' 313 = I 313 ∧ I' 316 8 = I 316 8 ∧ I' 320 = I 320
theorem inv_to {L kk : Nat} {I : Nat → Nat → Int32} {J : Nat → Nat → Int64} {D : Nat → Nat → UInt64} (h : Inv L kk I J D) : Inv0 L kk I := ⟨h.1, h.2.1, h.2.2.1, h.2.2.2.2⟩
theorem inv_of {L kk k2 : Nat} {I I2 : Nat → Nat → Int32} {J J2 : Nat → Nat → Int64} {D D2 : Nat → Nat → UInt64} (h : Inv L kk I J D) (q : Inv0 L k2 I2 ∧ TxtKeep I I2) : Inv L k2 I2 J2 D2 :=
  ⟨q.1.1, q.1.2.1, q.1.2.2.1, txt_stay h.2.2.2.1 q.2.1 q.2.2.1 q.2.2.2.1 q.2.2.2.2, q.1.2.2.2⟩
theorem inv0_r {L kk : Nat} {I : Nat → Nat → Int32} {r : Int32} (h : Inv0 L kk I) : Inv0 L (kk + 1) (ups I 316 0 r) ∧ TxtKeep I (ups I 316 0 r) := by
  obtain ⟨i0, i1, i2, i4⟩ := h
  have e6 : ∀ j, j ≠ 0 → ups I 316 0 r 316 j = I 316 j := fun j hj => by rw [uIs, uU hj]
  refine ⟨⟨by rw [uI (by decide)]; exact i0, i1.go (Nat.le_succ kk) (fun o k hr => ?_) (fun y _ => by rw [uI (by decide)]), his_stay i2 (by rw [uI (by decide)]) (by rw [uI (by decide)]) (fun p h1 h2 => uI (by omega)) (e6 3 (by decide)) (e6 4 (by decide)) (uI (by decide)), rng_stay i4 (by rw [uI (by decide)]) (uI (by decide)) (e6 6 (by decide)) (uI (by decide))⟩, by rw [uI (by decide)], uI (by decide), e6 8 (by decide), uI (by decide)⟩
  have := rl_lt hr
  show ups I 316 0 r (1 + o) k = I (1 + o) k
  rw [uI (by omega)]
theorem act_inv0 {L kk a x e e2 : Nat} {I I1 I2 I3 I4 I5 : Nat → Nat → Int32} (h : Inv0 L kk I) (ha : a ≤ 8) (hx : x < 8) (he : (e + a) % 8 = x)
    (hh : ∀ s, s < 8 → (x + 7 - s) % 8 < a → PgRel kk (pgF I (29 + 27 * s)) (fun y => I 318 (825 * s + y)))
    (c : CRem x a I I1) (cf : CFar I1 I2) (m : MFar I2 I3 ∧ I3 317 = I2 317) (k : KeepOK e a I3 I4 e2) (mf : MFar I4 I5) (hp : PgRel (kk + 1) (pgF I2 1) (I5 317)) : Inv0 L (kk + 1) I5 ∧ TxtKeep I I5 := by
  obtain ⟨i0, i1, -, i4⟩ := h
  obtain ⟨c1, c2, c3, c4⟩ := c
  obtain ⟨⟨f1, f2⟩, f3, ⟨f4, f5, f6, f7⟩, f8⟩ := cf
  obtain ⟨⟨n1, n2, n3, n4, n5, n6⟩, n7⟩ := m
  obtain ⟨k1, k2, k3, k4, k5, k6, k7, k8⟩ := k
  obtain ⟨l1, l2, l3, l4, l5, l6⟩ := mf
  rw [he] at k4 k7 k8
  have far1 : ∀ p, 245 ≤ p → I1 p = I p := fun p hp => c4 p (by omega) (Or.inr (by omega))
  have lo : ∀ p, p < 316 → I5 p = I2 p := fun p hp => by rw [l1 p hp, k6 p (by omega) (by omega), n1 p hp]
  have w0 : I3 317 = I 317 := by rw [n7, f8 317 (by decide), far1 317 (by decide)]
  have o18 : I3 318 = I 318 := by rw [n3, f8 318 (by decide), far1 318 (by decide)]
  have o16 : ∀ j, j ≠ 0 → j ≠ 3 → j ≠ 4 → I5 316 j = I 316 j := fun j h1 h2 h3 => by rw [l2 j h1, k5 j h2 h3, n2 j h1, f8 316 (by decide), far1 316 (by decide)]
  refine ⟨⟨?_, hp.go (Nat.le_refl _) (fun o k hr => ?_) (fun _ _ => rfl), ?_, ?_⟩, ?_, ?_, o16 8 (by decide) (by decide) (by decide), ?_⟩
  · rw [l6, k6 iSCL (by decide) (by decide), n6, f8 iSCL (by decide), far1 iSCL (by decide)]; exact i0
  · have := rl_lt hr
    show I5 (1 + o) k = I2 (1 + o) k
    rw [lo (1 + o) (by omega)]
  · refine his_act ha hx he hh i1 ?_ ?_ (fun o k hr => ?_) (fun p h1 h2 h3 => ?_) k1 ?_ ?_ k4 (fun y hy => ?_) (fun z hz => ?_)
    · rw [lo 0 (by decide), f1]; exact c1
    · rw [lo 0 (by decide), f2]; exact c2
    · have ho := rl_lt hr
      show I5 (29 + 27 * x + o) k = _
      rw [lo (29 + 27 * x + o) (by omega), f3 _ (by omega) (by omega)]
      exact c3 o k hr
    · rw [lo p (by omega), f3 p (by omega) h2, c4 p (by omega) h3]
    · rw [l2 4 (by decide)]; exact k2
    · rw [l2 3 (by decide)]; exact k3
    · rw [l3, k7 y hy, w0]
    · rw [l3, k8 z hz, o18]
  · refine rng_stay i4 ?_ ?_ (o16 6 (by decide) (by decide) (by decide)) ?_
    · rw [lo 245 (by decide), f4, far1 245 (by decide)]
    · rw [lo 264 (by decide), f5, far1 264 (by decide)]
    · rw [l4, k6 319 (by decide) (by decide), n4, f8 319 (by decide), far1 319 (by decide)]
  · rw [lo 312 (by decide), f6, far1 312 (by decide)]
  · rw [lo 313 (by decide), f7, far1 313 (by decide)]
  · rw [l5, k6 320 (by decide) (by decide), n5, f8 320 (by decide), far1 320 (by decide)]
/-- an act, from its start to its end -/
theorem act_all {L kk : Nat} {I : Nat → Nat → Int32} (h : Inv0 L kk I) (J1 : Nat → Nat → Int64) (D1 : Nat → Nat → UInt64) :
    ∃ I1, ex (141, 0, [.ref 0, dv], [], mm I J1 D1) = some (.inl none, mm I1 J1 D1) ∧ (∀ p, p ≠ 0 → p < 29 → I1 p = I p) ∧ (∀ p, 245 ≤ p → I1 p = I p) ∧
      ∀ I2, CFar I1 I2 → ∀ (J2 : Nat → Nat → Int64) (D2 : Nat → Nat → UInt64), ∃ I4, ex (161, 0, [.ref 316, dv, dv], [], mm (ups I2 316 0 0) J2 D2) = some (.inl none, mm I4 J2 D2) ∧ I4 317 = I 317 ∧ I4 316 0 = 0 ∧ (∀ p, p ≠ 316 → p ≠ 318 → I4 p = I2 p) ∧
        ∀ (I5 : Nat → Nat → Int32), MFar I4 I5 → PgRel (kk + 1) (pgF I2 1) (I5 317) → Inv0 L (kk + 1) I5 ∧ TxtKeep I I5 := by
  obtain ⟨i0, i1, ⟨a, xx, e, r1, r2, r3, r4, r5, r6, r7, r8, r9⟩, i4⟩ := id h
  obtain ⟨I1, e1, c⟩ := c_rem (kk := 0) r2 r1 r5 r6 (fun k hk => i1.th k hk) J1 D1
  have far1 : ∀ p, p ≠ 0 → 245 ≤ p → I1 p = I p := fun p h0 hp => c.2.2.2 p h0 (Or.inr (by omega))
  refine ⟨I1, e1, fun p h0 hp => c.2.2.2 p h0 (Or.inl (by omega)), fun p hp => far1 p (by omega) hp, fun I2 cf J2 D2 => ?_⟩
  have far2 : ∀ p, 316 ≤ p → I2 p = I p := fun p hp => by rw [cf.2.2.2 p hp, far1 p (by omega) (by omega)]
  obtain ⟨I4, e2, e3, k⟩ := x_keep r3 r1 (I := ups I2 316 0 0) (by rw [uIs, uU (by decide), far2 316 (by decide)]; exact r8) (by rw [uIs, uU (by decide), far2 316 (by decide)]; exact r7) J2 D2
  have k' := id k
  obtain ⟨k1, k2, k3, k4, k5, k6, k7, k8⟩ := k'
  refine ⟨I4, e3, ?_, ?_, fun p hp hq => ?_, fun I5 mf hp => ?_⟩
  · rw [k6 317 (by decide) (by decide), uI (by decide), far2 317 (by decide)]
  · rw [k5 0 (by decide) (by decide), uIs, uUs]
  · rw [k6 p hp hq, uI hp]
  · exact act_inv0 h r1 r2 r4 r9 c cf ⟨⟨fun p hp => uI (by omega), fun j hj => by rw [uIs, uU hj], uI (by decide), uI (by decide), uI (by decide), by rw [uI (by decide)]⟩, uI (by decide)⟩ k mf hp
theorem g_ups {I : Nat → Nat → Int32} {b o k : Nat} {v : Int32} (hb : b = 1 + o) (hr : rl o k = true) : nrm (pgF (ups I b k v) 1) = ups (nrm (pgF I 1)) o k v := by
  refine nrm_ups hr (fun o' k' _ => ?_)
  show ups I b k v (1 + o') k' = _
  subst hb
  by_cases ho : o' = o
  · subst ho; rw [uIs, uIs]
  · rw [uI (by omega), uI ho]
theorem g_off {I : Nat → Nat → Int32} {b k : Nat} {v : Int32} (hr : ∀ o, b = 1 + o → rl o k = false) : nrm (pgF (ups I b k v) 1) = nrm (pgF I 1) := by
  refine nrm_e (fun o' k' h => ?_)
  show ups I b k v (1 + o') k' = I (1 + o') k'
  by_cases ho : 1 + o' = b
  · subst ho
    rw [uIs]
    by_cases hk : k' = k
    · subst hk; rw [hr o' rfl] at h; cases h
    · rw [uU hk]
  · rw [uI ho]
theorem g_same {I I1 : Nat → Nat → Int32} (h : ∀ p, p ≠ 0 → p < 29 → I1 p = I p) : nrm (pgF I1 1) = nrm (pgF I 1) := by
  refine nrm_e (fun o k hr => ?_)
  have := rl_lt hr
  show I1 (1 + o) k = I (1 + o) k
  rw [h (1 + o) (by omega) (by omega)]
theorem n_upd {I : Nat → Nat → Int32} {y : Nat} {v : Int32} (h : y < 825) : nrw (ups I 317 y v 317) = upd (nrw (I 317)) y v := nrw_upd h (fun z _ => by rw [uIs])
/-- the lasting numbers are the same -/
def Same (I I' : Nat → Nat → Int32) : Prop :=
  (∀ o k, rl o k = true → I' (1 + o) k = I (1 + o) k) ∧ (I' 0 2 = I 0 2 ∧ I' 0 3 = I 0 3) ∧ (∀ p, 29 ≤ p → p < 245 → I' p = I p) ∧ (I' 245 3 = I 245 3 ∧ I' 264 = I 264 ∧ I' 312 3 = I 312 3 ∧ I' 313 = I 313) ∧
  (I' 316 3 = I 316 3 ∧ I' 316 4 = I 316 4 ∧ I' 316 6 = I 316 6 ∧ I' 316 8 = I 316 8) ∧ (∀ y, y < 825 → I' 317 y = I 317 y) ∧ I' 318 = I 318 ∧ I' 319 = I 319 ∧ I' 320 = I 320 ∧ I' iSCL 0 = I iSCL 0
theorem inv_st {L kk : Nat} {I I2 : Nat → Nat → Int32} {J J2 : Nat → Nat → Int64} {D D2 : Nat → Nat → UInt64} (h : Inv L kk I J D) (s : Same I I2) : Inv L (kk + 1) I2 J2 D2 := by
  obtain ⟨i0, i1, i2, i3, i4⟩ := h
  obtain ⟨s1, ⟨s2, s3⟩, s4, ⟨s5, s6, s7, s8⟩, ⟨s9, s10, s11, s12⟩, s13, s14, s15, s16, s17⟩ := s
  exact ⟨by rw [s17]; exact i0, i1.go (Nat.le_succ kk) s1 s13, his_stay i2 s2 s3 s4 s9 s10 s14, txt_stay i3 s7 s8 s12 s16, rng_stay i4 s5 s6 s11 s15⟩
theorem Same.rfl' {I : Nat → Nat → Int32} : Same I I := ⟨fun _ _ _ => rfl, ⟨rfl, rfl⟩, fun _ _ _ => rfl, ⟨rfl, rfl, rfl, rfl⟩, ⟨rfl, rfl, rfl, rfl⟩, fun _ _ => rfl, rfl, rfl, rfl, rfl⟩
theorem Same.tr {I I1 I2 : Nat → Nat → Int32} (h : Same I I1) (g : Same I1 I2) : Same I I2 := by
  obtain ⟨s1, ⟨s2, s3⟩, s4, ⟨s5, s6, s7, s8⟩, ⟨s9, s10, s11, s12⟩, s13, s14, s15, s16, s17⟩ := h
  obtain ⟨t1, ⟨t2, t3⟩, t4, ⟨t5, t6, t7, t8⟩, ⟨t9, t10, t11, t12⟩, t13, t14, t15, t16, t17⟩ := g
  exact ⟨fun o k hr => (t1 o k hr).trans (s1 o k hr), ⟨t2.trans s2, t3.trans s3⟩, fun p h1 h2 => (t4 p h1 h2).trans (s4 p h1 h2), ⟨t5.trans s5, t6.trans s6, t7.trans s7, t8.trans s8⟩, ⟨t9.trans s9, t10.trans s10, t11.trans s11, t12.trans s12⟩, fun y hy => (t13 y hy).trans (s13 y hy), t14.trans s14, t15.trans s15, t16.trans s16, t17.trans s17⟩
/-- places that don't last -/
def scr (p : Nat) : Bool := match p with
  | 7 => true
  | 27 => true
  | _ => (Nat.ble 246 p && Nat.blt p 312 && !(Nat.beq p 264)) || (Nat.beq p 314 || Nat.beq p 315) || (Nat.ble 321 p && Nat.blt p 1000000)
theorem rl6 {k : Nat} : rl 6 k = false := rfl
theorem rl26 {k : Nat} : rl 26 k = false := rfl
theorem Same.of {I I2 : Nat → Nat → Int32} (h : ∀ p, scr p = false → I2 p = I p) : Same I I2 := by
  refine ⟨fun o k hr => ?_, ⟨by rw [h 0 (by decide)], by rw [h 0 (by decide)]⟩, fun p h1 h2 => h p ?_, ⟨by rw [h 245 (by decide)], h 264 (by decide), by rw [h 312 (by decide)], h 313 (by decide)⟩, ⟨by rw [h 316 (by decide)], by rw [h 316 (by decide)], by rw [h 316 (by decide)], by rw [h 316 (by decide)]⟩, fun y _ => by rw [h 317 (by decide)], h 318 (by decide), h 319 (by decide), h 320 (by decide), by rw [h iSCL (by decide)]⟩
  · have := rl_lt hr
    by_cases h6 : o = 6
    · subst h6; rw [rl6] at hr; cases hr
    · by_cases h26 : o = 26
      · subst h26; rw [rl26] at hr; cases hr
      · rw [h (1 + o) ?_]
        unfold scr
        split
        · omega
        · omega
        · rw [Bool.or_eq_false_iff, Bool.or_eq_false_iff]
          refine ⟨⟨?_, ?_⟩, ?_⟩
          · rw [show Nat.ble 246 (1 + o) = false from by rw [← Bool.not_eq_true, Nat.ble_eq]; omega]; rfl
          · rw [Bool.or_eq_false_iff]; exact ⟨by rw [← Bool.not_eq_true, Nat.beq_eq]; omega, by rw [← Bool.not_eq_true, Nat.beq_eq]; omega⟩
          · rw [show Nat.ble 321 (1 + o) = false from by rw [← Bool.not_eq_true, Nat.ble_eq]; omega]; rfl
  · unfold scr
    split
    · omega
    · omega
    · rw [Bool.or_eq_false_iff, Bool.or_eq_false_iff]
      refine ⟨⟨?_, ?_⟩, ?_⟩
      · rw [show Nat.ble 246 p = false from by rw [← Bool.not_eq_true, Nat.ble_eq]; omega]; rfl
      · rw [Bool.or_eq_false_iff]; exact ⟨by rw [← Bool.not_eq_true, Nat.beq_eq]; omega, by rw [← Bool.not_eq_true, Nat.beq_eq]; omega⟩
      · rw [show Nat.ble 321 p = false from by rw [← Bool.not_eq_true, Nat.ble_eq]; omega]; rfl
theorem Same.r {I : Nat → Nat → Int32} {r : Int32} : Same I (ups I 316 0 r) := by
  refine ⟨fun o k hr => ?_, ⟨?_, ?_⟩, fun p h1 h2 => uI (by omega), ⟨?_, uI (by decide), ?_, uI (by decide)⟩, ⟨?_, ?_, ?_, ?_⟩, fun y _ => by rw [uI (by decide)], uI (by decide), uI (by decide), uI (by decide), ?_⟩
  · have := rl_lt hr
    rw [uI (by omega)]
  · rw [uI (by decide)]
  · rw [uI (by decide)]
  · rw [uI (by decide)]
  · rw [uI (by decide)]
  · rw [uIs, uU (by decide)]
  · rw [uIs, uU (by decide)]
  · rw [uIs, uU (by decide)]
  · rw [uIs, uU (by decide)]
  · rw [uI (by decide)]
/-- the book's part alone is another -/
theorem cfar_ups {I1 I2 : Nat → Nat → Int32} {p k : Nat} {v : Int32} (h : CFar I1 I2) (hp : (1 ≤ p ∧ p < 28) ∨ (246 ≤ p ∧ p < 312 ∧ p ≠ 264) ∨ p = 314 ∨ p = 315) : CFar I1 (ups I2 p k v) := by
  obtain ⟨⟨f1, f2⟩, f3, ⟨f4, f5, f6, f7⟩, f8⟩ := h
  refine ⟨⟨?_, ?_⟩, fun q h1 h2 => ?_, ⟨?_, ?_, ?_, ?_⟩, fun q hq => ?_⟩
  · rw [uI (by omega)]; exact f1
  · rw [uI (by omega)]; exact f2
  · rw [uI (by omega)]; exact f3 q h1 h2
  · rw [uI (by omega)]; exact f4
  · rw [uI (by omega)]; exact f5
  · rw [uI (by omega)]; exact f6
  · rw [uI (by omega)]; exact f7
  · rw [uI (by omega)]; exact f8 q hq
theorem cfar_0 {I : Nat → Nat → Int32} : CFar I I := ⟨⟨rfl, rfl⟩, fun _ _ _ => rfl, ⟨rfl, rfl, rfl, rfl⟩, fun _ _ => rfl⟩
theorem mfar_0 {I : Nat → Nat → Int32} : MFar I I := ⟨fun _ _ => rfl, fun _ _ => rfl, rfl, rfl, rfl, rfl⟩
theorem mfar_ups {I1 I2 : Nat → Nat → Int32} {p k : Nat} {v : Int32} (h : MFar I1 I2) (hp : p = 317 ∨ (321 ≤ p ∧ p < 1000000)) : MFar I1 (ups I2 p k v) := by
  obtain ⟨f1, f2, f3, f4, f5, f6⟩ := h
  have hs : iSCL ≠ p := by rcases hp with rfl | hp; decide; unfold iSCL; omega
  refine ⟨fun q hq => ?_, fun j hj => ?_, ?_, ?_, ?_, ?_⟩
  · rw [uI (by omega)]; exact f1 q hq
  · rw [uI (by omega)]; exact f2 j hj
  · rw [uI (by omega)]; exact f3
  · rw [uI (by omega)]; exact f4
  · rw [uI (by omega)]; exact f5
  · rw [uI hs]; exact f6
