/-! all turns together, and the walk -/
theorem t_any {L kk : Nat} {I : Nat → Nat → Int32} {J : Nat → Nat → Int64} {D : Nat → Nat → UInt64} (v : Int32) (h : Inv L kk I J D) (sc : ScOK v I) (hkk : kk ≤ 6000) (s : Int32) :
    ∃ I' J' D', ex (309, 44, Lst v, [.int s], mm I J D) = ex (309, 28, Lst (v + 5), [], mm I' J' D') ∧ Inv L (kk + 1) I' J' D' := by
  have key : ∀ pc s', s' = s → Turn L kk pc v I J D → ex (309, 44, Lst v, [.int s'], mm I J D) = ex (309, pc, Lst v, [], mm I J D) → ∃ I' J' D', ex (309, 44, Lst v, [.int s], mm I J D) = ex (309, 28, Lst (v + 5), [], mm I' J' D') ∧ Inv L (kk + 1) I' J' D' := fun pc s' hs ⟨I', J', D', e, i⟩ w => ⟨I', J', D', by rw [← hs]; exact w.trans e, i⟩
  by_cases hd : s.toInt < 0 ∨ 50 < s.toInt
  · exact key 3111 s rfl (t_d v h) (sw_309_44_d I J D v hd)
  · obtain ⟨j, hj⟩ : ∃ j : Nat, s.toInt = j := ⟨s.toInt.toNat, by omega⟩
    have hj50 : j < 51 := by omega
    have e : nI j = s := Int32.toInt_inj.mp (by rw [nI_toInt (by omega), hj])
    clear hd hj
    match j, hj50, e with
    | 0, _, e => exact key 264 0 e (t_0 v h) (sw_309_44_0 I J D v)
    | 1, _, e => exact key 308 1 e (t_1 v h sc) (sw_309_44_1 I J D v)
    | 2, _, e => exact key 388 2 e (t_2 v h sc) (sw_309_44_2 I J D v)
    | 3, _, e => exact key 468 3 e (t_3 v h sc) (sw_309_44_3 I J D v)
    | 4, _, e => exact key 524 4 e (t_4 v h sc) (sw_309_44_4 I J D v)
    | 5, _, e => exact key 587 5 e (t_5 v h sc) (sw_309_44_5 I J D v)
    | 6, _, e => exact key 655 6 e (t_6 v h sc) (sw_309_44_6 I J D v)
    | 7, _, e => exact key 723 7 e (t_7 v h) (sw_309_44_7 I J D v)
    | 8, _, e => exact key 736 8 e (t_8 v h sc) (sw_309_44_8 I J D v)
    | 9, _, e => exact key 792 9 e (t_9 v h) (sw_309_44_9 I J D v)
    | 10, _, e => exact key 805 10 e (t_10 v h) (sw_309_44_10 I J D v)
    | 11, _, e => exact key 818 11 e (t_11 v h sc) (sw_309_44_11 I J D v)
    | 12, _, e => exact key 886 12 e (t_12 v h sc) (sw_309_44_12 I J D v)
    | 13, _, e => exact key 954 13 e (t_13 v h sc) (sw_309_44_13 I J D v)
    | 14, _, e => exact key 1029 14 e (t_14 v h) (sw_309_44_14 I J D v)
    | 15, _, e => exact key 1042 15 e (t_15 v h sc) (sw_309_44_15 I J D v)
    | 16, _, e => exact key 1098 16 e (t_16 v h) (sw_309_44_16 I J D v)
    | 17, _, e => exact key 1141 17 e (t_17 v h sc) (sw_309_44_17 I J D v)
    | 18, _, e => exact key 1197 18 e (t_18 v h sc) (sw_309_44_18 I J D v)
    | 19, _, e => exact key 1253 19 e (t_19 v h sc) (sw_309_44_19 I J D v)
    | 20, _, e => exact key 1333 20 e (t_20 v h sc) (sw_309_44_20 I J D v)
    | 21, _, e => exact key 1413 21 e (t_21 v h sc) (sw_309_44_21 I J D v)
    | 22, _, e => exact key 1481 22 e (t_22 v h sc) (sw_309_44_22 I J D v)
    | 23, _, e => exact key 1549 23 e (t_23 v h sc) (sw_309_44_23 I J D v)
    | 24, _, e => exact key 1605 24 e (t_24 v h) (sw_309_44_24 I J D v)
    | 25, _, e => exact key 1618 25 e (t_25 v h) (sw_309_44_25 I J D v)
    | 26, _, e => exact key 1632 26 e (t_26 v h sc) (sw_309_44_26 I J D v)
    | 27, _, e => exact key 1700 27 e (t_27 v h sc) (sw_309_44_27 I J D v)
    | 28, _, e => exact key 1775 28 e (t_28 v h sc) (sw_309_44_28 I J D v)
    | 29, _, e => exact key 1855 29 e (t_29 v h sc) (sw_309_44_29 I J D v)
    | 30, _, e => exact key 1923 30 e (t_30 v h sc) (sw_309_44_30 I J D v)
    | 31, _, e => exact key 1991 31 e (t_31 v h sc) (sw_309_44_31 I J D v)
    | 32, _, e => exact key 2071 32 e (t_32 v h sc) (sw_309_44_32 I J D v)
    | 33, _, e => exact key 2151 33 e (t_33 v h sc) (sw_309_44_33 I J D v)
    | 34, _, e => exact key 2219 34 e (t_34 v h sc) (sw_309_44_34 I J D v)
    | 35, _, e => exact key 2287 35 e (t_35 v h sc) (sw_309_44_35 I J D v)
    | 36, _, e => exact key 2355 36 e (t_36 v h sc) (sw_309_44_36 I J D v)
    | 37, _, e => exact key 2411 37 e (t_37 v h sc) (sw_309_44_37 I J D v)
    | 38, _, e => exact key 2479 38 e (t_38 v h sc) (sw_309_44_38 I J D v)
    | 39, _, e => exact key 2535 39 e (t_39 v h sc) (sw_309_44_39 I J D v)
    | 40, _, e => exact key 2615 40 e (t_40 v h sc hkk) (sw_309_44_40 I J D v)
    | 41, _, e => exact key 2707 41 e (t_41 v h sc) (sw_309_44_41 I J D v)
    | 42, _, e => exact key 2763 42 e (t_42 v h) (sw_309_44_42 I J D v)
    | 43, _, e => exact key 2776 43 e (t_43 v h sc) (sw_309_44_43 I J D v)
    | 44, _, e => exact key 2864 44 e (t_44 v h) (sw_309_44_44 I J D v)
    | 45, _, e => exact key 2877 45 e (t_45 v h) (sw_309_44_45 I J D v)
    | 46, _, e => exact key 2921 46 e (t_46 v h) (sw_309_44_46 I J D v)
    | 47, _, e => exact key 2965 47 e (t_47 v h) (sw_309_44_47 I J D v)
    | 48, _, e => exact key 2978 48 e (t_48 v h sc) (sw_309_44_48 I J D v)
    | 49, _, e => exact key 3055 49 e (t_49 v h) (sw_309_44_49 I J D v)
    | 50, _, e => exact key 3098 50 e (t_50 v h) (sw_309_44_50 I J D v)
    | n + 51, hn, _ => exact absurd hn (by omega)
theorem turn_ok {L : Nat} (xs : Nat → Int32) (hL : L ≤ 2560) : StepOK L xs (Inv L) := by
  intro k I J D hk h hl _
  have hv : ∀ j, Int32.ofNat (5 * k) + nI j = nI (5 * k + j) := fun j => nI_add _ _
  have sc : ScOK (Int32.ofNat (5 * k)) I := fun j hj => by
    rw [hv, hl]
    exact ⟨(nI_leI (a := 0) (by omega) (by omega)).mpr (by omega), (nI_ltI (b := L) (by omega) (by omega)).mpr (by omega)⟩
  obtain ⟨I', J', D', e, i⟩ := t_any (Int32.ofNat (5 * k)) h sc (by omega) (I 1000002 (Int32.ofNat (5 * k)).toNatClampNeg &&& 63)
  refine ⟨I', J', D', (e_309_37 I J D (Int32.ofNat (5 * k))).trans ?_, i⟩
  have := sc_d sc (j := 0) (by decide)
  rw [hv 0, Nat.add_zero] at this
  rw [show (decide (0 ≤ Int32.ofNat (5 * k)) && decide (Int32.ofNat (5 * k) < I iSCL 0)) = true from this, cond_true]
  exact e
theorem whole_start {p : Program} {e : Env} {s : State} {m : MethodId} {below : List Frame} {meth : Method} {c : Code} (l : Launch) (hflags : l.flags = flags0) {b L : Nat} {xs : Nat → Int32} (hL : L ≤ 2560) (C0 : lw_At p s m meth c b L xs) :
    W p l e room_1 s m #[Value.ref b] below meth c s.heap [] 0 0 (lw_Z below #[Value.ref b] s) (entryFrame m ([Value.ref b] : List Value).toArray 10) :=
  whole_red l hflags hL C0 ⟨Inv L, inv0 L xs _ _, turn_ok xs hL⟩
