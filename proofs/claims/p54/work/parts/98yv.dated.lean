/-! dates: the calls that the law makes of them, areDated -/
section DD
variable {kk n : Nat} {TT : Nat} {QJ : Nat → Nat → Int64} {QD : Nat → Nat → UInt64}
variable {I : Nat → Nat → Int32} {J : Nat → Nat → Int64} {D : Nat → Nat → UInt64}
/-- a date is set, or it doesn't fit -/
def DKeep (I I2 : Nat → Nat → Int32) : Prop := ∀ p, 1 ≤ p → p < 28 → p ≠ 14 → p ≠ 19 → I2 p = I p
theorem a_date0 (h : Inv 5 kk I J D) {b : Nat} (hn : I 10 4 = nI n) (h16 : n ≤ 16) (hb : b < n) {z : Int32} (hz : 0 ≤ z ∧ z ≤ 99999) :
    Call kk 118 [.ref 1, .int (nI 0), .int (nI b), .int z] (bif fitD (I 14) b z n 0 then .inl (some (.int (I 14 b))) else .inr (.inl 0)) I J D (DKeep I) := by
  have hx : 0 ≤ nI 0 ∧ nI 0 < 2 := by decide
  have go : ∀ A : Nat → Nat → Int32, A 10 4 = nI n → ex (57, 0, [.ref 10, .int (nI b), .int z, dv, dv, dv], [], mm A J D) = some (.inl (some (.int (bI (fitD (A 14) b z n 0)))), mm A J D) := fun A hA => by rw [e_57_0_10]; exact c_fits0 (I := A) (J := J) (D := D) (x := z) hA h16 (show b < 16 by omega) n 0 (by omega)
  have hy : ∀ A : Nat → Nat → Int32, A 10 4 = nI n → 0 ≤ nI b ∧ nI b < A 10 4 := fun A hA => by rw [hA]; exact ⟨nI_pos' (by omega), (nI_ltI (by omega) (by omega)).mpr hb⟩
  cases hf : fitD (I 14) b z n 0 with
  | true =>
    obtain ⟨I', k1, h', sc, s1, s2, s3⟩ := with_sc (nI 0) (nI b) z h
    obtain ⟨I1, e1, f1, hs⟩ := rem_h h'.2.2.1 h'.2.1.th J D
    have cn : I' 10 4 = nI n := by rw [k1 _ (by omega)]; exact hn
    have lo1 : ∀ p, 1 ≤ p → p < 28 → I1 p = I p := fun p h1 h2 => by rw [f1 p (by omega) (by omega), k1 p (by omega)]
    have e0 := go I' cn
    rw [k1 14 (by decide), hf] at e0
    have e0 : ex (57, 0, [.ref 10, .int (nI b), .int z, dv, dv, dv], [], mm I' J D) = some (.inl (some (.int 1)), mm I' J D) := e0
    refine call_a (as := [.ref 0, .int (nI 0), .int (nI b), .int z]) (o := .inl (some (.int (I 14 b)))) (fun p hp => k1 p (by omega)) rfl (gl_of rfl) (fun z hz => by cases hz) (callY (y_28 0 h' sc) (by show ((118, [.ref 0, .int (I' 1000002 1), .int (I' 1000002 2), .int (I' 1000002 3)]) : Nat × List Value) = _; rw [s1, s2, s3])) (I2 := ups I1 14 b z) (J2 := J) (D2 := D) ?_ (fun I3 h3 p h1 h2 h4 h5 => ?_)
    · rw [e_118_0, x_row hx, cal_v, kn, e_118_5, c_bandT0 (hy I' cn), cal_v, kn, e_118_11, x_nr hz, cal_v, kn, e_118_19, x_rw0, cal_v, krw _, e_118_27_10, e0, cal_v, ka, e_118_32, d11, cond_true, e_118_46, e1, cal_v, kn, e_118_50, x_rw0, cal_v, krw _, e_118_58_10, e_58_0_10, inb_n (show b < 16 by omega) (by decide), cond_true, cond_true, nI_clamp (by omega), lo1 14 (by decide) (by decide), cal_v, ka, e_118_63]
    · rw [h3 p (by omega), uI h4, lo1 p h1 h2]
  | false =>
    have e0 := go I hn
    rw [hf] at e0
    have e0 : ex (57, 0, [.ref 10, .int (nI b), .int z, dv, dv, dv], [], mm I J D) = some (.inl (some (.int 0)), mm I J D) := e0
    refine ⟨I, J, D, ans_of (as := [.ref 0, .int (nI 0), .int (nI b), .int z]) (o := .inr (.inl 0)) rfl (gl_of rfl) (fun z hz => by cases hz) ?_, inv_st h Same.rfl', fun _ _ _ _ _ => rfl⟩
    rw [e_118_0, x_row hx, cal_v, kn, e_118_5, c_bandT0 (hy I hn), cal_v, kn, e_118_11, x_nr hz, cal_v, kn, e_118_19, x_rw0, cal_v, krw _, e_118_27_10, e0, cal_v, ka, e_118_32, d01, cond_false, e_118_35]
theorem a_date1 (h : Inv 5 kk I J D) {b : Nat} (hn : I 15 4 = nI n) (h16 : n ≤ 16) (hb : b < n) {z : Int32} (hz : 0 ≤ z ∧ z ≤ 99999) :
    Call kk 118 [.ref 1, .int (nI 1), .int (nI b), .int z] (bif fitD (I 19) b z n 0 then .inl (some (.int (I 19 b))) else .inr (.inl 0)) I J D (DKeep I) := by
  have hx : 0 ≤ nI 1 ∧ nI 1 < 2 := by decide
  have go : ∀ A : Nat → Nat → Int32, A 15 4 = nI n → ex (57, 0, [.ref 15, .int (nI b), .int z, dv, dv, dv], [], mm A J D) = some (.inl (some (.int (bI (fitD (A 19) b z n 0)))), mm A J D) := fun A hA => by rw [e_57_0_15]; exact c_fits1 (I := A) (J := J) (D := D) (x := z) hA h16 (show b < 16 by omega) n 0 (by omega)
  have hy : ∀ A : Nat → Nat → Int32, A 15 4 = nI n → 0 ≤ nI b ∧ nI b < A 15 4 := fun A hA => by rw [hA]; exact ⟨nI_pos' (by omega), (nI_ltI (by omega) (by omega)).mpr hb⟩
  cases hf : fitD (I 19) b z n 0 with
  | true =>
    obtain ⟨I', k1, h', sc, s1, s2, s3⟩ := with_sc (nI 1) (nI b) z h
    obtain ⟨I1, e1, f1, hs⟩ := rem_h h'.2.2.1 h'.2.1.th J D
    have cn : I' 15 4 = nI n := by rw [k1 _ (by omega)]; exact hn
    have lo1 : ∀ p, 1 ≤ p → p < 28 → I1 p = I p := fun p h1 h2 => by rw [f1 p (by omega) (by omega), k1 p (by omega)]
    have e0 := go I' cn
    rw [k1 19 (by decide), hf] at e0
    have e0 : ex (57, 0, [.ref 15, .int (nI b), .int z, dv, dv, dv], [], mm I' J D) = some (.inl (some (.int 1)), mm I' J D) := e0
    refine call_a (as := [.ref 0, .int (nI 1), .int (nI b), .int z]) (o := .inl (some (.int (I 19 b)))) (fun p hp => k1 p (by omega)) rfl (gl_of rfl) (fun z hz => by cases hz) (callY (y_28 0 h' sc) (by show ((118, [.ref 0, .int (I' 1000002 1), .int (I' 1000002 2), .int (I' 1000002 3)]) : Nat × List Value) = _; rw [s1, s2, s3])) (I2 := ups I1 19 b z) (J2 := J) (D2 := D) ?_ (fun I3 h3 p h1 h2 h4 h5 => ?_)
    · rw [e_118_0, x_row hx, cal_v, kn, e_118_5, c_bandT1 (hy I' cn), cal_v, kn, e_118_11, x_nr hz, cal_v, kn, e_118_19, x_rw1, cal_v, krw _, e_118_27_15, e0, cal_v, ka, e_118_32, d11, cond_true, e_118_46, e1, cal_v, kn, e_118_50, x_rw1, cal_v, krw _, e_118_58_15, e_58_0_15, inb_n (show b < 16 by omega) (by decide), cond_true, cond_true, nI_clamp (by omega), lo1 19 (by decide) (by decide), cal_v, ka, e_118_63]
    · rw [h3 p (by omega), uI h5, lo1 p h1 h2]
  | false =>
    have e0 := go I hn
    rw [hf] at e0
    have e0 : ex (57, 0, [.ref 15, .int (nI b), .int z, dv, dv, dv], [], mm I J D) = some (.inl (some (.int 0)), mm I J D) := e0
    refine ⟨I, J, D, ans_of (as := [.ref 0, .int (nI 1), .int (nI b), .int z]) (o := .inr (.inl 0)) rfl (gl_of rfl) (fun z hz => by cases hz) ?_, inv_st h Same.rfl', fun _ _ _ _ _ => rfl⟩
    rw [e_118_0, x_row hx, cal_v, kn, e_118_5, c_bandT1 (hy I hn), cal_v, kn, e_118_11, x_nr hz, cal_v, kn, e_118_19, x_rw1, cal_v, krw _, e_118_27_15, e0, cal_v, ka, e_118_32, d01, cond_false, e_118_35]
theorem a_date (h : Inv 5 kk I J D) {r b : Nat} (hr : r < 2) (hn : I (10 + 5 * r) 4 = nI n) (h16 : n ≤ 16) (hb : b < n) {z : Int32} (hz : 0 ≤ z ∧ z ≤ 99999) :
    Call kk 118 [.ref 1, .int (nI r), .int (nI b), .int z] (bif fitD (I (14 + 5 * r)) b z n 0 then .inl (some (.int (I (14 + 5 * r) b))) else .inr (.inl 0)) I J D (DKeep I) := by
  rcases (show r = 0 ∨ r = 1 by omega) with rfl | rfl
  · exact a_date0 h hn h16 hb hz
  · exact a_date1 h hn h16 hb hz
/-- ages -/
def hasA (da : Nat → Int32) (n b : Nat) : Bool := datN da b || ((lowN (datN da) b).isSome && (highN (datN da) (n - 1 - b) (b + 1)).isSome)
theorem age_no {da : Nat → Int32} {b : Nat} (h : hasA da n b = false) : ageN da n b = -1 := by
  unfold hasA at h
  rw [Bool.or_eq_false_iff] at h
  unfold ageN
  rw [h.1, cond_false]
  cases hl : lowN (datN da) b with
  | none => rfl
  | some a =>
    cases hh : highN (datN da) (n - 1 - b) (b + 1) with
    | none => rfl
    | some c => rw [hl, hh] at h; cases h.2
theorem q_age (h : Inv 5 kk I J D) {r b : Nat} (hr : r < 2) (hn : I (10 + 5 * r) 4 = nI n) (h16 : n ≤ 16) (hb : b < n) :
    Call kk 120 [.ref 1, .int (nI r), .int (nI b), dv] (bif hasA (I (14 + 5 * r)) n b then .inl (some (.int (ageN (I (14 + 5 * r)) n b))) else .inr (.inl 3)) I J D (Lay2 I) := by
  have key : ex (120, 0, [.ref 0, .int (nI r), .int (nI b), dv], [], mm I J D) = some ((bif hasA (I (14 + 5 * r)) n b then .inl (some (.int (ageN (I (14 + 5 * r)) n b))) else .inr (.inl 3)), mm I J D) := by
    obtain ⟨n', hn', cn', wn, hk, hb', hs⟩ := inv_row h.2.1 hr
    have en : n' = n := (nI_eq (by omega) (by omega)).mp (cn'.symm.trans hn)
    subst en
    have hne : hasA (I (14 + 5 * r)) n' b = true → ageN (I (14 + 5 * r)) n' b ≠ -1 := fun hq => ageN_ne h16 hb (fun k hk2 => (hk k hk2).2.2.2.2) hs hq
    rcases (show r = 0 ∨ r = 1 by omega) with rfl | rfl
    · have hx : 0 ≤ nI 0 ∧ nI 0 < 2 := by decide
      have hy : 0 ≤ nI b ∧ nI b < I 10 4 := by rw [show I 10 4 = nI n' from hn]; exact ⟨nI_pos' (by omega), (nI_ltI (by omega) (by omega)).mpr hb⟩
      have ca := c_age0 (J := J) (D := D) (show I 10 4 = nI n' from hn) h16 hb
      cases hq : hasA (I (14 + 5 * 0)) n' b with
      | true =>
        have := hne hq
        rw [e_120_0, x_row hx, cal_v, kn, e_120_5, c_bandT0 hy, cal_v, kn, e_120_11, x_rw0, cal_v, krw _, e_120_19_10, ca, cal_v, ka, e_120_23, decide_eq_true (show ageN (I 14) n' b ≠ -1 from this), cond_true, e_120_40]
        rfl
      | false =>
        have := age_no hq
        rw [e_120_0, x_row hx, cal_v, kn, e_120_5, c_bandT0 hy, cal_v, kn, e_120_11, x_rw0, cal_v, krw _, e_120_19_10, ca, cal_v, ka, show ageN (I 14) n' b = -1 from this, e_120_23, decide_eq_false (fun q => q rfl), cond_false, e_120_29]
        rfl
    · have hx : 0 ≤ nI 1 ∧ nI 1 < 2 := by decide
      have hy : 0 ≤ nI b ∧ nI b < I 15 4 := by rw [show I 15 4 = nI n' from hn]; exact ⟨nI_pos' (by omega), (nI_ltI (by omega) (by omega)).mpr hb⟩
      have ca := c_age1 (J := J) (D := D) (show I 15 4 = nI n' from hn) h16 hb
      cases hq : hasA (I (14 + 5 * 1)) n' b with
      | true =>
        have := hne hq
        rw [e_120_0, x_row hx, cal_v, kn, e_120_5, c_bandT1 hy, cal_v, kn, e_120_11, x_rw1, cal_v, krw _, e_120_19_15, ca, cal_v, ka, e_120_23, decide_eq_true (show ageN (I 19) n' b ≠ -1 from this), cond_true, e_120_40]
        rfl
      | false =>
        have := age_no hq
        rw [e_120_0, x_row hx, cal_v, kn, e_120_5, c_bandT1 hy, cal_v, kn, e_120_11, x_rw1, cal_v, krw _, e_120_19_15, ca, cal_v, ka, show ageN (I 19) n' b = -1 from this, e_120_23, decide_eq_false (fun q => q rfl), cond_false, e_120_29]
        rfl
  cases hq : hasA (I (14 + 5 * r)) n b with
  | true =>
    rw [hq] at key
    exact ⟨I, J, D, ans_of (as := [.ref 0, .int (nI r), .int (nI b), dv]) (o := .inl (some (.int (ageN (I (14 + 5 * r)) n b)))) rfl (gl_of rfl) (fun z hz => by cases hz) key, inv_st h Same.rfl', Same.rfl', fun _ _ => rfl⟩
  | false =>
    rw [hq] at key
    exact ⟨I, J, D, ans_of (as := [.ref 0, .int (nI r), .int (nI b), dv]) (o := .inr (.inl 3)) rfl (gl_of rfl) (fun z hz => by cases hz) key, inv_st h Same.rfl', Same.rfl', fun _ _ => rfl⟩
theorem lowN_g {p : Nat → Bool} : ∀ {n l : Nat}, lowN p n = some l → ∀ k, l < k → k < n → p k = false := by
  intro n
  induction n with
  | zero => intro l h; cases h
  | succ n ih =>
    intro l h k h1 h2
    have hs : lowN p (n + 1) = bif p n then some n else lowN p n := rfl
    rw [hs] at h
    cases hp : p n with
    | true => rw [hp, cond_true] at h; have := Option.some.inj h; omega
    | false =>
      rw [hp, cond_false] at h
      by_cases e : k = n
      · subst e; exact hp
      · exact ih h k h1 (by omega)
theorem highN_g {p : Nat → Bool} : ∀ {r k l : Nat}, highN p r k = some l → ∀ j, k ≤ j → j < l → p j = false := by
  intro r
  induction r with
  | zero => intro k l h; cases h
  | succ r ih =>
    intro k l h j h1 h2
    have hs : highN p (r + 1) k = bif p k then some k else highN p r (k + 1) := rfl
    rw [hs] at h
    cases hp : p k with
    | true => rw [hp, cond_true] at h; have := Option.some.inj h; omega
    | false =>
      rw [hp, cond_false] at h
      by_cases e : j = k
      · subst e; exact hp
      · exact ih h j (by omega) h2
/-- an age lies between two dates -/
def AgB (da : Nat → Int32) (n b v : Nat) : Prop := ∃ a c p q, (a ≤ b ∧ b ≤ c ∧ c < n) ∧ (da a = nI p ∧ da c = nI q) ∧ (p ≤ q ∧ q ≤ 99999) ∧ (∀ k, a < k → k < c → da k = -1) ∧ v = p + (q - p) * (b - a) / (c - a)
theorem age_b {da : Nat → Int32} {b : Nat} (h16 : n ≤ 16) (hb : b < n) (hd : ∀ k, k < n → da k = -1 ∨ rg 0 99999 (da k)) (hs : ∀ k j, k < j → j < n → da k ≠ -1 → da j ≠ -1 → da k ≤ da j) (h : hasA da n b = true) : ∃ v, ageN da n b = nI v ∧ AgB da n b v := by
  unfold hasA at h
  unfold ageN
  cases hp : datN da b with
  | true =>
    rw [cond_true]
    have na : da b ≠ -1 := of_decide_eq_true hp
    obtain ⟨p, hp1, hp2, ep⟩ := rg_nN ((hd b hb).resolve_left na) (by decide)
    exact ⟨p, ep, b, b, p, p, ⟨by omega, by omega, hb⟩, ⟨ep, ep⟩, ⟨by omega, by omega⟩, fun k h1 h2 => by omega, by rw [Nat.sub_self, Nat.zero_mul, Nat.zero_div]; rfl⟩
  | false =>
    rw [hp, Bool.false_or, Bool.and_eq_true] at h
    rw [cond_false]
    cases hl : lowN (datN da) b with
    | none => rw [hl] at h; cases h.1
    | some a =>
      cases hh : highN (datN da) (n - 1 - b) (b + 1) with
      | none => rw [hh] at h; cases h.2
      | some c =>
        have ha := lowN_s hl
        have hc := highN_s hh
        have ga := lowN_g hl
        have gc := highN_g hh
        have na : da a ≠ -1 := of_decide_eq_true ha.2
        have nc : da c ≠ -1 := of_decide_eq_true hc.2
        obtain ⟨p, hp1, hp2, ep⟩ := rg_nN ((hd a (by omega)).resolve_left na) (by decide)
        obtain ⟨q, hq1, hq2, eq⟩ := rg_nN ((hd c (by omega)).resolve_left nc) (by decide)
        have hpq := hs a c (by omega) (by omega) na nc
        rw [ep, eq, nI_leI hp2 hq2] at hpq
        refine ⟨p + (q - p) * (b - a) / (c - a), ?_, a, c, p, q, ⟨by omega, by omega, by omega⟩, ⟨ep, eq⟩, ⟨hpq, by omega⟩, fun k h1 h2 => ?_, rfl⟩
        · show da a + ((da c - da a) * (nI b - nI a)) / (nI c - nI a) = _
          rw [ep, eq, pk_sub hpq, pk_sub (show a ≤ b by omega), pk_sub (show a ≤ c by omega), pk_mul]
          have hm : (q - p) * (b - a) ≤ 99999 * 16 := Nat.mul_le_mul (by omega) (by omega)
          rw [pk_div (by omega) (by omega) (by omega), nI_add]
        · have : datN da k = false := by
            by_cases e : k = b
            · subst e; exact hp
            · by_cases e2 : k < b
              · exact ga k h1 e2
              · exact gc k (by omega) h2
          exact Decidable.of_not_not (of_decide_eq_false this)
theorem age_mono {da : Nat → Int32} {i j u v : Nat} (hs : ∀ k j, k < j → j < n → da k ≠ -1 → da j ≠ -1 → da k ≤ da j) (hij : i < j) (hi : AgB da n i u) (hj : AgB da n j v) : u ≤ v := by
  have nm : ∀ p, p ≤ 99999 → nI p ≠ -1 := fun p hp e => by
    have := congrArg Int32.toInt e
    rw [nI_toInt (by omega), show (-1 : Int32).toInt = -1 from rfl] at this
    omega
  by_cases q : ∃ a c p q, ∃ a' c' p' q', ((a ≤ i ∧ i ≤ c ∧ c < n) ∧ (da a = nI p ∧ da c = nI q) ∧ (p ≤ q ∧ q ≤ 99999) ∧ p ≤ u ∧ u ≤ q) ∧ ((a' ≤ j ∧ j ≤ c' ∧ c' < n) ∧ (da a' = nI p' ∧ da c' = nI q') ∧ (p' ≤ q' ∧ q' ≤ 99999) ∧ p' ≤ v ∧ v ≤ q') ∧ c ≤ a'
  · obtain ⟨a, c, p, q, a', c', p', q', ⟨h1, h2, h3, h4, h5⟩, ⟨k1, k2, k3, k4, k5⟩, hc⟩ := q
    have : q ≤ p' := by
      by_cases e : c = a'
      · subst e
        have := (nI_eq (by omega) (by omega)).mp (h2.2.symm.trans k2.1)
        omega
      · have := hs c a' (by omega) (by omega) (by rw [h2.2]; exact nm q (by omega)) (by rw [k2.1]; exact nm p' (by omega))
        rw [h2.2, k2.1, nI_leI (by omega) (by omega)] at this
        exact this
    omega
  · obtain ⟨a, c, p, q9, h1, h2, h3, h4, h5⟩ := id hi
    obtain ⟨a', c', p', q', k1, k2, k3, k4, k5⟩ := id hj
    have hlt : ¬ c ≤ a' := fun hc => by
      have e1 : u = p + (q9 - p) * (i - a) / (c - a) := h5
      have e2 : v = p' + (q' - p') * (j - a') / (c' - a') := k5
      have l1 : (q9 - p) * (i - a) / (c - a) ≤ q9 - p := by
        by_cases e : c - a = 0
        · rw [e, Nat.div_zero]; exact Nat.zero_le _
        · refine Nat.div_le_of_le_mul ?_
          rw [Nat.mul_comm]
          exact Nat.mul_le_mul (show i - a ≤ c - a by omega) (Nat.le_refl _)
      have l2 : (q' - p') * (j - a') / (c' - a') ≤ q' - p' := by
        by_cases e : c' - a' = 0
        · rw [e, Nat.div_zero]; exact Nat.zero_le _
        · refine Nat.div_le_of_le_mul ?_
          rw [Nat.mul_comm]
          exact Nat.mul_le_mul (show j - a' ≤ c' - a' by omega) (Nat.le_refl _)
      generalize (q9 - p) * (i - a) / (c - a) = t1 at e1 l1
      generalize (q' - p') * (j - a') / (c' - a') = t2 at e2 l2
      exact q ⟨a, c, p, q9, a', c', p', q', ⟨h1, h2, h3, by omega, by omega⟩, ⟨k1, k2, k3, by omega, by omega⟩, hc⟩
    have no : ∀ k w, w ≤ 99999 → da k = nI w → da k = -1 → False := fun k w hw e1 e2 => nm w hw (e1.symm.trans e2)
    have ea : a' ≤ a := by
      by_cases e : a' ≤ a
      · exact e
      · exact (no a' p' (by omega) k2.1 (h4 a' (by omega) (by omega))).elim
    have ea2 : a ≤ a' := by
      by_cases e : a ≤ a'
      · exact e
      · exact (no a p (by omega) h2.1 (k4 a (by omega) (by omega))).elim
    have ec : c' ≤ c := by
      by_cases e : c' ≤ c
      · exact e
      · exact (no c q9 (by omega) h2.2 (k4 c (by omega) (by omega))).elim
    have ec2 : c ≤ c' := by
      by_cases e : c ≤ c'
      · exact e
      · exact (no c' q' (by omega) k2.2 (h4 c' (by omega) (by omega))).elim
    have ea3 : a = a' := by omega
    have ec3 : c = c' := by omega
    subst ea3; subst ec3
    have ep : p = p' := (nI_eq (by omega) (by omega)).mp (h2.1.symm.trans k2.1)
    have eq : q9 = q' := (nI_eq (by omega) (by omega)).mp (h2.2.symm.trans k2.2)
    subst ep; subst eq
    rw [h5, k5]
    have : (q9 - p) * (i - a) / (c - a) ≤ (q9 - p) * (j - a) / (c - a) := Nat.div_le_div_right (Nat.mul_le_mul (Nat.le_refl _) (by omega))
    omega
end DD
