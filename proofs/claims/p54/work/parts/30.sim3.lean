/-! class tables; memory; the steps that read and write it -/
theorem clsv_at : ∀ c, c < 15 → clsv[c]? = some (clq c) := lt_s (lt_s (lt_s (lt_s (lt_s (lt_s (lt_s (lt_s (lt_s (lt_s (lt_s (lt_s (lt_s (lt_s (lt_s (lt_0) rfl) rfl) rfl) rfl) rfl) rfl) rfl) rfl) rfl) rfl) rfl) rfl) rfl) rfl) rfl
theorem clq_n : ∀ c, c < 15 → (clq c).2.2 = nfl c := lt_s (lt_s (lt_s (lt_s (lt_s (lt_s (lt_s (lt_s (lt_s (lt_s (lt_s (lt_s (lt_s (lt_s (lt_s (lt_0) rfl) rfl) rfl) rfl) rfl) rfl) rfl) rfl) rfl) rfl) rfl) rfl) rfl) rfl) rfl
theorem clt_ok : ∀ c, c < 15 → ∀ k, k < (clq c).2.2 → parseFieldDescriptor ((clq c).2.1 k).2.2.1 = some (clt c k) := lt_s (lt_s (lt_s (lt_s (lt_s (lt_s (lt_s (lt_s (lt_s (lt_s (lt_s (lt_s (lt_s (lt_s (lt_s (lt_0) tyX0_ok) tyX1_ok) tyX2_ok) tyX3_ok) tyX4_ok) tyX5_ok) tyX6_ok) tyX7_ok) tyX8_ok) tyX9_ok) tyX10_ok) tyX11_ok) tyL_ok) tyJ0_ok) tyJ4_ok
theorem clq_nm : ∀ c, c < 15 → ∀ a, a < (clq c).2.2 → ∀ b, b < (clq c).2.2 → a ≠ b → ((clq c).2.1 a).2.1 ≠ ((clq c).2.1 b).2.1 := lt_s (lt_s (lt_s (lt_s (lt_s (lt_s (lt_s (lt_s (lt_s (lt_s (lt_s (lt_s (lt_s (lt_s (lt_s (lt_0) nmX0) nmX1) nmX2) nmX3) nmX4) nmX5) nmX6) nmX7) nmX8) nmX9) nmX10) nmX11) nmL) nmJ0) nmJ4
def isRf (t : FieldType) : Bool := match t with
  | .object _ => true
  | .array _ => true
  | _ => false
theorem isRf_ok {t : FieldType} (h : isRf t = true) (x : Nat) : narrow t (.ref x) = .ref x ∧ fits t (.ref x) = true := by
  cases t <;> first | exact ⟨rfl, rfl⟩ | cases h
theorem clt_rf0 : (List.range 15).all (fun c => (List.range (nfl c)).all (fun k => !(Nat.beq (fkd c k) 1) || isRf (clt c k))) = true := by decide +kernel
theorem clt_rf {c k : Nat} (hc : c < 15) (hk : k < nfl c) (h : Nat.beq (fkd c k) 1 = true) : isRf (clt c k) = true := by
  have h1 := List.all_eq_true.mp (List.all_eq_true.mp clt_rf0 c (List.mem_range.mpr hc)) k (List.mem_range.mpr hk)
  rw [h] at h1
  exact h1
theorem u_in {c : Nat} (hc : c < 15) : ∀ w ∈ u_ws (clq c).1 (clq c).2.1 (clq c).2.2, w ∈ WALL := by
  intro w hw
  have h := List.all_eq_true.mp (List.all_eq_true.mp okU c (List.mem_range.mpr hc)) w hw
  simp only [Bool.and_eq_true, decide_eq_true_eq] at h
  exact List.mem_filter.mpr h
theorem beq_e {a b : Nat} (h : Nat.beq a b = true) : a = b := Nat.eq_of_beq_eq_true h
theorem fl_in {ν x a b : Nat} (h : aF ν x a b = true) : b < nfl a ∧ Cond.fieldLink (onm ν) x ((clq a).2.1 b).1 ((clq a).2.1 b).2.1 ((clq a).2.1 b).2.2.1 ∈ WALL := by
  obtain ⟨e, he, h⟩ := List.any_eq_true.mp h
  simp only [Bool.and_eq_true] at h
  obtain ⟨h1, h2, h3, h4⟩ := h
  have h5 := List.all_eq_true.mp okF e he
  simp only [Bool.and_eq_true, decide_eq_true_eq] at h5
  have h6 := inWb_mem h5.1
  unfold wF at h6
  rw [beq_e h1, beq_e h2, beq_e h3, beq_e h4] at h6
  rw [beq_e h3, beq_e h4] at h5
  exact ⟨h5.2, h6⟩
theorem a3_in {l : List (Nat × Nat × Nat × Nat)} {x y z : Nat} (h : a3 l x y z = true) : ∃ e ∈ l, e.1 = x ∧ e.2.1 = y ∧ e.2.2.1 = z := by
  obtain ⟨e, he, h⟩ := List.any_eq_true.mp h
  simp only [Bool.and_eq_true] at h
  exact ⟨e, he, beq_e h.1, beq_e h.2.1, beq_e h.2.2⟩
theorem ssp_t : ∀ i, i < 17 → (ssp (stp i)).1 = 43 ∧ (ssp (stp i + 10)).1 = 44 := by decide +kernel
theorem ssp_z : (List.range 90).all (fun j => Nat.beq j 2 || (Nat.ble 11 j && Nat.ble j 14) || (List.range 17).any (fun i => Nat.beq (1000000 + j) (stp i) || Nat.beq (1000000 + j) (stp i + 10)) || Nat.beq (ssp (1000000 + j)).1 0) = true := by decide +kernel
theorem ssp_far {p : Nat} (h : p < 1000000 ∨ 1000090 ≤ p) : ssp p = (0, 0) := by
  have n1 : ∀ k : Nat, p ≠ k → Nat.beq p k = false := fun k h => by cases hb : Nat.beq p k with | false => rfl | true => exact absurd (beq_e hb) h
  unfold ssp
  simp [n1 1000002 (by omega), n1 1000011 (by omega), n1 1000012 (by omega), n1 1000013 (by omega), n1 1000014 (by omega), n1 1000020 (by omega), n1 1000021 (by omega), n1 1000022 (by omega), n1 1000023 (by omega), n1 1000024 (by omega), n1 1000025 (by omega), n1 1000030 (by omega), n1 1000031 (by omega), n1 1000032 (by omega), n1 1000033 (by omega), n1 1000034 (by omega), n1 1000035 (by omega), n1 1000040 (by omega), n1 1000041 (by omega), n1 1000042 (by omega), n1 1000043 (by omega), n1 1000044 (by omega), n1 1000045 (by omega), n1 1000046 (by omega), n1 1000047 (by omega), n1 1000048 (by omega), n1 1000049 (by omega), n1 1000050 (by omega), n1 1000051 (by omega), n1 1000052 (by omega), n1 1000053 (by omega), n1 1000054 (by omega), n1 1000055 (by omega), n1 1000056 (by omega), n1 1000057 (by omega), n1 1000058 (by omega), n1 1000059 (by omega), n1 1000060 (by omega), n1 1000070 (by omega)]
theorem ssp_45z : (List.range 90).all (fun j => Nat.beq j 14 || !(Nat.beq (ssp (1000000 + j)).1 45)) = true := by decide +kernel
theorem ssp_45 {p : Nat} (h : (ssp p).1 = 45) : p = 1000014 := by
  by_cases h0 : p < 1000000 ∨ 1000090 ≤ p
  · rw [ssp_far h0] at h; cases h
  obtain ⟨j, hj, rfl⟩ : ∃ j, j < 90 ∧ p = 1000000 + j := ⟨p - 1000000, by omega, by omega⟩
  have hz := List.all_eq_true.mp ssp_45z j (List.mem_range.mpr hj)
  rw [h, Bool.or_eq_true] at hz
  rcases hz with q | q
  · have := Nat.eq_of_beq_eq_true q; omega
  · cases q
theorem ssp_k {p : Nat} : ((ssp p).1 = 40 → ∃ i, i < 3 ∧ p = 1000011 + i) ∧ ((ssp p).1 = 41 → p = iSCR) ∧ ((ssp p).1 = 43 → ∃ i, i < 17 ∧ p = stp i) ∧ ((ssp p).1 = 44 → ∃ i, i < 17 ∧ p = stp i + 10) ∧ ((ssp p).1 = 0 ∨ 40 ≤ (ssp p).1) := by
  by_cases h0 : p < 1000000 ∨ 1000090 ≤ p
  · rw [ssp_far h0]
    exact ⟨fun h => (by cases h), fun h => (by cases h), fun h => (by cases h), fun h => (by cases h), Or.inl rfl⟩
  by_cases h1 : p = 1000002
  · subst h1; exact ⟨fun h => (by cases h), fun _ => rfl, fun h => (by cases h), fun h => (by cases h), Or.inr (by decide)⟩
  by_cases h2 : 1000011 ≤ p ∧ p < 1000014
  · obtain ⟨i, rfl⟩ : ∃ i, p = 1000011 + i := ⟨p - 1000011, by omega⟩
    have hi : i < 3 := by omega
    have h : ∀ i, i < 3 → (ssp (1000011 + i)).1 = 40 := lt_s (lt_s (lt_s lt_0 rfl) rfl) rfl
    rw [h i hi]
    exact ⟨fun _ => ⟨i, hi, rfl⟩, fun h => (by cases h), fun h => (by cases h), fun h => (by cases h), Or.inr (by decide)⟩
  by_cases h3 : ∃ i, i < 17 ∧ p = stp i
  · obtain ⟨i, hi, rfl⟩ := h3
    rw [(ssp_t i hi).1]
    exact ⟨fun h => (by cases h), fun h => (by cases h), fun _ => ⟨i, hi, rfl⟩, fun h => (by cases h), Or.inr (by decide)⟩
  by_cases h4 : ∃ i, i < 17 ∧ p = stp i + 10
  · obtain ⟨i, hi, rfl⟩ := h4
    rw [(ssp_t i hi).2]
    exact ⟨fun h => (by cases h), fun h => (by cases h), fun h => (by cases h), fun _ => ⟨i, hi, rfl⟩, Or.inr (by decide)⟩
  by_cases h5 : p = 1000014
  · subst h5; exact ⟨fun h => (by cases h), fun h => (by cases h), fun h => (by cases h), fun h => (by cases h), Or.inr (by decide)⟩
  obtain ⟨j, hj, rfl⟩ : ∃ j, j < 90 ∧ p = 1000000 + j := ⟨p - 1000000, by omega, by omega⟩
  have hz := List.all_eq_true.mp ssp_z j (List.mem_range.mpr hj)
  simp only [Bool.or_eq_true, Bool.and_eq_true, Nat.ble_eq, Nat.beq_eq, List.any_eq_true, List.mem_range] at hz
  have e : (ssp (1000000 + j)).1 = 0 := by
    rcases hz with ((q | q) | ⟨i, hi, q⟩) | q
    · exact absurd (by omega) h1
    · exact (Decidable.em (j = 14)).elim (fun z => absurd (by omega) h5) (fun z => absurd (by omega) h2)
    · rcases q with q | q
      · exact absurd ⟨i, hi, q⟩ h3
      · exact absurd ⟨i, hi, q⟩ h4
    · exact q
  rw [e]
  exact ⟨fun h => (by cases h), fun h => (by cases h), fun h => (by cases h), fun h => (by cases h), Or.inl rfl⟩
theorem rv_orf (ad : Nat → Nat) (x : Option Nat) : rv ad (orf x) = va_rf (x.map ad) := by cases x <;> rfl
/-! what a place's cell is -/
section CEL
variable {cA : Nat → ClassId} {ad : Nat → Nat} {S : Nat → Nat × Nat} {R R' : Nat → Nat → Option Nat} {I I' : Nat → Nat → Int32} {J J' : Nat → Nat → Int64} {D D' : Nat → Nat → UInt64} {p : Nat}
theorem cel_c {c : Nat} (h : (S p).1 = c) (hc : c < 15) : cel cA ad S R I J D p = .inr (c, (List.range (nfl c)).map (fun j => fcl (fkd c j) (R p j) (I p j) (J p j) ad)) := by
  unfold cel; rw [h, show Nat.blt c 15 = true from Nat.blt_eq.mpr hc]; rfl
theorem cel_i {c : Nat} (h : (S p).1 = c) (hc : 20 ≤ c ∧ c ≤ 22) : cel cA ad S R I J D p = .inl (cA c, (S p).2, .inl (I p)) := by
  unfold cel; rw [h, show Nat.blt c 15 = false from by cases hb : Nat.blt c 15 with | false => rfl | true => exact absurd (Nat.blt_eq.mp hb) (by omega), show Nat.ble c 22 = true from Nat.ble_eq.mpr hc.2]; rfl
theorem cel_j (h : (S p).1 = 23) : cel cA ad S R I J D p = .inl (cA 23, (S p).2, .inr (.inl (J p))) := by unfold cel; rw [h]; rfl
theorem cel_d (h : (S p).1 = 24) : cel cA ad S R I J D p = .inl (cA 24, (S p).2, .inr (.inr (.inr (.inl (D p))))) := by unfold cel; rw [h]; rfl
theorem cel_r {c : Nat} (h : (S p).1 = c) (hc : 25 ≤ c ∧ c ≠ 29) : cel cA ad S R I J D p = .inl (cA c, (S p).2, .inr (.inr (.inr (.inr (fun j => (R p j).map ad))))) := by
  have n1 : ∀ k : Nat, c ≠ k → Nat.beq c k = false := fun k h => by cases hb : Nat.beq c k with | false => rfl | true => exact absurd (beq_e hb) h
  unfold cel; rw [h, show Nat.blt c 15 = false from by cases hb : Nat.blt c 15 with | false => rfl | true => exact absurd (Nat.blt_eq.mp hb) (by omega), show Nat.ble c 22 = false from by cases hb : Nat.ble c 22 with | false => rfl | true => exact absurd (Nat.ble_eq.mp hb) (by omega), n1 23 (by omega), n1 24 (by omega), n1 29 (by omega)]; rfl
theorem cel_b (h : (S p).1 = 29) : cel cA ad S R I J D p = .inl (cA 29, (S p).2, .inl (I p)) := by unfold cel; rw [h]; rfl
theorem cel_eq (hR : R' p = R p) (hI : I' p = I p) (hJ : J' p = J p) (hD : D' p = D p) : cel cA ad S R' I' J' D' p = cel cA ad S R I J D p := by unfold cel; rw [hR, hI, hJ, hD]
end CEL
section WD
variable {D : va_G} {cA : Nat → ClassId} {A : Nat → Prop} {sp : Nat → Nat} {L : Nat} {xs : Nat → Int32} {s : State} {ad0 : Nat → Nat} {n0 : Nat} {hx : Prop} {ad : Nat → Nat} {n : Nat} {S : Nat → Nat × Nat} {Rf : Nat → Nat → Option Nat} {I : Nat → Nat → Int32} {J : Nat → Nat → Int64} {Df : Nat → Nat → UInt64} {H H1 : Heap} {locs locs1 : List Loc} {p : Nat} {e : va_E}
theorem Wd.kind (w : Wd D cA A sp L xs s ad0 n0 hx ad (n, S, Rf, I, J, Df) H locs) (h : 31 ≤ (S p).1) : n ≤ p ∧ S p = ssp p := by
  obtain ⟨-, -, -, hw, -⟩ := w
  have h1 : n ≤ p := Nat.le_of_not_lt fun q => by have := hw.2.2.1 p q; unfold kOK at this; dsimp only at this; omega
  have h2 : S p = ssL L p := hw.2.1 p h1
  refine ⟨h1, ?_⟩
  unfold ssL at h2
  cases hb : (Nat.beq p iSCR && Nat.blt 2560 L) with
  | false => rw [hb] at h2; exact h2
  | true =>
    rw [hb] at h2
    have h3 : S p = (0, 0) := h2
    rw [h3] at h
    exact absurd h (by decide : ¬ 31 ≤ 0)
theorem Wd.scr (w : Wd D cA A sp L xs s ad0 n0 hx ad (n, S, Rf, I, J, Df) H locs) (h : (S iSCR).1 = 41) : L ≤ 2560 := by
  obtain ⟨-, -, -, hw, -⟩ := w
  have h1 : n ≤ iSCR := Nat.le_of_not_lt fun q => by have := hw.2.2.1 iSCR q; unfold kOK at this; dsimp only at this; omega
  have h2 : S iSCR = ssL L iSCR := hw.2.1 iSCR h1
  refine Nat.le_of_not_lt fun hb => ?_
  unfold ssL at h2
  rw [show Nat.blt 2560 L = true from Nat.blt_eq.mpr hb] at h2
  have h3 : S iSCR = (0, 0) := h2
  rw [h3] at h
  exact absurd h (by decide : ¬ 0 = 41)
theorem ups_crd {I : Nat → Nat → Int32} {p k : Nat} {x : Int32} (hp : p < 900000) : ups I p k x iCRD 0 = I iCRD 0 := by
  show upR I p (upd (I p) k x) iCRD 0 = _
  rw [upR_n (show iCRD ≠ p by show 1000005 ≠ p; omega)]
theorem Wd.le (w : Wd D cA A sp L xs s ad0 n0 hx ad (n, S, Rf, I, J, Df) H locs) : n ≤ 900000 := w.2.2.2.1.1
theorem Wd.sp' (w : Wd D cA A sp L xs s ad0 n0 hx ad (n, S, Rf, I, J, Df) H locs) {q : Nat} (h : 900000 < q) (h2 : q ≠ iEXC) : ad q = sp q := w.2.2.2.2.1 q h h2
theorem Wd.sI (w : Wd D cA A sp L xs s ad0 n0 hx ad (n, S, Rf, I, J, Df) H locs) (hp : p < n) {v : Nat → Int32} (he : cel cA ad S Rf (upR I p v) J Df p = e)
    (hP : va_P D clsv ((wsl cA ad (n, S, Rf, I, J, Df)).set p (ad p, e)) H1) (hD : va_D A ((wsl cA ad (n, S, Rf, I, J, Df)).set p (ad p, e))) (hS : va_S A s.heap H1 locs1) : Wd D cA A sp L xs s ad0 n0 hx ad (n, S, Rf, upR I p v, J, Df) H1 locs1 := by
  rw [wsl_set he (fun q hq => cel_eq rfl (upR_n hq) rfl rfl)] at hP hD
  have hle := w.le
  obtain ⟨-, -, -, ⟨h1, h2, h3, h4, h5, h6⟩, h7⟩ := w
  refine ⟨hP, hD, hS, ⟨h1, h2, h3, h4, ?_, fun j hj => ?_⟩, h7⟩
  · show upR I p v iSCL 0 = _
    rw [upR_n (show iSCL ≠ p by show 1000001 ≠ p; omega)]; exact h5
  · show upR I p v iSCR j = _
    rw [upR_n (show iSCR ≠ p by show 1000002 ≠ p; omega)]; exact h6 j hj
theorem Wd.sJ (w : Wd D cA A sp L xs s ad0 n0 hx ad (n, S, Rf, I, J, Df) H locs) {v : Nat → Int64} (he : cel cA ad S Rf I (upR J p v) Df p = e)
    (hP : va_P D clsv ((wsl cA ad (n, S, Rf, I, J, Df)).set p (ad p, e)) H1) (hD : va_D A ((wsl cA ad (n, S, Rf, I, J, Df)).set p (ad p, e))) (hS : va_S A s.heap H1 locs1) : Wd D cA A sp L xs s ad0 n0 hx ad (n, S, Rf, I, upR J p v, Df) H1 locs1 := by
  rw [wsl_set he (fun q hq => cel_eq rfl rfl (upR_n hq) rfl)] at hP hD
  obtain ⟨-, -, -, h, h7⟩ := w
  exact ⟨hP, hD, hS, h, h7⟩
theorem Wd.sD (w : Wd D cA A sp L xs s ad0 n0 hx ad (n, S, Rf, I, J, Df) H locs) {v : Nat → UInt64} (he : cel cA ad S Rf I J (upR Df p v) p = e)
    (hP : va_P D clsv ((wsl cA ad (n, S, Rf, I, J, Df)).set p (ad p, e)) H1) (hD : va_D A ((wsl cA ad (n, S, Rf, I, J, Df)).set p (ad p, e))) (hS : va_S A s.heap H1 locs1) : Wd D cA A sp L xs s ad0 n0 hx ad (n, S, Rf, I, J, upR Df p v) H1 locs1 := by
  rw [wsl_set he (fun q hq => cel_eq rfl rfl rfl (upR_n hq))] at hP hD
  obtain ⟨-, -, -, h, h7⟩ := w
  exact ⟨hP, hD, hS, h, h7⟩
theorem Wd.sR (w : Wd D cA A sp L xs s ad0 n0 hx ad (n, S, Rf, I, J, Df) H locs) (hp : p < n) {j q0 : Nat} (hq0 : rOK n q0) (he : cel cA ad S (upR Rf p (va_up (Rf p) j (some q0))) I J Df p = e)
    (hP : va_P D clsv ((wsl cA ad (n, S, Rf, I, J, Df)).set p (ad p, e)) H1) (hD : va_D A ((wsl cA ad (n, S, Rf, I, J, Df)).set p (ad p, e))) (hS : va_S A s.heap H1 locs1) : Wd D cA A sp L xs s ad0 n0 hx ad (n, S, upR Rf p (va_up (Rf p) j (some q0)), I, J, Df) H1 locs1 := by
  rw [wsl_set he (fun q hq => cel_eq (upR_n hq) rfl rfl rfl)] at hP hD
  obtain ⟨-, -, -, ⟨h1, h2, h3, h4, h5⟩, h7⟩ := w
  refine ⟨hP, hD, hS, ⟨h1, h2, h3, fun q i z hq hz => ?_, h5⟩, h7⟩
  have hz : upR Rf p (va_up (Rf p) j (some q0)) q i = some z := hz
  by_cases hqp : q = p
  · subst hqp
    rw [upR_s] at hz
    unfold va_up at hz
    by_cases hij : i = j
    · rw [if_pos hij] at hz; cases hz; exact hq0
    · rw [if_neg hij] at hz; exact h4 q i z hq hz
  · rw [upR_n hqp] at hz
    exact h4 q i z hq hz
end WD
section STEP
variable {X9 : Nat × Nat} {p : Program} {l : Launch} {e : Env} {R : Room} {s : State} {m : MethodId} {args : Array Value} {below : List Frame} {meth : Method} {c : Code} {D : va_G} {cA : Nat → ClassId} {A : Nat → Prop} {sp : Nat → Nat} {L : Nat} {xs : Nat → Int32} {ad0 : Nat → Nat} {n0 : Nat} {μ : Nat} {Q : State → Prop} {f g : Cf → Option Ou} {c0 : Cf} {o : Ou}
variable {pc : Nat} {ls st : List Value} {n : Nat} {S : Nat → Nat × Nat} {Rf : Nat → Nat → Option Nat} {I : Nat → Nat → Int32} {J : Nat → Nat → Int64} {Df : Nat → Nat → UInt64} {ad : Nat → Nat} {LS : Array Slot} {H : Heap} {locs : List Loc} {cells slots : Nat}
variable {fm tm : List Bool} {a b cc : Nat} {k : Int32}
theorem Cx.gs (C : Cx p l R s m args meth c D cA A sp L xs μ) : GS D cA A sp L xs s s.heap := C.2.2.2.2.2.2.2.2.2.2.2.2.1
theorem Cx.kk (C : Cx p l R s m args meth c D cA A sp L xs μ) : va_K D clsv (tyl cA) s := C.gs.1
theorem s_iaload  (C : Cx p l R s m args meth c D cA A sp L xs μ) (K : Nx X9 p l e R s m args below meth c D cA A sp L xs ad0 n0 μ Q g o) (w : Wd D cA A sp L xs s ad0 n0 (hdl μ = []) ad (n, S, Rf, I, J, Df) H locs) (fr : Fm ad μ LS ls st n) (hb : Bu X9 R μ pc (n, S, Rf, I, J, Df) cells slots) (hd : decode (byt μ) pc = .ok (.iaload, 1)) (hc : cle (cst μ (pc + 1)) (cst μ pc) = true)  (h : acK f g c0 (stA μ pc ls st n S Rf I J Df (.iaload) 1 fm tm a b cc k) = some o) : W p l e R s m args below meth c H locs cells slots Q (F0 m pc LS (st.map (rv ad))) := by
  obtain ⟨v, z, r, rfl, h⟩ := ak_f2 h
  obtain ⟨j, rfl, h⟩ := ak_fI h
  obtain ⟨q, rfl, h⟩ := ak_fR h
  obtain ⟨hL, hl, hs⟩ := fr
  simp only [List.all_cons, Bool.and_eq_true] at hs
  rcases ak_if h with ⟨h1, h⟩ | ⟨-, h⟩
  · obtain ⟨hg, h⟩ := ak_gd h
    simp only [Bool.and_eq_true, Nat.blt_eq] at hg
    have he : (wsl cA ad (n, S, Rf, I, J, Df))[q]? = some (ad q, _) := (wsl_at (M := (n, S, Rf, I, J, Df)) hg.1).trans (by rw [cel_i (c := 20) (beq_e h1) (by omega)])
    exact va_iald C.ex C.by C.kk w.1 q 0 he rfl (inb_in hg.2) hd (K1 (st' := .int (I q j.toNatClampNeg) :: r) K h w hL hl (by simp only [List.all_cons, Bool.and_eq_true]; exact ⟨rfl, hs.2.2⟩) (hb.go hc))
  rcases ak_if h with ⟨h1, h⟩ | ⟨-, h⟩
  · obtain ⟨hg, h⟩ := ak_gd h
    obtain ⟨hn, hS9⟩ := w.kind (p := q) (by rw [beq_e h1]; omega)
    obtain ⟨i, hi, rfl⟩ := ssp_k.1 (by rw [← hS9]; exact beq_e h1)
    have hT := (C.gs.2.2.1 i hi).2
    have hin := inb_in hg
    rw [hS9] at hin
    have ha : ad (1000011 + i) = sp (1000011 + i) := w.sp' (by omega) (by show _ ≠ 1000000; omega)
    show W p l e R s m args below meth c H locs cells slots Q (F0 m pc LS (.int j :: .ref (ad (1000011 + i)) :: r.map (rv ad)))
    rw [ha]
    exact va_ti C.ex C.by hT w.2.2.1 hin rfl hd (K1 (st' := .int (sta (1000011 + i) j.toNatClampNeg) :: r) K h w hL hl (by simp only [List.all_cons, Bool.and_eq_true]; exact ⟨rfl, hs.2.2⟩) (hb.go hc))
  · obtain ⟨h1, h⟩ := ak_ifh h
    obtain ⟨hg, h⟩ := ak_gd h
    obtain ⟨hn, hS9⟩ := w.kind (p := q) (by rw [beq_e h1]; omega)
    have hq := ssp_k.2.1 (by rw [← hS9]; exact beq_e h1)
    subst hq
    have ha : ad iSCR = sp iSCR := w.sp' (by show 900000 < 1000002; omega) (by decide)
    have hw := w.2.2.2.1
    simp only [Bool.and_eq_true, decide_eq_true_eq] at hg
    obtain ⟨hg1, hg2⟩ := hg
    have hIL : I iSCL 0 = Int32.ofNat L := hw.2.2.2.2.1
    rw [hIL] at hg2
    have hLL : L ≤ 2560 := w.scr (beq_e h1)
    have hin : vp_in j L := by
      rw [vp_in_iff]
      have e1 := Int32.le_iff_toInt_le.mp hg1
      have e2 := Int32.lt_iff_toInt_lt.mp hg2
      have e3 : (Int32.ofNat L).toInt = (L : Int) := nI_toInt (n := L) (by omega)
      rw [Int32.toInt_zero] at e1
      rw [e3] at e2
      exact ⟨e1, e2⟩
    have hjl : j.toNatClampNeg < L := Nat.not_le.mp fun q => hin (Or.inr q)
    rw [show I iSCR j.toNatClampNeg = xs j.toNatClampNeg from hw.2.2.2.2.2 _ hjl] at h
    show W p l e R s m args below meth c H locs cells slots Q (F0 m pc LS (.int j :: .ref (ad iSCR) :: r.map (rv ad)))
    rw [ha]
    exact va_sld C.ex C.by (C.gs.2.1 hLL).1 (C.gs.2.1 hLL).2.1 (C.gs.2.1 hLL).2.2 w.2.2.1 hin hd (K1 (st' := .int (xs j.toNatClampNeg) :: r) K h w hL hl (by simp only [List.all_cons, Bool.and_eq_true]; exact ⟨rfl, hs.2.2⟩) (hb.go hc))
theorem sby_ok : ∀ i, i < 17 → ∀ j, j < slen.getD i 0 → (sbyt.getD i []).getD j 0 = sta (stp i + 10) j := by decide +kernel
theorem sln_ok : ∀ i, i < 17 → (ssp (stp i + 10)).2 = slen.getD i 0 := by decide +kernel
theorem s_baload  (C : Cx p l R s m args meth c D cA A sp L xs μ) (K : Nx X9 p l e R s m args below meth c D cA A sp L xs ad0 n0 μ Q g o) (w : Wd D cA A sp L xs s ad0 n0 (hdl μ = []) ad (n, S, Rf, I, J, Df) H locs) (fr : Fm ad μ LS ls st n) (hb : Bu X9 R μ pc (n, S, Rf, I, J, Df) cells slots) (hd : decode (byt μ) pc = .ok (.baload, 1)) (hc : cle (cst μ (pc + 1)) (cst μ pc) = true)  (h : acK f g c0 (stA μ pc ls st n S Rf I J Df (.baload) 1 fm tm a b cc k) = some o) : W p l e R s m args below meth c H locs cells slots Q (F0 m pc LS (st.map (rv ad))) := by
  obtain ⟨v, z, r, rfl, h⟩ := ak_f2 h
  obtain ⟨j, rfl, h⟩ := ak_fI h
  obtain ⟨q, rfl, h⟩ := ak_fR h
  obtain ⟨hL, hl, hs⟩ := fr
  simp only [List.all_cons, Bool.and_eq_true] at hs
  rcases ak_if h with ⟨h1, h⟩ | ⟨-, h⟩
  · obtain ⟨hg, h⟩ := ak_gd h
    simp only [Bool.and_eq_true, Nat.blt_eq] at hg
    have he : (wsl cA ad (n, S, Rf, I, J, Df))[q]? = some (ad q, _) := (wsl_at (M := (n, S, Rf, I, J, Df)) hg.1).trans (by rw [cel_i (c := 21) (beq_e h1) (by omega)])
    exact va_zald C.ex C.by C.kk w.1 q 1 he rfl (inb_in hg.2) hd (K1 (st' := .int (I q j.toNatClampNeg) :: r) K h w hL hl (by simp only [List.all_cons, Bool.and_eq_true]; exact ⟨rfl, hs.2.2⟩) (hb.go hc))
  rcases ak_if h with ⟨h1, h⟩ | ⟨-, h⟩
  · obtain ⟨hg, h⟩ := ak_gd h
    obtain ⟨hn, hS9⟩ := w.kind (p := q) (by rw [beq_e h1]; omega)
    obtain ⟨i, hi, rfl⟩ := ssp_k.2.2.2.1 (by rw [← hS9]; exact beq_e h1)
    have hT := (C.gs.2.2.2.2.1.1 i hi).2.2.2
    have hin := inb_in hg
    rw [hS9, sln_ok i hi] at hin
    have hjl : j.toNatClampNeg < slen.getD i 0 := Nat.not_le.mp fun q => hin (Or.inr q)
    have ha : ad (stp i + 10) = sp (stp i + 10) := w.sp' (by have := stp_b hi; omega) (by have := stp_b hi; show _ ≠ 1000000; omega)
    show W p l e R s m args below meth c H locs cells slots Q (F0 m pc LS (.int j :: .ref (ad (stp i + 10)) :: r.map (rv ad)))
    rw [ha]
    exact va_tb C.ex C.by hT w.2.2.1 hin (congrArg Value.int (sby_ok i hi _ hjl)) hd (K1 (st' := .int (sta (stp i + 10) j.toNatClampNeg) :: r) K h w hL hl (by simp only [List.all_cons, Bool.and_eq_true]; exact ⟨rfl, hs.2.2⟩) (hb.go hc))
  · obtain ⟨h1, h⟩ := ak_ifh h
    obtain ⟨hg, h⟩ := ak_gd h
    simp only [Bool.and_eq_true, Nat.blt_eq] at hg
    have he : (wsl cA ad (n, S, Rf, I, J, Df))[q]? = some (ad q, _) := (wsl_at (M := (n, S, Rf, I, J, Df)) hg.1).trans (by rw [cel_b (beq_e h1)])
    exact va_bald C.ex C.by C.kk w.1 q 4 he rfl (inb_in hg.2) hd (K1 (st' := .int (I q j.toNatClampNeg) :: r) K h w hL hl (by simp only [List.all_cons, Bool.and_eq_true]; exact ⟨rfl, hs.2.2⟩) (hb.go hc))
theorem s_caload  (C : Cx p l R s m args meth c D cA A sp L xs μ) (K : Nx X9 p l e R s m args below meth c D cA A sp L xs ad0 n0 μ Q g o) (w : Wd D cA A sp L xs s ad0 n0 (hdl μ = []) ad (n, S, Rf, I, J, Df) H locs) (fr : Fm ad μ LS ls st n) (hb : Bu X9 R μ pc (n, S, Rf, I, J, Df) cells slots) (hd : decode (byt μ) pc = .ok (.caload, 1)) (hc : cle (cst μ (pc + 1)) (cst μ pc) = true)  (h : acK f g c0 (stA μ pc ls st n S Rf I J Df (.caload) 1 fm tm a b cc k) = some o) : W p l e R s m args below meth c H locs cells slots Q (F0 m pc LS (st.map (rv ad))) := by
  obtain ⟨v, z, r, rfl, h⟩ := ak_f2 h
  obtain ⟨j, rfl, h⟩ := ak_fI h
  obtain ⟨q, rfl, h⟩ := ak_fR h
  obtain ⟨hL, hl, hs⟩ := fr
  simp only [List.all_cons, Bool.and_eq_true] at hs
  obtain ⟨h1, h⟩ := ak_ifh h
  obtain ⟨hg, h⟩ := ak_gd h
  simp only [Bool.and_eq_true, Nat.blt_eq] at hg
  have he : (wsl cA ad (n, S, Rf, I, J, Df))[q]? = some (ad q, _) := (wsl_at (M := (n, S, Rf, I, J, Df)) hg.1).trans (by rw [cel_i (c := 22) (beq_e h1) (by omega)])
  exact va_cald C.ex C.by C.kk w.1 q 2 he rfl (inb_in hg.2) hd (K1 (st' := .int (I q j.toNatClampNeg) :: r) K h w hL hl (by simp only [List.all_cons, Bool.and_eq_true]; exact ⟨rfl, hs.2.2⟩) (hb.go hc))
theorem s_laload  (C : Cx p l R s m args meth c D cA A sp L xs μ) (K : Nx X9 p l e R s m args below meth c D cA A sp L xs ad0 n0 μ Q g o) (w : Wd D cA A sp L xs s ad0 n0 (hdl μ = []) ad (n, S, Rf, I, J, Df) H locs) (fr : Fm ad μ LS ls st n) (hb : Bu X9 R μ pc (n, S, Rf, I, J, Df) cells slots) (hd : decode (byt μ) pc = .ok (.laload, 1)) (hc : cle (cst μ (pc + 1)) (cst μ pc) = true)  (h : acK f g c0 (stA μ pc ls st n S Rf I J Df (.laload) 1 fm tm a b cc k) = some o) : W p l e R s m args below meth c H locs cells slots Q (F0 m pc LS (st.map (rv ad))) := by
  obtain ⟨v, z, r, rfl, h⟩ := ak_f2 h
  obtain ⟨j, rfl, h⟩ := ak_fI h
  obtain ⟨q, rfl, h⟩ := ak_fR h
  obtain ⟨hL, hl, hs⟩ := fr
  simp only [List.all_cons, Bool.and_eq_true] at hs
  obtain ⟨h1, h⟩ := ak_ifh h
  obtain ⟨hg, h⟩ := ak_gd h
  simp only [Bool.and_eq_true, Nat.blt_eq] at hg
  have he : (wsl cA ad (n, S, Rf, I, J, Df))[q]? = some (ad q, _) := (wsl_at (M := (n, S, Rf, I, J, Df)) hg.1).trans (by rw [cel_j (beq_e h1)])
  exact va_lald C.ex C.by C.kk w.1 q 3 he rfl (inb_in hg.2) hd (K1 (st' := .long (J q j.toNatClampNeg) :: r) K h w hL hl (by simp only [List.all_cons, Bool.and_eq_true]; exact ⟨rfl, hs.2.2⟩) (hb.go hc))
theorem aald_g {cc9 : ByteArray} (hexec : p.tables.exec = Jvm.exec) (hb9 : c.code = cc9) {cl : List vw_C} {tys : List (ClassId × FieldType)} {ws : va_W} {a9 : Nat} {rest : List Value} (hK : va_K D cl tys s) (hP : va_P D cl ws H) (q0 t0 : Nat) {cA9 : ClassId} {ty : FieldType} (hty : ty.isReference = true) {n9 : Nat} {f9 : Nat → Option Nat} (ha : ws[q0]? = some (a9, .inl (cA9, n9, .inr (.inr (.inr (.inr f9)))))) (ht : tys[t0]? = some (cA9, ty)) {i : Int32} (hin : vp_in i n9) (hdg : decode cc9 pc = .ok (.aaload, 1))
    (kk : W p l e R s m args below meth c H locs cells slots Q (F0 m (pc + 1) LS (va_rf (f9 i.toNatClampNeg) :: rest))) : W p l e R s m args below meth c H locs cells slots Q (F0 m pc LS (.int i :: .ref a9 :: rest)) := by
  have hlt : i.toNatClampNeg < n9 := Nat.not_le.mp fun q => hin (Or.inr q)
  exact W.aald (v := va_rf (f9 i.toNatClampNeg)) (ty := ty) hexec hb9 (hP q0 _ ha) ((hK.2 t0 _ ht).1 n9 (fun j => va_rf (f9 j))) hty (fun q => by cases q) (by show ¬ (i < 0 ∨ (arrV _ _ _).slots.size ≤ _); rw [arrV_size]; exact hin) (by show (arrV _ _ _).slots[_]? = _; rw [arrV_read _ _ hlt]) rfl rfl hdg kk
theorem s_aaload  (C : Cx p l R s m args meth c D cA A sp L xs μ) (K : Nx X9 p l e R s m args below meth c D cA A sp L xs ad0 n0 μ Q g o) (w : Wd D cA A sp L xs s ad0 n0 (hdl μ = []) ad (n, S, Rf, I, J, Df) H locs) (fr : Fm ad μ LS ls st n) (hb : Bu X9 R μ pc (n, S, Rf, I, J, Df) cells slots) (hd : decode (byt μ) pc = .ok (.aaload, 1)) (hc : cle (cst μ (pc + 1)) (cst μ pc) = true)  (h : acK f g c0 (stA μ pc ls st n S Rf I J Df (.aaload) 1 fm tm a b cc k) = some o) : W p l e R s m args below meth c H locs cells slots Q (F0 m pc LS (st.map (rv ad))) := by
  obtain ⟨v, z, r, rfl, h⟩ := ak_f2 h
  obtain ⟨j, rfl, h⟩ := ak_fI h
  obtain ⟨q, rfl, h⟩ := ak_fR h
  obtain ⟨hL, hl, hs⟩ := fr
  simp only [List.all_cons, Bool.and_eq_true] at hs
  obtain ⟨h1, h⟩ := ak_ifh h
  obtain ⟨hg, h⟩ := ak_gd h
  simp only [Bool.and_eq_true, Nat.blt_eq] at hg
  simp only [Bool.or_eq_true] at h1
  have hv : vok n (orf (Rf q j.toNatClampNeg)) = true := by
    cases hR : Rf q j.toNatClampNeg with
    | none => rfl
    | some z => exact rOK_vok (w.2.2.2.1.2.2.2.1 q _ z hg.1 hR)
  have key : ∀ (t0 : Nat) (ty : FieldType), ty.isReference = true → (25 ≤ (S q).1 ∧ (S q).1 ≠ 29) → (tyl cA)[t0]? = some (cA (S q).1, ty) → W p l e R s m args below meth c H locs cells slots Q (F0 m pc LS ((.int j :: .ref q :: r).map (rv ad))) := by
    intro t0 ty hty hk ht
    have he : (wsl cA ad (n, S, Rf, I, J, Df))[q]? = some (ad q, _) := (wsl_at (M := (n, S, Rf, I, J, Df)) hg.1).trans (by rw [cel_r rfl hk])
    refine aald_g C.ex C.by C.kk w.1 q t0 hty he ht (inb_in hg.2) hd ?_
    dsimp only
    rw [← rv_orf]
    exact K1 (st' := orf (Rf q j.toNatClampNeg) :: r) K h w hL hl (by simp only [List.all_cons, Bool.and_eq_true]; exact ⟨hv, hs.2.2⟩) (hb.go hc)
  rcases h1 with (h1 | h1 | h1) | h1 | h1
  · exact key 5 _ rfl (by rw [beq_e h1]; omega) (by rw [beq_e h1]; rfl)
  · exact key 6 _ rfl (by rw [beq_e h1]; omega) (by rw [beq_e h1]; rfl)
  · exact key 7 _ rfl (by rw [beq_e h1]; omega) (by rw [beq_e h1]; rfl)
  · exact key 8 _ rfl (by rw [beq_e h1]; omega) (by rw [beq_e h1]; rfl)
  · exact key 9 _ rfl (by rw [beq_e h1]; omega) (by rw [beq_e h1]; rfl)
theorem s_iastore  (C : Cx p l R s m args meth c D cA A sp L xs μ) (K : Nx X9 p l e R s m args below meth c D cA A sp L xs ad0 n0 μ Q g o) (w : Wd D cA A sp L xs s ad0 n0 (hdl μ = []) ad (n, S, Rf, I, J, Df) H locs) (fr : Fm ad μ LS ls st n) (hb : Bu X9 R μ pc (n, S, Rf, I, J, Df) cells slots) (hd : decode (byt μ) pc = .ok (.iastore, 1)) (hc : cle (cst μ (pc + 1)) (cst μ pc) = true)  (h : acK f g c0 (stA μ pc ls st n S Rf I J Df (.iastore) 1 fm tm a b cc k) = some o) : W p l e R s m args below meth c H locs cells slots Q (F0 m pc LS (st.map (rv ad))) := by
  obtain ⟨v, z, y, r, rfl, h⟩ := ak_f3 h
  obtain ⟨x, rfl, h⟩ := ak_fI h
  obtain ⟨j, rfl, h⟩ := ak_fI h
  obtain ⟨q, rfl, h⟩ := ak_fR h
  obtain ⟨hL, hl, hs⟩ := fr
  simp only [List.all_cons, Bool.and_eq_true] at hs
  obtain ⟨h1, h⟩ := ak_ifh h
  obtain ⟨hg, h⟩ := ak_gd h
  simp only [Bool.and_eq_true, Nat.blt_eq] at hg
  have he : (wsl cA ad (n, S, Rf, I, J, Df))[q]? = some (ad q, _) := (wsl_at (M := (n, S, Rf, I, J, Df)) hg.1).trans (by rw [cel_i (c := 20) (beq_e h1) (by omega)])
  exact va_iast C.ex C.by C.kk w.1 w.2.1 w.2.2.1 q 0 he rfl (inb_in hg.2) hd (fun H1 locs1 hP hD hS => K1 (st' := r) K h (Wd.sI w hg.1 (by rw [cel_i (c := 20) (beq_e h1) (by omega), upR_s]) hP hD hS) hL hl hs.2.2.2 ((hb.go hc).mv (ups_crd (by have := w.le; omega))))
theorem s_bastore  (C : Cx p l R s m args meth c D cA A sp L xs μ) (K : Nx X9 p l e R s m args below meth c D cA A sp L xs ad0 n0 μ Q g o) (w : Wd D cA A sp L xs s ad0 n0 (hdl μ = []) ad (n, S, Rf, I, J, Df) H locs) (fr : Fm ad μ LS ls st n) (hb : Bu X9 R μ pc (n, S, Rf, I, J, Df) cells slots) (hd : decode (byt μ) pc = .ok (.bastore, 1)) (hc : cle (cst μ (pc + 1)) (cst μ pc) = true)  (h : acK f g c0 (stA μ pc ls st n S Rf I J Df (.bastore) 1 fm tm a b cc k) = some o) : W p l e R s m args below meth c H locs cells slots Q (F0 m pc LS (st.map (rv ad))) := by
  obtain ⟨v, z, y, r, rfl, h⟩ := ak_f3 h
  obtain ⟨x, rfl, h⟩ := ak_fI h
  obtain ⟨j, rfl, h⟩ := ak_fI h
  obtain ⟨q, rfl, h⟩ := ak_fR h
  obtain ⟨hL, hl, hs⟩ := fr
  simp only [List.all_cons, Bool.and_eq_true] at hs
  obtain ⟨h1, h⟩ := ak_ifh h
  obtain ⟨hg, h⟩ := ak_gd h
  simp only [Bool.and_eq_true, Nat.blt_eq] at hg
  have he : (wsl cA ad (n, S, Rf, I, J, Df))[q]? = some (ad q, _) := (wsl_at (M := (n, S, Rf, I, J, Df)) hg.1).trans (by rw [cel_i (c := 21) (beq_e h1) (by omega)])
  exact va_zast C.ex C.by C.kk w.1 w.2.1 w.2.2.1 q 1 he rfl (inb_in hg.2) hd (fun H1 locs1 hP hD hS => K1 (st' := r) K h (Wd.sI w hg.1 (by rw [cel_i (c := 21) (beq_e h1) (by omega), upR_s]) hP hD hS) hL hl hs.2.2.2 ((hb.go hc).mv (ups_crd (by have := w.le; omega))))
theorem s_castore  (C : Cx p l R s m args meth c D cA A sp L xs μ) (K : Nx X9 p l e R s m args below meth c D cA A sp L xs ad0 n0 μ Q g o) (w : Wd D cA A sp L xs s ad0 n0 (hdl μ = []) ad (n, S, Rf, I, J, Df) H locs) (fr : Fm ad μ LS ls st n) (hb : Bu X9 R μ pc (n, S, Rf, I, J, Df) cells slots) (hd : decode (byt μ) pc = .ok (.castore, 1)) (hc : cle (cst μ (pc + 1)) (cst μ pc) = true)  (h : acK f g c0 (stA μ pc ls st n S Rf I J Df (.castore) 1 fm tm a b cc k) = some o) : W p l e R s m args below meth c H locs cells slots Q (F0 m pc LS (st.map (rv ad))) := by
  obtain ⟨v, z, y, r, rfl, h⟩ := ak_f3 h
  obtain ⟨x, rfl, h⟩ := ak_fI h
  obtain ⟨j, rfl, h⟩ := ak_fI h
  obtain ⟨q, rfl, h⟩ := ak_fR h
  obtain ⟨hL, hl, hs⟩ := fr
  simp only [List.all_cons, Bool.and_eq_true] at hs
  obtain ⟨h1, h⟩ := ak_ifh h
  obtain ⟨hg, h⟩ := ak_gd h
  simp only [Bool.and_eq_true, Nat.blt_eq] at hg
  have he : (wsl cA ad (n, S, Rf, I, J, Df))[q]? = some (ad q, _) := (wsl_at (M := (n, S, Rf, I, J, Df)) hg.1).trans (by rw [cel_i (c := 22) (beq_e h1) (by omega)])
  exact va_cast C.ex C.by C.kk w.1 w.2.1 w.2.2.1 q 2 he rfl (inb_in hg.2) hd (fun H1 locs1 hP hD hS => K1 (st' := r) K h (Wd.sI w hg.1 (by rw [cel_i (c := 22) (beq_e h1) (by omega), upR_s]) hP hD hS) hL hl hs.2.2.2 ((hb.go hc).mv (ups_crd (by have := w.le; omega))))
theorem s_lastore  (C : Cx p l R s m args meth c D cA A sp L xs μ) (K : Nx X9 p l e R s m args below meth c D cA A sp L xs ad0 n0 μ Q g o) (w : Wd D cA A sp L xs s ad0 n0 (hdl μ = []) ad (n, S, Rf, I, J, Df) H locs) (fr : Fm ad μ LS ls st n) (hb : Bu X9 R μ pc (n, S, Rf, I, J, Df) cells slots) (hd : decode (byt μ) pc = .ok (.lastore, 1)) (hc : cle (cst μ (pc + 1)) (cst μ pc) = true)  (h : acK f g c0 (stA μ pc ls st n S Rf I J Df (.lastore) 1 fm tm a b cc k) = some o) : W p l e R s m args below meth c H locs cells slots Q (F0 m pc LS (st.map (rv ad))) := by
  obtain ⟨v, z, y, r, rfl, h⟩ := ak_f3 h
  obtain ⟨x, rfl, h⟩ := ak_fL h
  obtain ⟨j, rfl, h⟩ := ak_fI h
  obtain ⟨q, rfl, h⟩ := ak_fR h
  obtain ⟨hL, hl, hs⟩ := fr
  simp only [List.all_cons, Bool.and_eq_true] at hs
  obtain ⟨h1, h⟩ := ak_ifh h
  obtain ⟨hg, h⟩ := ak_gd h
  simp only [Bool.and_eq_true, Nat.blt_eq] at hg
  have he : (wsl cA ad (n, S, Rf, I, J, Df))[q]? = some (ad q, _) := (wsl_at (M := (n, S, Rf, I, J, Df)) hg.1).trans (by rw [cel_j (beq_e h1)])
  exact va_last C.ex C.by C.kk w.1 w.2.1 w.2.2.1 q 3 he rfl (inb_in hg.2) hd (fun H1 locs1 hP hD hS => K1 (st' := r) K h (Wd.sJ w (by rw [cel_j (beq_e h1), upR_s]) hP hD hS) hL hl hs.2.2.2 ((hb.go hc).mv rfl))
theorem any_of {E : String} {a9 : Nat} {cell : Cell} (c1 : H[a9]? = some cell) (c2 : cell.vm.isStatics = false) (c3 : s.vm.findClass E = some cell.cls) : va_Any E s H a9 := by
  obtain ⟨kC, hk, -⟩ := Vm.findClass_spec c3
  refine ⟨cell, c1, c2, ⟨kC, hk⟩, fun comp h => ?_⟩
  have e : cell.cls = comp := Option.some.inj (c3.symm.trans h)
  rw [← e]
  exact va_asg _ _
theorem s_aastore  (C : Cx p l R s m args meth c D cA A sp L xs μ) (K : Nx X9 p l e R s m args below meth c D cA A sp L xs ad0 n0 μ Q g o) (w : Wd D cA A sp L xs s ad0 n0 (hdl μ = []) ad (n, S, Rf, I, J, Df) H locs) (fr : Fm ad μ LS ls st n) (hb : Bu X9 R μ pc (n, S, Rf, I, J, Df) cells slots) (hd : decode (byt μ) pc = .ok (.aastore, 1)) (hc : cle (cst μ (pc + 1)) (cst μ pc) = true)  (h : acK f g c0 (stA μ pc ls st n S Rf I J Df (.aastore) 1 fm tm a b cc k) = some o) : W p l e R s m args below meth c H locs cells slots Q (F0 m pc LS (st.map (rv ad))) := by
  obtain ⟨v, z, y, r, rfl, h⟩ := ak_f3 h
  obtain ⟨x, rfl, h⟩ := ak_fR h
  obtain ⟨j, rfl, h⟩ := ak_fI h
  obtain ⟨q, rfl, h⟩ := ak_fR h
  obtain ⟨hL, hl, hs⟩ := fr
  simp only [List.all_cons, Bool.and_eq_true] at hs
  rcases ak_if h with ⟨h1, h⟩ | ⟨-, h⟩
  rotate_left
  · obtain ⟨h1, h⟩ := ak_ifh h
    obtain ⟨hg, h⟩ := ak_gd h
    simp only [Bool.and_eq_true, Nat.blt_eq] at hg h1
    have he : (wsl cA ad (n, S, Rf, I, J, Df))[q]? = some (ad q, _) := (wsl_at (M := (n, S, Rf, I, J, Df)) hg.1).trans (by rw [cel_r (c := 30) (beq_e h1.1) (by omega)])
    obtain ⟨hn, hS9⟩ := w.kind (p := x) (by rw [beq_e h1.2]; omega)
    obtain ⟨i9, hi9, rfl⟩ := ssp_k.2.2.1 (by rw [← hS9]; exact beq_e h1.2)
    have hb9 := stp_b hi9
    have ha : ad (stp i9) = sp (stp i9) := w.sp' (by omega) (by show _ ≠ 1000000; omega)
    obtain ⟨cell, c1, c2, c3⟩ := vk_recv (adK := fun i => sp (stp i)) (i := i9) C.gs.2.2.2.2.1 hi9 w.2.2.1
    have hany : va_Any "java/lang/String" s H (sp (stp i9)) := any_of c1 c2 c3
    show W p l e R s m args below meth c H locs cells slots Q (F0 m pc LS (.ref (ad (stp i9)) :: .int j :: .ref (ad q) :: r.map (rv ad)))
    rw [ha]
    refine va_astqM C.ex C.by C.kk w.1 w.2.1 w.2.2.1 q 9 he rfl hany (inb_in hg.2) hd (fun H1 locs1 hP hD hS => K1 (st' := r) K h (Wd.sR w hg.1 (Or.inr (by omega)) ?_ hP hD hS) hL hl hs.2.2.2 ((hb.go hc).mv rfl))
    rw [cel_r (c := 30) (beq_e h1.1) (by omega), upR_s]
    refine congrArg (fun z : Nat → Option Nat => (Sum.inl (cA 30, (S q).2, .inr (.inr (.inr (.inr z)))) : va_E)) (funext fun i => ?_)
    unfold va_up
    by_cases hi : i = j.toNatClampNeg
    · rw [if_pos hi, if_pos hi, ← ha]; rfl
    · rw [if_neg hi, if_neg hi]
  obtain ⟨hg, h⟩ := ak_gd h
  simp only [Bool.and_eq_true, Nat.blt_eq] at hg h1
  have he : (wsl cA ad (n, S, Rf, I, J, Df))[q]? = some (ad q, _) := (wsl_at (M := (n, S, Rf, I, J, Df)) hg.1.1).trans (by rw [cel_r (c := 25) (beq_e h1.1) (by omega)])
  have hx : (wsl cA ad (n, S, Rf, I, J, Df))[x]? = some (ad x, _) := (wsl_at (M := (n, S, Rf, I, J, Df)) hg.1.2).trans (by rw [cel_c (c := 5) (beq_e h1.2) (by omega)])
  refine va_astq C.ex C.by C.kk w.1 w.2.1 w.2.2.1 q 5 x 5 (r := clq 5) he rfl hx rfl (inb_in hg.2) hd (fun H1 locs1 hP hD hS => K1 (st' := r) K h (Wd.sR w hg.1.1 (Or.inl hg.1.2) ?_ hP hD hS) hL hl hs.2.2.2 ((hb.go hc).mv rfl))
  rw [cel_r (c := 25) (beq_e h1.1) (by omega), upR_s]
  refine congrArg (fun z : Nat → Option Nat => (Sum.inl (cA 25, (S q).2, .inr (.inr (.inr (.inr z)))) : va_E)) (funext fun i => ?_)
  unfold va_up
  by_cases hi : i = j.toNatClampNeg
  · rw [if_pos hi, if_pos hi]; rfl
  · rw [if_neg hi, if_neg hi]
theorem s_arraylength  (C : Cx p l R s m args meth c D cA A sp L xs μ) (K : Nx X9 p l e R s m args below meth c D cA A sp L xs ad0 n0 μ Q g o) (w : Wd D cA A sp L xs s ad0 n0 (hdl μ = []) ad (n, S, Rf, I, J, Df) H locs) (fr : Fm ad μ LS ls st n) (hb : Bu X9 R μ pc (n, S, Rf, I, J, Df) cells slots) (hd : decode (byt μ) pc = .ok (.arraylength, 1)) (hc : cle (cst μ (pc + 1)) (cst μ pc) = true)  (h : acK f g c0 (stA μ pc ls st n S Rf I J Df (.arraylength) 1 fm tm a b cc k) = some o) : W p l e R s m args below meth c H locs cells slots Q (F0 m pc LS (st.map (rv ad))) := by
  obtain ⟨v, r, rfl, h⟩ := ak_f1 h
  obtain ⟨q, rfl, h⟩ := ak_fR h
  obtain ⟨hL, hl, hs⟩ := fr
  simp only [List.all_cons, Bool.and_eq_true] at hs
  rcases ak_if h with ⟨h1, h⟩ | ⟨-, h⟩
  · obtain ⟨hg, h⟩ := ak_gd h
    simp only [Bool.and_eq_true, Nat.ble_eq] at h1
    have hg := Nat.blt_eq.mp hg
    have fin : ∀ (t0 : Nat) (x : vp_A) (ty : FieldType), x.1 = (S q).2 → cel cA ad S Rf I J Df q = .inl (cA (S q).1, x) → (tyl cA)[t0]? = some (cA (S q).1, ty) → W p l e R s m args below meth c H locs cells slots Q (F0 m pc LS ((.ref q :: r).map (rv ad))) := by
      intro t0 x ty hx hcl ht
      exact va_alen C.ex C.by C.kk w.1 q t0 (x := x) ((wsl_at (M := (n, S, Rf, I, J, Df)) hg).trans (by dsimp only; rw [hcl])) ht (by rw [hx]) hd (K1 (st' := .int (Int32.ofNat (S q).2) :: r) K h w hL hl (by simp only [List.all_cons, Bool.and_eq_true]; exact ⟨rfl, hs.2⟩) (hb.go hc))
    have hk : ∀ k : Nat, 20 ≤ k → k ≤ 30 → k ≠ 24 → k = 20 ∨ k = 21 ∨ k = 22 ∨ k = 23 ∨ k = 25 ∨ k = 26 ∨ k = 27 ∨ k = 28 ∨ k = 29 ∨ k = 30 := fun k => by omega
    have h24 : (S q).1 ≠ 24 := fun z => by
      have := w.2.2.2.1.2.2.1 q hg
      unfold kOK at this
      dsimp only at this
      omega
    rcases hk _ h1.1 h1.2 h24 with k | k | k | k | k | k | k | k | k | k
    · exact fin 0 (_, .inl (I q)) .int rfl (by rw [cel_i k (by omega), k]) (by rw [k]; rfl)
    · exact fin 1 (_, .inl (I q)) .boolean rfl (by rw [cel_i k (by omega), k]) (by rw [k]; rfl)
    · exact fin 2 (_, .inl (I q)) .char rfl (by rw [cel_i k (by omega), k]) (by rw [k]; rfl)
    · exact fin 3 (_, .inr (.inl (J q))) .long rfl (by rw [cel_j k, k]) (by rw [k]; rfl)
    · exact fin 5 (_, .inr (.inr (.inr (.inr _)))) _ rfl (by rw [cel_r k (by omega), k]) (by rw [k]; rfl)
    · exact fin 6 (_, .inr (.inr (.inr (.inr _)))) _ rfl (by rw [cel_r k (by omega), k]) (by rw [k]; rfl)
    · exact fin 7 (_, .inr (.inr (.inr (.inr _)))) _ rfl (by rw [cel_r k (by omega), k]) (by rw [k]; rfl)
    · exact fin 8 (_, .inr (.inr (.inr (.inr _)))) _ rfl (by rw [cel_r k (by omega), k]) (by rw [k]; rfl)
    · exact fin 4 (_, .inl (I q)) .byte rfl (by rw [cel_b k, k]) (by rw [k]; rfl)
    · exact fin 9 (_, .inr (.inr (.inr (.inr _)))) _ rfl (by rw [cel_r k (by omega), k]) (by rw [k]; rfl)
  rcases ak_if h with ⟨h1, h⟩ | ⟨-, h⟩
  · simp only [Bool.or_eq_true] at h1
    have h : g (μ, pc + 1, mk fm ls, .int (Int32.ofNat (S q).2) :: r, (n, S, Rf, I, J, Df)) = some o := h
    obtain ⟨hn, hS9⟩ := w.kind (p := q) (by rcases h1 with h1 | h1 <;> rw [beq_e h1] <;> omega)
    rcases h1 with h1 | h1
    · obtain ⟨i, hi, rfl⟩ := ssp_k.1 (by rw [← hS9]; exact beq_e h1)
      have ha : ad (1000011 + i) = sp (1000011 + i) := w.sp' (by omega) (by show _ ≠ 1000000; omega)
      show W p l e R s m args below meth c H locs cells slots Q (F0 m pc LS (.ref (ad (1000011 + i)) :: r.map (rv ad)))
      rw [ha]
      rw [hS9] at h
      exact va_tlen C.ex C.by (C.gs.2.2.1 i hi).2 w.2.2.1 rfl hd (K1 (st' := .int (Int32.ofNat (ssp (1000011 + i)).2) :: r) K h w hL hl (by simp only [List.all_cons, Bool.and_eq_true]; exact ⟨rfl, hs.2⟩) (hb.go hc))
    · obtain ⟨i, hi, rfl⟩ := ssp_k.2.2.2.1 (by rw [← hS9]; exact beq_e h1)
      have hb9 := stp_b hi
      have ha : ad (stp i + 10) = sp (stp i + 10) := w.sp' (by omega) (by show _ ≠ 1000000; omega)
      show W p l e R s m args below meth c H locs cells slots Q (F0 m pc LS (.ref (ad (stp i + 10)) :: r.map (rv ad)))
      rw [ha]
      rw [hS9] at h
      exact va_tlen C.ex C.by (C.gs.2.2.2.2.1.1 i hi).2.2.2 w.2.2.1 (by rw [sln_ok i hi]) hd (K1 (st' := .int (Int32.ofNat (ssp (stp i + 10)).2) :: r) K h w hL hl (by simp only [List.all_cons, Bool.and_eq_true]; exact ⟨rfl, hs.2⟩) (hb.go hc))
  · obtain ⟨h1, h8⟩ := ak_ifh h
    obtain ⟨hn, hS9⟩ := w.kind (p := q) (by rw [beq_e h1]; omega)
    have hq := ssp_k.2.1 (by rw [← hS9]; exact beq_e h1)
    subst hq
    have ha : ad iSCR = sp iSCR := w.sp' (by show 900000 < 1000002; omega) (by decide)
    have hLL : L ≤ 2560 := w.scr (beq_e h1)
    have h9 : g (μ, pc + 1, mk fm ls, .int (I iSCL 0) :: r, (n, S, Rf, I, J, Df)) = some o := h8
    rw [show I iSCL 0 = Int32.ofNat L from w.2.2.2.1.2.2.2.2.1] at h9
    show W p l e R s m args below meth c H locs cells slots Q (F0 m pc LS (.ref (ad iSCR) :: r.map (rv ad)))
    rw [ha]
    exact va_slen C.ex C.by (C.gs.2.1 hLL).1 (C.gs.2.1 hLL).2.1 (C.gs.2.1 hLL).2.2 w.2.2.1 hd (K1 (st' := .int (Int32.ofNat L) :: r) K h9 w hL hl (by simp only [List.all_cons, Bool.and_eq_true]; exact ⟨rfl, hs.2⟩) (hb.go hc))
theorem s_getfield {x : Nat} (C : Cx p l R s m args meth c D cA A sp L xs μ) (K : Nx X9 p l e R s m args below meth c D cA A sp L xs ad0 n0 μ Q g o) (w : Wd D cA A sp L xs s ad0 n0 (hdl μ = []) ad (n, S, Rf, I, J, Df) H locs) (fr : Fm ad μ LS ls st n) (hb : Bu X9 R μ pc (n, S, Rf, I, J, Df) cells slots) (hd : decode (byt μ) pc = .ok (.getfield x, 3)) (hc : cle (cst μ (pc + 3)) (cst μ pc) = true) (hk : (bif Nat.beq a 43 then a3 pFs (ow μ) x cc && Nat.ble cc 1 else (aF (ow μ) x a b && (Nat.beq (fkd a b) cc && Nat.blt a 15))) = true) (h : acK f g c0 (stA μ pc ls st n S Rf I J Df (.getfield x) 3 fm tm a b cc k) = some o) : W p l e R s m args below meth c H locs cells slots Q (F0 m pc LS (st.map (rv ad))) := by
  obtain ⟨v, r, rfl, h⟩ := ak_f1 h
  obtain ⟨q, rfl, h⟩ := ak_fR h
  obtain ⟨hL, hl, hs⟩ := fr
  simp only [List.all_cons, Bool.and_eq_true] at hs
  rcases ak_if h with ⟨h1, h⟩ | ⟨h1, h⟩
  · rw [h1] at hk
    simp only [cond_true, Bool.and_eq_true, Nat.ble_eq] at hk
    rcases ak_if h with ⟨h2, h⟩ | ⟨-, h⟩
    rotate_left
    · -- a text made later
      obtain ⟨h2, h⟩ := ak_ifh h
      obtain ⟨hg, h⟩ := ak_gd h
      have hg := Nat.blt_eq.mp hg
      have k3 : 13 < 15 := by decide
      have he : (wsl cA ad (n, S, Rf, I, J, Df))[q]? = some (ad q, _) := (wsl_at (M := (n, S, Rf, I, J, Df)) hg).trans (by rw [cel_c (beq_e h2) k3])
      obtain ⟨e9, he9, q1, q2, q3⟩ := a3_in hk.1
      have hw9 := inWb_mem (List.all_eq_true.mp okFs e9 he9)
      unfold wFs at hw9
      rw [q1, q2, q3] at hw9
      have hcc : cc = 0 ∨ cc = 1 := by omega
      rcases hcc with rfl | rfl
      · refine va_get C.ex C.by (fun w h => C.wd h) (u_in k3) C.own C.kk w.1 q he (clsv_at 13 k3) 1 (by rw [clq_n 13 k3]; decide) (C.wd hw9) (fun x h => h) (v := .int (I q 1)) rfl hd ?_
        exact K1 (st' := .int (I q 1) :: r) K h w hL hl (by simp only [List.all_cons, Bool.and_eq_true]; exact ⟨rfl, hs.2⟩) (hb.go hc)
      · have hvk : vok n (orf (Rf q 0)) = true := by
          cases hR : Rf q 0 with
          | none => rfl
          | some z => exact rOK_vok (w.2.2.2.1.2.2.2.1 q _ z hg hR)
        refine va_get C.ex C.by (fun w h => C.wd h) (u_in k3) C.own C.kk w.1 q he (clsv_at 13 k3) 0 (by rw [clq_n 13 k3]; decide) (C.wd hw9) (fun x h => h) (v := va_rf ((Rf q 0).map ad)) rfl hd ?_
        rw [← rv_orf]
        exact K1 (st' := orf (Rf q 0) :: r) K h w hL hl (by simp only [List.all_cons, Bool.and_eq_true]; exact ⟨hvk, hs.2⟩) (hb.go hc)
    obtain ⟨hn, hS9⟩ := w.kind (p := q) (by rw [beq_e h2]; omega)
    obtain ⟨i, hi, rfl⟩ := ssp_k.2.2.1 (by rw [← hS9]; exact beq_e h2)
    have hb9 := stp_b hi
    have ha : ad (stp i) = sp (stp i) := w.sp' (by omega) (by show _ ≠ 1000000; omega)
    have ha3 : ad (stp i + 10) = sp (stp i + 10) := w.sp' (by omega) (by show _ ≠ 1000000; omega)
    obtain ⟨e9, he9, q1, q2, q3⟩ := a3_in hk.1
    have hw9 := inWb_mem (List.all_eq_true.mp okFs e9 he9)
    unfold wFs at hw9
    rw [q1, q2, q3] at hw9
    obtain ⟨-, g2, g3, -⟩ := C.gs.2.2.2.2.1.1 i hi
    show W p l e R s m args below meth c H locs cells slots Q (F0 m pc LS (.ref (ad (stp i)) :: r.map (rv ad)))
    rw [ha]
    have hcc : cc = 0 ∨ cc = 1 := by omega
    rcases hcc with rfl | rfl
    · exact vk_getf C.ex C.by g2 w.2.2.1 C.own (C.wd hw9) (fun x h => h) hd (K1 (st' := .int 0 :: r) K h w hL hl (by simp only [List.all_cons, Bool.and_eq_true]; exact ⟨rfl, hs.2⟩) (hb.go hc))
    · have h : g (μ, pc + 3, mk fm ls, .ref (stp i + 10) :: r, (n, S, Rf, I, J, Df)) = some o := h
      have hvk : vok n (.ref (stp i + 10)) = true := by simp only [vok, Bool.or_eq_true, Nat.blt_eq]; exact Or.inr (by omega)
      refine vk_getf C.ex C.by g3 w.2.2.1 C.own (C.wd hw9) (fun x h => h) hd ?_
      show W p l e R s m args below meth c H locs cells slots Q (F0 m (pc + 3) LS (.ref (sp (stp i + 10)) :: r.map (rv ad)))
      rw [← ha3]
      exact K1 (st' := .ref (stp i + 10) :: r) K h w hL hl (by simp only [List.all_cons, Bool.and_eq_true]; exact ⟨hvk, hs.2⟩) (hb.go hc)
  · rw [h1] at hk
    simp only [cond_false, Bool.and_eq_true, Nat.blt_eq] at hk
    obtain ⟨k1, k2, k3⟩ := hk
    obtain ⟨h2, h⟩ := ak_ifh h
    obtain ⟨hg, h⟩ := ak_gd h
    have hg := Nat.blt_eq.mp hg
    obtain ⟨f1, f2⟩ := fl_in k1
    have he : (wsl cA ad (n, S, Rf, I, J, Df))[q]? = some (ad q, _) := (wsl_at (M := (n, S, Rf, I, J, Df)) hg).trans (by rw [cel_c (beq_e h2) k3])
    have hv9 : ∀ F : Nat → Value, ((List.range (nfl a)).map F)[b]? = some (F b) := fun F => by rw [List.getElem?_map, List.getElem?_range f1]; rfl
    refine va_get C.ex C.by (fun w h => C.wd h) (u_in k3) C.own C.kk w.1 q he (clsv_at a k3) b (by rw [clq_n a k3]; exact f1) (C.wd f2) (fun x h => h) (hv9 _) hd ?_
    have hfk : fcl (fkd a b) (Rf q b) (I q b) (J q b) ad = rv ad (bif Nat.beq cc 1 then orf (Rf q b) else bif Nat.beq cc 2 then .long (J q b) else .int (I q b)) := by
      rw [beq_e k2]
      unfold fcl
      cases Nat.beq cc 1 with
      | true => exact (rv_orf ad _).symm
      | false => cases Nat.beq cc 2 <;> rfl
    have hvk : vok n (bif Nat.beq cc 1 then orf (Rf q b) else bif Nat.beq cc 2 then .long (J q b) else .int (I q b)) = true := by
      cases Nat.beq cc 1 with
      | true =>
        show vok n (orf (Rf q b)) = true
        cases hR : Rf q b with
        | none => rfl
        | some z => exact rOK_vok (w.2.2.2.1.2.2.2.1 q _ z hg hR)
      | false => cases Nat.beq cc 2 <;> rfl
    rw [hfk]
    exact K1 (st' := (bif Nat.beq cc 1 then orf (Rf q b) else bif Nat.beq cc 2 then .long (J q b) else .int (I q b)) :: r) K h w hL hl (by simp only [List.all_cons, Bool.and_eq_true]; exact ⟨hvk, hs.2⟩) (hb.go hc)
theorem map_set {F : Nat → Value} {N k : Nat} {v : Value} {G : Nat → Value} (hk : G k = v) (ho : ∀ j, j ≠ k → G j = F j) : ((List.range N).map F).set k v = (List.range N).map G := by
  apply List.ext_getElem?
  intro i
  by_cases hik : i = k
  · subst hik
    by_cases hl : i < N
    · rw [List.getElem?_set_self (by simpa using hl), List.getElem?_map, List.getElem?_range hl, ← hk]; rfl
    · rw [List.getElem?_eq_none (by simp; omega), List.getElem?_eq_none (by simp; omega)]
  · rw [List.getElem?_set_ne (Ne.symm hik), List.getElem?_map, List.getElem?_map]
    by_cases hl : i < N
    · rw [List.getElem?_range hl]; show some (F i) = some (G i); rw [ho i hik]
    · rw [List.getElem?_eq_none (by simp; omega)]; rfl
theorem s_putfield {x : Nat} (C : Cx p l R s m args meth c D cA A sp L xs μ) (K : Nx X9 p l e R s m args below meth c D cA A sp L xs ad0 n0 μ Q g o) (w : Wd D cA A sp L xs s ad0 n0 (hdl μ = []) ad (n, S, Rf, I, J, Df) H locs) (fr : Fm ad μ LS ls st n) (hb : Bu X9 R μ pc (n, S, Rf, I, J, Df) cells slots) (hd : decode (byt μ) pc = .ok (.putfield x, 3)) (hc : cle (cst μ (pc + 3)) (cst μ pc) = true) (hk : (aF (ow μ) x a b && (Nat.beq (fkd a b) cc && Nat.blt a 15)) = true) (hk2 : (bif Nat.beq cc 0 then decide (((clq a).2.1 b).2.2.2 = false ∧ clt a b = .int) else bif Nat.beq cc 2 then decide (((clq a).2.1 b).2.2.2 = false ∧ clt a b = .long) else Nat.beq cc 1 && (decide (((clq a).2.1 b).2.2.2 = false) || decide (((clq a).2.1 b).2.2.2 = true ∧ (nm μ).name = "<init>" ∧ ((clq a).2.1 b).1 = (nm μ).cls))) = true) (hcl : (nm μ).cls = onm (ow μ)) (h : acK f g c0 (stA μ pc ls st n S Rf I J Df (.putfield x) 3 fm tm a b cc k) = some o) : W p l e R s m args below meth c H locs cells slots Q (F0 m pc LS (st.map (rv ad))) := by
  obtain ⟨v, z, r, rfl, h⟩ := ak_f2 h
  obtain ⟨q, rfl, h⟩ := ak_fR h
  obtain ⟨hL, hl, hs⟩ := fr
  simp only [List.all_cons, Bool.and_eq_true] at hs
  obtain ⟨h2, h⟩ := ak_ifh h
  simp only [Bool.and_eq_true, Nat.blt_eq] at hk
  obtain ⟨k1, k2, k3⟩ := hk
  obtain ⟨f1, f2⟩ := fl_in k1
  rcases ak_if h with ⟨h1, h⟩ | ⟨h1, h⟩
  · obtain ⟨x9, rfl, h⟩ := ak_fI h
    obtain ⟨hg, h⟩ := ak_gd h
    have hg := Nat.blt_eq.mp hg
    rw [h1] at hk2
    obtain ⟨j1, j2⟩ := of_decide_eq_true hk2
    have he : (wsl cA ad (n, S, Rf, I, J, Df))[q]? = some (ad q, _) := (wsl_at (M := (n, S, Rf, I, J, Df)) hg).trans (by rw [cel_c (beq_e h2) k3])
    refine va_put (ty := .int) C.ex C.by (fun w h => C.wd h) (u_in k3) (clt a) (clt_ok a k3) (clq_nm a k3) C.own C.kk w.1 w.2.1 w.2.2.1 q he (clsv_at a k3) b (by rw [clq_n a k3]; exact f1) (C.wd f2) (fun x h => h) j1 (by rw [clt_ok a k3 b (by rw [clq_n a k3]; exact f1), j2]) rfl rfl (by simpa using f1) hd
      (fun H1 locs1 hP hD hS => K1 (st' := r) K h (Wd.sI w hg ?_ hP hD hS) hL hl hs.2.2 ((hb.go hc).mv (ups_crd (by have := w.le; omega))))
    rw [cel_c (beq_e h2) k3]
    congr 2
    refine (map_set ?_ fun j hj => ?_).symm
    · rw [beq_e k2, beq_e h1, upR_s]
      show Value.int (upd (I q) b x9 b) = _
      rw [pk_us]
      rfl
    · rw [upR_s, pk_un hj]
  rcases ak_if h with ⟨h9, h⟩ | ⟨h9, h⟩
  · obtain ⟨x9, rfl, h⟩ := ak_fL h
    obtain ⟨hg, h⟩ := ak_gd h
    have hg := Nat.blt_eq.mp hg
    rw [h1, h9] at hk2
    obtain ⟨j1, j2⟩ := of_decide_eq_true hk2
    have he : (wsl cA ad (n, S, Rf, I, J, Df))[q]? = some (ad q, _) := (wsl_at (M := (n, S, Rf, I, J, Df)) hg).trans (by rw [cel_c (beq_e h2) k3])
    refine va_put (ty := .long) C.ex C.by (fun w h => C.wd h) (u_in k3) (clt a) (clt_ok a k3) (clq_nm a k3) C.own C.kk w.1 w.2.1 w.2.2.1 q he (clsv_at a k3) b (by rw [clq_n a k3]; exact f1) (C.wd f2) (fun x h => h) j1 (by rw [clt_ok a k3 b (by rw [clq_n a k3]; exact f1), j2]) rfl rfl (by simpa using f1) hd
      (fun H1 locs1 hP hD hS => K1 (st' := r) K h (Wd.sJ w ?_ hP hD hS) hL hl hs.2.2 ((hb.go hc).mv rfl))
    rw [cel_c (beq_e h2) k3]
    congr 2
    refine (map_set ?_ fun j hj => ?_).symm
    · rw [beq_e k2, beq_e h9, upR_s]
      show Value.long (vp_updL (J q) b x9 b) = _
      unfold vp_updL
      rw [if_pos rfl]
      rfl
    · rw [upR_s]
      unfold vp_updL
      rw [if_neg hj]
  · obtain ⟨x9, rfl, h⟩ := ak_fR h
    obtain ⟨hg, h⟩ := ak_gd h
    simp only [Bool.and_eq_true, Nat.blt_eq] at hg
    rw [h1, h9] at hk2
    simp only [cond_false, Bool.and_eq_true, Bool.or_eq_true, decide_eq_true_eq] at hk2
    obtain ⟨hc1, hk2⟩ := hk2
    have he : (wsl cA ad (n, S, Rf, I, J, Df))[q]? = some (ad q, _) := (wsl_at (M := (n, S, Rf, I, J, Df)) hg.1).trans (by rw [cel_c (beq_e h2) k3])
    have hrf := isRf_ok (clt_rf k3 f1 (by rw [beq_e k2]; exact hc1)) (ad x9)
    have hcel : cel cA ad S (upR Rf q (va_up (Rf q) b (some x9))) I J Df q = .inr (a, ((List.range (nfl a)).map (fun j => fcl (fkd a j) (Rf q j) (I q j) (J q j) ad)).set b (.ref (ad x9))) := by
      rw [cel_c (beq_e h2) k3]
      congr 2
      refine (map_set ?_ fun j hj => ?_).symm
      · rw [beq_e k2, beq_e hc1, upR_s]
        unfold va_up
        rw [if_pos rfl]; rfl
      · rw [upR_s]
        unfold va_up
        rw [if_neg hj]
    rcases hk2 with j1 | ⟨j1, j2, j3⟩
    · exact va_put (ty := clt a b) C.ex C.by (fun w h => C.wd h) (u_in k3) (clt a) (clt_ok a k3) (clq_nm a k3) C.own C.kk w.1 w.2.1 w.2.2.1 q he (clsv_at a k3) b (by rw [clq_n a k3]; exact f1) (C.wd f2) (fun x h => h) j1 (clt_ok a k3 b (by rw [clq_n a k3]; exact f1)) hrf.1 hrf.2 (by simpa using f1) hd
        (fun H1 locs1 hP hD hS => K1 (st' := r) K h (Wd.sR w hg.1 (Or.inl hg.2) hcel hP hD hS) hL hl hs.2.2 ((hb.go hc).mv rfl))
    · exact va_putF (ty := clt a b) C.ex C.by (fun w h => C.wd h) (u_in k3) (clt a) (clt_ok a k3) (clq_nm a k3) C.own C.kk w.1 w.2.1 w.2.2.1 q he (clsv_at a k3) b (by rw [clq_n a k3]; exact f1) (C.wd f2) (fun x h => h) j1 (C.2.2.2.2.2.2.2.2.1 j2) (by rw [j3, hcl]) (clt_ok a k3 b (by rw [clq_n a k3]; exact f1)) hrf.1 hrf.2 (by simpa using f1) hd
        (fun H1 locs1 hP hD hS => K1 (st' := r) K h (Wd.sR w hg.1 (Or.inl hg.2) hcel hP hD hS) hL hl hs.2.2 ((hb.go hc).mv rfl))
theorem s_getstatic {x : Nat} (C : Cx p l R s m args meth c D cA A sp L xs μ) (K : Nx X9 p l e R s m args below meth c D cA A sp L xs ad0 n0 μ Q g o) (w : Wd D cA A sp L xs s ad0 n0 (hdl μ = []) ad (n, S, Rf, I, J, Df) H locs) (fr : Fm ad μ LS ls st n) (hb : Bu X9 R μ pc (n, S, Rf, I, J, Df) cells slots) (hd : decode (byt μ) pc = .ok (.getstatic x, 3)) (hc : cle (cst μ (pc + 3)) (cst μ pc) = true) (hk : (a3 pSt (ow μ) x b && (bif Nat.beq cc 0 then Nat.ble 1000011 b && Nat.ble b 1000013 else Nat.beq b 0 && decide (k = 1))) = true) (h : acK f g c0 (stA μ pc ls st n S Rf I J Df (.getstatic x) 3 fm tm a b cc k) = some o) : W p l e R s m args below meth c H locs cells slots Q (F0 m pc LS (st.map (rv ad))) := by
  obtain ⟨hL, hl, hs⟩ := fr
  simp only [Bool.and_eq_true] at hk
  obtain ⟨e9, he9, q1, q2, q3⟩ := a3_in hk.1
  have hw9 := inWb_mem (List.all_eq_true.mp okSt e9 he9)
  unfold wSt at hw9
  rw [q1, q2, q3] at hw9
  have hk2 := hk.2
  cases h1 : Nat.beq cc 0 with
  | true =>
    rw [h1] at hk2
    simp only [cond_true, Bool.and_eq_true, Nat.ble_eq] at hk2
    have h : g (μ, pc + 3, mk fm ls, (bif Nat.beq cc 0 then .ref b else .int k) :: st, (n, S, Rf, I, J, Df)) = some o := h
    rw [h1] at h
    obtain ⟨i, rfl⟩ : ∃ i, b = 1000011 + i := ⟨b - 1000011, by omega⟩
    have hi : i < 3 := by omega
    have ha : ad (1000011 + i) = sp (1000011 + i) := w.sp' (by omega) (by show _ ≠ 1000000; omega)
    refine va_gets C.ex C.by (C.gs.2.2.1 i hi).1 w.2.2.1 C.own (C.wd hw9) (fun x h => h) hd ?_
    rw [← ha]
    exact K1 (st' := .ref (1000011 + i) :: st) K h w hL hl (by simp only [List.all_cons, Bool.and_eq_true]; exact ⟨by simp only [vok, Bool.or_eq_true, Nat.blt_eq]; exact Or.inr (by omega), hs⟩) (hb.go hc)
  | false =>
    rw [h1] at hk2
    simp only [cond_false, Bool.and_eq_true, decide_eq_true_eq] at hk2
    have h : g (μ, pc + 3, mk fm ls, (bif Nat.beq cc 0 then .ref b else .int k) :: st, (n, S, Rf, I, J, Df)) = some o := h
    rw [h1, hk2.2] at h
    rw [beq_e hk2.1] at hw9
    exact va_gets C.ex C.by C.gs.2.2.2.1 w.2.2.1 C.own (C.wd hw9) (fun x h => h) hd (K1 (st' := .int 1 :: st) K h w hL hl (by simp only [List.all_cons, Bool.and_eq_true]; exact ⟨rfl, hs⟩) (hb.go hc))
theorem aC_in {ν x : Nat} {k : Int32} (h : aC ν x k = true) : Cond.constant (onm ν) x k ∈ WALL := by
  obtain ⟨e, he, h⟩ := List.any_eq_true.mp h
  simp only [Bool.and_eq_true, decide_eq_true_eq] at h
  have h6 := inWb_mem (List.all_eq_true.mp okC e he)
  unfold wC at h6
  rw [beq_e h.1, beq_e h.2.1, h.2.2] at h6
  exact h6
theorem aL_in {ν x b : Nat} (h : a3 pL ν x b = true) : Cond.constantLong (onm ν) x (lcs b) ∈ WALL := by
  obtain ⟨e, he, h1, h2, h3⟩ := a3_in h
  have h6 := inWb_mem (List.all_eq_true.mp okL e he)
  unfold wLc at h6
  rw [h1, h2, h3] at h6
  exact h6
theorem va_ldcwS {cc9 : ByteArray} {pc9 : Nat} {ls9 : Array Slot} {rest : List Value} (hexec : p.tables.exec = Jvm.exec) (hb : c.code = cc9) {own tx : String} {index q : Nat} (hown : s.vm.findClass own = some m.cls) (hZ : vk_R own index tx q s) (hdg : decode cc9 pc9 = .ok (.ldc_w index, 3))
    (k : W p l e R s m args below meth c H locs cells slots Q (F0 m (pc9 + 3) ls9 (.ref q :: rest))) : W p l e R s m args below meth c H locs cells slots Q (F0 m pc9 ls9 rest) := by
  intro T hT X
  obtain ⟨t, a1, b1⟩ := k T hT X
  exact ⟨t, X.ldcStringW hexec hown (text := tx) (a := q) hZ.1 hZ.2 (g := F0 m pc9 ls9 rest) rfl (by rw [hb]; exact hdg) t a1, b1⟩
theorem s_ldc {x : Nat} (C : Cx p l R s m args meth c D cA A sp L xs μ) (K : Nx X9 p l e R s m args below meth c D cA A sp L xs ad0 n0 μ Q g o) (w : Wd D cA A sp L xs s ad0 n0 (hdl μ = []) ad (n, S, Rf, I, J, Df) H locs) (fr : Fm ad μ LS ls st n) (hb : Bu X9 R μ pc (n, S, Rf, I, J, Df) cells slots) (hd : decode (byt μ) pc = .ok (.ldc x, 2)) (hc : cle (cst μ (pc + 2)) (cst μ pc) = true) (hk : (bif Nat.beq a 0 then aC (ow μ) x k else (a3 pS (ow μ) x b && ((Nat.beq (ow μ) 9 || Nat.beq (ow μ) 12) && (Nat.ble 1000020 b && Nat.ble b 1000060)))) = true) (h : acK f g c0 (stA μ pc ls st n S Rf I J Df (.ldc x) 2 fm tm a b cc k) = some o) : W p l e R s m args below meth c H locs cells slots Q (F0 m pc LS (st.map (rv ad))) := by
  obtain ⟨hL, hl, hs⟩ := fr
  have h : g (μ, pc + 2, mk fm ls, (bif Nat.beq a 0 then .int k else .ref b) :: st, (n, S, Rf, I, J, Df)) = some o := h
  cases h1 : Nat.beq a 0 with
  | true =>
    rw [h1] at hk h
    exact lv_ldc C.ex C.by C.own (C.wd (aC_in hk)) hd (K1 (st' := .int k :: st) K h w hL hl (by simp only [List.all_cons, Bool.and_eq_true]; exact ⟨rfl, hs⟩) (hb.go hc))
  | false =>
    rw [h1] at hk h
    simp only [cond_false, Bool.and_eq_true, Nat.ble_eq, Bool.or_eq_true] at hk
    obtain ⟨e9, he9, q1, q2, q3⟩ := a3_in hk.1
    obtain ⟨tx, hR⟩ := C.gs.2.2.2.2.2.1 e9 he9 (by rw [q1]; exact hk.2.1.imp beq_e beq_e)
    rw [q1, q2, q3] at hR
    have ha : ad b = sp b := w.sp' (by omega) (by show _ ≠ 1000000; omega)
    rw [← ha] at hR
    exact va_ldcS C.ex C.by (own := onm (ow μ)) C.own hR hd (K1 (st' := .ref b :: st) K h w hL hl (by simp only [List.all_cons, Bool.and_eq_true]; exact ⟨by simp only [vok, Bool.or_eq_true, Nat.blt_eq]; exact Or.inr (by omega), hs⟩) (hb.go hc))
theorem s_ldc_w {x : Nat} (C : Cx p l R s m args meth c D cA A sp L xs μ) (K : Nx X9 p l e R s m args below meth c D cA A sp L xs ad0 n0 μ Q g o) (w : Wd D cA A sp L xs s ad0 n0 (hdl μ = []) ad (n, S, Rf, I, J, Df) H locs) (fr : Fm ad μ LS ls st n) (hb : Bu X9 R μ pc (n, S, Rf, I, J, Df) cells slots) (hd : decode (byt μ) pc = .ok (.ldc_w x, 3)) (hc : cle (cst μ (pc + 3)) (cst μ pc) = true) (hk : (bif Nat.beq a 0 then aC (ow μ) x k else (a3 pS (ow μ) x b && ((Nat.beq (ow μ) 9 || Nat.beq (ow μ) 12) && (Nat.ble 1000020 b && Nat.ble b 1000060)))) = true) (h : acK f g c0 (stA μ pc ls st n S Rf I J Df (.ldc_w x) 3 fm tm a b cc k) = some o) : W p l e R s m args below meth c H locs cells slots Q (F0 m pc LS (st.map (rv ad))) := by
  obtain ⟨hL, hl, hs⟩ := fr
  have h : g (μ, pc + 3, mk fm ls, (bif Nat.beq a 0 then .int k else .ref b) :: st, (n, S, Rf, I, J, Df)) = some o := h
  cases h1 : Nat.beq a 0 with
  | true =>
    rw [h1] at hk h
    exact lv_ldcw C.ex C.by C.own (C.wd (aC_in hk)) hd (K1 (st' := .int k :: st) K h w hL hl (by simp only [List.all_cons, Bool.and_eq_true]; exact ⟨rfl, hs⟩) (hb.go hc))
  | false =>
    rw [h1] at hk h
    simp only [cond_false, Bool.and_eq_true, Nat.ble_eq, Bool.or_eq_true] at hk
    obtain ⟨e9, he9, q1, q2, q3⟩ := a3_in hk.1
    obtain ⟨tx, hR⟩ := C.gs.2.2.2.2.2.1 e9 he9 (by rw [q1]; exact hk.2.1.imp beq_e beq_e)
    rw [q1, q2, q3] at hR
    have ha : ad b = sp b := w.sp' (by omega) (by show _ ≠ 1000000; omega)
    rw [← ha] at hR
    exact va_ldcwS C.ex C.by (own := onm (ow μ)) C.own hR hd (K1 (st' := .ref b :: st) K h w hL hl (by simp only [List.all_cons, Bool.and_eq_true]; exact ⟨by simp only [vok, Bool.or_eq_true, Nat.blt_eq]; exact Or.inr (by omega), hs⟩) (hb.go hc))
end STEP
