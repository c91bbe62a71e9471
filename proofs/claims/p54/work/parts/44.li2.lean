/-! the script is there; the draws begin; the law's constructor -/
section STEP
variable {X9 : Nat × Nat} {p : Program} {l : Launch} {e : Env} {R : Room} {s : State} {m : MethodId} {args : Array Value} {below : List Frame} {meth : Method} {c : Code} {D : va_G} {cA : Nat → ClassId} {A : Nat → Prop} {sp : Nat → Nat} {L : Nat} {xs : Nat → Int32} {ad0 : Nat → Nat} {n0 : Nat} {μ : Nat} {Q : State → Prop} {f g : Cf → Option Ou} {c0 : Cf} {o : Ou}
variable {pc : Nat} {ls st : List Value} {n : Nat} {S : Nat → Nat × Nat} {Rf : Nat → Nat → Option Nat} {I : Nat → Nat → Int32} {J : Nat → Nat → Int64} {Df : Nat → Nat → UInt64} {ad : Nat → Nat} {LS : Array Slot} {H : Heap} {locs : List Loc} {cells slots : Nat}
variable {fm tm : List Bool} {a b cc : Nat} {k : Int32}
variable {pc : Nat} {ls st : List Value} {n : Nat} {S : Nat → Nat × Nat} {Rf : Nat → Nat → Option Nat} {I : Nat → Nat → Int32} {J : Nat → Nat → Int64} {Df : Nat → Nat → UInt64} {ad : Nat → Nat} {LS : Array Slot} {H : Heap} {locs : List Loc} {cells slots : Nat}
theorem arrV_re {c : ClassId} {n : Nat} {f f' : Nat → Value} (h : ∀ j, j < n → f' j = f j) : arrV c n f' = arrV c n f := by
  unfold arrV
  have e : (fun j : Fin n => f' j.val) = fun j : Fin n => f j.val := funext fun j => h j.1 j.2
  rw [e]
theorem at_re {Dg : va_G} {cA : Nat → ClassId} {ad : Nat → Nat} {S S' : Nat → Nat × Nat} {R R' : Nat → Nat → Option Nat} {I I' : Nat → Nat → Int32} {J J' : Nat → Nat → Int64} {D D' : Nat → Nat → UInt64} {p a : Nat} {H : Heap} (hS : S' p = S p) (hI : I' p = I p) (hJ : J' p = J p) (hD : D' p = D p) (hk : kOK (S p).1)
    (hR : ∀ j, j < (bif Nat.blt (S p).1 15 then nfl (S p).1 else bif Nat.ble 25 (S p).1 then (S p).2 else 0) → R' p j = R p j) (h : va_at Dg clsv (a, cel cA ad S R I J D p) H) : va_at Dg clsv (a, cel cA ad S' R' I' J' D' p) H := by
  rcases hk with hk | hk
  · have e1 : Nat.blt (S p).1 15 = true := Nat.blt_eq.mpr hk
    rw [e1] at hR
    have e : cel cA ad S' R' I' J' D' p = cel cA ad S R I J D p := by
      unfold cel
      rw [hS, hI, hJ, e1, cond_true, cond_true]
      congr 2
      apply List.map_congr_left
      intro j hj
      rw [hR j (List.mem_range.mp hj)]
    rw [e]
    exact h
  · by_cases h29 : (S p).1 = 29
    · rw [cel_b h29] at h
      rw [cel_b (by rw [hS]; exact h29), hS, hI]
      exact h
    by_cases h25 : 25 ≤ (S p).1
    · have e1 : Nat.blt (S p).1 15 = false := by cases hb : Nat.blt (S p).1 15 with | false => rfl | true => have := Nat.blt_eq.mp hb; omega
      rw [e1, show Nat.ble 25 (S p).1 = true from Nat.ble_eq.mpr h25] at hR
      rw [cel_r rfl ⟨h25, h29⟩] at h
      rw [cel_r (c := (S p).1) (by rw [hS]) ⟨h25, h29⟩]
      have h1 : H[a]? = some (arrV (cA (S p).1) (S p).2 (fun j => va_rf ((R p j).map ad))) := h
      show H[a]? = some (arrV (cA (S p).1) (S' p).2 (fun j => va_rf ((R' p j).map ad)))
      rw [hS, h1]
      congr 1
      exact (arrV_re fun j hj => by rw [hR j hj]).symm
    · have e : cel cA ad S' R' I' J' D' p = cel cA ad S R I J D p := by
        have hz : (S p).1 = 20 ∨ (S p).1 = 21 ∨ (S p).1 = 22 ∨ (S p).1 = 23 ∨ (S p).1 = 24 := by omega
        unfold cel
        rw [hS, hI, hJ, hD]
        rcases hz with hz | hz | hz | hz | hz <;> rw [hz] <;> rfl
      rw [e]
      exact h
theorem GS.un {U : State} (g : GS D cA A sp L xs U H) : GS D cA A sp 5000 (fun _ => 0) U H := ⟨g.1, fun h => absurd h (by decide), g.2.2⟩
theorem Wd.sw {L' : Nat} {xs' : Nat → Int32} {hx : Prop} {M M' : Mm} (w : Wd D cA A sp L xs s ad0 n0 hx ad M H locs) (hn : M'.1 = M.1) (hs : ∀ q, q < M.1 → M'.2.1 q = M.2.1 q ∧ M'.2.2.2.1 q = M.2.2.2.1 q ∧ M'.2.2.2.2.1 q = M.2.2.2.2.1 q ∧ M'.2.2.2.2.2 q = M.2.2.2.2.2 q ∧ ∀ j, j < (bif Nat.blt (M.2.1 q).1 15 then nfl (M.2.1 q).1 else bif Nat.ble 25 (M.2.1 q).1 then (M.2.1 q).2 else 0) → M'.2.2.1 q j = M.2.2.1 q j) (hw : wfM L' xs' M') : Wd D cA A sp L' xs' s ad0 n0 hx ad M' H locs := by
  obtain ⟨w1, w2, w3, w4, w5, w6, w7, w8⟩ := w
  have key : ∀ k q, (wsl cA ad M')[k]? = some q → k < M.1 ∧ q = (ad k, cel cA ad M'.2.1 M'.2.2.1 M'.2.2.2.1 M'.2.2.2.2.1 M'.2.2.2.2.2 k) := by
    intro k q hk
    have hk9 : k < M'.1 := by
      have h := (List.getElem?_eq_some_iff.mp hk).1
      simpa [wsl] using h
    have h2 := wsl_at (cA := cA) (ad := ad) (M := M') (p := k) hk9
    rw [h2] at hk
    exact ⟨hn ▸ hk9, (Option.some.inj hk).symm⟩
  have old : ∀ k, k < M.1 → (wsl cA ad M)[k]? = some (ad k, cel cA ad M.2.1 M.2.2.1 M.2.2.2.1 M.2.2.2.2.1 M.2.2.2.2.2 k) := fun k hk => wsl_at (M := M) hk
  refine ⟨fun k q hk => ?_, ⟨fun i j p q hi hj e => ?_, fun k q hk => ?_⟩, w3, hw, w5, by rw [hn]; exact w6, w7, w8⟩
  · obtain ⟨hk9, rfl⟩ := key k q hk
    obtain ⟨hS, hI, hJ, hD, hR⟩ := hs k hk9
    exact at_re hS hI hJ hD (w4.2.2.1 k hk9) hR (w1 k _ (old k hk9))
  · obtain ⟨hi9, rfl⟩ := key i p hi
    obtain ⟨hj9, rfl⟩ := key j q hj
    exact w2.1 i j _ _ (old i hi9) (old j hj9) e
  · obtain ⟨hk9, rfl⟩ := key k q hk
    have h := w2.2 k _ (old k hk9)
    exact h
theorem S54_ssp {p : Nat} (h : 329 ≤ p) : S54 p = ssp p := by
  unfold S54
  rw [show Nat.ble p 328 = false from by cases hb : Nat.ble p 328 with | false => rfl | true => (have := Nat.ble_eq.mp hb; omega)]
  rfl
theorem r54_lt0 : (List.range 329).all (fun p => (List.range 20).all (fun j => match R54 p j with
  | none => true
  | some q => Nat.blt q 329)) = true := by decide +kernel
theorem r54_ge {p j : Nat} (hj : 20 ≤ j) : R54 p j = none := by
  have n1 : ∀ k, k < 20 → Nat.beq j k = false := fun k hk => by cases hb : Nat.beq j k with | false => rfl | true => (have := beq_e hb; omega)
  have n2 : ∀ k, k ≤ 20 → Nat.blt j k = false := fun k hk => by cases hb : Nat.blt j k with | false => rfl | true => (have := Nat.blt_eq.mp hb; omega)
  unfold R54
  simp only [n1 0 (by decide), n1 1 (by decide), n1 2 (by decide), n1 3 (by decide), n1 4 (by decide), n1 7 (by decide), n1 8 (by decide), n1 9 (by decide), n1 10 (by decide), n2 20 (by decide), n2 2 (by decide), cond_false]
  cases Nat.ble p 328 <;> cases Nat.beq p 0 <;> cases Nat.ble p 316 <;> cases Nat.beq p 320 <;> cases Nat.beq p 323 <;> rfl
theorem r54_ok {p j q : Nat} (hp : p < 329) (h : R54 p j = some q) : q < 329 := by
  rcases Nat.lt_or_ge j 20 with hj | hj
  · have h9 := List.all_eq_true.mp (List.all_eq_true.mp r54_lt0 p (List.mem_range.mpr hp)) j (List.mem_range.mpr hj)
    rw [h] at h9
    exact Nat.blt_eq.mp h9
  · rw [r54_ge hj] at h; cases h
theorem r53_ok {p j q : Nat} (hp : p < 329) (h : R53 p j = some q) : q < 329 := by
  unfold R53 at h
  cases hb : (Nat.beq p 0 && Nat.beq j 1) with
  | true => rw [hb] at h; cases h
  | false => rw [hb] at h; exact r54_ok hp h
theorem k54_ok : (List.range 329).all (fun p => Nat.blt (S54 p).1 15 || (Nat.ble 20 (S54 p).1 && (Nat.ble (S54 p).1 30 && !(Nat.beq (S54 p).1 24)))) = true := by decide +kernel
theorem k54 {p : Nat} (hp : p < 329) : kOK (S54 p).1 := by
  have h := List.all_eq_true.mp k54_ok p (List.mem_range.mpr hp)
  simp only [Bool.or_eq_true, Bool.and_eq_true, Nat.blt_eq, Nat.ble_eq, Bool.not_eq_true'] at h
  exact h.imp id (fun ⟨h1, h2, h3⟩ => ⟨h1, h2, fun z => by rw [z] at h3; cases h3⟩)
theorem ssL_r {L p : Nat} (hL : L ≤ 2560) : ssL L p = ssp p := by
  unfold ssL
  rw [show Nat.blt 2560 L = false from by cases hb : Nat.blt 2560 L with | false => rfl | true => (have := Nat.blt_eq.mp hb; omega), Bool.and_false]
  rfl
def I0 (p j : Nat) : Int32 := Me.2.2.2.1 (p + 1) j
def J0 (p j : Nat) : Int64 := Me.2.2.2.2.1 (p + 1) j
def D0 (p j : Nat) : UInt64 := Me.2.2.2.2.2 (p + 1) j
def Q0 (L : Nat) (xs : Nat → Int32) (p j : Nat) : Int32 := bif Nat.beq p iSCL then Int32.ofNat L else bif Nat.beq p iSCR then xs j else Me.2.2.2.1 p j
/-- the law's memory ahead of its draws -/
def M54 (L : Nat) (xs : Nat → Int32) : Mm := Tm 329 S54 R53 (Q0 L xs) Me.2.2.2.2.1 Me.2.2.2.2.2 I0 J0 D0
theorem ovr_at {α : Type} {F : Nat → Nat → α} {Q : Nat → Nat → α} {p : Nat} (h : ∀ q, q = p → Q q = F q) : ovr (fun p j => F (p + 1) j) Q p = F p := by
  unfold ovr
  cases hb : (Nat.ble 1 p && Nat.ble p 316) with
  | false => exact h p rfl
  | true =>
    rw [Bool.and_eq_true] at hb
    have h1 := Nat.ble_eq.mp hb.1
    show (fun j => F (p - 1 + 1) j) = F p
    rw [show p - 1 + 1 = p by omega]
theorem sE_at {p : Nat} (hp : p < 329) : Me.2.1 p = S54 p ∧ ∀ j, j < (bif Nat.blt (S54 p).1 15 then nfl (S54 p).1 else bif Nat.ble 25 (S54 p).1 then (S54 p).2 else 0) → Me.2.2.1 p j = R53 p j := by
  have h := List.all_eq_true.mp sE p (List.mem_range.mpr hp)
  rw [Bool.and_eq_true] at h
  exact ⟨of_decide_eq_true h.1, fun j hj => of_decide_eq_true (List.all_eq_true.mp h.2 j (List.mem_range.mpr hj))⟩
theorem wd_real {hx : Prop} (hL : L ≤ 2560) (w : Wd D cA A sp 5000 (fun _ => 0) s ad0 n0 hx ad Me H locs) : Wd D cA A sp L xs s ad0 n0 hx ad (M54 L xs) H locs := by
  have hI : ∀ q, q < 329 → ovr I0 (Q0 L xs) q = Me.2.2.2.1 q := fun q hq => ovr_at (F := Me.2.2.2.1) (fun p hp => by
    funext j
    unfold Q0
    have n1 : ∀ z, 329 ≤ z → Nat.beq p z = false := fun z hz => by cases hb : Nat.beq p z with | false => rfl | true => (have := beq_e hb; omega)
    rw [n1 iSCL (by decide), n1 iSCR (by decide)]
    rfl)
  refine w.sw (M' := M54 L xs) nE.symm (fun q hq => ?_) ?_
  · rw [nE] at hq
    obtain ⟨e1, e2⟩ := sE_at hq
    exact ⟨e1.symm, hI q hq, ovr_at (F := Me.2.2.2.2.1) (fun _ _ => rfl), ovr_at (F := Me.2.2.2.2.2) (fun _ _ => rfl), fun j hj => (e2 j (by rw [← e1]; exact hj)).symm⟩
  · exact ⟨by show 329 ≤ 900000; decide, fun p hp => (S54_ssp hp).trans (ssL_r hL).symm, fun p hp => k54 hp, fun p j q hp hq => Or.inl (r53_ok hp hq), rfl, fun j hj => rfl⟩
end STEP
