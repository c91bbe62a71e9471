/-! the memory at the law's loop, with the script; the loop, from one pure step -/
theorem S0_ssp {p : Nat} (h : 337 ≤ p) : S0 p = ssp p := by
  have n0 : ∀ k, k < 337 → Nat.ble p k = false := fun k hk => by
    cases hb : Nat.ble p k with
    | false => rfl
    | true => have := Nat.ble_eq.mp hb; omega
  have n1 : ∀ k, p ≠ k → Nat.beq p k = false := fun k hk => by
    cases hb : Nat.beq p k with
    | false => rfl
    | true => exact absurd (beq_e hb) hk
  by_cases h1000002 : p = 1000002
  · subst h1000002; rfl
  by_cases h1000011 : p = 1000011
  · subst h1000011; rfl
  by_cases h1000012 : p = 1000012
  · subst h1000012; rfl
  by_cases h1000013 : p = 1000013
  · subst h1000013; rfl
  by_cases h1000020 : p = 1000020
  · subst h1000020; rfl
  by_cases h1000021 : p = 1000021
  · subst h1000021; rfl
  by_cases h1000022 : p = 1000022
  · subst h1000022; rfl
  by_cases h1000023 : p = 1000023
  · subst h1000023; rfl
  by_cases h1000024 : p = 1000024
  · subst h1000024; rfl
  by_cases h1000025 : p = 1000025
  · subst h1000025; rfl
  by_cases h1000030 : p = 1000030
  · subst h1000030; rfl
  by_cases h1000031 : p = 1000031
  · subst h1000031; rfl
  by_cases h1000032 : p = 1000032
  · subst h1000032; rfl
  by_cases h1000033 : p = 1000033
  · subst h1000033; rfl
  by_cases h1000034 : p = 1000034
  · subst h1000034; rfl
  by_cases h1000035 : p = 1000035
  · subst h1000035; rfl
  have e1 : ssp p = (0, 0) := by
    unfold ssp
    simp [n1 1000002 h1000002, n1 1000011 h1000011, n1 1000012 h1000012, n1 1000013 h1000013, n1 1000020 h1000020, n1 1000021 h1000021, n1 1000022 h1000022, n1 1000023 h1000023, n1 1000024 h1000024, n1 1000025 h1000025, n1 1000030 h1000030, n1 1000031 h1000031, n1 1000032 h1000032, n1 1000033 h1000033, n1 1000034 h1000034, n1 1000035 h1000035]
  have e2 : S0 p = (0, 0) := by
    unfold S0
    simp [n0 0 (by decide), n0 1 (by decide), n0 2 (by decide), n0 5 (by decide), n0 6 (by decide), n0 7 (by decide), n0 8 (by decide), n0 9 (by decide), n0 10 (by decide), n0 14 (by decide), n0 15 (by decide), n0 19 (by decide), n0 20 (by decide), n0 22 (by decide), n0 23 (by decide), n0 24 (by decide), n0 27 (by decide), n0 28 (by decide), n0 29 (by decide), n0 30 (by decide), n0 33 (by decide), n0 34 (by decide), n0 35 (by decide), n0 36 (by decide), n0 37 (by decide), n0 38 (by decide), n0 42 (by decide), n0 43 (by decide), n0 47 (by decide), n0 48 (by decide), n0 50 (by decide), n0 51 (by decide), n0 52 (by decide), n0 55 (by decide), n0 56 (by decide), n0 57 (by decide), n0 60 (by decide), n0 61 (by decide), n0 62 (by decide), n0 63 (by decide), n0 64 (by decide), n0 65 (by decide), n0 69 (by decide), n0 70 (by decide), n0 74 (by decide), n0 75 (by decide), n0 77 (by decide), n0 78 (by decide), n0 79 (by decide), n0 82 (by decide), n0 83 (by decide), n0 84 (by decide), n0 87 (by decide), n0 88 (by decide), n0 89 (by decide), n0 90 (by decide), n0 91 (by decide), n0 92 (by decide), n0 96 (by decide), n0 97 (by decide), n0 101 (by decide), n0 102 (by decide), n0 104 (by decide), n0 105 (by decide), n0 106 (by decide), n0 109 (by decide), n0 110 (by decide), n0 111 (by decide), n0 114 (by decide), n0 115 (by decide), n0 116 (by decide), n0 117 (by decide), n0 118 (by decide), n0 119 (by decide), n0 123 (by decide), n0 124 (by decide), n0 128 (by decide), n0 129 (by decide), n0 131 (by decide), n0 132 (by decide), n0 133 (by decide), n0 136 (by decide), n0 137 (by decide), n0 138 (by decide), n0 141 (by decide), n0 142 (by decide), n0 143 (by decide), n0 144 (by decide), n0 145 (by decide), n0 146 (by decide), n0 150 (by decide), n0 151 (by decide), n0 155 (by decide), n0 156 (by decide), n0 158 (by decide), n0 159 (by decide), n0 160 (by decide), n0 163 (by decide), n0 164 (by decide), n0 165 (by decide), n0 168 (by decide), n0 169 (by decide), n0 170 (by decide), n0 171 (by decide), n0 172 (by decide), n0 173 (by decide), n0 177 (by decide), n0 178 (by decide), n0 182 (by decide), n0 183 (by decide), n0 185 (by decide), n0 186 (by decide), n0 187 (by decide), n0 190 (by decide), n0 191 (by decide), n0 192 (by decide), n0 195 (by decide), n0 196 (by decide), n0 197 (by decide), n0 198 (by decide), n0 199 (by decide), n0 200 (by decide), n0 204 (by decide), n0 205 (by decide), n0 209 (by decide), n0 210 (by decide), n0 212 (by decide), n0 213 (by decide), n0 214 (by decide), n0 217 (by decide), n0 218 (by decide), n0 219 (by decide), n0 222 (by decide), n0 223 (by decide), n0 224 (by decide), n0 225 (by decide), n0 226 (by decide), n0 227 (by decide), n0 231 (by decide), n0 232 (by decide), n0 236 (by decide), n0 237 (by decide), n0 239 (by decide), n0 240 (by decide), n0 241 (by decide), n0 244 (by decide), n0 245 (by decide), n0 246 (by decide), n0 264 (by decide), n0 265 (by decide), n0 269 (by decide), n0 270 (by decide), n0 271 (by decide), n0 272 (by decide), n0 273 (by decide), n0 274 (by decide), n0 291 (by decide), n0 292 (by decide), n0 309 (by decide), n0 311 (by decide), n0 312 (by decide), n0 313 (by decide), n0 315 (by decide), n0 316 (by decide), n0 317 (by decide), n0 318 (by decide), n0 319 (by decide), n0 320 (by decide), n0 322 (by decide), n0 323 (by decide), n0 324 (by decide), n0 326 (by decide), n0 327 (by decide), n0 328 (by decide), n0 329 (by decide), n0 330 (by decide), n0 332 (by decide), n0 334 (by decide), n0 335 (by decide), n0 336 (by decide), n1 1000002 h1000002, n1 1000011 h1000011, n1 1000012 h1000012, n1 1000013 h1000013, n1 1000020 h1000020, n1 1000021 h1000021, n1 1000022 h1000022, n1 1000023 h1000023, n1 1000024 h1000024, n1 1000025 h1000025, n1 1000030 h1000030, n1 1000031 h1000031, n1 1000032 h1000032, n1 1000033 h1000033, n1 1000034 h1000034, n1 1000035 h1000035]
  rw [e1, e2]
def okr (x : Option Nat) : Prop := ∀ q, x = some q → q < 337
theorem okr_c {b : Bool} {x y : Option Nat} (hx : okr x) (hy : okr y) : okr (bif b then x else y) := by
  cases b
  · exact hy
  · exact hx
theorem okr_n : okr none := fun q h => by cases h
theorem okr_s {k : Nat} (h : Nat.blt k 337 = true) : okr (some k) := fun q hq => by cases hq; exact Nat.blt_eq.mp h
theorem okr_j {j k a b : Nat} (h : Nat.ble (a + b * k) 337 = true) (hb : 0 < b) : okr (bif Nat.blt j k then some (a + b * j) else none) := by
  cases hj : Nat.blt j k with
  | false => exact okr_n
  | true =>
    intro q hq
    have hj := Nat.blt_eq.mp hj
    have hq : some (a + b * j) = some q := hq
    injection hq with hq
    have := Nat.ble_eq.mp h
    have h2 : b * (j + 1) ≤ b * k := Nat.mul_le_mul_left b hj
    rw [Nat.mul_add] at h2
    omega
theorem okr_1 {j k a : Nat} (h : Nat.ble (a + k) 337 = true) : okr (bif Nat.blt j k then some (a + j) else none) := by
  have h2 : okr (bif Nat.blt j k then some (a + 1 * j) else none) := okr_j (by rw [Nat.one_mul]; exact h) (by decide)
  rw [Nat.one_mul] at h2
  exact h2
set_option maxRecDepth 4000 in
theorem R0_ok (p j : Nat) : okr (R0 p j) := by
  unfold R0
  repeat' (first | exact okr_n | exact okr_s rfl | exact okr_1 rfl | exact okr_j rfl (by decide) | apply okr_c)
theorem k0_ok : (List.range 337).all (fun p => Nat.blt (S0 p).1 12 || (Nat.ble 20 (S0 p).1 && Nat.ble (S0 p).1 27)) = true := by decide +kernel
theorem arrV_re {c : ClassId} {n : Nat} {f f' : Nat → Value} (h : ∀ j, j < n → f' j = f j) : arrV c n f' = arrV c n f := by
  unfold arrV
  have e : (fun j : Fin n => f' j.val) = fun j : Fin n => f j.val := funext fun j => h j.1 j.2
  rw [e]
theorem at_re {Dg : va_G} {cA : Nat → ClassId} {ad : Nat → Nat} {S S' : Nat → Nat × Nat} {R R' : Nat → Nat → Option Nat} {I I' : Nat → Nat → Int32} {J J' : Nat → Nat → Int64} {D D' : Nat → Nat → UInt64} {p a : Nat} {H : Heap} (hS : S' p = S p) (hI : I' p = I p) (hJ : J' p = J p) (hD : D' p = D p) (hk : (S p).1 < 12 ∨ (20 ≤ (S p).1 ∧ (S p).1 ≤ 27))
    (hR : ∀ j, j < (bif Nat.blt (S p).1 12 then nfl (S p).1 else bif Nat.ble 25 (S p).1 then (S p).2 else 0) → R' p j = R p j) (h : va_at Dg clsv (a, cel cA ad S R I J D p) H) : va_at Dg clsv (a, cel cA ad S' R' I' J' D' p) H := by
  rcases hk with hk | hk
  · have e1 : Nat.blt (S p).1 12 = true := Nat.blt_eq.mpr hk
    rw [e1] at hR
    have e : cel cA ad S' R' I' J' D' p = cel cA ad S R I J D p := by
      unfold cel
      rw [hS, hI, e1, cond_true, cond_true]
      congr 2
      apply List.map_congr_left
      intro j hj
      rw [hR j (List.mem_range.mp hj)]
    rw [e]
    exact h
  · by_cases h25 : 25 ≤ (S p).1
    · have e1 : Nat.blt (S p).1 12 = false := by cases hb : Nat.blt (S p).1 12 with | false => rfl | true => have := Nat.blt_eq.mp hb; omega
      rw [e1, show Nat.ble 25 (S p).1 = true from Nat.ble_eq.mpr h25] at hR
      rw [cel_r rfl h25] at h
      rw [cel_r (c := (S p).1) (by rw [hS]) h25]
      have h1 : H[a]? = some (arrV (cA (S p).1) (S p).2 (fun j => va_rf ((R p j).map ad))) := h
      show H[a]? = some (arrV (cA (S p).1) (S' p).2 (fun j => va_rf ((R' p j).map ad)))
      rw [hS, h1]
      congr 1
      exact (arrV_re fun j hj => by rw [hR j hj]).symm
    · have e : cel cA ad S' R' I' J' D' p = cel cA ad S R I J D p := by
        have hz : (S p).1 = 20 ∨ (S p).1 = 21 ∨ (S p).1 = 22 ∨ (S p).1 = 23 ∨ (S p).1 = 24 := by omega
        unfold cel
        rw [hS, hI, hJ, hD]
        rcases hz with hz | hz | hz | hz | hz <;> rw [hz] <;> rfl
      rw [e]
      exact h
def I1g (M9 : Mm) (L : Nat) (xs : Nat → Int32) (p j : Nat) : Int32 := bif Nat.beq p iSCL then Int32.ofNat L else bif Nat.beq p iSCR then xs j else M9.2.2.2.1 p j
abbrev I1 : Nat → (Nat → Int32) → Nat → Nat → Int32 := I1g Me
abbrev J1 : Nat → Nat → Int64 := Me.2.2.2.2.1
abbrev D1 : Nat → Nat → UInt64 := Me.2.2.2.2.2
theorem sE_at {p : Nat} (hp : p < 337) : Me.2.1 p = S0 p ∧ ∀ j, j < (bif Nat.blt (S0 p).1 12 then nfl (S0 p).1 else bif Nat.ble 25 (S0 p).1 then (S0 p).2 else 0) → Me.2.2.1 p j = R0 p j := by
  have h := List.all_eq_true.mp sE p (List.mem_range.mpr hp)
  rw [Bool.and_eq_true] at h
  exact ⟨of_decide_eq_true h.1, fun j hj => of_decide_eq_true (List.all_eq_true.mp h.2 j (List.mem_range.mpr hj))⟩
theorem k0_at {p : Nat} (hp : p < 337) : (S0 p).1 < 12 ∨ (20 ≤ (S0 p).1 ∧ (S0 p).1 ≤ 27) := by
  have h := List.all_eq_true.mp k0_ok p (List.mem_range.mpr hp)
  simp only [Bool.or_eq_true, Bool.and_eq_true, Nat.blt_eq, Nat.ble_eq] at h
  exact h
theorem wd_re {M9 : Mm} (hn : M9.1 = 337) (hs : ∀ p, p < 337 → M9.2.1 p = S0 p ∧ ∀ j, j < (bif Nat.blt (S0 p).1 12 then nfl (S0 p).1 else bif Nat.ble 25 (S0 p).1 then (S0 p).2 else 0) → M9.2.2.1 p j = R0 p j) {Dg : va_G} {cA : Nat → ClassId} {A : Nat → Prop} {sp : Nat → Nat} {L : Nat} {xs : Nat → Int32} {s : State} {ad0 : Nat → Nat} {n0 : Nat} {hx : Prop} {ad : Nat → Nat} {H : Heap} {locs : List Loc} (hL : L ≤ 2560) (w : Wd Dg cA A sp 5000 (fun _ => 0) s ad0 n0 hx ad M9 H locs) : Wd Dg cA A sp L xs s ad0 n0 hx ad (mm (I1g M9 L xs) M9.2.2.2.2.1 M9.2.2.2.2.2) H locs := by
  obtain ⟨w1, w2, w3, w4, w5, w6, w7, w8⟩ := w
  have key : ∀ k q, (wsl cA ad (mm (I1g M9 L xs) M9.2.2.2.2.1 M9.2.2.2.2.2))[k]? = some q → k < 337 ∧ q = (ad k, cel cA ad S0 R0 (I1g M9 L xs) M9.2.2.2.2.1 M9.2.2.2.2.2 k) := by
    intro k q hk
    have hk9 : k < 337 := by
      have h := (List.getElem?_eq_some_iff.mp hk).1
      simpa [wsl, mm] using h
    have h2 := wsl_at (cA := cA) (ad := ad) (M := mm (I1g M9 L xs) M9.2.2.2.2.1 M9.2.2.2.2.2) (p := k) hk9
    rw [h2] at hk
    exact ⟨hk9, (Option.some.inj hk).symm⟩
  have old : ∀ k, k < 337 → (wsl cA ad M9)[k]? = some (ad k, cel cA ad M9.2.1 M9.2.2.1 M9.2.2.2.1 M9.2.2.2.2.1 M9.2.2.2.2.2 k) := fun k hk => wsl_at (M := M9) (by rw [hn]; exact hk)
  have hI : ∀ k, k < 337 → I1g M9 L xs k = M9.2.2.2.1 k := by
    intro k hk
    funext j
    unfold I1g
    have n1 : ∀ z, 337 ≤ z → Nat.beq k z = false := fun z hz => by
      cases hb : Nat.beq k z with
      | false => rfl
      | true => have := beq_e hb; omega
    rw [n1 iSCL (by decide), n1 iSCR (by decide)]
    rfl
  refine ⟨fun k q hk => ?_, ⟨fun i j p q hi hj e => ?_, fun k q hk => ?_⟩, w3, ⟨(by show 337 ≤ 900000; decide), fun p hp => ?_, fun p hp => k0_at hp, fun p j q _ hq => R0_ok p j q hq, rfl, fun j hj => rfl⟩, w5, by show n0 ≤ 337; rw [← hn]; exact w6, w7, w8⟩
  · obtain ⟨hk9, rfl⟩ := key k q hk
    obtain ⟨hS, hR⟩ := hs k hk9
    have h := w1 k _ (old k hk9)
    exact at_re (hS.symm) (hI k hk9) rfl rfl (by rw [hS]; exact k0_at hk9) (fun j hj => by rw [hS] at hj; exact (hR j hj).symm) h
  · obtain ⟨hi9, rfl⟩ := key i p hi
    obtain ⟨hj9, rfl⟩ := key j q hj
    exact w2.1 i j _ _ (old i hi9) (old j hj9) e
  · obtain ⟨hk9, rfl⟩ := key k q hk
    have h := w2.2 k _ (old k hk9)
    exact h
  · show S0 p = ssL L p
    rw [S0_ssp hp]
    unfold ssL
    have hb : Nat.blt 2560 L = false := by
      cases hb : Nat.blt 2560 L with
      | false => rfl
      | true => have := Nat.blt_eq.mp hb; omega
    rw [hb, Bool.and_false]
    rfl
theorem wd_real {Dg : va_G} {cA : Nat → ClassId} {A : Nat → Prop} {sp : Nat → Nat} {L : Nat} {xs : Nat → Int32} {s : State} {ad0 : Nat → Nat} {n0 : Nat} {hx : Prop} {ad : Nat → Nat} {H : Heap} {locs : List Loc} (hL : L ≤ 2560) (w : Wd Dg cA A sp 5000 (fun _ => 0) s ad0 n0 hx ad Me H locs) : Wd Dg cA A sp L xs s ad0 n0 hx ad (mm (I1 L xs) J1 D1) H locs := wd_re nE (fun _ hp => sE_at hp) hL w
