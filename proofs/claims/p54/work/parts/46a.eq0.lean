/-! the law's own memory, in its three layouts; what its equations are made of -/
abbrev SA : Nat → Nat × Nat := S54
/-- with the rows of 'above' -/
def SB (p : Nat) : Nat × Nat := bif Nat.beq p 329 then (28, 17) else bif Nat.blt 329 p && Nat.ble p 346 then (21, 17) else S54 p
def RB : Nat → Nat → Option Nat := fun q => bif Nat.beq q 329 then (fun j => if j < 17 then some (329 + 1 + j) else none) else bif Nat.blt 329 q && Nat.ble q 346 then (fun _ => none) else R54 q
def iB (I : Nat → Nat → Int32) : Nat → Nat → Int32 := fun q => bif Nat.blt 329 q && Nat.ble q 346 then (fun _ => 0) else I q
def jB (J : Nat → Nat → Int64) : Nat → Nat → Int64 := fun q => bif Nat.blt 329 q && Nat.ble q 346 then (fun _ => 0) else J q
/-- with 'place' -/
def SC : Nat → Nat × Nat := upR SB 347 (20, 17)
def RC : Nat → Nat → Option Nat := upR RB 347 (fun _ => none)
def iC (I : Nat → Nat → Int32) : Nat → Nat → Int32 := upR I 347 (fun _ => 0)
def jC (J : Nat → Nat → Int64) : Nat → Nat → Int64 := upR J 347 (fun _ => 0)
def dC (D : Nat → Nat → UInt64) : Nat → Nat → UInt64 := upR D 347 (fun _ => 0)
abbrev mZ (I : Nat → Nat → Int32) (J : Nat → Nat → Int64) (D : Nat → Nat → UInt64) : Mm := (329, S54, R53, I, J, D)
abbrev mA (I : Nat → Nat → Int32) (J : Nat → Nat → Int64) (D : Nat → Nat → UInt64) : Mm := (329, S54, R54, I, J, D)
abbrev mB (I : Nat → Nat → Int32) (J : Nat → Nat → Int64) (D : Nat → Nat → UInt64) : Mm := (347, SB, RB, I, J, D)
abbrev mC (I : Nat → Nat → Int32) (J : Nat → Nat → Int64) (D : Nat → Nat → UInt64) : Mm := (348, SC, RC, I, J, D)
/-- behind a call -/
noncomputable def calK (μ pc : Nat) (ls st : List Value) (M : Mm) (x : Option Ou) : Option Ou := match x with
  | some (.inl v, M') => ex (μ, pc, ls, v.toList ++ st, cOut μ M M')
  | some (.inr (.inl E), M') => some (.inr (.inl E), cOut μ M M')
  | _ => none
noncomputable def calM (μ p0 : Nat) (l0 : List Value) (pc : Nat) (ls st : List Value) (M : Mm) (x : Option Ou) : Option Ou := match x with
  | some (.inl v, M') => ex (μ, pc, ls, v.toList ++ st, cOut μ M M')
  | some (.inr (.inl E), M') => (match ctc μ p0 E with
    | some h => ex (μ, h, l0, [.ref iEXC], cOut μ M M')
    | none => some (.inr (.inl E), cOut μ M M'))
  | _ => none
theorem ex_cb {c : Cf} {b : Bool} {x : Ac} (h : st1 c = bif b then x else hl) : ex c = bif b then acK ex ex c x else none := by
  rw [ex_fix, h]
  cases b <;> rfl
theorem ex_cs {c : Cf} {b : Bool} {x : Ac} (h : st1 c = bif b && true then x else hl) : ex c = bif b then acK ex ex c x else none := by
  rw [Bool.and_true] at h
  exact ex_cb h
section STQ
variable {μ pc len : Nat} {fm tm : List Bool} {a b c : Nat} {k : Int32} {ls st : List Value} {n : Nat} {S : Nat → Nat × Nat} {R : Nat → Nat → Option Nat} {I : Nat → Nat → Int32} {J : Nat → Nat → Int64} {D : Nat → Nat → UInt64} {q N : Nat} {j x : Int32} {y : Int64}
theorem st_bald (hc : cins μ pc = some (.baload, len, fm, tm, a, b, c, k)) (hS : S q = (21, N)) (hq : q < n) (hμ : Nat.ble 359 μ = false := by rfl) : ex (μ, pc, ls, .int j :: .ref q :: st, n, S, R, I, J, D) = bif inb j N then ex (μ, pc + len, mk fm ls, .int (I q j.toNatClampNeg) :: st, n, S, R, I, J, D) else none :=
  st_go hc (by simp [stA, f2, fI, fR, hS, gd, blt_t hq]) (by rw [hμ, Bool.and_false])
theorem st_bast (hc : cins μ pc = some (.bastore, len, fm, tm, a, b, c, k)) (hS : S q = (21, N)) (hq : q < n) (hμ : Nat.ble 359 μ = false := by rfl) : ex (μ, pc, ls, .int x :: .int j :: .ref q :: st, n, S, R, I, J, D) = bif inb j N then ex (μ, pc + len, mk fm ls, st, n, S, R, ups I q j.toNatClampNeg (vp_nar .boolean x), J, D) else none :=
  st_go hc (by simp [stA, f3, fI, fR, hS, gd, blt_t hq]) (by rw [hμ, Bool.and_false])
theorem st_aaldz {K B : Nat} (hc : cins μ pc = some (.aaload, len, fm, tm, a, b, c, k)) (hS : S q = (K, N)) (hK : Nat.beq K 28 = true) (hq : q < n) (hR : ∀ i, i < N → R q i = some (B + i)) : ex (μ, pc, ls, .int j :: .ref q :: st, n, S, R, I, J, D) = bif inb j N then ex (μ, pc + len, mk fm ls, .ref (B + j.toNatClampNeg) :: st, n, S, R, I, J, D) else none := by
  have e : K = 28 := beq_e hK
  subst e
  rw [st_go (b' := inb j N) hc (by simp only [stA, f2, fI, fR, hS, gd, blt_t hq, Bool.true_and]; rfl)]
  refine bcg fun h => ?_
  rw [hR _ (inb_lt h)]
  rfl
end STQ
theorem rsA_320 : S54 320 = (26, 2) := rfl
theorem rlA_320 : 320 < 329 := by decide
theorem rRA_320 : ∀ k, k < 2 → R54 320 k = some (321 + k) := by decide
theorem rSA_320 {j : Int32} (h : inb j 2 = true) : S54 (321 + j.toNatClampNeg) = (20, 5) := (show ∀ k, k < 2 → S54 (321 + k) = (20, 5) from by decide) _ (inb_lt h)
theorem rLA_320 {j : Int32} (h : inb j 2 = true) : 321 + j.toNatClampNeg < 329 := by have := inb_lt h; omega
theorem rsA_323 : S54 323 = (26, 2) := rfl
theorem rlA_323 : 323 < 329 := by decide
theorem rRA_323 : ∀ k, k < 2 → R54 323 k = some (324 + k) := by decide
theorem rSA_323 {j : Int32} (h : inb j 2 = true) : S54 (324 + j.toNatClampNeg) = (20, 5) := (show ∀ k, k < 2 → S54 (324 + k) = (20, 5) from by decide) _ (inb_lt h)
theorem rLA_323 {j : Int32} (h : inb j 2 = true) : 324 + j.toNatClampNeg < 329 := by have := inb_lt h; omega
theorem rsB_320 : SB 320 = (26, 2) := rfl
theorem rlB_320 : 320 < 347 := by decide
theorem rRB_320 : ∀ k, k < 2 → RB 320 k = some (321 + k) := by decide
theorem rSB_320 {j : Int32} (h : inb j 2 = true) : SB (321 + j.toNatClampNeg) = (20, 5) := (show ∀ k, k < 2 → SB (321 + k) = (20, 5) from by decide) _ (inb_lt h)
theorem rLB_320 {j : Int32} (h : inb j 2 = true) : 321 + j.toNatClampNeg < 347 := by have := inb_lt h; omega
theorem rsB_323 : SB 323 = (26, 2) := rfl
theorem rlB_323 : 323 < 347 := by decide
theorem rRB_323 : ∀ k, k < 2 → RB 323 k = some (324 + k) := by decide
theorem rSB_323 {j : Int32} (h : inb j 2 = true) : SB (324 + j.toNatClampNeg) = (20, 5) := (show ∀ k, k < 2 → SB (324 + k) = (20, 5) from by decide) _ (inb_lt h)
theorem rLB_323 {j : Int32} (h : inb j 2 = true) : 324 + j.toNatClampNeg < 347 := by have := inb_lt h; omega
theorem rsB_329 : SB 329 = (28, 17) := rfl
theorem rlB_329 : 329 < 347 := by decide
theorem rRB_329 : ∀ k, k < 17 → RB 329 k = some (330 + k) := by decide
theorem rSB_329 {j : Int32} (h : inb j 17 = true) : SB (330 + j.toNatClampNeg) = (21, 17) := (show ∀ k, k < 17 → SB (330 + k) = (21, 17) from by decide) _ (inb_lt h)
theorem rLB_329 {j : Int32} (h : inb j 17 = true) : 330 + j.toNatClampNeg < 347 := by have := inb_lt h; omega
theorem rsC_320 : SC 320 = (26, 2) := rfl
theorem rlC_320 : 320 < 348 := by decide
theorem rRC_320 : ∀ k, k < 2 → RC 320 k = some (321 + k) := by decide
theorem rSC_320 {j : Int32} (h : inb j 2 = true) : SC (321 + j.toNatClampNeg) = (20, 5) := (show ∀ k, k < 2 → SC (321 + k) = (20, 5) from by decide) _ (inb_lt h)
theorem rLC_320 {j : Int32} (h : inb j 2 = true) : 321 + j.toNatClampNeg < 348 := by have := inb_lt h; omega
theorem rsC_323 : SC 323 = (26, 2) := rfl
theorem rlC_323 : 323 < 348 := by decide
theorem rRC_323 : ∀ k, k < 2 → RC 323 k = some (324 + k) := by decide
theorem rSC_323 {j : Int32} (h : inb j 2 = true) : SC (324 + j.toNatClampNeg) = (20, 5) := (show ∀ k, k < 2 → SC (324 + k) = (20, 5) from by decide) _ (inb_lt h)
theorem rLC_323 {j : Int32} (h : inb j 2 = true) : 324 + j.toNatClampNeg < 348 := by have := inb_lt h; omega
theorem rsC_329 : SC 329 = (28, 17) := rfl
theorem rlC_329 : 329 < 348 := by decide
theorem rRC_329 : ∀ k, k < 17 → RC 329 k = some (330 + k) := by decide
theorem rSC_329 {j : Int32} (h : inb j 17 = true) : SC (330 + j.toNatClampNeg) = (21, 17) := (show ∀ k, k < 17 → SC (330 + k) = (21, 17) from by decide) _ (inb_lt h)
theorem rLC_329 {j : Int32} (h : inb j 17 = true) : 330 + j.toNatClampNeg < 348 := by have := inb_lt h; omega
