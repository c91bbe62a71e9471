/-! what the printed equations are made of -/
noncomputable def cal (μ pc : Nat) (ls st : List Value) (x : Option Ou) : Option Ou := match x with
  | some (.inl v, M') => ex (μ, pc, ls, v.toList ++ st, M')
  | some (.inr (.inl E), M') => some (.inr (.inl E), M')
  | _ => none
noncomputable def calH (μ p0 : Nat) (l0 : List Value) (pc : Nat) (ls st : List Value) (x : Option Ou) : Option Ou := match x with
  | some (.inl v, M') => ex (μ, pc, ls, v.toList ++ st, M')
  | some (.inr (.inl E), M') => (match ctc μ p0 E with
    | some h => ex (μ, h, l0, [.ref iEXC], M')
    | none => some (.inr (.inl E), M'))
  | _ => none
theorem bcg {α : Type} {g : Bool} {a b : Option α} (h : g = true → a = b) : (bif g then a else none) = (bif g then b else none) := by
  cases g with
  | true => exact h rfl
  | false => rfl
theorem inb_lt {j : Int32} {N : Nat} (h : inb j N = true) : j.toNatClampNeg < N := by
  unfold inb at h
  simp only [Bool.not_eq_true', Bool.or_eq_false_iff] at h
  exact Nat.lt_of_not_le (fun h2 => by have h3 := Nat.ble_eq_true_of_le h2; rw [h.2] at h3; cases h3)
theorem blt_t {a b : Nat} (h : a < b) : Nat.blt a b = true := Nat.ble_eq_true_of_le h
section STQ
variable {μ pc len : Nat} {fm tm : List Bool} {a b c : Nat} {k : Int32} {ls st : List Value} {n : Nat} {S : Nat → Nat × Nat} {R : Nat → Nat → Option Nat} {I : Nat → Nat → Int32} {J : Nat → Nat → Int64} {D : Nat → Nat → UInt64} {q N : Nat} {j x : Int32} {y : Int64}
theorem st_go {i : Instr} {c' : Cf} {b' : Bool} (hc : cins μ pc = some (i, len, fm, tm, a, b, c, k)) (hs : stA μ pc ls st n S R I J D i len fm tm a b c k = .inl (b', c', none)) (hx : (spc i a b c && Nat.ble 359 μ) = false := by rfl) : ex (μ, pc, ls, st, n, S, R, I, J, D) = bif b' then ex c' else none := by
  rw [ex_fix]
  have h : st1 (μ, pc, ls, st, n, S, R, I, J, D) = .inl (b', c', none) := by
    show (match cins μ pc with
      | some (i, len, fm, tm, a, b, c, k) => stX μ pc ls st n S R I J D i len fm tm a b c k
      | none => _) = _
    rw [hc]
    show stX μ pc ls st n S R I J D i len fm tm a b c k = _
    unfold stX
    rw [hx]
    exact hs
  rw [h]
  rfl
theorem st_iald (hc : cins μ pc = some (.iaload, len, fm, tm, a, b, c, k)) (hS : S q = (20, N)) (hq : q < n) : ex (μ, pc, ls, .int j :: .ref q :: st, n, S, R, I, J, D) = bif inb j N then ex (μ, pc + len, mk fm ls, .int (I q j.toNatClampNeg) :: st, n, S, R, I, J, D) else none :=
  st_go hc (by simp [stA, f2, fI, fR, hS, gd, blt_t hq])
theorem st_iast (hc : cins μ pc = some (.iastore, len, fm, tm, a, b, c, k)) (hS : S q = (20, N)) (hq : q < n) : ex (μ, pc, ls, .int x :: .int j :: .ref q :: st, n, S, R, I, J, D) = bif inb j N then ex (μ, pc + len, mk fm ls, st, n, S, R, ups I q j.toNatClampNeg x, J, D) else none :=
  st_go hc (by simp [stA, f3, fI, fR, hS, gd, blt_t hq])
theorem st_lald (hc : cins μ pc = some (.laload, len, fm, tm, a, b, c, k)) (hS : S q = (23, N)) (hq : q < n) : ex (μ, pc, ls, .int j :: .ref q :: st, n, S, R, I, J, D) = bif inb j N then ex (μ, pc + len, mk fm ls, .long (J q j.toNatClampNeg) :: st, n, S, R, I, J, D) else none :=
  st_go hc (by simp [stA, f2, fI, fR, hS, gd, blt_t hq])
theorem st_last (hc : cins μ pc = some (.lastore, len, fm, tm, a, b, c, k)) (hS : S q = (23, N)) (hq : q < n) : ex (μ, pc, ls, .long y :: .int j :: .ref q :: st, n, S, R, I, J, D) = bif inb j N then ex (μ, pc + len, mk fm ls, st, n, S, R, I, upsL J q j.toNatClampNeg y, D) else none :=
  st_go hc (by simp [stA, f3, fI, fL, fR, hS, gd, blt_t hq])
theorem st_alen {K : Nat} (hc : cins μ pc = some (.arraylength, len, fm, tm, a, b, c, k)) (hS : S q = (K, N)) (hK : 20 ≤ K ∧ K ≤ 30) (hq : q < n) : ex (μ, pc, ls, .ref q :: st, n, S, R, I, J, D) = ex (μ, pc + len, mk fm ls, .int (Int32.ofNat N) :: st, n, S, R, I, J, D) := by
  have h : (Nat.ble 20 K && Nat.ble K 30) = true := by rw [Nat.ble_eq_true_of_le hK.1, Nat.ble_eq_true_of_le hK.2]; rfl
  exact st_go (b' := true) hc (by simp only [stA, f1, fR, hS, gd, h, blt_t hq, cond_true])
theorem st_aald {K B : Nat} (hc : cins μ pc = some (.aaload, len, fm, tm, a, b, c, k)) (hS : S q = (K, N)) (hK : (Nat.beq K 25 || (Nat.beq K 26 || Nat.beq K 27)) = true) (hq : q < n) (hR : ∀ i, i < N → R q i = some (B + i)) : ex (μ, pc, ls, .int j :: .ref q :: st, n, S, R, I, J, D) = bif inb j N then ex (μ, pc + len, mk fm ls, .ref (B + j.toNatClampNeg) :: st, n, S, R, I, J, D) else none := by
  rw [st_go (b' := inb j N) hc (by simp only [stA, f2, fI, fR, hS, gd, hK, blt_t hq, cond_true, Bool.true_and, Bool.true_or]; rfl)]
  refine bcg fun h => ?_
  rw [hR _ (inb_lt h)]
  rfl
end STQ
theorem rS_246 {j : Int32} (h : inb j 17 = true) : S0 (247 + j.toNatClampNeg) = (20, 17) := (by decide +kernel : ∀ i, i < 17 → S0 (247 + i) = (20, 17)) _ (inb_lt h)
theorem rS_274 {j : Int32} (h : inb j 17 = true) : S0 (275 + j.toNatClampNeg) = (20, 17) := (by decide +kernel : ∀ i, i < 17 → S0 (275 + i) = (20, 17)) _ (inb_lt h)
theorem rS_292 {j : Int32} (h : inb j 17 = true) : S0 (293 + j.toNatClampNeg) = (23, 17) := (by decide +kernel : ∀ i, i < 17 → S0 (293 + i) = (23, 17)) _ (inb_lt h)
theorem rL_246 {j : Int32} (h : inb j 17 = true) : 247 + j.toNatClampNeg < 337 := by have := inb_lt h; omega
theorem rL_274 {j : Int32} (h : inb j 17 = true) : 275 + j.toNatClampNeg < 337 := by have := inb_lt h; omega
theorem rL_292 {j : Int32} (h : inb j 17 = true) : 293 + j.toNatClampNeg < 337 := by have := inb_lt h; omega
theorem rR_246 : ∀ i, i < 17 → R0 246 i = some (247 + i) := by decide +kernel
theorem rR_274 : ∀ i, i < 17 → R0 274 i = some (275 + i) := by decide +kernel
theorem rR_292 : ∀ i, i < 17 → R0 292 i = some (293 + i) := by decide +kernel
theorem rl_246 : 246 < 337 := by decide
theorem rl_274 : 274 < 337 := by decide
theorem rl_292 : 292 < 337 := by decide
theorem rs_246 : S0 246 = (26, 17) := rfl
theorem rs_274 : S0 274 = (26, 17) := rfl
theorem rs_292 : S0 292 = (27, 17) := rfl
