/-! the tables hold of the claim: every entry decodes as it says, every link stands among the tables' words -/
def inWb (i : Nat) (w : Jvm.Cond) : Bool := decide (lw_tbl[i]? = some w) && goodWord w
def WALL : List Jvm.Cond := lw_tbl.filter goodWord
theorem inWb_mem {i : Nat} {w : Jvm.Cond} (h : inWb i w = true) : w ∈ WALL := by
  simp only [inWb, Bool.and_eq_true, decide_eq_true_eq] at h
  exact List.mem_filter.mpr ⟨List.mem_of_getElem? h.1, h.2⟩
def wF (e : Nat × Nat × Nat × Nat × Nat) : Jvm.Cond := .fieldLink (onm e.1) e.2.1 ((clq e.2.2.1).2.1 e.2.2.2.1).1 ((clq e.2.2.1).2.1 e.2.2.2.1).2.1 ((clq e.2.2.1).2.1 e.2.2.2.1).2.2.1
theorem okF : pFl.all (fun e => inWb e.2.2.2.2 (wF e) && decide (e.2.2.2.1 < nfl e.2.2.1)) = true := by decide +kernel
def wFs (e : Nat × Nat × Nat × Nat) : Jvm.Cond := .fieldLink (onm e.1) e.2.1 "java/lang/String" (bif Nat.beq e.2.2.1 1 then "value" else "coder") (bif Nat.beq e.2.2.1 1 then "[B" else "B")
theorem okFs : pFs.all (fun e => inWb e.2.2.2 (wFs e)) = true := by decide +kernel
def stn (p : Nat) : String × String × String := bif Nat.beq p 1000011 then ("GlacierBook$Laying", "TAKES_0", "[I") else bif Nat.beq p 1000012 then ("GlacierBook$Laying", "TAKES_1", "[I") else bif Nat.beq p 1000013 then ("GlacierBook$Text", "NUMBERS", "[I") else bif Nat.beq p 1000014 then ("java/lang/Integer", "DigitOnes", "[B") else ("java/lang/String", "COMPACT_STRINGS", "Z")
def wSt (e : Nat × Nat × Nat × Nat) : Jvm.Cond := .fieldLink (onm e.1) e.2.1 (stn e.2.2.1).1 (stn e.2.2.1).2.1 (stn e.2.2.1).2.2
theorem okSt : pSt.all (fun e => inWb e.2.2.2 (wSt e)) = true := by decide +kernel
def wM (e : Nat × Nat × Nat × Nat) : Jvm.Cond := .methodLink (onm e.1) e.2.1 (nm e.2.2.1)
theorem okM : pM.all (fun e => inWb e.2.2.2 (wM e)) = true := by decide +kernel
def spn (k : Nat) : MethodName := bif Nat.beq k 1000 then arraycopyName else bif Nat.beq k 1003 then objectInit else bif Nat.beq k 1005 then Lib.Math.min.name else bif Nat.beq k 1006 then Lib.Math.max.name else bif Nat.beq k 1007 then Lib.Math.abs.name else bif Nat.beq k 1008 then yJ9_floorDiv_7cf53 else yJ0_checkIndex_df160
theorem okXs : pXs.all (fun e => inWb e.2.1 (.static (spn e.1)) && inWb pXm (.initialized "java/lang/Math")) = true := by decide +kernel
theorem okXa : (inWb pXa.1 (.static arraycopyName) && (inWb pXa.2.1 (.native arraycopyName) && inWb pXa.2.2.1 (.initialized "java/lang/System"))) = true := by decide +kernel
def wX (e : Nat × Nat × Nat × Nat) : Jvm.Cond := .methodLink (onm e.1) e.2.1 (spn e.2.2.1)
theorem okX : pX.all (fun e => inWb e.2.2.2 (wX e)) = true := by decide +kernel
def wC (e : Nat × Nat × Int32 × Nat) : Jvm.Cond := .constant (onm e.1) e.2.1 e.2.2.1
theorem okC : pC.all (fun e => inWb e.2.2.2 (wC e)) = true := by decide +kernel
def wLc (e : Nat × Nat × Nat × Nat) : Jvm.Cond := .constantLong (onm e.1) e.2.1 (lcs e.2.2.1)
theorem okL : pL.all (fun e => inWb e.2.2.2 (wLc e)) = true := by decide +kernel
def wK (e : Nat × Nat × Nat × Nat) : Jvm.Cond := .classLink (onm e.1) e.2.1 (clq e.2.2.1).1
theorem okK : pK.all (fun e => inWb e.2.2.2 (wK e)) = true := by decide +kernel
def wE (e : Nat × Nat × Nat × Nat) : Jvm.Cond := .classLink (onm e.1) e.2.1 (exn e.2.2.1)
theorem okE : pE.all (fun e => inWb e.2.2.2 (wE e)) = true := by decide +kernel
def wA (e : Nat × Nat) : Jvm.Cond := .instantiable (clq e.1).1 (nfl e.1)
theorem okA : pA.all (fun e => inWb e.2 (wA e)) = true := by decide +kernel
theorem okU : (List.range 15).all (fun c => (u_ws (clq c).1 (clq c).2.1 (clq c).2.2).all (fun w => decide (w ∈ lw_tbl) && goodWord w)) = true := by decide +kernel
/-- a method's own words -/
def okW (μ : Nat) : Bool := inWb (wix μ).2.2.2.2 (.initialized (nm μ).cls) && (inWb (wix μ).2.1 (.static (nm μ)) || (inWb (wix μ).2.2.1 (.instanceMethod (nm μ)) && (inWb (wix μ).2.2.2.1 (.selects (nm μ).cls (nm μ) (nm μ)) || (decide ((nm μ).name = "<init>") || Nat.ble 359 μ))))
def okN (μ : Nat) : Bool := decide ((nm μ).cls = onm (ow μ) ∧ (nm μ).cls ≠ "java/lang/invoke/MethodHandle" ∧ (nm μ).cls ≠ "java/lang/invoke/VarHandle" ∧ plainName (nm μ).cls = true)
def okP (μ : Nat) : Bool := decide ((parseMethodDescriptor (nm μ).desc).map (fun d => d.parameters.length) = some (nar μ))
/-- the methods that the claim has code of, the law itself too -/
def rl2 (μ : Nat) : Bool := bif Nat.blt μ 381 then (bif Nat.ble μ 109 then (bif Nat.ble μ 69 then (bif Nat.ble μ 50 then (bif Nat.ble μ 16 then (true) else (bif Nat.ble μ 17 then (false) else (true))) else (bif Nat.ble μ 52 then (false) else (bif Nat.ble μ 68 then (true) else (false)))) else (bif Nat.ble μ 98 then (bif Nat.ble μ 73 then (true) else (bif Nat.ble μ 74 then (false) else (true))) else (bif Nat.ble μ 101 then (bif Nat.ble μ 99 then (false) else (true)) else (bif Nat.ble μ 102 then (false) else (true))))) else (bif Nat.ble μ 123 then (bif Nat.ble μ 112 then (bif Nat.ble μ 110 then (false) else (bif Nat.ble μ 111 then (true) else (false))) else (bif Nat.ble μ 119 then (bif Nat.ble μ 118 then (true) else (false)) else (bif Nat.ble μ 122 then (true) else (false)))) else (bif Nat.ble μ 136 then (bif Nat.ble μ 124 then (true) else (bif Nat.ble μ 125 then (false) else (true))) else (bif Nat.ble μ 153 then (bif Nat.ble μ 139 then (false) else (true)) else (bif Nat.ble μ 309 then (false) else (true)))))) else false
theorem rl2_lt {μ : Nat} (h : rl2 μ = true) : μ < 381 := by
  refine Nat.lt_of_not_le fun q => ?_
  have : Nat.blt μ 381 = false := by
    cases hb : Nat.blt μ 381 with
    | false => rfl
    | true => have := Nat.blt_eq.mp hb; omega
  unfold rl2 at h
  rw [this] at h
  cases h
theorem rlall {P : Nat → Bool} (h : (List.range 381).all (fun μ => !(rl2 μ) || P μ) = true) {μ : Nat} (hμ : rl2 μ = true) : P μ = true := by
  have := List.all_eq_true.mp h μ (List.mem_range.mpr (rl2_lt hμ))
  rw [hμ, Bool.not_true, Bool.false_or] at this
  exact this
theorem nlaw {μ : Nat} {P : Prop} {b : Bool} (h : (Nat.beq μ 358 || b) = true) (hb : b = true → P) : μ = 358 ∨ P := by
  rw [Bool.or_eq_true] at h
  exact h.imp Nat.eq_of_beq_eq_true hb
theorem okW_0 : (List.range 20).all (fun j => !(rl2 (0 + j)) || (Nat.beq (0 + j) 358 || okW (0 + j))) = true := by decide +kernel
theorem okW_20 : (List.range 20).all (fun j => !(rl2 (20 + j)) || (Nat.beq (20 + j) 358 || okW (20 + j))) = true := by decide +kernel
theorem okW_40 : (List.range 20).all (fun j => !(rl2 (40 + j)) || (Nat.beq (40 + j) 358 || okW (40 + j))) = true := by decide +kernel
theorem okW_60 : (List.range 20).all (fun j => !(rl2 (60 + j)) || (Nat.beq (60 + j) 358 || okW (60 + j))) = true := by decide +kernel
theorem okW_80 : (List.range 20).all (fun j => !(rl2 (80 + j)) || (Nat.beq (80 + j) 358 || okW (80 + j))) = true := by decide +kernel
theorem okW_100 : (List.range 20).all (fun j => !(rl2 (100 + j)) || (Nat.beq (100 + j) 358 || okW (100 + j))) = true := by decide +kernel
theorem okW_120 : (List.range 20).all (fun j => !(rl2 (120 + j)) || (Nat.beq (120 + j) 358 || okW (120 + j))) = true := by decide +kernel
theorem okW_140 : (List.range 20).all (fun j => !(rl2 (140 + j)) || (Nat.beq (140 + j) 358 || okW (140 + j))) = true := by decide +kernel
theorem okW_160 : (List.range 20).all (fun j => !(rl2 (160 + j)) || (Nat.beq (160 + j) 358 || okW (160 + j))) = true := by decide +kernel
theorem okW_180 : (List.range 20).all (fun j => !(rl2 (180 + j)) || (Nat.beq (180 + j) 358 || okW (180 + j))) = true := by decide +kernel
theorem okW_200 : (List.range 20).all (fun j => !(rl2 (200 + j)) || (Nat.beq (200 + j) 358 || okW (200 + j))) = true := by decide +kernel
theorem okW_220 : (List.range 20).all (fun j => !(rl2 (220 + j)) || (Nat.beq (220 + j) 358 || okW (220 + j))) = true := by decide +kernel
theorem okW_240 : (List.range 20).all (fun j => !(rl2 (240 + j)) || (Nat.beq (240 + j) 358 || okW (240 + j))) = true := by decide +kernel
theorem okW_260 : (List.range 20).all (fun j => !(rl2 (260 + j)) || (Nat.beq (260 + j) 358 || okW (260 + j))) = true := by decide +kernel
theorem okW_280 : (List.range 20).all (fun j => !(rl2 (280 + j)) || (Nat.beq (280 + j) 358 || okW (280 + j))) = true := by decide +kernel
theorem okW_300 : (List.range 20).all (fun j => !(rl2 (300 + j)) || (Nat.beq (300 + j) 358 || okW (300 + j))) = true := by decide +kernel
theorem okW_320 : (List.range 20).all (fun j => !(rl2 (320 + j)) || (Nat.beq (320 + j) 358 || okW (320 + j))) = true := by decide +kernel
theorem okW_340 : (List.range 20).all (fun j => !(rl2 (340 + j)) || (Nat.beq (340 + j) 358 || okW (340 + j))) = true := by decide +kernel
theorem okW_360 : (List.range 20).all (fun j => !(rl2 (360 + j)) || (Nat.beq (360 + j) 358 || okW (360 + j))) = true := by decide +kernel
theorem okW_380 : (List.range 1).all (fun j => !(rl2 (380 + j)) || (Nat.beq (380 + j) 358 || okW (380 + j))) = true := by decide +kernel
theorem okW_all : ∀ μ, rl2 μ = true → μ = 358 ∨ okW μ = true := by
  intro μ hμ
  have hl := rl2_lt hμ
  have key : ∀ (k c : Nat), (List.range c).all (fun j => !(rl2 (k + j)) || (Nat.beq (k + j) 358 || okW (k + j))) = true → k ≤ μ → μ < k + c → μ = 358 ∨ okW μ = true := by
    intro k c hh h1 h2
    have h3 := List.all_eq_true.mp hh (μ - k) (List.mem_range.mpr (by omega))
    rw [show k + (μ - k) = μ by omega, hμ, Bool.not_true, Bool.false_or] at h3
    exact nlaw h3 id
  rcases Nat.lt_or_ge μ 20 with q20 | q20
  · exact key 0 20 okW_0 (by omega) (by omega)
  rcases Nat.lt_or_ge μ 40 with q40 | q40
  · exact key 20 20 okW_20 (by omega) (by omega)
  rcases Nat.lt_or_ge μ 60 with q60 | q60
  · exact key 40 20 okW_40 (by omega) (by omega)
  rcases Nat.lt_or_ge μ 80 with q80 | q80
  · exact key 60 20 okW_60 (by omega) (by omega)
  rcases Nat.lt_or_ge μ 100 with q100 | q100
  · exact key 80 20 okW_80 (by omega) (by omega)
  rcases Nat.lt_or_ge μ 120 with q120 | q120
  · exact key 100 20 okW_100 (by omega) (by omega)
  rcases Nat.lt_or_ge μ 140 with q140 | q140
  · exact key 120 20 okW_120 (by omega) (by omega)
  rcases Nat.lt_or_ge μ 160 with q160 | q160
  · exact key 140 20 okW_140 (by omega) (by omega)
  rcases Nat.lt_or_ge μ 180 with q180 | q180
  · exact key 160 20 okW_160 (by omega) (by omega)
  rcases Nat.lt_or_ge μ 200 with q200 | q200
  · exact key 180 20 okW_180 (by omega) (by omega)
  rcases Nat.lt_or_ge μ 220 with q220 | q220
  · exact key 200 20 okW_200 (by omega) (by omega)
  rcases Nat.lt_or_ge μ 240 with q240 | q240
  · exact key 220 20 okW_220 (by omega) (by omega)
  rcases Nat.lt_or_ge μ 260 with q260 | q260
  · exact key 240 20 okW_240 (by omega) (by omega)
  rcases Nat.lt_or_ge μ 280 with q280 | q280
  · exact key 260 20 okW_260 (by omega) (by omega)
  rcases Nat.lt_or_ge μ 300 with q300 | q300
  · exact key 280 20 okW_280 (by omega) (by omega)
  rcases Nat.lt_or_ge μ 320 with q320 | q320
  · exact key 300 20 okW_300 (by omega) (by omega)
  rcases Nat.lt_or_ge μ 340 with q340 | q340
  · exact key 320 20 okW_320 (by omega) (by omega)
  rcases Nat.lt_or_ge μ 360 with q360 | q360
  · exact key 340 20 okW_340 (by omega) (by omega)
  rcases Nat.lt_or_ge μ 380 with q380 | q380
  · exact key 360 20 okW_360 (by omega) (by omega)
  exact key 380 1 okW_380 (by omega) (by omega)
theorem okN_0 : (List.range 20).all (fun j => !(rl2 (0 + j)) || (Nat.beq (0 + j) 358 || okN (0 + j))) = true := by decide +kernel
theorem okN_20 : (List.range 20).all (fun j => !(rl2 (20 + j)) || (Nat.beq (20 + j) 358 || okN (20 + j))) = true := by decide +kernel
theorem okN_40 : (List.range 20).all (fun j => !(rl2 (40 + j)) || (Nat.beq (40 + j) 358 || okN (40 + j))) = true := by decide +kernel
theorem okN_60 : (List.range 20).all (fun j => !(rl2 (60 + j)) || (Nat.beq (60 + j) 358 || okN (60 + j))) = true := by decide +kernel
theorem okN_80 : (List.range 20).all (fun j => !(rl2 (80 + j)) || (Nat.beq (80 + j) 358 || okN (80 + j))) = true := by decide +kernel
theorem okN_100 : (List.range 20).all (fun j => !(rl2 (100 + j)) || (Nat.beq (100 + j) 358 || okN (100 + j))) = true := by decide +kernel
theorem okN_120 : (List.range 20).all (fun j => !(rl2 (120 + j)) || (Nat.beq (120 + j) 358 || okN (120 + j))) = true := by decide +kernel
theorem okN_140 : (List.range 20).all (fun j => !(rl2 (140 + j)) || (Nat.beq (140 + j) 358 || okN (140 + j))) = true := by decide +kernel
theorem okN_160 : (List.range 20).all (fun j => !(rl2 (160 + j)) || (Nat.beq (160 + j) 358 || okN (160 + j))) = true := by decide +kernel
theorem okN_180 : (List.range 20).all (fun j => !(rl2 (180 + j)) || (Nat.beq (180 + j) 358 || okN (180 + j))) = true := by decide +kernel
theorem okN_200 : (List.range 20).all (fun j => !(rl2 (200 + j)) || (Nat.beq (200 + j) 358 || okN (200 + j))) = true := by decide +kernel
theorem okN_220 : (List.range 20).all (fun j => !(rl2 (220 + j)) || (Nat.beq (220 + j) 358 || okN (220 + j))) = true := by decide +kernel
theorem okN_240 : (List.range 20).all (fun j => !(rl2 (240 + j)) || (Nat.beq (240 + j) 358 || okN (240 + j))) = true := by decide +kernel
theorem okN_260 : (List.range 20).all (fun j => !(rl2 (260 + j)) || (Nat.beq (260 + j) 358 || okN (260 + j))) = true := by decide +kernel
theorem okN_280 : (List.range 20).all (fun j => !(rl2 (280 + j)) || (Nat.beq (280 + j) 358 || okN (280 + j))) = true := by decide +kernel
theorem okN_300 : (List.range 20).all (fun j => !(rl2 (300 + j)) || (Nat.beq (300 + j) 358 || okN (300 + j))) = true := by decide +kernel
theorem okN_320 : (List.range 20).all (fun j => !(rl2 (320 + j)) || (Nat.beq (320 + j) 358 || okN (320 + j))) = true := by decide +kernel
theorem okN_340 : (List.range 20).all (fun j => !(rl2 (340 + j)) || (Nat.beq (340 + j) 358 || okN (340 + j))) = true := by decide +kernel
theorem okN_360 : (List.range 20).all (fun j => !(rl2 (360 + j)) || (Nat.beq (360 + j) 358 || okN (360 + j))) = true := by decide +kernel
theorem okN_380 : (List.range 1).all (fun j => !(rl2 (380 + j)) || (Nat.beq (380 + j) 358 || okN (380 + j))) = true := by decide +kernel
theorem okN_all : ∀ μ, rl2 μ = true → μ = 358 ∨ okN μ = true := by
  intro μ hμ
  have hl := rl2_lt hμ
  have key : ∀ (k c : Nat), (List.range c).all (fun j => !(rl2 (k + j)) || (Nat.beq (k + j) 358 || okN (k + j))) = true → k ≤ μ → μ < k + c → μ = 358 ∨ okN μ = true := by
    intro k c hh h1 h2
    have h3 := List.all_eq_true.mp hh (μ - k) (List.mem_range.mpr (by omega))
    rw [show k + (μ - k) = μ by omega, hμ, Bool.not_true, Bool.false_or] at h3
    exact nlaw h3 id
  rcases Nat.lt_or_ge μ 20 with q20 | q20
  · exact key 0 20 okN_0 (by omega) (by omega)
  rcases Nat.lt_or_ge μ 40 with q40 | q40
  · exact key 20 20 okN_20 (by omega) (by omega)
  rcases Nat.lt_or_ge μ 60 with q60 | q60
  · exact key 40 20 okN_40 (by omega) (by omega)
  rcases Nat.lt_or_ge μ 80 with q80 | q80
  · exact key 60 20 okN_60 (by omega) (by omega)
  rcases Nat.lt_or_ge μ 100 with q100 | q100
  · exact key 80 20 okN_80 (by omega) (by omega)
  rcases Nat.lt_or_ge μ 120 with q120 | q120
  · exact key 100 20 okN_100 (by omega) (by omega)
  rcases Nat.lt_or_ge μ 140 with q140 | q140
  · exact key 120 20 okN_120 (by omega) (by omega)
  rcases Nat.lt_or_ge μ 160 with q160 | q160
  · exact key 140 20 okN_140 (by omega) (by omega)
  rcases Nat.lt_or_ge μ 180 with q180 | q180
  · exact key 160 20 okN_160 (by omega) (by omega)
  rcases Nat.lt_or_ge μ 200 with q200 | q200
  · exact key 180 20 okN_180 (by omega) (by omega)
  rcases Nat.lt_or_ge μ 220 with q220 | q220
  · exact key 200 20 okN_200 (by omega) (by omega)
  rcases Nat.lt_or_ge μ 240 with q240 | q240
  · exact key 220 20 okN_220 (by omega) (by omega)
  rcases Nat.lt_or_ge μ 260 with q260 | q260
  · exact key 240 20 okN_240 (by omega) (by omega)
  rcases Nat.lt_or_ge μ 280 with q280 | q280
  · exact key 260 20 okN_260 (by omega) (by omega)
  rcases Nat.lt_or_ge μ 300 with q300 | q300
  · exact key 280 20 okN_280 (by omega) (by omega)
  rcases Nat.lt_or_ge μ 320 with q320 | q320
  · exact key 300 20 okN_300 (by omega) (by omega)
  rcases Nat.lt_or_ge μ 340 with q340 | q340
  · exact key 320 20 okN_320 (by omega) (by omega)
  rcases Nat.lt_or_ge μ 360 with q360 | q360
  · exact key 340 20 okN_340 (by omega) (by omega)
  rcases Nat.lt_or_ge μ 380 with q380 | q380
  · exact key 360 20 okN_360 (by omega) (by omega)
  exact key 380 1 okN_380 (by omega) (by omega)
theorem okP_0 : (List.range 20).all (fun j => !(rl2 (0 + j)) || (Nat.beq (0 + j) 358 || okP (0 + j))) = true := by decide +kernel
theorem okP_20 : (List.range 20).all (fun j => !(rl2 (20 + j)) || (Nat.beq (20 + j) 358 || okP (20 + j))) = true := by decide +kernel
theorem okP_40 : (List.range 20).all (fun j => !(rl2 (40 + j)) || (Nat.beq (40 + j) 358 || okP (40 + j))) = true := by decide +kernel
theorem okP_60 : (List.range 20).all (fun j => !(rl2 (60 + j)) || (Nat.beq (60 + j) 358 || okP (60 + j))) = true := by decide +kernel
theorem okP_80 : (List.range 20).all (fun j => !(rl2 (80 + j)) || (Nat.beq (80 + j) 358 || okP (80 + j))) = true := by decide +kernel
theorem okP_100 : (List.range 20).all (fun j => !(rl2 (100 + j)) || (Nat.beq (100 + j) 358 || okP (100 + j))) = true := by decide +kernel
theorem okP_120 : (List.range 20).all (fun j => !(rl2 (120 + j)) || (Nat.beq (120 + j) 358 || okP (120 + j))) = true := by decide +kernel
theorem okP_140 : (List.range 20).all (fun j => !(rl2 (140 + j)) || (Nat.beq (140 + j) 358 || okP (140 + j))) = true := by decide +kernel
theorem okP_160 : (List.range 20).all (fun j => !(rl2 (160 + j)) || (Nat.beq (160 + j) 358 || okP (160 + j))) = true := by decide +kernel
theorem okP_180 : (List.range 20).all (fun j => !(rl2 (180 + j)) || (Nat.beq (180 + j) 358 || okP (180 + j))) = true := by decide +kernel
theorem okP_200 : (List.range 20).all (fun j => !(rl2 (200 + j)) || (Nat.beq (200 + j) 358 || okP (200 + j))) = true := by decide +kernel
theorem okP_220 : (List.range 20).all (fun j => !(rl2 (220 + j)) || (Nat.beq (220 + j) 358 || okP (220 + j))) = true := by decide +kernel
theorem okP_240 : (List.range 20).all (fun j => !(rl2 (240 + j)) || (Nat.beq (240 + j) 358 || okP (240 + j))) = true := by decide +kernel
theorem okP_260 : (List.range 20).all (fun j => !(rl2 (260 + j)) || (Nat.beq (260 + j) 358 || okP (260 + j))) = true := by decide +kernel
theorem okP_280 : (List.range 20).all (fun j => !(rl2 (280 + j)) || (Nat.beq (280 + j) 358 || okP (280 + j))) = true := by decide +kernel
theorem okP_300 : (List.range 20).all (fun j => !(rl2 (300 + j)) || (Nat.beq (300 + j) 358 || okP (300 + j))) = true := by decide +kernel
theorem okP_320 : (List.range 20).all (fun j => !(rl2 (320 + j)) || (Nat.beq (320 + j) 358 || okP (320 + j))) = true := by decide +kernel
theorem okP_340 : (List.range 20).all (fun j => !(rl2 (340 + j)) || (Nat.beq (340 + j) 358 || okP (340 + j))) = true := by decide +kernel
theorem okP_360 : (List.range 20).all (fun j => !(rl2 (360 + j)) || (Nat.beq (360 + j) 358 || okP (360 + j))) = true := by decide +kernel
theorem okP_380 : (List.range 1).all (fun j => !(rl2 (380 + j)) || (Nat.beq (380 + j) 358 || okP (380 + j))) = true := by decide +kernel
theorem okP_all : ∀ μ, rl2 μ = true → μ = 358 ∨ okP μ = true := by
  intro μ hμ
  have hl := rl2_lt hμ
  have key : ∀ (k c : Nat), (List.range c).all (fun j => !(rl2 (k + j)) || (Nat.beq (k + j) 358 || okP (k + j))) = true → k ≤ μ → μ < k + c → μ = 358 ∨ okP μ = true := by
    intro k c hh h1 h2
    have h3 := List.all_eq_true.mp hh (μ - k) (List.mem_range.mpr (by omega))
    rw [show k + (μ - k) = μ by omega, hμ, Bool.not_true, Bool.false_or] at h3
    exact nlaw h3 id
  rcases Nat.lt_or_ge μ 20 with q20 | q20
  · exact key 0 20 okP_0 (by omega) (by omega)
  rcases Nat.lt_or_ge μ 40 with q40 | q40
  · exact key 20 20 okP_20 (by omega) (by omega)
  rcases Nat.lt_or_ge μ 60 with q60 | q60
  · exact key 40 20 okP_40 (by omega) (by omega)
  rcases Nat.lt_or_ge μ 80 with q80 | q80
  · exact key 60 20 okP_60 (by omega) (by omega)
  rcases Nat.lt_or_ge μ 100 with q100 | q100
  · exact key 80 20 okP_80 (by omega) (by omega)
  rcases Nat.lt_or_ge μ 120 with q120 | q120
  · exact key 100 20 okP_100 (by omega) (by omega)
  rcases Nat.lt_or_ge μ 140 with q140 | q140
  · exact key 120 20 okP_120 (by omega) (by omega)
  rcases Nat.lt_or_ge μ 160 with q160 | q160
  · exact key 140 20 okP_140 (by omega) (by omega)
  rcases Nat.lt_or_ge μ 180 with q180 | q180
  · exact key 160 20 okP_160 (by omega) (by omega)
  rcases Nat.lt_or_ge μ 200 with q200 | q200
  · exact key 180 20 okP_180 (by omega) (by omega)
  rcases Nat.lt_or_ge μ 220 with q220 | q220
  · exact key 200 20 okP_200 (by omega) (by omega)
  rcases Nat.lt_or_ge μ 240 with q240 | q240
  · exact key 220 20 okP_220 (by omega) (by omega)
  rcases Nat.lt_or_ge μ 260 with q260 | q260
  · exact key 240 20 okP_240 (by omega) (by omega)
  rcases Nat.lt_or_ge μ 280 with q280 | q280
  · exact key 260 20 okP_260 (by omega) (by omega)
  rcases Nat.lt_or_ge μ 300 with q300 | q300
  · exact key 280 20 okP_280 (by omega) (by omega)
  rcases Nat.lt_or_ge μ 320 with q320 | q320
  · exact key 300 20 okP_300 (by omega) (by omega)
  rcases Nat.lt_or_ge μ 340 with q340 | q340
  · exact key 320 20 okP_320 (by omega) (by omega)
  rcases Nat.lt_or_ge μ 360 with q360 | q360
  · exact key 340 20 okP_340 (by omega) (by omega)
  rcases Nat.lt_or_ge μ 380 with q380 | q380
  · exact key 360 20 okP_360 (by omega) (by omega)
  exact key 380 1 okP_380 (by omega) (by omega)
