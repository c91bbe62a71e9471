/-! the tables hold of the claim: every entry decodes as it says, every link stands among the tables' words -/
def inWb (i : Nat) (w : Jvm.Cond) : Bool := decide (lw_tbl[i]? = some w) && goodWord w
def WALL : List Jvm.Cond := lw_tbl.filter goodWord
theorem inWb_mem {i : Nat} {w : Jvm.Cond} (h : inWb i w = true) : w ∈ WALL := by
  simp only [inWb, Bool.and_eq_true, decide_eq_true_eq] at h
  exact List.mem_filter.mpr ⟨List.mem_of_getElem? h.1, h.2⟩
def wF (e : Nat × Nat × Nat × Nat × Nat) : Jvm.Cond := .fieldLink (onm e.1) e.2.1 ((clq e.2.2.1).2.1 e.2.2.2.1).1 ((clq e.2.2.1).2.1 e.2.2.2.1).2.1 ((clq e.2.2.1).2.1 e.2.2.2.1).2.2.1
theorem okF : pFl.all (fun e => inWb e.2.2.2.2 (wF e) && decide (e.2.2.2.1 < nfl e.2.2.1)) = true := by decide +kernel
def wFs (e : Nat × Nat × Nat × Nat) : Jvm.Cond := .fieldLink (onm e.1) e.2.1 "java/lang/String" (bif Nat.beq e.2.2.1 1 then "value" else "coder") (bif Nat.beq e.2.2.1 1 then "[B" else "B")
theorem okFs : pFs.all (fun e => inWb e.2.2.2 (wFs e)) = true := by decide +kernel
def stn (p : Nat) : String × String × String := bif Nat.beq p 1000011 then ("GlacierBook$Laying", "TAKES_0", "[I") else bif Nat.beq p 1000012 then ("GlacierBook$Laying", "TAKES_1", "[I") else bif Nat.beq p 1000013 then ("GlacierBook$Text", "NUMBERS", "[I") else ("java/lang/String", "COMPACT_STRINGS", "Z")
def wSt (e : Nat × Nat × Nat × Nat) : Jvm.Cond := .fieldLink (onm e.1) e.2.1 (stn e.2.2.1).1 (stn e.2.2.1).2.1 (stn e.2.2.1).2.2
theorem okSt : pSt.all (fun e => inWb e.2.2.2 (wSt e)) = true := by decide +kernel
def wM (e : Nat × Nat × Nat × Nat) : Jvm.Cond := .methodLink (onm e.1) e.2.1 (nm e.2.2.1)
theorem okM : pM.all (fun e => inWb e.2.2.2 (wM e)) = true := by decide +kernel
def spn (k : Nat) : MethodName := bif Nat.beq k 1000 then arraycopyName else bif Nat.beq k 1003 then objectInit else bif Nat.beq k 1005 then Lib.Math.min.name else bif Nat.beq k 1006 then Lib.Math.max.name else bif Nat.beq k 1007 then Lib.Math.abs.name else bif Nat.beq k 1008 then yJ9_floorDiv_7cf53 else yJ0_checkIndex_df160
theorem okXs : pXs.all (fun e => inWb e.2.1 (.static (spn e.1)) && inWb pXm (.initialized "java/lang/Math")) = true := by decide +kernel
theorem okXa : (inWb pXa.1 (.static arraycopyName) && (inWb pXa.2.1 (.native arraycopyName) && inWb pXa.2.2.1 (.initialized "java/lang/System"))) = true := by decide +kernel
def wX (e : Nat × Nat × Nat × Nat) : Jvm.Cond := .methodLink (onm e.1) e.2.1 (spn e.2.2.1)
theorem okX : pX.all (fun e => inWb e.2.2.2 (wX e)) = true := by decide +kernel
def wC (e : Nat × Nat × Int32 × Nat) : Jvm.Cond := .constant (onm e.1) e.2.1 e.2.2.1
theorem okC : pC.all (fun e => inWb e.2.2.2 (wC e)) = true := by decide +kernel
def wLc (e : Nat × Nat × Nat × Nat) : Jvm.Cond := .constantLong (onm e.1) e.2.1 (lcs e.2.2.1)
theorem okL : pL.all (fun e => inWb e.2.2.2 (wLc e)) = true := by decide +kernel
def wK (e : Nat × Nat × Nat × Nat) : Jvm.Cond := .classLink (onm e.1) e.2.1 (clq e.2.2.1).1
theorem okK : pK.all (fun e => inWb e.2.2.2 (wK e)) = true := by decide +kernel
def wE (e : Nat × Nat × Nat × Nat) : Jvm.Cond := .classLink (onm e.1) e.2.1 (exn e.2.2.1)
theorem okE : pE.all (fun e => inWb e.2.2.2 (wE e)) = true := by decide +kernel
def wA (e : Nat × Nat) : Jvm.Cond := .instantiable (clq e.1).1 (nfl e.1)
theorem okA : pA.all (fun e => inWb e.2 (wA e)) = true := by decide +kernel
theorem okU : (List.range 12).all (fun c => (u_ws (clq c).1 (clq c).2.1 (clq c).2.2).all (fun w => decide (w ∈ lw_tbl) && goodWord w)) = true := by decide +kernel
/-- a method's own words -/
def okW (μ : Nat) : Bool := inWb (wix μ).2.2.2.2 (.initialized (nm μ).cls) && (inWb (wix μ).2.1 (.static (nm μ)) || (inWb (wix μ).2.2.1 (.instanceMethod (nm μ)) && (inWb (wix μ).2.2.2.1 (.selects (nm μ).cls (nm μ) (nm μ)) || decide ((nm μ).name = "<init>"))))
def okN (μ : Nat) : Bool := decide ((nm μ).cls = onm (ow μ) ∧ (nm μ).cls ≠ "java/lang/invoke/MethodHandle" ∧ (nm μ).cls ≠ "java/lang/invoke/VarHandle" ∧ plainName (nm μ).cls = true)
def okP (μ : Nat) : Bool := decide ((parseMethodDescriptor (nm μ).desc).map (fun d => d.parameters.length) = some (nar μ))
theorem okW_0 : (List.range 20).all (fun j => Nat.beq (0 + j) 309 || okW (0 + j)) = true := by decide +kernel
theorem okW_20 : (List.range 20).all (fun j => Nat.beq (20 + j) 309 || okW (20 + j)) = true := by decide +kernel
theorem okW_40 : (List.range 20).all (fun j => Nat.beq (40 + j) 309 || okW (40 + j)) = true := by decide +kernel
theorem okW_60 : (List.range 20).all (fun j => Nat.beq (60 + j) 309 || okW (60 + j)) = true := by decide +kernel
theorem okW_80 : (List.range 20).all (fun j => Nat.beq (80 + j) 309 || okW (80 + j)) = true := by decide +kernel
theorem okW_100 : (List.range 20).all (fun j => Nat.beq (100 + j) 309 || okW (100 + j)) = true := by decide +kernel
theorem okW_120 : (List.range 20).all (fun j => Nat.beq (120 + j) 309 || okW (120 + j)) = true := by decide +kernel
theorem okW_140 : (List.range 20).all (fun j => Nat.beq (140 + j) 309 || okW (140 + j)) = true := by decide +kernel
theorem okW_160 : (List.range 20).all (fun j => Nat.beq (160 + j) 309 || okW (160 + j)) = true := by decide +kernel
theorem okW_180 : (List.range 20).all (fun j => Nat.beq (180 + j) 309 || okW (180 + j)) = true := by decide +kernel
theorem okW_200 : (List.range 20).all (fun j => Nat.beq (200 + j) 309 || okW (200 + j)) = true := by decide +kernel
theorem okW_220 : (List.range 20).all (fun j => Nat.beq (220 + j) 309 || okW (220 + j)) = true := by decide +kernel
theorem okW_240 : (List.range 20).all (fun j => Nat.beq (240 + j) 309 || okW (240 + j)) = true := by decide +kernel
theorem okW_260 : (List.range 20).all (fun j => Nat.beq (260 + j) 309 || okW (260 + j)) = true := by decide +kernel
theorem okW_280 : (List.range 20).all (fun j => Nat.beq (280 + j) 309 || okW (280 + j)) = true := by decide +kernel
theorem okW_300 : (List.range 18).all (fun j => Nat.beq (300 + j) 309 || okW (300 + j)) = true := by decide +kernel
theorem okN_0 : (List.range 20).all (fun j => Nat.beq (0 + j) 309 || okN (0 + j)) = true := by decide +kernel
theorem okN_20 : (List.range 20).all (fun j => Nat.beq (20 + j) 309 || okN (20 + j)) = true := by decide +kernel
theorem okN_40 : (List.range 20).all (fun j => Nat.beq (40 + j) 309 || okN (40 + j)) = true := by decide +kernel
theorem okN_60 : (List.range 20).all (fun j => Nat.beq (60 + j) 309 || okN (60 + j)) = true := by decide +kernel
theorem okN_80 : (List.range 20).all (fun j => Nat.beq (80 + j) 309 || okN (80 + j)) = true := by decide +kernel
theorem okN_100 : (List.range 20).all (fun j => Nat.beq (100 + j) 309 || okN (100 + j)) = true := by decide +kernel
theorem okN_120 : (List.range 20).all (fun j => Nat.beq (120 + j) 309 || okN (120 + j)) = true := by decide +kernel
theorem okN_140 : (List.range 20).all (fun j => Nat.beq (140 + j) 309 || okN (140 + j)) = true := by decide +kernel
theorem okN_160 : (List.range 20).all (fun j => Nat.beq (160 + j) 309 || okN (160 + j)) = true := by decide +kernel
theorem okN_180 : (List.range 20).all (fun j => Nat.beq (180 + j) 309 || okN (180 + j)) = true := by decide +kernel
theorem okN_200 : (List.range 20).all (fun j => Nat.beq (200 + j) 309 || okN (200 + j)) = true := by decide +kernel
theorem okN_220 : (List.range 20).all (fun j => Nat.beq (220 + j) 309 || okN (220 + j)) = true := by decide +kernel
theorem okN_240 : (List.range 20).all (fun j => Nat.beq (240 + j) 309 || okN (240 + j)) = true := by decide +kernel
theorem okN_260 : (List.range 20).all (fun j => Nat.beq (260 + j) 309 || okN (260 + j)) = true := by decide +kernel
theorem okN_280 : (List.range 20).all (fun j => Nat.beq (280 + j) 309 || okN (280 + j)) = true := by decide +kernel
theorem okN_300 : (List.range 18).all (fun j => Nat.beq (300 + j) 309 || okN (300 + j)) = true := by decide +kernel
