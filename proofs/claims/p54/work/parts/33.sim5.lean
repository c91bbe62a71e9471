/-! calls, catches, ends -/
/-- the heap holds the memory, at a method's start or end -/
def WS (D : va_G) (cA : Nat → ClassId) (A : Nat → Prop) (sp : Nat → Nat) (L : Nat) (xs : Nat → Int32) (ad : Nat → Nat) (M : Mm) (H : Heap) : Prop :=
  va_P D clsv (wsl cA ad M) H ∧ va_D A (wsl cA ad M) ∧ wfM L xs M ∧ ∀ q, 900000 < q → q ≠ iEXC → ad q = sp q
def PcS (D : va_G) (cA : Nat → ClassId) (A : Nat → Prop) (sp : Nat → Nat) (L : Nat) (xs : Nat → Int32) (as : List Value) (M : Mm) (ad : Nat → Nat) : Array Value → State → Prop := fun v U =>
  v = (as.map (rv ad)).toArray ∧ as.all (vok M.1) = true ∧ GS D cA A sp L xs U U.heap ∧ WS D cA A sp L xs ad M U.heap
def QcS (D : va_G) (cA : Nat → ClassId) (A : Nat → Prop) (sp : Nat → Nat) (L : Nat) (xs : Nat → Int32) (a : Nat) (M : Mm) (ad : Nat → Nat) (o1 : Ou) : Array Value → State → Outcome → State → Prop := fun _ st oc t =>
  ∃ (v : Option Value) (M' : Mm) (ad' : Nat → Nat), o1 = (.inl v, M') ∧ oc = .returned (v.map (rv ad')) ∧ WS D cA A sp L xs ad' M' t.heap ∧ M.1 ≤ M'.1 ∧ (∀ q, q < M.1 → ad' q = ad q) ∧ (hdl a = [] → ad' iEXC = ad iEXC) ∧ (∀ z, v = some z → vok M'.1 z = true) ∧ (hdl a ≠ [] → ∀ q, v ≠ some (.ref q)) ∧ va_F A st t
def XcS (D : va_G) (cA : Nat → ClassId) (A : Nat → Prop) (sp : Nat → Nat) (L : Nat) (xs : Nat → Int32) (M : Mm) (ad : Nat → Nat) (o1 : Ou) : String → State → State → Prop := fun E st t =>
  ∃ (E' : Nat) (M' : Mm) (ad' : Nat → Nat), o1 = (.inr (.inl E'), M') ∧ E = exn E' ∧ E' < 4 ∧ WS D cA A sp L xs ad' M' t.heap ∧ M.1 ≤ M'.1 ∧ (∀ q, q < M.1 → ad' q = ad q) ∧ va_F A st t
/-- every callee's run is known -/
def CallOK (l : Launch) (D : va_G) (cA : Nat → ClassId) (A : Nat → Prop) (sp : Nat → Nat) (L : Nat) (xs : Nat → Int32) (f : Cf → Option Ou) : Prop :=
  ∀ (a : Nat) (as : List Value) (M : Mm) (o1 : Ou) (ad : Nat → Nat), rl2 a = true → a ≠ 358 → csm as ≤ mxl a → (∀ z, o1.1 ≠ .inr (.inr z)) → f (a, 0, pad (mxl a) (ent as), [], M) = some o1 → kr a M = kk a →
    vx_Met l (nm a) (cwd a :: WALL) ({ frames := fr a, cells := (cst a 0).1 + 4 * kk a, slots := (cst a 0).2 + 24 * kk a, locals := lc a }) (PcS D cA A sp L xs as M ad) (QcS D cA A sp L xs a M ad o1) (XcS D cA A sp L xs M ad o1) ((cst a 0).1 + 4 * kk a) ((cst a 0).2 + 24 * kk a) A
def isFin (i : Instr) : Bool := match i with
  | .ireturn => true
  | .lreturn => true
  | .freturn => true
  | .dreturn => true
  | .areturn => true
  | .return_ => true
  | .new _ => true
  | _ => false
/-- a run's last step is known -/
def Fi (X9 : Nat × Nat) (p : Program) (l : Launch) (e : Env) (R : Room) (s : State) (m : MethodId) (args : Array Value) (below : List Frame) (meth : Method) (c : Code) (D : va_G) (cA : Nat → ClassId) (A : Nat → Prop) (sp : Nat → Nat) (L : Nat) (xs : Nat → Int32) (ad0 : Nat → Nat) (n0 : Nat) (μ : Nat) (Q : State → Prop) (o : Ou) : Prop :=
  ∀ (pc : Nat) (ls st : List Value) (M : Mm) (ad : Nat → Nat) (LS : Array Slot) (H : Heap) (locs : List Loc) (cells slots : Nat), (∀ e, cins μ pc = some e → isFin e.1 = true) → st1 (μ, pc, ls, st, M) = .inr (.inr (true, o)) → Wd D cA A sp L xs s ad0 n0 (hdl μ = []) ad M H locs → Fm ad μ LS ls st M.1 → Bu X9 R μ pc M cells slots →
    W p l e R s m args below meth c H locs cells slots Q (F0 m pc LS (st.map (rv ad)))
def Th (p : Program) (l : Launch) (e : Env) (R : Room) (s : State) (m : MethodId) (args : Array Value) (below : List Frame) (meth : Method) (c : Code) (D : va_G) (cA : Nat → ClassId) (A : Nat → Prop) (sp : Nat → Nat) (L : Nat) (xs : Nat → Int32) (ad0 : Nat → Nat) (n0 : Nat) (μ : Nat) (Q : State → Prop) (o : Ou) : Prop :=
  ∀ (pc E : Nat) (M : Mm) (ad : Nat → Nat) (LS : Array Slot) (rest : List Value) (H : Heap) (locs : List Loc) (cells slots : Nat) (q : Addr) (ce : Cell), o = (.inr (.inl E), M) → E < 4 → ctc μ pc E = none → Wd D cA A sp L xs s ad0 n0 (hdl μ = []) ad M H locs → cells ≤ R.cells → slots ≤ R.slots → H[q]? = some ce → ce.vm = .none → s.vm.findClass (exn E) = some ce.cls →
    vx_W p l e R s m args below meth c H locs cells slots Q (F0 m pc LS rest) q
theorem WS_blind {D : va_G} {cA : Nat → ClassId} {A : Nat → Prop} {sp : Nat → Nat} {L : Nat} {xs : Nat → Int32} {as : List Value} {M : Mm} {ad : Nat → Nat} : FrameBlind (PcS D cA A sp L xs as M ad) := by
  intro a U g mk h
  exact ⟨h.1, h.2.1, GS.go (U := U.calling g mk a) h.2.2.1 (State.WarmedH.refl U) (Nat.le_refl _) (fun _ _ _ => rfl), h.2.2.2⟩
/-! the exception tables -/
def hpr (μ : Nat) : Bool := Nat.beq (hnd μ).length (hdl μ).length && ((hnd μ).zip (hdl μ)).all (fun z => (Nat.beq z.1.1 z.2.1 && (Nat.beq z.1.2.1 z.2.2.1 && (Nat.beq z.1.2.2.1 z.2.2.2.1 && ((Nat.beq z.1.2.2.2 0 || Nat.beq z.1.2.2.2 3) && !(Nat.beq z.2.2.2.2 0))))) && a3 pE (ow μ) z.2.2.2.2 z.1.2.2.2)
theorem hpr_ok : (List.range 381).all (fun μ => !(rl2 μ) || hpr μ) = true := by decide +kernel
theorem ex4_ok : (List.range 381).all (fun μ => !(rl2 μ) || ((hdl μ).isEmpty || decide (rtt μ = some .int))) = true := by decide +kernel
theorem hmk_ok : (List.range 381).all (fun μ => !(rl2 μ) || ((hdl μ).isEmpty || (List.range (mxl μ)).all (fun i => decide ((hmk μ)[i]? = some false)))) = true := by decide +kernel
section STEP
variable {X9 : Nat × Nat} {p : Program} {l : Launch} {e : Env} {R : Room} {s : State} {m : MethodId} {args : Array Value} {below : List Frame} {meth : Method} {c : Code} {D : va_G} {cA : Nat → ClassId} {A : Nat → Prop} {sp : Nat → Nat} {L : Nat} {xs : Nat → Int32} {ad0 : Nat → Nat} {n0 : Nat} {μ : Nat} {Q : State → Prop} {f g : Cf → Option Ou} {c0 : Cf} {o : Ou}
variable {pc : Nat} {ls st : List Value} {n : Nat} {S : Nat → Nat × Nat} {Rf : Nat → Nat → Option Nat} {I : Nat → Nat → Int32} {J : Nat → Nat → Int64} {Df : Nat → Nat → UInt64} {ad : Nat → Nat} {LS : Array Slot} {H : Heap} {locs : List Loc} {cells slots : Nat}
variable {fm tm : List Bool} {a b cc : Nat} {k : Int32}
theorem Cx.cst (C : Cx p l R s m args meth c D cA A sp L xs μ) {E : Nat} (hE : E < 4) : (Cond.castable (exn E) (exn E)).before args s = true :=
  C.gs.2.2.2.2.2.2.2.1.2.2.1 _ (List.mem_cons_of_mem _ (List.mem_append_right _ (List.mem_map.mpr ⟨E, List.mem_range.mpr hE, rfl⟩)))
/-- a row of the table doesn't take it -/
def nopass (own : String) (E : Nat) (pc : Nat) (args : Array Value) (s : State) (z : ExceptionTableEntry) : Prop := covers z pc = false ∨ (z.catchType ≠ 0 ∧ ∃ nm : String, (Cond.classLink own z.catchType nm).before args s = true ∧ va_Nc (exn E) nm s)
theorem hs_find (C : Cx p l R s m args meth c D cA A sp L xs μ) {E : Nat} (hE : E < 4) : ∀ (hs ds : List (Nat × Nat × Nat × Nat)), hs.length = ds.length → ((hs.zip ds).all (fun z => (Nat.beq z.1.1 z.2.1 && (Nat.beq z.1.2.1 z.2.2.1 && (Nat.beq z.1.2.2.1 z.2.2.2.1 && ((Nat.beq z.1.2.2.2 0 || Nat.beq z.1.2.2.2 3) && !(Nat.beq z.2.2.2.2 0))))) && a3 pE (ow μ) z.2.2.2.2 z.1.2.2.2)) = true →
    (hs.findSome? (fun h => bif Nat.ble h.1 pc && (Nat.blt pc h.2.1 && Nat.beq h.2.2.2 E) then some h.2.2.1 else none) = none → ∀ z ∈ tableOf ds, nopass (onm (ow μ)) E pc args s z) ∧
    (∀ q, hs.findSome? (fun h => bif Nat.ble h.1 pc && (Nat.blt pc h.2.1 && Nat.beq h.2.2.2 E) then some h.2.2.1 else none) = some q → ∃ pre x suf, tableOf ds = pre ++ x :: suf ∧ (∀ z ∈ pre, nopass (onm (ow μ)) E pc args s z) ∧ covers x pc = true ∧ x.catchType ≠ 0 ∧ (Cond.classLink (onm (ow μ)) x.catchType (exn E)).before args s = true ∧ x.handlerPc = q ∧ ∃ h ∈ hs, h.2.2.1 = q)
  | [], [], _, _ => ⟨fun _ z hz => (by cases hz), fun q hq => (by cases hq)⟩
  | [], _ :: _, h, _ => by cases h
  | _ :: _, [], h, _ => by cases h
  | h :: hs, d :: ds, hl, ha => by
    rw [List.zip_cons_cons, List.all_cons, Bool.and_eq_true] at ha
    obtain ⟨h1, h2⟩ := ha
    simp only [Bool.and_eq_true, Nat.blt_eq, Bool.not_eq_true'] at h1
    obtain ⟨⟨a1, a2, a3', a4, a5⟩, a6⟩ := h1
    have ih := hs_find C hE hs ds (by simpa using hl) h2
    obtain ⟨e9, he9, q1, q2, q3⟩ := a3_in a6
    have hw9 := C.wd (inWb_mem (List.all_eq_true.mp okE e9 he9))
    unfold wE at hw9
    rw [q1, q2, q3] at hw9
    have hct : d.2.2.2 ≠ 0 := fun z => by rw [z] at a5; cases a5
    have hcov : covers (⟨d.1, d.2.1, d.2.2.1, d.2.2.2⟩ : ExceptionTableEntry) pc = (Nat.ble h.1 pc && Nat.blt pc h.2.1) := by
      rw [beq_e a1, beq_e a2]
      have t1 : Nat.ble d.1 pc = decide (d.1 ≤ pc) := by cases hb : Nat.ble d.1 pc with | false => exact (decide_eq_false fun z => by rw [Nat.ble_eq.mpr z] at hb; cases hb).symm | true => exact (decide_eq_true (Nat.ble_eq.mp hb)).symm
      have t2 : Nat.blt pc d.2.1 = decide (pc < d.2.1) := by cases hb : Nat.blt pc d.2.1 with | false => exact (decide_eq_false fun z => by rw [Nat.blt_eq.mpr z] at hb; cases hb).symm | true => exact (decide_eq_true (Nat.blt_eq.mp hb)).symm
      rw [t1, t2]
    rw [List.findSome?_cons]
    cases hb : (Nat.ble h.1 pc && (Nat.blt pc h.2.1 && Nat.beq h.2.2.2 E)) with
    | true =>
      refine ⟨fun hn => (by cases hn), fun q hq => ?_⟩
      cases hq
      simp only [Bool.and_eq_true] at hb
      exact ⟨[], ⟨d.1, d.2.1, d.2.2.1, d.2.2.2⟩, tableOf ds, rfl, fun z hz => (by cases hz), by rw [hcov, hb.1, hb.2.1]; rfl, hct, by rw [← beq_e hb.2.2]; exact hw9, (beq_e a3').symm, h, List.mem_cons_self, rfl⟩
    | false =>
      have hnp : nopass (onm (ow μ)) E pc args s ⟨d.1, d.2.1, d.2.2.1, d.2.2.2⟩ := by
        cases hc9 : (Nat.ble h.1 pc && Nat.blt pc h.2.1) with
        | false => exact Or.inl (by rw [hcov, hc9])
        | true =>
          refine Or.inr ⟨hct, exn h.2.2.2, hw9, C.gs.2.2.2.2.2.2.2.2.1 E h.2.2.2 hE (((Bool.or_eq_true _ _).mp a4).imp beq_e beq_e) (fun z => ?_)⟩
          simp only [Bool.and_eq_true] at hc9
          rw [hc9.1, hc9.2, ← z, nbeq_s] at hb
          cases hb
      refine ⟨fun hn z hz => ?_, fun q hq => ?_⟩
      · rcases List.mem_cons.mp hz with rfl | hz
        · exact hnp
        · exact ih.1 hn z hz
      · obtain ⟨pre, x, suf, b1, b2, b3, b4, b5, b6, h9, b7, b8⟩ := ih.2 q hq
        exact ⟨⟨d.1, d.2.1, d.2.2.1, d.2.2.2⟩ :: pre, x, suf, by show _ :: tableOf ds = _; rw [b1]; rfl, fun z hz => by
          rcases List.mem_cons.mp hz with rfl | hz
          · exact hnp
          · exact b2 z hz, b3, b4, b5, b6, h9, List.mem_cons_of_mem _ b7, b8⟩
theorem wsl_exc {ad1 : Nat → Nat} {M : Mm} {y : Nat} (hw : wfM L xs M) : wsl cA (upR ad1 iEXC y) M = wsl cA ad1 M := by
  obtain ⟨n1, S1, R1, I1, J1, D1⟩ := M
  unfold wsl
  refine List.map_congr_left fun q hq => ?_
  have hq := List.mem_range.mp hq
  have hle : n1 ≤ 900000 := hw.1
  have hq : q < n1 := hq
  dsimp only
  rw [cel_ad (ad := ad1) rfl rfl rfl rfl rfl (fun j z hz => upR_n (by have := hw.2.2.2.1 q j z hq hz; unfold rOK at this; dsimp only at this; show z ≠ 1000000; omega)), upR_n (by show q ≠ 1000000; omega)]
/-- the callee has ended: the caller's world behind it -/
theorem Wd.back {hx : Prop} {M M' : Mm} {ad1 : Nat → Nat} {y : Nat} {H1 : Heap} {locs1 : List Loc} (w : Wd D cA A sp L xs s ad0 n0 hx ad M H locs) (hS : WS D cA A sp L xs ad1 M' H1) (hn : M.1 ≤ M'.1) (ha : ∀ q, q < M.1 → ad1 q = ad q) (hy : hx → y = ad iEXC) (hSS : va_S A s.heap H1 locs1) : Wd D cA A sp L xs s ad0 n0 hx (upR ad1 iEXC y) M' H1 locs1 := by
  obtain ⟨h1, h2, h3, h4⟩ := hS
  obtain ⟨-, -, -, w4, w5, w6, w7, w8⟩ := w
  have hle : M'.1 ≤ 900000 := h3.1
  refine ⟨by rw [wsl_exc h3]; exact h1, by rw [wsl_exc h3]; exact h2, hSS, h3, fun q q1 q2 => by rw [upR_n q2]; exact h4 q q1 q2, Nat.le_trans w6 hn, fun q hq => ?_, fun hz => by rw [upR_s, hy hz]; exact w8 hz⟩
  rw [upR_n (by show q ≠ 1000000; omega), ha q (by omega)]
  exact w7 q hq
theorem wsl_I {ad1 : Nat → Nat} {n9 : Nat} {S9 : Nat → Nat × Nat} {R9 : Nat → Nat → Option Nat} {I9 I8 : Nat → Nat → Int32} {J9 : Nat → Nat → Int64} {D9 : Nat → Nat → UInt64} (h : ∀ q, q < n9 → I8 q = I9 q) : wsl cA ad1 (n9, S9, R9, I8, J9, D9) = wsl cA ad1 (n9, S9, R9, I9, J9, D9) := by
  unfold wsl
  refine List.map_congr_left fun q hq => ?_
  have hq : q < n9 := List.mem_range.mp hq
  dsimp only
  rw [cel_eq rfl (h q hq) rfl rfl]
theorem ups_far {I9 : Nat → Nat → Int32} {x : Int32} {q : Nat} (h : q ≠ iCRD) : ups I9 iCRD 0 x q = I9 q := upR_n (f := I9) (x := upd (I9 iCRD) 0 x) h
theorem WS.crd {ad1 : Nat → Nat} {n9 : Nat} {S9 : Nat → Nat × Nat} {R9 : Nat → Nat → Option Nat} {I9 : Nat → Nat → Int32} {J9 : Nat → Nat → Int64} {D9 : Nat → Nat → UInt64} {H1 : Heap} {x : Int32} (h : WS D cA A sp L xs ad1 (n9, S9, R9, I9, J9, D9) H1) : WS D cA A sp L xs ad1 (n9, S9, R9, ups I9 iCRD 0 x, J9, D9) H1 := by
  obtain ⟨h1, h2, ⟨a1, a2, a3, a4, a5, a6⟩, h4⟩ := h
  have hle : n9 ≤ 900000 := a1
  have e := wsl_I (cA := cA) (ad1 := ad1) (S9 := S9) (R9 := R9) (J9 := J9) (D9 := D9) (I9 := I9) (I8 := ups I9 iCRD 0 x) (n9 := n9) (fun q hq => ups_far (by show q ≠ 1000005; omega))
  refine ⟨by rw [e]; exact h1, by rw [e]; exact h2, ⟨a1, a2, a3, a4, ?_, fun j hj => ?_⟩, h4⟩
  · show ups I9 iCRD 0 x iSCL 0 = _
    rw [ups_far (by decide)]; exact a5
  · show ups I9 iCRD 0 x iSCR j = _
    rw [ups_far (by decide)]; exact a6 j hj
theorem Wd.crd {hx : Prop} {n9 : Nat} {S9 : Nat → Nat × Nat} {R9 : Nat → Nat → Option Nat} {I9 : Nat → Nat → Int32} {J9 : Nat → Nat → Int64} {D9 : Nat → Nat → UInt64} {x : Int32} (w : Wd D cA A sp L xs s ad0 n0 hx ad (n9, S9, R9, I9, J9, D9) H locs) : Wd D cA A sp L xs s ad0 n0 hx ad (n9, S9, R9, ups I9 iCRD 0 x, J9, D9) H locs := by
  have h := WS.crd (x := x) ⟨w.1, w.2.1, w.2.2.2.1, w.2.2.2.2.1⟩
  exact ⟨h.1, h.2.1, w.2.2.1, h.2.2.1, h.2.2.2, w.2.2.2.2.2⟩
theorem WS.cOt {ad1 : Nat → Nat} {a9 : Nat} {M0 M : Mm} {H1 : Heap} (h : WS D cA A sp L xs ad1 M H1) : WS D cA A sp L xs ad1 (cOut a9 M0 M) H1 := by
  obtain ⟨n9, S9, R9, I9, J9, D9⟩ := M
  unfold cOut
  cases Nat.ble 318 a9 with
  | true => exact h.crd
  | false => exact h
theorem Wd.cIN {hx : Prop} {a9 : Nat} {M : Mm} (w : Wd D cA A sp L xs s ad0 n0 hx ad M H locs) : Wd D cA A sp L xs s ad0 n0 hx ad (cIn a9 M) H locs := by
  obtain ⟨n9, S9, R9, I9, J9, D9⟩ := M
  unfold cIn
  cases Nat.ble 318 a9 with
  | true => exact w.crd
  | false => exact w
theorem cIn_1 {a9 : Nat} {M : Mm} : (cIn a9 M).1 = M.1 := by unfold cIn; cases Nat.ble 318 a9 <;> rfl
theorem cOut_1 {a9 : Nat} {M0 M : Mm} : (cOut a9 M0 M).1 = M.1 := by unfold cOut; cases Nat.ble 318 a9 <;> rfl
theorem ups_crs {I9 : Nat → Nat → Int32} {x : Int32} : ups I9 iCRD 0 x iCRD 0 = x := by
  show upR I9 iCRD (upd (I9 iCRD) 0 x) iCRD 0 = x
  rw [upR_s, pk_us]
theorem cK_lt : (List.range 381).all (fun a => Nat.ble (cK a) 5000) = true := by decide +kernel
theorem kr_in {a9 : Nat} {M : Mm} (h : a9 < 381) : kr a9 (cIn a9 M) = kk a9 := by
  unfold kr cIn kk
  cases hb : Nat.ble 318 a9 with
  | false => rfl
  | true =>
    show (ups M.2.2.2.1 iCRD 0 (Int32.ofNat (cK a9)) iCRD 0).toNatClampNeg = cK a9
    rw [ups_crs]
    have := Nat.ble_eq.mp (List.all_eq_true.mp cK_lt a9 (List.mem_range.mpr h))
    exact nI_clamp (n := cK a9) (by omega)
theorem kr_out {M M9 : Mm} : kr μ (cOut μ M M9) = kr μ M := by
  unfold kr
  cases hb : Nat.ble 318 μ with
  | false => rw [cond_false, cond_false]
  | true =>
    have e : (cOut μ M M9).2.2.2.1 iCRD 0 = M.2.2.2.1 iCRD 0 := by
      unfold cOut
      rw [hb]
      exact ups_crs (I9 := M9.2.2.2.1)
    rw [cond_true, cond_true, e]
theorem Bu.krr {cells slots : Nat} {M M9 : Mm} (h : Bu X9 R μ pc M cells slots) (hi : kr μ M9 = kr μ M) : Bu X9 R μ pc M9 cells slots := by
  unfold Bu at h ⊢
  rw [hi]
  exact h
theorem qcs_conv {M : Mm} {o1 o9 : Ou} {a9 : Array Value} {st9 t9 : State} {oc : Outcome} (ho : o9 = (o1.1, cOut μ M o1.2)) (h : QcS D cA A sp L xs a (cIn a M) ad o1 a9 st9 oc t9) : QcS D cA A sp L xs a M ad o9 a9 st9 oc t9 := by
  obtain ⟨v, M', ad', r1, r2, r3, r4, r5, r6, r7, r8, r9⟩ := h
  subst r1
  rw [cIn_1] at r4 r5
  exact ⟨v, cOut μ M M', ad', ho, r2, r3.cOt, by rw [cOut_1]; exact r4, r5, r6, fun z hz => by rw [cOut_1]; exact r7 z hz, r8, r9⟩
theorem xcs_conv {M : Mm} {o1 o9 : Ou} {E : String} {st9 t9 : State} (ho : o9 = (o1.1, cOut μ M o1.2)) (h : XcS D cA A sp L xs (cIn a M) ad o1 E st9 t9) : XcS D cA A sp L xs M ad o9 E st9 t9 := by
  obtain ⟨E', M', ad', r1, r2, r3, r4, r5, r6, r9⟩ := h
  subst r1
  rw [cIn_1] at r5 r6
  exact ⟨E', cOut μ M M', ad', ho, r2, r3, r4.cOt, by rw [cOut_1]; exact r5, r6, r9⟩
theorem call_go (C : Cx p l R s m args meth c D cA A sp L xs μ) (K : Nx X9 p l e R s m args below meth c D cA A sp L xs ad0 n0 μ Q g o) (T9 : Th p l e R s m args below meth c D cA A sp L xs ad0 n0 μ Q o) (hμ : rl2 μ = true) {M : Mm} (w : Wd D cA A sp L xs s ad0 n0 (hdl μ = []) ad M H locs) {mk9 : List Bool} (hL : LR ad LS (mxl μ) ls) (hl : ls.all (vok M.1) = true) {r : List Value} (hs : r.all (vok M.1) = true) {mc ms : Nat} (hb : Bu X9 R μ (pc + 3) M (cells + mc) (slots + ms)) (hbh : ∀ h ∈ hnd μ, Bu X9 R μ h.2.2.1 M (cells + mc) (slots + ms))
    {o1 o8 : Ou} (ho8 : o1 = (o8.1, cOut μ M o8.2)) {a9 : Array Value} {st0 : List Value} (hr : vx_Run p l e R s m args below meth c H locs cells slots mc ms (F0 m pc LS st0) (r.map (rv ad)) (QcS D cA A sp L xs a (cIn a M) ad o8 a9) (XcS D cA A sp L xs (cIn a M) ad o8) A)
    (h : (match some o1 with
      | some (.inl v, M') => g (μ, pc + 3, mk mk9 ls, v.toList ++ r, M')
      | some (.inr (.inl E), M') => (match ctc μ pc E with
        | some h => g (μ, h, mk (hmk μ) ls, [.ref iEXC], M')
        | none => some (.inr (.inl E), M'))
      | _ => none) = some o) : W p l e R s m args below meth c H locs cells slots Q (F0 m pc LS st0) := by
  have hA0 : ∀ q, q < H.size → A q → A q := fun _ _ h => h
  have hle0 : M.1 ≤ 900000 := w.2.2.2.1.1
  intro T hT X
  rcases hr T hT X with ⟨v0, st₀, t, T', Lx, h0, X', hLx, e1, e2, hq9, st⟩ | ⟨q, st₀, t, T', Lx, E, ce, h0, X', hLx, e1, e2, hq9, hce, hcv, hcl, st⟩
  · obtain ⟨v, M', ad1, r1, r2, r3, r4, r5, r6, r7, r8, r9⟩ := qcs_conv ho8 hq9
    subst r1
    have hkr : kr μ M' = kr μ M := by rw [show M' = cOut μ M o8.2 from congrArg Prod.snd ho8]; exact kr_out
    obtain ⟨k1, k2, k3⟩ := vx_keep h0 e1 w.2.2.1 hA0 (fun _ h => h) hLx r9
    have r2 : v0 = v.map (rv ad1) := by injection r2
    rw [← e1] at r3
    have w2 := w.back (y := ad iEXC) r3 r4 r5 (fun _ => rfl) k3
    have hle : M'.1 ≤ 900000 := r3.2.2.1.1
    have ag1 : ∀ x, x < M.1 → upR ad1 iEXC (ad iEXC) x = ad x := fun x hx => by rw [upR_n (by show x ≠ 1000000; omega)]; exact r5 x hx
    have ag2 : ∀ x, 900000 < x → upR ad1 iEXC (ad iEXC) x = ad x := fun x hx => by
      by_cases hxe : x = iEXC
      · rw [hxe, upR_s]
      · rw [upR_n hxe, r3.2.2.2 x hx hxe, w.2.2.2.2.1 x hx hxe]
    have hvv : v.map (rv ad1) = v.map (rv (upR ad1 iEXC (ad iEXC))) := by
      cases v with
      | none => rfl
      | some z =>
        show some _ = some _
        congr 1
        cases z with
        | ref x =>
          show Value.ref _ = Value.ref _
          by_cases hxe : x = iEXC
          · subst hxe
            rw [upR_s]
            have hd9 : hdl a = [] := Classical.byContradiction fun hn => r8 hn _ rfl
            rw [r6 hd9]
          · rw [upR_n hxe]
        | _ => rfl
    have hvok : (v.toList ++ r).all (vok M'.1) = true := by
      rw [List.all_append, Bool.and_eq_true]
      refine ⟨?_, all_mono r4 hs⟩
      cases v with
      | none => rfl
      | some z => simp [r7 z rfl]
    have e5 : v0.toList ++ r.map (rv ad) = (v.toList ++ r).map (rv (upR ad1 iEXC (ad iEXC))) := by
      rw [List.map_append, vok_map ag1 ag2 hs, r2, hvv]
      cases v <;> rfl
    obtain ⟨t2, a1, b1⟩ := K1 (LS' := LS) (st' := v.toList ++ r) K h w2 (hL.ad fun v hv => vok_rv ag1 ag2 (List.all_eq_true.mp hl v hv)) (all_mono r4 hl) hvok (hb.krr hkr) T' rfl X'
    refine ⟨t2, st t2 ?_, b1⟩
    show Steps p.tables e below (T'.setTop (F0 m (pc + 3) LS (v0.toList ++ r.map (rv ad)))) t2
    rw [e5]
    exact a1
  · obtain ⟨E', M', ad1, r1, r2, r3, r4, r5, r6, r9⟩ := xcs_conv ho8 hq9
    subst r1
    have hkr : kr μ M' = kr μ M := by rw [show M' = cOut μ M o8.2 from congrArg Prod.snd ho8]; exact kr_out
    obtain ⟨k1, k2, k3⟩ := vx_keep h0 e1 w.2.2.1 hA0 (fun _ h => h) hLx r9
    rw [← e1] at r4 hce
    have hcl : s.vm.findClass (exn E') = some ce.cls := by rw [← r2]; exact hcl
    have hh : (match ctc μ pc E' with
        | some h => g (μ, h, mk (hmk μ) ls, [.ref iEXC], M')
        | none => some (.inr (.inl E'), M')) = some o := h
    have hpr9 := rlall hpr_ok hμ
    simp only [hpr, Bool.and_eq_true] at hpr9
    have hf := hs_find (pc := pc) C r3 (hnd μ) (hdl μ) (beq_e hpr9.1) hpr9.2
    have key : vx_W p l e R s m args below meth c T'.heap (locs ++ Lx) (cells + mc) (slots + ms) Q (F0 m pc LS (r.map (rv ad))) q := by
      cases hc9 : ctc μ pc E' with
      | none =>
        rw [hc9] at hh
        cases hh
        have w2 := w.back (y := ad iEXC) r4 r5 r6 (fun _ => rfl) k3
        exact T9 pc E' M' _ LS _ T'.heap _ _ _ q ce rfl r3 hc9 w2 (Nat.le_trans (Nat.le_add_right _ _) hb.1) (Nat.le_trans (Nat.le_add_right _ _) hb.2) hce hcv hcl
      | some hp =>
        rw [hc9] at hh
        obtain ⟨pre, x, suf, b1, b2, b3, b4, b5, b6, h9, b7, b8⟩ := hf.2 hp hc9
        have hne : hdl μ ≠ [] := fun z => by rw [z] at b1; cases pre <;> cases b1
        have h309 : μ ≠ 358 := fun z => by rw [z] at hne; exact hne rfl
        have htab := C.2.2.2.2.2.2.2.1 h309
        have w2 := w.back (y := q) r4 r5 r6 (fun z => absurd z hne) k3
        refine vx_catch C.own pre x suf (by rw [htab]; exact b1) b2 b3 b4 b5 (C.cst r3) hce hcv hcl ?_
        rw [b6]
        have hmkd : ∀ (i : Nat) (v : Value), (mk (hmk μ) ls)[i]? = some v → live v = false := by
          intro i v hi
          have hm := rlall hmk_ok hμ
          rw [show (hdl μ).isEmpty = false from by cases hd : hdl μ with | nil => exact absurd hd hne | cons _ _ => rfl, Bool.false_or] at hm
          have hil : i < mxl μ := by
            have := (List.getElem?_eq_some_iff.mp hi).1
            rw [mk_len] at this
            rw [← hL.2.2.1]; exact this
          have hmi := of_decide_eq_true (List.all_eq_true.mp hm i (List.mem_range.mpr hil))
          have gen : ∀ (F : List Bool) (L9 : List Value) (i : Nat), F[i]? = some false → ∀ v, (mk F L9)[i]? = some v → live v = false := by
            intro F
            induction F with
            | nil => intro L9 i h; cases h
            | cons b F ih =>
              intro L9 i hF v hv
              cases L9 with
              | nil => cases hv
              | cons y L9 =>
                cases i with
                | zero =>
                  have hF : some b = some false := hF
                  cases hF
                  have hv : some dv = some v := hv
                  cases hv
                  rfl
                | succ i => exact ih L9 i hF v hv
          exact gen (hmk μ) ls i hmi v hi
        have hLm : LR (upR ad1 iEXC q) LS (mxl μ) (mk (hmk μ) ls) := ⟨hL.1, hL.2.1, by rw [mk_len]; exact hL.2.2.1, fun i v hi hv => by rw [hmkd i v hi] at hv; cases hv⟩
        have hq1 : Value.ref q = rv (upR ad1 iEXC q) (.ref iEXC) := by show _ = Value.ref _; rw [upR_s]
        rw [hq1]
        have hh2 := (hbh h9 b7).krr hkr
        rw [b8] at hh2
        exact K hp _ _ M' _ LS T'.heap _ _ _ hh w2 ⟨hLm, all_mk _ _ (all_mono r5 hl), by simp only [List.all_cons, List.all_nil, Bool.and_true, vok, Bool.or_eq_true, Nat.blt_eq]; exact Or.inr (by decide)⟩ hh2
    obtain ⟨t2, a1, b1⟩ := key T' rfl X'
    exact ⟨t2, st.trans a1, b1⟩
end STEP
