/-! all runs -/
section STEP
variable {X9 : Nat × Nat} {p : Program} {l : Launch} {e : Env} {R : Room} {s : State} {m : MethodId} {args : Array Value} {below : List Frame} {meth : Method} {c : Code} {D : va_G} {cA : Nat → ClassId} {A : Nat → Prop} {sp : Nat → Nat} {L : Nat} {xs : Nat → Int32} {ad0 : Nat → Nat} {n0 : Nat} {μ : Nat} {Q : State → Prop} {f g : Cf → Option Ou} {c0 : Cf} {o : Ou}
variable {pc : Nat} {ls st : List Value} {n : Nat} {S : Nat → Nat × Nat} {Rf : Nat → Nat → Option Nat} {I : Nat → Nat → Int32} {J : Nat → Nat → Int64} {Df : Nat → Nat → UInt64} {ad : Nat → Nat} {LS : Array Slot} {H : Heap} {locs : List Loc} {cells slots : Nat}
variable {fm tm : List Bool} {a b cc : Nat} {k : Int32}
theorem sim_nx (N : Nat) (hf : ∀ k, k < N → CallOK l D cA A sp L xs (run k)) (C : Cx p l R s m args meth c D cA A sp L xs μ) (T9 : Th p l e R s m args below meth c D cA A sp L xs ad0 n0 μ Q o) (F9 : Fi X9 p l e R s m args below meth c D cA A sp L xs ad0 n0 μ Q o) (hμ : rl2 μ = true) (hcl : (nm μ).cls = onm (ow μ)) : Nx X9 p l e R s m args below meth c D cA A sp L xs ad0 n0 μ Q (run N) o := by
  induction N with
  | zero =>
    intro pc ls st M ad LS H locs cells slots h
    cases h
  | succ N ih =>
    intro pc ls st M ad LS H locs cells slots h w fr hb
    obtain ⟨n, S, Rf, I, J, Df⟩ := M
    exact step_ok C (ih fun k hk => hf k (Nat.lt_succ_of_lt hk)) (hf N (Nat.lt_succ_self N)) T9 F9 hμ hcl w fr hb h
theorem all_pad {n9 N9 : Nat} {as : List Value} (h : as.all (vok n9) = true) : (pad N9 (ent as)).all (vok n9) = true := by
  unfold pad
  rw [List.all_append, Bool.and_eq_true]
  refine ⟨all_ent as h, List.all_eq_true.mpr fun v hv => ?_⟩
  rw [(List.mem_replicate.mp hv).2]
  rfl
theorem sim_call (hl : l.stackTraces = false) : ∀ N, CallOK l D cA A sp L xs (run N) := by
  intro N
  induction N using Nat.strongRecOn with
  | ind N ih =>
  intro a as M o1 ad ha h309 hcs hns hf1 hkr
  obtain ⟨y1, y2, y3, y4⟩ := okn ha h309
  have fin : ∀ (p : Program) (e : Env) (s : State) (m : MethodId) (args : Array Value) (below : List Frame) (meth : Method) (c : Code) (s₁ : State), BodyLoose p l (nm a) (headSpec (cwd a :: WALL) ({ frames := frm a, cells := (cst a 0).1 + 4 * kk a, slots := (cst a 0).2 + 24 * kk a, locals := lc a })) (byt a) (mxl a) (rtt a) e s m args below meth c s₁ → c.maxLocals = mxl a → c.exceptionTable.toList = tableOf (hdl a) → PcS D cA A sp L xs as M ad args s →
      W p l e ({ frames := frm a, cells := (cst a 0).1 + 4 * kk a, slots := (cst a 0).2 + 24 * kk a, locals := lc a }) s m args below meth c s.heap [] 0 0 (vx_MQ below (QcS D cA A sp L xs a M ad o1) (XcS D cA A sp L xs M ad o1) args s ((cst a 0).1 + 4 * kk a) ((cst a 0).2 + 24 * kk a) A) (entryFrame m args (mxl a)) := by
    intro p e s m args below meth c s₁ B hml htab hP
    obtain ⟨rfl, hall, hG, hS1, hS2, hS3, hS4⟩ := hP
    have hw := atoms_spec (ws := cwd a :: WALL) B.pre
    have C : Cx p l ({ frames := frm a, cells := (cst a 0).1 + 4 * kk a, slots := (cst a 0).2 + 24 * kk a, locals := lc a }) s m ((as.map (rv ad)).toArray) meth c D cA A sp L xs a :=
      ⟨B.exec, B.bytes, B.returns, hml, by rw [← y1]; exact findClass_of_methodNamed B.named, fun w h => hw w (List.mem_cons_of_mem _ h), B.notSynchronized, fun _ => htab, fun h => (name_of_methodNamed B.named B.method).1.trans h, Nat.le_refl _, Nat.le_refl _, hl, hG, trivial⟩
    rw [lg_entry_eq]
    exact sim_nx (X9 := (0, 0)) N ih C (th_norm C ha h309) (fin_norm C ha h309 hns) ha y1 0 _ [] M ad _ s.heap [] 0 0 hf1 ⟨hS1, hS2, va_S.rf, hS3, hS4, Nat.le_refl _, fun _ _ => rfl, fun _ => rfl⟩ ⟨LR.entry hcs, all_pad hall, rfl⟩ ⟨by show 0 + ((cst a 0).1 + 0 + 4 * kr a M) ≤ (cst a 0).1 + 4 * kk a; rw [hkr]; omega, by show 0 + ((cst a 0).2 + 0 + 24 * kr a M) ≤ (cst a 0).2 + 24 * kk a; rw [hkr]; omega⟩
  by_cases hnil : hdl a = []
  · refine vx_ofW (cc := byt a) (maxL := mxl a) (ret := rtt a) (ws' := WALL) y4 (by rw [cwd_nil hnil]) ?_
    intro p e s m args below meth c s₁ B hml htab hP
    refine fin p e s m args below meth c s₁ B hml ?_ hP
    rw [hnil]
    cases hc9 : c.exceptionTable.toList with
    | nil => rfl
    | cons z zs => exact (htab z (by rw [hc9]; exact List.mem_cons_self)).elim
  · refine vx_ofWH (cc := byt a) (maxL := mxl a) (ret := rtt a) (hh := hdl a) (ws' := WALL) y4 (by rw [cwd_cons hnil]) ?_
    intro p e s m args below meth c s₁ B hml hP
    have hw := atoms_spec (ws := cwd a :: WALL) B.pre
    exact fin p e s m args below meth c s₁ B hml (vx_table (x := nm a) B (by have := hw _ List.mem_cons_self; rw [cwd_cons hnil] at this; exact this)) hP
end STEP
