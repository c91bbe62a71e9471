/-! the book's constructor, the law's way to its loop, and the memory there -/
section STEP
variable {X9 : Nat × Nat} {p : Program} {l : Launch} {e : Env} {R : Room} {s : State} {m : MethodId} {args : Array Value} {below : List Frame} {meth : Method} {c : Code} {D : va_G} {cA : Nat → ClassId} {A : Nat → Prop} {sp : Nat → Nat} {L : Nat} {xs : Nat → Int32} {ad0 : Nat → Nat} {n0 : Nat} {μ : Nat} {Q : State → Prop} {f g : Cf → Option Ou} {c0 : Cf} {o : Ou}
variable {pc : Nat} {ls st : List Value} {n : Nat} {S : Nat → Nat × Nat} {Rf : Nat → Nat → Option Nat} {I : Nat → Nat → Int32} {J : Nat → Nat → Int64} {Df : Nat → Nat → UInt64} {ad : Nat → Nat} {LS : Array Slot} {H : Heap} {locs : List Loc} {cells slots : Nat}
variable {fm tm : List Bool} {a b cc : Nat} {k : Int32}
variable {pc : Nat} {ls st : List Value} {n : Nat} {S : Nat → Nat × Nat} {Rf : Nat → Nat → Option Nat} {I : Nat → Nat → Int32} {J : Nat → Nat → Int64} {Df : Nat → Nat → UInt64} {ad : Nat → Nat} {LS : Array Slot} {H : Heap} {locs : List Loc} {cells slots : Nat}
theorem th_no (h : ∀ E M, o ≠ (.inr (.inl E), M)) : Th p l e R s m args below meth c D cA A sp L xs ad0 n0 μ Q o := fun _ E M _ _ _ _ _ _ _ _ _ ho => (h E M ho).elim
theorem fi_stop {pc9 : Nat} {ls9 st9 : List Value} {M9 : Mm} (k : ∀ (ad : Nat → Nat) (LS : Array Slot) (H : Heap) (locs : List Loc) (cells slots : Nat), Wd D cA A sp L xs s ad0 n0 (hdl μ = []) ad M9 H locs → Fm ad μ LS ls9 st9 M9.1 → Bu X9 R μ pc9 M9 cells slots → W p l e R s m args below meth c H locs cells slots Q (F0 m pc9 LS (st9.map (rv ad)))) :
    Fi X9 p l e R s m args below meth c D cA A sp L xs ad0 n0 μ Q (.inr (.inr (pc9, ls9, st9)), M9) := by
  intro pc ls st M ad LS H locs cells slots hif h w fr hb
  obtain ⟨n, S, Rf, I, J, Df⟩ := M
  unfold st1 at h
  dsimp only at h
  cases he : cins μ pc with
  | none =>
    rw [he] at h
    injection h with h
    injection h with h
    injection h with _ h2
    injection h2 with h3 h4
    injection h3 with h3
    injection h3 with h3
    injection h3 with e1 e2
    injection e2 with e2 e3
    subst e1
    subst e2
    subst e3
    subst h4
    exact k ad LS H locs cells slots w fr hb
  | some e9 =>
    rw [he] at h
    obtain ⟨i, len, fm, tm, a, b, cc, k9⟩ := e9
    have hif := hif _ he
    dsimp only at h hif
    have hX : (spc i a b cc && Nat.ble 359 μ) = false := by cases i <;> first | rfl | cases hif
    unfold stX at h
    rw [hX, cond_false] at h
    exfalso
    have nov : ∀ {b : Bool} {v : Option Value} {M : Mm}, rt b v M = .inr (.inr (true, (.inr (.inr (pc9, ls9, st9)), M9))) → False := fun h => by
      have h2 := (rt_inv h).2
      injection h2 with h3
      cases h3
    cases i with
    | ireturn => obtain ⟨x, r, rfl, h⟩ := i1_inv h; exact nov h
    | lreturn =>
      obtain ⟨v, r, rfl, h⟩ := v1_inv h
      cases v with
      | long x => exact nov h
      | _ => exact hl_n h
    | freturn =>
      obtain ⟨v, r, rfl, h⟩ := v1_inv h
      cases v with
      | float x => exact nov h
      | _ => exact hl_n h
    | dreturn =>
      obtain ⟨v, r, rfl, h⟩ := v1_inv h
      cases v with
      | double x => exact nov h
      | _ => exact hl_n h
    | areturn =>
      obtain ⟨v, r, rfl, h⟩ := v1_inv h
      cases v with
      | ref x => exact nov h
      | _ => exact hl_n h
    | return_ => exact nov h
    | new x =>
      have h : (bif Nat.beq a 0 then gd (Nat.blt n 900000) μ (pc + len) (mk fm ls) (.ref n :: st) (n + 1, upR S n (b, 0), upR Rf n (fun _ => none), upR I n (fun _ => 0), upR J n (fun _ => 0), Df) else .inr (.inr (Nat.ble (csm st) 8, .inr (.inl b), (n, S, Rf, I, J, Df)))) = .inr (.inr (true, (.inr (.inr (pc9, ls9, st9)), M9))) := h
      cases ha : Nat.beq a 0 with
      | true => rw [ha] at h; cases h
      | false =>
        rw [ha] at h
        rw [cond_false] at h
        injection h with h
        injection h with h
        injection h with h1 h2
        injection h2 with h3
        injection h3 with h3
        cases h3
    | _ => cases hif
theorem sim_stop (hl : l.stackTraces = false) {N : Nat} (C : Cx p l R s m args meth c D cA A sp L xs μ) (hμ : rl2 μ = true) (hcl : (nm μ).cls = onm (ow μ)) {pc9 : Nat} {ls9 st9 : List Value} {M M9 : Mm} (hr : run N (μ, pc, ls, st, M) = some (.inr (.inr (pc9, ls9, st9)), M9))
    (w : Wd D cA A sp L xs s ad0 n0 (hdl μ = []) ad M H locs) (fr : Fm ad μ LS ls st M.1) (hb : Bu X9 R μ pc M cells slots)
    (k : ∀ (ad : Nat → Nat) (LS : Array Slot) (H : Heap) (locs : List Loc) (cells slots : Nat), Wd D cA A sp L xs s ad0 n0 (hdl μ = []) ad M9 H locs → Fm ad μ LS ls9 st9 M9.1 → Bu X9 R μ pc9 M9 cells slots → W p l e R s m args below meth c H locs cells slots Q (F0 m pc9 LS (st9.map (rv ad)))) :
    W p l e R s m args below meth c H locs cells slots Q (F0 m pc LS (st.map (rv ad))) :=
  sim_nx N (fun k _ => sim_call hl k) C (th_no fun E M h => by injection h with h; injection h with h; cases h) (fi_stop k) hμ hcl pc ls st M ad LS H locs cells slots hr w fr hb
abbrev rm10 : Room := { frames := frm 89, cells := 700, slots := 160000, locals := lc 89 }
theorem r89 : rl2 89 = true := rfl
theorem k89 {M : Mm} : kr 89 M = 0 := rfl
theorem c89 : cst 89 0 = (28, 537) ∧ cst 89 28 = (0, 0) ∧ cst 89 29 = (71, 17639) := by decide +kernel
theorem d89 : decode (byt 89) 28 = .ok (.iload_n 2, 1) := by decide +kernel
theorem hns9 {M : Mm} : ∀ z, ((.inl none, M) : Ou).1 ≠ .inr (.inr z) := fun z h => by cases h
def bud : Nat → Nat × Nat
  | 0 => (71, 17639)
  | k + 1 => ((bud k).1 + 71, (bud k).2 + 17639)
theorem bud_s (k : Nat) : (bud (k + 1)).1 = (bud k).1 + 71 ∧ (bud (k + 1)).2 = (bud k).2 + 17639 := ⟨rfl, rfl⟩
theorem bud_0 : (bud 0).1 = 71 ∧ (bud 0).2 = 17639 := ⟨rfl, rfl⟩
theorem bud_8 : (bud 8).1 = 639 ∧ (bud 8).2 = 158751 := by decide
theorem Mc_s (i : Nat) : Mc (i + 1) = gM (run 20000 (cfC i (Mc i))) := by rw [Mc]
theorem x10_loop (hl : l.stackTraces = false) (C : Cx p l rm10 s m args meth c D cA A sp L xs 89) {M0 : Mm} : ∀ (k i : Nat), i + k = 8 → ∀ (ad : Nat → Nat) (LS : Array Slot) (H : Heap) (locs : List Loc) (cells slots : Nat),
    Wd D cA A sp L xs s ad0 M0.1 (hdl 89 = []) ad (Mc i) H locs → Fm ad 89 LS [.ref 1, .ref 2, .int (Int32.ofNat i)] [] (Mc i).1 → cells + (bud k).1 ≤ 700 → slots + (bud k).2 ≤ 160000 →
    W p l e rm10 s m args below meth c H locs cells slots (vx_MQ below (QcS D cA A sp L xs 89 M0 ad0 (.inl none, Md0)) (XcS D cA A sp L xs M0 ad0 (.inl none, Md0)) args s rm10.cells rm10.slots A) (F0 m 28 LS []) := by
  obtain ⟨q1, q2, q3⟩ := c89
  have h309 : (89 : Nat) ≠ 358 := by decide
  intro k
  induction k with
  | zero =>
    intro i hi ad LS H locs cells slots w fr h1 h2
    have hi : i = 8 := by omega
    subst hi
    rw [bud_0.1] at h1
    rw [bud_0.2] at h2
    obtain ⟨hL, hl9, hs⟩ := fr
    refine lv_iload_n C.ex C.by d89 rfl (hL.at (v := .int (Int32.ofNat 8)) rfl rfl) ?_
    exact sim_nx (X9 := (0, 0)) 20000 (fun k _ => sim_call hl k) C (th_norm C r89 h309) (fin_norm C r89 h309 hns9) r89 (okn r89 h309).1 29 [.ref 1, .ref 2, .int (Int32.ofNat 8)] [.int (Int32.ofNat 8)] (Mc 8) ad LS H locs cells slots (gV_ok rD) w ⟨hL, hl9, rfl⟩ ⟨by rw [q3, k89]; show cells + (71 + 0 + 4 * 0) ≤ 700; omega, by rw [q3, k89]; show slots + (17639 + 0 + 24 * 0) ≤ 160000; omega⟩
  | succ k ih =>
    intro i hi ad LS H locs cells slots w fr h1 h2
    obtain ⟨hL, hl9, hs⟩ := fr
    refine lv_iload_n C.ex C.by d89 rfl (hL.at (v := .int (Int32.ofNat i)) rfl rfl) ?_
    have hr := of_decide_eq_true (List.all_eq_true.mp rC i (List.mem_range.mpr (by omega)))
    have hr2 : run 20000 (89, 29, [.ref 1, .ref 2, .int (Int32.ofNat i)], [.int (Int32.ofNat i)], Mc i) = some (.inr (.inr (28, [.ref 1, .ref 2, .int (Int32.ofNat (i + 1))], [])), Mc (i + 1)) := by
      rw [Mc_s]
      exact gO_ok hr
    rw [(bud_s k).1] at h1
    rw [(bud_s k).2] at h2
    generalize hu : (bud k).1 = u at h1 ih
    generalize hv : (bud k).2 = v at h2 ih
    exact sim_stop (X9 := (u, v)) hl C r89 (okn r89 h309).1 (st := [.int (Int32.ofNat i)]) hr2 w ⟨hL, hl9, rfl⟩ ⟨by rw [q3, k89]; show cells + (71 + u + 4 * 0) ≤ 700; omega, by rw [q3, k89]; show slots + (17639 + v + 24 * 0) ≤ 160000; omega⟩ (fun ad1 LS1 H1 locs1 cells1 slots1 w1 fr1 hb1 => by
      obtain ⟨h3, h4⟩ := hb1
      rw [q2, k89] at h3 h4
      exact ih (i + 1) (by omega) ad1 LS1 H1 locs1 cells1 slots1 w1 fr1 (by have h3 : cells1 + (0 + u + 4 * 0) ≤ 700 := h3; omega) (by have h4 : slots1 + (0 + v + 24 * 0) ≤ 160000 := h4; omega))
theorem x10_met (hl : l.stackTraces = false) (ad : Nat → Nat) : vx_Met l (nm 89) (cwd 89 :: WALL) rm10 (PcS D cA A sp L xs [.ref 1] (cIn 89 Mb9) ad) (QcS D cA A sp L xs 89 (cIn 89 Mb9) ad (.inl none, Md0)) (XcS D cA A sp L xs (cIn 89 Mb9) ad (.inl none, Md0)) 700 160000 A := by
  obtain ⟨q1, q2, q3⟩ := c89
  have h309 : (89 : Nat) ≠ 358 := by decide
  obtain ⟨y1, y2, y3, y4⟩ := okn (a := 89) r89 h309
  have hnil : hdl 89 = [] := by decide +kernel
  refine vx_ofW (cc := byt 89) (maxL := mxl 89) (ret := rtt 89) (ws' := WALL) y4 (by rw [cwd_nil hnil]) ?_
  intro p e s m args below meth c s₁ B hml htab hP
  obtain ⟨rfl, hall, hG, hS1, hS2, hS3, hS4⟩ := hP
  have hw := atoms_spec (ws := cwd 89 :: WALL) B.pre
  have C : Cx p l rm10 s m (([.ref 1] : List Value).map (rv ad)).toArray meth c D cA A sp L xs 89 :=
    ⟨B.exec, B.bytes, B.returns, hml, by rw [← y1]; exact findClass_of_methodNamed B.named, fun w h => hw w (List.mem_cons_of_mem _ h), B.notSynchronized, fun _ => (by
      rw [hnil]
      cases hc9 : c.exceptionTable.toList with
      | nil => rfl
      | cons z zs => exact (htab z (by rw [hc9]; exact List.mem_cons_self)).elim), fun h => (name_of_methodNamed B.named B.method).1.trans h, Nat.le_refl _, Nat.le_refl _, hl, hG, trivial⟩
  rw [lg_entry_eq]
  have hcs : csm ([.ref 1] : List Value) ≤ mxl 89 := by decide +kernel
  exact sim_stop (X9 := (639, 158751)) hl C r89 y1 (st := []) (gO_ok rB) ⟨hS1, hS2, va_S.rf, hS3, hS4, Nat.le_refl _, fun _ _ => rfl, fun _ => rfl⟩ ⟨LR.entry hcs, all_pad hall, rfl⟩ ⟨by rw [q1, k89]; show 0 + (28 + 639 + 4 * 0) ≤ 700; omega, by rw [q1, k89]; show 0 + (537 + 158751 + 24 * 0) ≤ 160000; omega⟩ (fun ad1 LS1 H1 locs1 cells1 slots1 w1 fr1 hb1 => by
    obtain ⟨h3, h4⟩ := hb1
    rw [q2, k89] at h3 h4
    exact x10_loop hl C (M0 := cIn 89 Mb9) 8 0 rfl ad1 LS1 H1 locs1 cells1 slots1 w1 fr1 (by rw [bud_8.1]; have h3 : cells1 + (0 + 639 + 4 * 0) ≤ 700 := h3; omega) (by rw [bud_8.2]; have h4 : slots1 + (0 + 158751 + 24 * 0) ≤ 160000 := h4; omega))
end STEP
