/-! the law from one pure step -/
section STEP
variable {X9 : Nat × Nat} {p : Program} {l : Launch} {e : Env} {R : Room} {s : State} {b : Nat} {m : MethodId} {args : Array Value} {below : List Frame} {meth : Method} {c : Code} {D : va_G} {cA : Nat → ClassId} {A : Nat → Prop} {sp : Nat → Nat} {L : Nat} {xs : Nat → Int32} {ad0 : Nat → Nat} {n0 : Nat} {μ : Nat} {Q : State → Prop} {f g : Cf → Option Ou} {c0 : Cf} {o : Ou}
variable {pc : Nat} {ls st : List Value} {n : Nat} {S : Nat → Nat × Nat} {Rf : Nat → Nat → Option Nat} {I : Nat → Nat → Int32} {J : Nat → Nat → Int64} {Df : Nat → Nat → UInt64} {ad : Nat → Nat} {LS : Array Slot} {H : Heap} {locs : List Loc} {cells slots : Nat}
variable {fm tm : List Bool} {a b cc : Nat} {k : Int32}
variable {pc : Nat} {ls st : List Value} {n : Nat} {S : Nat → Nat × Nat} {Rf : Nat → Nat → Option Nat} {I : Nat → Nat → Int32} {J : Nat → Nat → Int64} {Df : Nat → Nat → UInt64} {ad : Nat → Nat} {LS : Array Slot} {H : Heap} {locs : List Loc} {cells slots : Nat}
theorem GS.un {U : State} (g : GS D cA A sp L xs U H) : GS D cA A sp 5000 (fun _ => 0) U H := ⟨g.1, fun h => absurd h (by decide), g.2.2⟩
theorem lw_end (C : Cx p l room_1 s m #[Value.ref b] meth c D cA A sp L xs 309) (hb : c.code = code) (hr : meth.sig.returnType = ret) (hA : ∀ q, A q → s.heap.size ≤ q) (w : va_S A s.heap H locs) (h1 : cells ≤ room_1.cells) (h2 : slots ≤ room_1.slots) (hdg : decode code pc = .ok (.ireturn, 1)) :
    W p l e room_1 s m #[Value.ref b] below meth c H locs cells slots (lw_Z below #[Value.ref b] s) (F0 m pc LS [.int 1]) :=
  va_forget (fun q hq => hA _ (w.2.2 q hq)) (W.widen h1 h2 (W.base (lw_ret (Drawn.sameBut.refl s.drawn lw_cs) C.ex hb hr C.2.2.2.2.2.2.1 hdg)))
theorem fi_law {M9 : Mm} (C : Cx p l room_1 s m #[Value.ref b] meth c D cA A sp L xs 309) (hb : c.code = code) (hr : meth.sig.returnType = ret) (hA : ∀ q, A q → s.heap.size ≤ q) : Fi X9 p l e room_1 s m #[Value.ref b] below meth c D cA A sp L xs ad0 n0 309 (lw_Z below #[Value.ref b] s) (.inl (some (.int 1)), M9) := by
  intro pc ls st M ad LS H locs cells slots hif h w fr hb9
  obtain ⟨n, S, Rf, I, J, Df⟩ := M
  unfold st1 at h
  dsimp only at h
  cases he : cins 309 pc with
  | none =>
    rw [he] at h
    injection h with h
    injection h with h
    injection h with _ h2
    injection h2 with h3 h4
    cases h3
  | some e9 =>
    rw [he] at h
    obtain ⟨hd, hlen, -⟩ := okZ_all 309 (by decide) pc _ he
    obtain ⟨i, len, fm, tm, a, b9, cc, k9⟩ := e9
    have hif := hif _ he
    dsimp only at h hif hd hlen
    have hby : byt 309 = code := rfl
    cases i with
    | ireturn =>
      have hl1 : len = 1 := beq_e hlen
      subst hl1
      obtain ⟨x, r, rfl, h⟩ := i1_inv h
      obtain ⟨hg, ho⟩ := rt_inv h
      rw [Bool.and_eq_true] at hg
      have hr9 := nil_of hg.1
      subst hr9
      injection ho with ho
      injection ho with ho
      injection ho with ho
      injection ho with ho
      subst ho
      exact lw_end C hb hr hA w.2.2.1 (Nat.le_trans (Nat.le_add_right _ _) hb9.1) (Nat.le_trans (Nat.le_add_right _ _) hb9.2) (by rw [← hby]; exact hd)
    | lreturn =>
      exfalso
      obtain ⟨v, r, rfl, h⟩ := v1_inv h
      cases v with
      | long x => have h2 := (rt_inv h).2; injection h2 with h3; injection h3 with h3; injection h3 with h3; cases h3
      | _ => exact hl_n h
    | freturn =>
      exfalso
      obtain ⟨v, r, rfl, h⟩ := v1_inv h
      cases v with
      | float x => have h2 := (rt_inv h).2; injection h2 with h3; injection h3 with h3; injection h3 with h3; cases h3
      | _ => exact hl_n h
    | dreturn =>
      exfalso
      obtain ⟨v, r, rfl, h⟩ := v1_inv h
      cases v with
      | double x => have h2 := (rt_inv h).2; injection h2 with h3; injection h3 with h3; injection h3 with h3; cases h3
      | _ => exact hl_n h
    | areturn =>
      exfalso
      obtain ⟨v, r, rfl, h⟩ := v1_inv h
      cases v with
      | ref x => have h2 := (rt_inv h).2; injection h2 with h3; injection h3 with h3; injection h3 with h3; cases h3
      | _ => exact hl_n h
    | return_ =>
      exfalso
      have h2 := (rt_inv h).2
      injection h2 with h3
      injection h3 with h3
      cases h3
    | new x =>
      exfalso
      have h : (bif Nat.beq a 0 then gd (Nat.blt n 900000) 309 (pc + len) (mk fm ls) (.ref n :: st) (n + 1, upR S n (b9, 0), upR Rf n (fun _ => none), upR I n (fun _ => 0), J, Df) else .inr (.inr (Nat.ble (csm st) 8, .inr (.inl b9), (n, S, Rf, I, J, Df)))) = .inr (.inr (true, (.inl (some (.int 1)), M9))) := h
      cases ha : Nat.beq a 0 with
      | true => rw [ha] at h; cases h
      | false =>
        rw [ha] at h
        rw [cond_false] at h
        injection h with h
        injection h with h
        injection h with h1 h2
        injection h2 with h3
        cases h3
    | _ => cases hif
abbrev I4 : Type := Nat → Nat → Int32
/-- one pure turn of the law's loop -/
def StepOK (L : Nat) (xs : Nat → Int32) (Inv : Nat → I4 → (Nat → Nat → Int64) → (Nat → Nat → UInt64) → Prop) : Prop :=
  ∀ (k : Nat) (I : I4) (J : Nat → Nat → Int64) (D : Nat → Nat → UInt64), 5 * k + 5 ≤ L → Inv k I J D → I iSCL 0 = Int32.ofNat L → (∀ j, j < L → I iSCR j = xs j) →
    ∃ I' J' D', ex (309, 37, Lst (Int32.ofNat (5 * k)), [], mm I J D) = ex (309, 28, Lst (Int32.ofNat (5 * k) + 5), [], mm I' J' D') ∧ Inv (k + 1) I' J' D'
theorem ex_28 (ls : List Value) (M : Mm) : ex (309, 28, ls, [], M) = some (.inr (.inr (28, ls, [])), M) := by
  obtain ⟨n, S, Rf, I, J, Df⟩ := M
  rw [ex_fix]
  rfl
theorem i32_lim {L k : Nat} (hL : L ≤ 2560) (hk : k ≤ 2570) : (Int32.ofNat L - 5 < Int32.ofNat k) ↔ L < k + 5 := by
  rw [Int32.lt_iff_toInt_lt, Int32.toInt_sub]
  have e1 : (Int32.ofNat L).toInt = (L : Int) := nI_toInt (n := L) (by omega)
  have e2 : (Int32.ofNat k).toInt = (k : Int) := nI_toInt (n := k) (by omega)
  have e3 : (5 : Int32).toInt = 5 := rfl
  rw [e1, e2, e3, Int.bmod_def]
  omega
def bul : Nat → Nat × Nat
  | 0 => (4, 24)
  | k + 1 => ((bul k).1 + 4, (bul k).2 + 24)
theorem bul_s (k : Nat) : (bul (k + 1)).1 = (bul k).1 + 4 ∧ (bul (k + 1)).2 = (bul k).2 + 24 := ⟨rfl, rfl⟩
theorem bul_0 : (bul 0).1 = 4 ∧ (bul 0).2 = 24 := ⟨rfl, rfl⟩
theorem law_loop (hl : l.stackTraces = false) (C : Cx p l room_1 s m #[Value.ref b] meth c D cA A sp L xs 309) (hL : L ≤ 2560) (hb : c.code = code) (hr : meth.sig.returnType = ret) (hA : ∀ q, A q → s.heap.size ≤ q) {Inv : Nat → I4 → (Nat → Nat → Int64) → (Nat → Nat → UInt64) → Prop} (hst : StepOK L xs Inv) :
    ∀ (r k : Nat) (I : I4) (J : Nat → Nat → Int64) (Df : Nat → Nat → UInt64) (ad : Nat → Nat) (LS : Array Slot) (H : Heap) (locs : List Loc) (cells slots : Nat), L < 5 * (k + r) + 5 → 5 * k ≤ L → Inv k I J Df → Wd D cA A sp L xs s ad0 n0 (hdl 309 = []) ad (mm I J Df) H locs → Fm ad 309 LS (Lst (Int32.ofNat (5 * k))) [] 337 → cells + (bul r).1 ≤ room_1.cells → slots + (bul r).2 ≤ room_1.slots →
      W p l e room_1 s m #[Value.ref b] below meth c H locs cells slots (lw_Z below #[Value.ref b] s) (F0 m 28 LS []) := by
  obtain ⟨-, -, -, ⟨q28, q28b⟩, q30, q30b⟩ := c309b
  obtain ⟨-, -, r1, r2⟩ := xs_ok
  have hμ : (309 : Nat) < 318 := by decide
  have hcl := k309.2.2.2.2
  intro r
  induction r with
  | zero =>
    intro k I J Df ad LS H locs cells slots hr1 hr2 hi w fr h1 h2
    rw [bul_0.1] at h1
    rw [bul_0.2] at h2
    obtain ⟨hL9, hl9, hs⟩ := fr
    have hw : I iSCL 0 = Int32.ofNat L := w.2.2.2.1.2.2.2.2.1
    refine lv_iload C.ex C.by d309.2 (hL9.at (v := .int (Int32.ofNat (5 * k))) rfl rfl) ?_
    have e1 : ex (309, 30, Lst (Int32.ofNat (5 * k)), [.int (Int32.ofNat (5 * k))], mm I J Df) = some (.inl (some (.int 1)), mm I J Df) := by
      refine (e_309_30 I J Df _ _).trans ?_
      rw [hw, decide_eq_true ((i32_lim hL (by omega)).mpr (by omega)), cond_true]
      exact e_309_3117 I J Df
    obtain ⟨N, hN⟩ := ex_run e1
    exact sim_nx (X9 := (0, 0)) N (fun k _ => sim_call hl k) C (th_no fun E M h => by injection h with h; cases h) (fi_law C hb hr hA) hμ hcl 30 _ [.int (Int32.ofNat (5 * k))] _ ad LS H locs cells slots hN w ⟨hL9, hl9, rfl⟩ ⟨by rw [q30]; show cells + (4 + 0) ≤ _; omega, by rw [q30b]; show slots + (24 + 0) ≤ _; omega⟩
  | succ r ih =>
    intro k I J Df ad LS H locs cells slots hr1 hr2 hi w fr h1 h2
    rw [(bul_s r).1] at h1
    rw [(bul_s r).2] at h2
    obtain ⟨hL9, hl9, hs⟩ := fr
    have hw : I iSCL 0 = Int32.ofNat L := w.2.2.2.1.2.2.2.2.1
    refine lv_iload C.ex C.by d309.2 (hL9.at (v := .int (Int32.ofNat (5 * k))) rfl rfl) ?_
    by_cases hlt : L < 5 * k + 5
    · have e1 : ex (309, 30, Lst (Int32.ofNat (5 * k)), [.int (Int32.ofNat (5 * k))], mm I J Df) = some (.inl (some (.int 1)), mm I J Df) := by
        refine (e_309_30 I J Df _ _).trans ?_
        rw [hw, decide_eq_true ((i32_lim hL (by omega)).mpr hlt), cond_true]
        exact e_309_3117 I J Df
      obtain ⟨N, hN⟩ := ex_run e1
      exact sim_nx (X9 := (0, 0)) N (fun k _ => sim_call hl k) C (th_no fun E M h => by injection h with h; cases h) (fi_law C hb hr hA) hμ hcl 30 _ [.int (Int32.ofNat (5 * k))] _ ad LS H locs cells slots hN w ⟨hL9, hl9, rfl⟩ ⟨by rw [q30]; show cells + (4 + 0) ≤ _; omega, by rw [q30b]; show slots + (24 + 0) ≤ _; omega⟩
    · obtain ⟨I', J', D', e2, hi2⟩ := hst k I J Df (by omega) hi hw w.2.2.2.1.2.2.2.2.2
      have e5 : Int32.ofNat (5 * k) + 5 = Int32.ofNat (5 * (k + 1)) := by
        rw [Nat.mul_add, Int32.ofNat_add]
        rfl
      have e1 : ex (309, 30, Lst (Int32.ofNat (5 * k)), [.int (Int32.ofNat (5 * k))], mm I J Df) = some (.inr (.inr (28, Lst (Int32.ofNat (5 * (k + 1))), [])), mm I' J' D') := by
        refine (e_309_30 I J Df _ _).trans ?_
        rw [hw, decide_eq_false (fun h => hlt ((i32_lim hL (by omega)).mp h)), cond_false, ← e5, ← ex_28]
        exact e2
      obtain ⟨N, hN⟩ := ex_run e1
      generalize hu : (bul r).1 = u at h1 ih
      generalize hv : (bul r).2 = v at h2 ih
      exact sim_stop (X9 := (u, v)) hl C hμ hcl (st := [.int (Int32.ofNat (5 * k))]) hN w ⟨hL9, hl9, rfl⟩ ⟨by rw [q30]; show cells + (4 + u) ≤ _; omega, by rw [q30b]; show slots + (24 + v) ≤ _; omega⟩ (fun ad1 LS1 H1 locs1 cells1 slots1 w1 fr1 hb1 => by
        obtain ⟨h3, h4⟩ := hb1
        rw [q28] at h3
        rw [q28b] at h4
        dsimp only at h3 h4
        exact ih (k + 1) I' J' D' ad1 LS1 H1 locs1 cells1 slots1 (by omega) (by omega) hi2 w1 fr1 (by omega) (by omega))
end STEP
theorem fr309 : frm 309 ≤ room_1.frames ∧ lc 309 ≤ room_1.locals ∧ mxl 309 = 10 ∧ (nm 309).name = "law" := by decide +kernel
theorem bul_512 : (bul 512).1 = 2052 ∧ (bul 512).2 = 12312 := by decide +kernel
/-- the whole claim from one pure turn of the law's loop -/
theorem whole_red {p : Program} {e : Env} {s : State} {m : MethodId} {below : List Frame} {meth : Method} {c : Code} (l : Launch) (hflags : l.flags = flags0) {b L : Nat} {xs : Nat → Int32} (hL : L ≤ 2560) (C0 : lw_At p s m meth c b L xs)
    (hst : ∃ Inv : Nat → I4 → (Nat → Nat → Int64) → (Nat → Nat → UInt64) → Prop, Inv 0 (I1 L xs) J1 D1 ∧ StepOK L xs Inv) :
    W p l e room_1 s m #[Value.ref b] below meth c s.heap [] 0 0 (lw_Z below #[Value.ref b] s) (entryFrame m ([Value.ref b] : List Value).toArray 10) := by
  obtain ⟨Inv, h0, hst⟩ := hst
  have hl : l.stackTraces = false := by
    show (!l.flags.contains Jvm.noTraceFlag) = false
    rw [hflags]
    decide +kernel
  obtain ⟨D, cA, sp, hsp, g⟩ := gs_start C0
  obtain ⟨hx, hb, hr, hml, hown, hts, hX, hbl, hlocks, hgv⟩ := C0
  obtain ⟨f1, f2, f3, f4⟩ := fr309
  have C : Cx p l room_1 s m #[Value.ref b] meth c D cA (fun q => s.heap.size ≤ q) sp L xs 309 :=
    ⟨hx, hb, hr, hml.trans f3.symm, hown, fun w hw => hts w (List.mem_filter.mp hw).1, hlocks, fun h => absurd rfl h, fun h => by rw [f4] at h; exact absurd h (by decide), f1, f2, hl, g, trivial⟩
  have Cu : Cx p l room_1 s m #[Value.ref b] meth c D cA (fun q => s.heap.size ≤ q) sp 5000 (fun _ => 0) 309 :=
    ⟨hx, hb, hr, hml.trans f3.symm, hown, fun w hw => hts w (List.mem_filter.mp hw).1, hlocks, fun h => absurd rfl h, fun h => by rw [f4] at h; exact absurd h (by decide), f1, f2, hl, GS.un g, trivial⟩
  refine law_pre hl Cu (by show _ = #[Value.ref (sp iSCR)]; rw [hsp]) fun ad LS H locs cells slots w fr h1 h2 => ?_
  rw [nE] at fr
  obtain ⟨r9, e9⟩ : ∃ r : Nat, r = 512 := ⟨_, rfl⟩
  have b1 : (bul r9).1 = 2052 := by rw [e9]; exact bul_512.1
  have b2 : (bul r9).2 = 12312 := by rw [e9]; exact bul_512.2
  have w2 := wd_real (xs := xs) hL w
  have fr2 : Fm ad 309 LS (Lst (Int32.ofNat (5 * 0))) [] 337 := fr
  have z1 : L < 5 * (0 + r9) + 5 := by omega
  obtain ⟨-, -, r1, r2⟩ := xs_ok
  have z2 : cells + (bul r9).1 ≤ room_1.cells := by rw [b1]; omega
  have z3 : slots + (bul r9).2 ≤ room_1.slots := by rw [b2]; omega
  exact law_loop hl C hL hb hr (fun q h => h) hst r9 0 (I1 L xs) J1 D1 ad LS H locs cells slots z1 (Nat.zero_le _) h0 w2 fr2 z2 z3
