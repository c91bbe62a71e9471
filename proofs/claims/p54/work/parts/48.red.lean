/-! the claim from one pure run of 'holds' -/
section STEP
variable {X9 : Nat × Nat} {p : Program} {l : Launch} {e : Env} {R : Room} {s : State} {m : MethodId} {args : Array Value} {below : List Frame} {meth : Method} {c : Code} {D : va_G} {cA : Nat → ClassId} {A : Nat → Prop} {sp : Nat → Nat} {L : Nat} {xs : Nat → Int32} {ad0 : Nat → Nat} {n0 : Nat} {μ : Nat} {Q : State → Prop} {f g : Cf → Option Ou} {c0 : Cf} {o : Ou}
variable {pc : Nat} {ls st : List Value} {n : Nat} {S : Nat → Nat × Nat} {Rf : Nat → Nat → Option Nat} {I : Nat → Nat → Int32} {J : Nat → Nat → Int64} {Df : Nat → Nat → UInt64} {ad : Nat → Nat} {LS : Array Slot} {H : Heap} {locs : List Loc} {cells slots : Nat}
variable {fm tm : List Bool} {a b cc : Nat} {k : Int32}
variable {pc : Nat} {ls st : List Value} {n : Nat} {S : Nat → Nat × Nat} {Rf : Nat → Nat → Option Nat} {I : Nat → Nat → Int32} {J : Nat → Nat → Int64} {Df : Nat → Nat → UInt64} {ad : Nat → Nat} {LS : Array Slot} {H : Heap} {locs : List Loc} {cells slots : Nat}
variable {b : Nat}
theorem lw_end (C : Cx p l room_1 s m #[Value.ref b] meth c D cA A sp L xs 358) (hb : c.code = code) (hr : meth.sig.returnType = ret) (hA : ∀ q, A q → s.heap.size ≤ q) (w : va_S A s.heap H locs) (h1 : cells ≤ room_1.cells) (h2 : slots ≤ room_1.slots) (hdg : decode code pc = .ok (.ireturn, 1)) :
    W p l e room_1 s m #[Value.ref b] below meth c H locs cells slots (lw_Z below #[Value.ref b] s) (F0 m pc LS [.int 1]) :=
  va_forget (fun q hq => hA _ (w.2.2 q hq)) (W.widen h1 h2 (lw_ret C.ex hb hr C.2.2.2.2.2.2.1 hdg))
theorem fi_law {M9 : Mm} (C : Cx p l room_1 s m #[Value.ref b] meth c D cA A sp L xs 358) (hb : c.code = code) (hr : meth.sig.returnType = ret) (hA : ∀ q, A q → s.heap.size ≤ q) : Fi X9 p l e room_1 s m #[Value.ref b] below meth c D cA A sp L xs ad0 n0 358 (lw_Z below #[Value.ref b] s) (.inl (some (.int 1)), M9) := by
  intro pc ls st M ad LS H locs cells slots hif h w fr hb9
  obtain ⟨n, S, Rf, I, J, Df⟩ := M
  unfold st1 at h
  dsimp only at h
  cases he : cins 358 pc with
  | none =>
    rw [he] at h
    injection h with h
    injection h with h
    injection h with _ h2
    injection h2 with h3 h4
    cases h3
  | some e9 =>
    rw [he] at h
    obtain ⟨hd, hlen, -⟩ := okZ_all 358 rfl pc _ he
    obtain ⟨i, len, fm, tm, a, b9, cc, k9⟩ := e9
    have hif := hif _ he
    dsimp only at h hif hd hlen
    rw [stX_lo (by decide)] at h
    have hby : byt 358 = code := rfl
    cases i with
    | ireturn =>
      have hl1 : len = 1 := beq_e hlen
      subst hl1
      obtain ⟨x, r, rfl, h⟩ := i1_inv h
      obtain ⟨hg, ho⟩ := rt_inv h
      rw [Bool.and_eq_true] at hg
      have hr9 := nil_of hg.1
      subst hr9
      injection ho with ho
      injection ho with ho
      injection ho with ho
      injection ho with ho
      subst ho
      exact lw_end C hb hr hA w.2.2.1 (Nat.le_trans (Nat.le_add_right _ _) hb9.1) (Nat.le_trans (Nat.le_add_right _ _) hb9.2) (by rw [← hby]; exact hd)
    | lreturn =>
      exfalso
      obtain ⟨v, r, rfl, h⟩ := v1_inv h
      cases v with
      | long x => have h2 := (rt_inv h).2; injection h2 with h3; injection h3 with h3; injection h3 with h3; cases h3
      | _ => exact hl_n h
    | freturn =>
      exfalso
      obtain ⟨v, r, rfl, h⟩ := v1_inv h
      cases v with
      | float x => have h2 := (rt_inv h).2; injection h2 with h3; injection h3 with h3; injection h3 with h3; cases h3
      | _ => exact hl_n h
    | dreturn =>
      exfalso
      obtain ⟨v, r, rfl, h⟩ := v1_inv h
      cases v with
      | double x => have h2 := (rt_inv h).2; injection h2 with h3; injection h3 with h3; injection h3 with h3; cases h3
      | _ => exact hl_n h
    | areturn =>
      exfalso
      obtain ⟨v, r, rfl, h⟩ := v1_inv h
      cases v with
      | ref x => have h2 := (rt_inv h).2; injection h2 with h3; injection h3 with h3; injection h3 with h3; cases h3
      | _ => exact hl_n h
    | return_ =>
      exfalso
      have h2 := (rt_inv h).2
      injection h2 with h3
      injection h3 with h3
      cases h3
    | new x =>
      exfalso
      have h : (bif Nat.beq a 0 then gd (Nat.blt n 900000) 358 (pc + len) (mk fm ls) (.ref n :: st) (n + 1, upR S n (b9, 0), upR Rf n (fun _ => none), upR I n (fun _ => 0), upR J n (fun _ => 0), Df) else .inr (.inr (Nat.ble (csm st) 8, .inr (.inl b9), (n, S, Rf, I, J, Df)))) = .inr (.inr (true, (.inl (some (.int 1)), M9))) := h
      cases ha : Nat.beq a 0 with
      | true => rw [ha] at h; cases h
      | false =>
        rw [ha] at h
        rw [cond_false] at h
        injection h with h
        injection h with h
        injection h with h1 h2
        injection h2 with h3
        cases h3
    | _ => cases hif

/-- all that the law does behind its constructor -/
def HoldsOK (L : Nat) (xs : Nat → Int32) : Prop := ∃ M9, ex (357, 0, pad (mxl 357) (ent [.ref 0]), [], M1 L xs 2200) = some (.inl (some (.int 1)), M9)
def ML (L : Nat) (xs : Nat → Int32) : Mm := (0, ssL L, fun _ _ => none, Iz L xs 2300, fun _ _ => 0, fun _ _ => 0)
/-- at the law's call of its constructor -/
def MP (L : Nat) (xs : Nat → Int32) : Mm := (1, upR (ssL L) 0 (12, 0), upR (fun _ _ => none) 0 (fun _ => none), upR (Iz L xs 2300) 0 (fun _ => 0), upR (fun _ _ => 0) 0 (fun _ => 0), fun _ _ => 0)
def MP9 (L : Nat) (xs : Nat → Int32) : Mm := ((MP L xs).1, (MP L xs).2.1, (MP L xs).2.2.1, cI 358 320 (MP L xs).2.2.2.1, (MP L xs).2.2.2.2.1, (MP L xs).2.2.2.2.2)
theorem mp9_crd (L : Nat) (xs : Nat → Int32) : (MP9 L xs).2.2.2.1 iCRD 0 = 2295 := by
  have e : (MP9 L xs).2.2.2.1 = ups (MP L xs).2.2.2.1 iCRD 0 ((MP L xs).2.2.2.1 iCRD 0 - Int32.ofNat (cK 320)) := rfl
  have e2 : (MP L xs).2.2.2.1 iCRD 0 = 2300 := by
    show upR (Iz L xs 2300) 0 (fun _ => 0) iCRD 0 = 2300
    rw [upR_n (by decide)]
    rfl
  rw [e, w_us, e2]
  decide +kernel
theorem mp9_kr (L : Nat) (xs : Nat → Int32) : kr 358 (MP9 L xs) = 2295 := by
  unfold kr
  rw [mp9_crd]
  decide +kernel
theorem mp9_I (L : Nat) (xs : Nat → Int32) : (cIn 320 (MP9 L xs)).2.2.2.1 0 = fun _ => 0 := by
  have e : (cIn 320 (MP9 L xs)).2.2.2.1 = ups (ups (upR (Iz L xs 2300) 0 (fun _ => 0)) iCRD 0 ((MP L xs).2.2.2.1 iCRD 0 - Int32.ofNat (cK 320))) iCRD 0 (Int32.ofNat (cK 320)) := rfl
  rw [e, w_un (by decide), w_un (by decide), upR_s]
theorem mp9_J (L : Nat) (xs : Nat → Int32) : (cIn 320 (MP9 L xs)).2.2.2.2.1 0 = fun _ => 0 := by
  have e : (cIn 320 (MP9 L xs)).2.2.2.2.1 = upR (fun _ _ => 0) 0 (fun _ => 0) := rfl
  rw [e, upR_s]
theorem eLP (L : Nat) (xs : Nat → Int32) : itr 3 (gS 5) (358, 0, [.ref 1000002], [], ML L xs) = some (.inr (.inr (5, [.ref 1000002], [.ref 1000002, .ref 0, .ref 0])), MP L xs) := rfl
theorem e_law_8 (n : Nat) (S : Nat → Nat × Nat) (R : Nat → Nat → Option Nat) (I : Nat → Nat → Int32) (J : Nat → Nat → Int64) (D : Nat → Nat → UInt64) (hS : S 0 = (12, 0)) (hn : 0 < n) : ex (358, 8, [.ref 1000002], [.ref 0], n, S, R, I, J, D) = bif cG 358 357 I then calK 358 11 [dv] [] (n, S, R, cI 358 357 I, J, D) (ex (357, 0, pad (mxl 357) (ent [.ref 0]), [], cIn 357 (n, S, R, cI 358 357 I, J, D))) else none := by
  rw [ex_fix]
  have h : st1 (358, 8, [.ref 1000002], [.ref 0], n, S, R, I, J, D) = bif ((Nat.beq (S 0).1 12 && (Nat.beq 12 43 || Nat.blt 0 n)) || (Nat.beq 12 43 && (Nat.beq (S 0).1 13 && Nat.blt 0 n))) && ((Nat.ble (csm []) 8 && Nat.ble (csm [.ref 0]) (mxl 357)) && cG 358 357 I) then .inr (.inl (357, [.ref 0], (358, 11, [dv], [], (n, S, R, cI 358 357 I, J, D)), [.ref 1000002])) else hl := rfl
  rw [h, hS, blt_t hn]
  cases hG : cG 358 357 I with
  | false => rfl
  | true => rfl
theorem e_law_11 (M : Mm) : ex (358, 11, [dv], [.int 1], M) = some (.inl (some (.int 1)), M) := by
  obtain ⟨n, S, R, I, J, D⟩ := M
  exact (ex_itr 1 _).trans rfl
theorem M1_in (L : Nat) (xs : Nat → Int32) (c x : Int32) : ups (ovr I0 (Q1 L xs c)) iCRD 0 x = ovr I0 (Q1 L xs x) := by
  rw [ovr_ups2 (by decide)]
  unfold Q1
  rw [w_uu]
theorem law_tail {L : Nat} {xs : Nat → Int32} (h : HoldsOK L xs) (c : Int32) : ∃ M9, ex (358, 8, [.ref 1000002], [.ref 0], cOut 358 (MP9 L xs) (M1 L xs c)) = some (.inl (some (.int 1)), M9) := by
  obtain ⟨M9, h⟩ := h
  have hc : (MP9 L xs).2.2.2.1 iCRD 0 = 2295 := mp9_crd L xs
  have e0 : cOut 358 (MP9 L xs) (M1 L xs c) = M1 L xs 2295 := by
    show ((329, S54, R54, ups (ovr I0 (Q1 L xs c)) iCRD 0 ((MP9 L xs).2.2.2.1 iCRD 0), ovr J0 Me.2.2.2.2.1, ovr D0 Me.2.2.2.2.2) : Mm) = (329, S54, R54, ovr I0 (Q1 L xs 2295), ovr J0 Me.2.2.2.2.1, ovr D0 Me.2.2.2.2.2)
    rw [hc, M1_in]
  rw [e0]
  have hg : cG 358 357 (ovr I0 (Q1 L xs 2295)) = true := by
    show decide (Int32.ofNat (cK 357) ≤ Q1 L xs 2295 iCRD 0) = true
    unfold Q1
    rw [w_us]
    decide
  have hin : cIn 357 ((329, S54, R54, cI 358 357 (ovr I0 (Q1 L xs 2295)), ovr J0 Me.2.2.2.2.1, ovr D0 Me.2.2.2.2.2) : Mm) = M1 L xs 2200 := by
    show ((329, S54, R54, ups (ups (ovr I0 (Q1 L xs 2295)) iCRD 0 _) iCRD 0 2200, ovr J0 Me.2.2.2.2.1, ovr D0 Me.2.2.2.2.2) : Mm) = _
    rw [w_uu, M1_in]
    rfl
  obtain ⟨Mx, hMx⟩ : ∃ Mx : Mm, Mx = (329, S54, R54, cI 358 357 (ovr I0 (Q1 L xs 2295)), ovr J0 Me.2.2.2.2.1, ovr D0 Me.2.2.2.2.2) := ⟨_, rfl⟩
  have h8 := e_law_8 329 S54 R54 (ovr I0 (Q1 L xs 2295)) (ovr J0 Me.2.2.2.2.1) (ovr D0 Me.2.2.2.2.2) rfl (by decide)
  rw [hg, cond_true, ← hMx] at h8
  rw [← hMx] at hin
  rw [hin, h] at h8
  have e1 : M1 L xs 2295 = (329, S54, R54, ovr I0 (Q1 L xs 2295), ovr J0 Me.2.2.2.2.1, ovr D0 Me.2.2.2.2.2) := rfl
  rw [e1]
  exact ⟨cOut 358 Mx M9, h8.trans (e_law_11 _)⟩
theorem rLAW : rl2 358 = true := rfl
theorem cLAW : (cst 358 0 = (27, 399) ∧ cst 358 5 = (26, 386)) ∧ cst 358 8 = (25, 378) := by decide +kernel
theorem dLAW : decode (byt 358) 5 = .ok (.invokespecial 324, 3) := by decide +kernel
theorem kLAW : (a3 pM (ow 358) 324 320 = true ∧ rmk 320 358 = true) ∧ (nar 320 = 1 ∧ hdl 320 = []) ∧ ((nm 320).name = "<init>" ∧ rtt 320 = none) ∧ (hnd 358 = [] ∧ hdl 358 = []) ∧ (nm 358).cls = onm (ow 358) := by decide +kernel
theorem okw320 : Nat.beq (wix 320).2.1 0 = true := by decide +kernel
theorem frLAW : frm 358 ≤ room_1.frames ∧ lc 358 ≤ room_1.locals ∧ mxl 358 = 1 ∧ (nm 358).name = "law" := by decide +kernel
theorem rmR : 500000 ≤ room_1.cells ∧ 7000000 ≤ room_1.slots := by decide +kernel
theorem law_init (hl : l.stackTraces = false) (hL9 : L ≤ 2560) (C : Cx p l R s m args meth c D cA A sp L xs 358) {c9 : Int32} (hM : vx_Met l (nm 320) (cwd 320 :: WALL) rmL (PcS D cA A sp L xs [.ref 0, .ref 1000002] (cIn 320 (MP9 L xs)) ad) (QcS D cA A sp L xs 320 (cIn 320 (MP9 L xs)) ad (.inl none, M1 L xs c9)) (XcS D cA A sp L xs (cIn 320 (MP9 L xs)) ad (.inl none, M1 L xs c9)) 1000 170000 A)
    (K : Nx X9 p l e R s m args below meth c D cA A sp L xs ad0 n0 358 Q g o) (T9 : Th p l e R s m args below meth c D cA A sp L xs ad0 n0 358 Q o)
    (w : Wd D cA A sp L xs s ad0 n0 (hdl 358 = []) ad (MP9 L xs) H locs) (fr : Fm ad 358 LS ls [.ref 1000002, .ref 0, .ref 0] 1) (hb2 : cells + 1000 ≤ R.cells ∧ slots + 170000 ≤ R.slots) (hb3 : Bu X9 R 358 (5 + 3) (MP9 L xs) (cells + 1000) (slots + 170000)) (h : g (358, 8, mk [] ls, [.ref 0], cOut 358 (MP9 L xs) (M1 L xs c9)) = some o) :
    W p l e R s m args below meth c H locs cells slots Q (F0 m 5 LS ([.ref 1000002, .ref 0, .ref 0].map (rv ad))) := by
  have k5 : rl2 320 = true := rfl
  obtain ⟨⟨k1, k9⟩, ⟨kn, hnil⟩, k7, ⟨hh, -⟩, -⟩ := kLAW
  obtain ⟨hL, hl9, hs⟩ := fr
  obtain ⟨z1, z2, -⟩ := okw_v k5 h320 okw320
  obtain ⟨y1, y2, y3, -⟩ := okn k5 h320
  obtain ⟨r1, r2⟩ := rmk_ok C k9
  simp only [List.all_cons, Bool.and_eq_true] at hs
  have hv0 : ([.ref 0, .ref 1000002] : List Value).all (vok (MP9 L xs).1) = true := by simp only [List.all_cons, Bool.and_eq_true]; exact ⟨hs.2.1, hs.1, rfl⟩
  have hv1 : ([.ref 0] : List Value).all (vok (MP9 L xs).1) = true := by simp only [List.all_cons, Bool.and_eq_true]; exact hs.2.2
  have hcode : Cond.code (nm 320) (byt 320) (mxl 320) none ∈ WALL := by
    have := okc k5 h320 _ List.mem_cons_self
    rw [cwd_nil hnil, k7.2] at this
    exact this
  have hpre := pre_in (a := 320) C w hv0
  obtain ⟨e9, he9, q1, q2, q3⟩ := a3_in k1
  have hw9 := inWb_mem (List.all_eq_true.mp okM e9 he9)
  unfold wM at hw9
  rw [q1, q2, q3] at hw9
  have hr := vx_runI (m := m) (cells := cells) (slots := slots) (locs := locs) (below := below) (meth := meth) (e := e) (g := F0 m 5 LS (([.ref 1000002, .ref 0, .ref 0] : List Value).map (rv ad))) (As := ([.ref 1000002] : List Value).map (rv ad)) (rest := ([.ref 0] : List Value).map (rv ad)) (n := 1) (index := 324) ⟨C.ex, C.by, C.ml, C.own, C.2.2.2.2.2.1⟩ hM
    ⟨⟨rfl, rfl, r1, r2, wall_pay C.2.2.2.2.2.1 (okc k5 h320), List.mem_cons_of_mem _ hcode, C.wd hcode, C.wd z1, ⟨y2, y3⟩, (by rw [← kn]; exact okl k5 h320), C.wd hw9⟩, k7.1, C.wd z2⟩ ⟨WS_blind, hpre⟩ rfl rfl hL.1 rfl (lv_room (by rw [csm_rv]; decide)) dLAW hb2
  exact call_go C K T9 rLAW w hL hl9 (r := [.ref 0]) hv1 hb3 (fun h hx => by rw [hh] at hx; cases hx) (mk9 := []) (o1 := (.inl none, cOut 358 (MP9 L xs) (M1 L xs c9))) (o8 := (.inl none, M1 L xs c9)) rfl hr h
end STEP
/-- the whole claim from one pure run -/
theorem p54_red {p : Program} {e : Env} {s : State} {m : MethodId} {below : List Frame} {meth : Method} {c : Code} (l : Launch) (hflags : l.flags = flags0) {b L : Nat} {xs : Nat → Int32} (hL : L ≤ 260) (C0 : lw_At p s m meth c b L xs) (hst : HoldsOK L xs) :
    W p l e room_1 s m #[Value.ref b] below meth c s.heap [] 0 0 (lw_Z below #[Value.ref b] s) (entryFrame m ([Value.ref b] : List Value).toArray 1) := by
  have hL2 : L ≤ 2560 := by omega
  have hl : l.stackTraces = false := by
    show (!l.flags.contains Jvm.noTraceFlag) = false
    rw [hflags]
    decide +kernel
  obtain ⟨D, cA, sp, hsp, g⟩ := gs_start C0
  obtain ⟨hx, hb, hr, hml, hown, hts, hX, hbl, hlocks, hgv⟩ := C0
  obtain ⟨f1, f2, f3, f4⟩ := frLAW
  obtain ⟨⟨q0, q5⟩, q8⟩ := cLAW
  obtain ⟨rm1, rm2⟩ := rmR
  have hcl := kLAW.2.2.2.2
  have C : Cx p l room_1 s m #[Value.ref b] meth c D cA (fun q => s.heap.size ≤ q) sp L xs 358 :=
    ⟨hx, hb, hr, hml.trans f3.symm, hown, fun w hw => hts w (List.mem_filter.mp hw).1, hlocks, fun h => absurd rfl h, fun h => by rw [f4] at h; exact absurd h (by decide), f1, f2, hl, g, trivial⟩
  have w0 : Wd D cA (fun q => s.heap.size ≤ q) sp L xs s sp 0 (hdl 358 = []) sp (ML L xs) s.heap [] := by
    refine ⟨fun k q h => ?_, ⟨fun i j p q h => ?_, fun k q h => ?_⟩, va_S.rf, ⟨Nat.zero_le _, fun _ _ => rfl, fun p h => absurd h (Nat.not_lt_zero _), fun p j q h => absurd h (Nat.not_lt_zero _), rfl, fun _ _ => rfl⟩, fun _ _ _ => rfl, Nat.le_refl _, fun _ _ => rfl, fun _ => rfl⟩
    · exact absurd h (by simp [wsl, ML])
    · exact absurd h (by simp [wsl, ML])
    · exact absurd h (by simp [wsl, ML])
  have kP : kr 358 (MP L xs) = 2300 := rfl
  have kP9 : kr 358 (MP9 L xs) = 2295 := mp9_kr L xs
  have kL : kr 358 (ML L xs) = 2300 := rfl
  have hargs : (#[Value.ref b] : Array Value) = (([.ref 1000002] : List Value).map (rv sp)).toArray := by show _ = #[Value.ref (sp iSCR)]; rw [hsp]
  have K5 : ∀ (ad : Nat → Nat) (LS : Array Slot) (H : Heap) (locs : List Loc) (cells slots : Nat), Wd D cA (fun q => s.heap.size ≤ q) sp L xs s sp 0 (hdl 358 = []) ad (MP L xs) H locs → Fm ad 358 LS [.ref 1000002] [.ref 1000002, .ref 0, .ref 0] (MP L xs).1 → Bu (2000, 200000) room_1 358 5 (MP L xs) cells slots → W p l e room_1 s m #[Value.ref b] below meth c H locs cells slots (lw_Z below #[Value.ref b] s) (F0 m 5 LS (([.ref 1000002, .ref 0, .ref 0] : List Value).map (rv ad))) := by
    intro ad LS H locs cells slots w fr hb9
    obtain ⟨h3, h4⟩ := hb9
    rw [q5, kP] at h3
    rw [q5, kP] at h4
    have h3 : cells + (26 + 2000 + 4 * 2300) ≤ room_1.cells := h3
    have h4 : slots + (386 + 200000 + 24 * 2300) ≤ room_1.slots := h4
    have w9 : Wd D cA (fun q => s.heap.size ≤ q) sp L xs s sp 0 (hdl 358 = []) ad (MP9 L xs) H locs := w.cIp (μ := 358) (a := 320)
    obtain ⟨c9, hM⟩ := li_met (D := D) (cA := cA) (A := fun q => s.heap.size ≤ q) (sp := sp) (xs := xs) (l := l) hl hL2 ad (M := cIn 320 (MP9 L xs)) rfl rfl (fun j _ => rfl) (mp9_I L xs) (mp9_J L xs) rfl
    obtain ⟨M9, hN⟩ := law_tail hst c9
    obtain ⟨N, hN⟩ := ex_run hN
    refine law_init (X9 := (0, 0)) (g := run N) (o := (.inl (some (.int 1)), M9)) hl hL2 C hM (sim_nx (X9 := (0, 0)) N (fun k _ => sim_call hl k) C (th_no fun E M h => by injection h with h; cases h) (fi_law C hb hr fun q h => h) rLAW hcl) (th_no fun E M h => by injection h with h; cases h) w9 fr ⟨by omega, by omega⟩ ?_ (by rw [mk_nil]; exact hN)
    unfold Bu
    rw [show cst 358 (5 + 3) = (25, 378) from q8, kP9]
    exact ⟨by show cells + 1000 + (25 + 0 + 4 * 2295) ≤ room_1.cells; omega, by show slots + 170000 + (378 + 0 + 24 * 2295) ≤ room_1.slots; omega⟩
  rw [hargs] at K5 ⊢
  rw [hargs] at C
  rw [show (1 : Nat) = mxl 358 from f3.symm, lg_entry_eq]
  exact nx_itr (X9 := (2000, 200000)) C (gS_call (by decide)) (th_no no_stop) (fi_stop K5) rLAW hcl (nx_gS K5) 3 0 (pad (mxl 358) (ent [.ref 1000002])) [] (ML L xs) sp _ s.heap [] 0 0 (eLP L xs) w0 ⟨LR.entry (by decide +kernel), (show (pad (mxl 358) (ent [.ref 1000002])).all (vok 0) = true from by decide +kernel), rfl⟩ (by
    unfold Bu
    rw [q0, kL]
    exact ⟨by show 0 + (27 + 2000 + 4 * 2300) ≤ room_1.cells; omega, by show 0 + (399 + 200000 + 24 * 2300) ≤ room_1.slots; omega⟩)
