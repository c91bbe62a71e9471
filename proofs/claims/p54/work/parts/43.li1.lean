/-! the law's way to its loop -/
section STEP
variable {X9 : Nat × Nat} {p : Program} {l : Launch} {e : Env} {R : Room} {s : State} {m : MethodId} {args : Array Value} {below : List Frame} {meth : Method} {c : Code} {D : va_G} {cA : Nat → ClassId} {A : Nat → Prop} {sp : Nat → Nat} {L : Nat} {xs : Nat → Int32} {ad0 : Nat → Nat} {n0 : Nat} {μ : Nat} {Q : State → Prop} {f g : Cf → Option Ou} {c0 : Cf} {o : Ou}
variable {pc : Nat} {ls st : List Value} {n : Nat} {S : Nat → Nat × Nat} {Rf : Nat → Nat → Option Nat} {I : Nat → Nat → Int32} {J : Nat → Nat → Int64} {Df : Nat → Nat → UInt64} {ad : Nat → Nat} {LS : Array Slot} {H : Heap} {locs : List Loc} {cells slots : Nat}
variable {fm tm : List Bool} {a b cc : Nat} {k : Int32}
variable {pc : Nat} {ls st : List Value} {n : Nat} {S : Nat → Nat × Nat} {Rf : Nat → Nat → Option Nat} {I : Nat → Nat → Int32} {J : Nat → Nat → Int64} {Df : Nat → Nat → UInt64} {ad : Nat → Nat} {LS : Array Slot} {H : Heap} {locs : List Loc} {cells slots : Nat}
theorem mk_nil (l9 : List Value) : mk [] l9 = l9 := by cases l9 <;> rfl
theorem gS_hit {pc9 μ9 : Nat} {l9 s9 : List Value} {M9 : Mm} : gS pc9 (μ9, pc9, l9, s9, M9) = some (.inr (.inr (pc9, l9, s9)), M9) := by
  unfold gS
  have : Nat.beq pc9 pc9 = true := Nat.beq_refl pc9
  simp only [this, cond_true]
theorem nx_gS {pc9 : Nat} {ls9 st9 : List Value} {M9 : Mm} (k : ∀ (ad : Nat → Nat) (LS : Array Slot) (H : Heap) (locs : List Loc) (cells slots : Nat), Wd D cA A sp L xs s ad0 n0 (hdl μ = []) ad M9 H locs → Fm ad μ LS ls9 st9 M9.1 → Bu X9 R μ pc9 M9 cells slots → W p l e R s m args below meth c H locs cells slots Q (F0 m pc9 LS (st9.map (rv ad)))) :
    Nx X9 p l e R s m args below meth c D cA A sp L xs ad0 n0 μ Q (gS pc9) (.inr (.inr (pc9, ls9, st9)), M9) := by
  intro pc ls st M ad LS H locs cells slots h w fr hb
  unfold gS at h
  dsimp only at h
  cases hb9 : Nat.beq pc pc9 with
  | false => rw [hb9] at h; cases h
  | true =>
    rw [hb9] at h
    have h : some ((.inr (.inr (pc, ls, st)), M) : Ou) = some (.inr (.inr (pc9, ls9, st9)), M9) := h
    injection h with h
    injection h with h1 h2
    injection h1 with h1
    injection h1 with h1
    injection h1 with e1 e2
    injection e2 with e2 e3
    subst e1
    subst e2
    subst e3
    subst h2
    exact k ad LS H locs cells slots w fr hb
theorem nx_itr (C : Cx p l R s m args meth c D cA A sp L xs μ) (hf : CallOK l D cA A sp L xs f) (T9 : Th p l e R s m args below meth c D cA A sp L xs ad0 n0 μ Q o) (F9 : Fi X9 p l e R s m args below meth c D cA A sp L xs ad0 n0 μ Q o) (hμ : rl2 μ = true) (hcl : (nm μ).cls = onm (ow μ)) (K : Nx X9 p l e R s m args below meth c D cA A sp L xs ad0 n0 μ Q f o) : ∀ k, Nx X9 p l e R s m args below meth c D cA A sp L xs ad0 n0 μ Q (itr k f) o := by
  intro k
  induction k with
  | zero => exact K
  | succ k ih =>
    intro pc ls st M ad LS H locs cells slots h w fr hb
    obtain ⟨n, S, Rf, I, J, Df⟩ := M
    exact step_ok C ih hf T9 F9 hμ hcl w fr hb h
theorem gS_call {pc9 : Nat} (h9 : 0 < pc9) : CallOK l D cA A sp L xs (gS pc9) := by
  intro a as M o1 ad ha h309 hcs hns hf1 hkr
  unfold gS at hf1
  dsimp only at hf1
  have hb9 : Nat.beq 0 pc9 = false := by
    cases hb : Nat.beq 0 pc9 with
    | false => rfl
    | true => have := beq_e hb; omega
  rw [hb9] at hf1
  cases hf1
theorem no_stop {z : Nat × List Value × List Value} {M : Mm} : ∀ E M9, ((.inr (.inr z), M) : Ou) ≠ (.inr (.inl E), M9) := fun E M9 h => by
  injection h with h
  injection h with h
  cases h
abbrev rmL : Room := { frames := frm 320, cells := 1000, slots := 170000, locals := lc 320 }
theorem r320 : rl2 320 = true := rfl
theorem h320 : (320 : Nat) ≠ 358 := by decide
theorem c320 : (cst 320 0 = (1, 8) ∧ cst 320 12 = (12, 182)) ∧ cst 320 99 = (0, 0) ∧ cst 320 9 = (0, 0) := by decide +kernel
theorem d320 : decode (byt 320) 9 = .ok (.invokespecial 9, 3) := by decide +kernel
theorem k320 : (a3 pM (ow 320) 9 89 = true ∧ rmk 89 320 = true) ∧ (nar 89 = 0 ∧ hdl 89 = []) ∧ ((nm 89).name = "<init>" ∧ rtt 89 = none) ∧ hnd 320 = [] ∧ hdl 320 = [] := by decide +kernel
theorem okw89 : Nat.beq (wix 89).2.1 0 = true := by decide +kernel
theorem ho_Md : ((.inl none, Md) : Ou) = (((.inl none, Md0) : Ou).1, cOut 320 Mb9 ((.inl none, Md0) : Ou).2) := by
  have e : Md = cOut 320 Mb9 Md0 := by rw [Md]
  rw [← e]
/-- at the law's call of the book's constructor -/
theorem li_call (hl : l.stackTraces = false) (C : Cx p l R s m args meth c D cA A sp L xs 320) (K : Nx X9 p l e R s m args below meth c D cA A sp L xs ad0 n0 320 Q g o) (T9 : Th p l e R s m args below meth c D cA A sp L xs ad0 n0 320 Q o)
    (w : Wd D cA A sp L xs s ad0 n0 (hdl 320 = []) ad Mb9 H locs) (fr : Fm ad 320 LS ls [.ref 1, .ref 1, .ref 0] Mb9.1) (hb2 : cells + 700 ≤ R.cells ∧ slots + 160000 ≤ R.slots) (hb3 : Bu X9 R 320 (9 + 3) Mb9 (cells + 700) (slots + 160000)) (h : g (320, 12, mk [] ls, [.ref 1, .ref 0], Md) = some o) :
    W p l e R s m args below meth c H locs cells slots Q (F0 m 9 LS ([.ref 1, .ref 1, .ref 0].map (rv ad))) := by
  have h309 : (89 : Nat) ≠ 358 := by decide
  have k5 : rl2 89 = true := rfl
  obtain ⟨⟨k1, k9⟩, ⟨kn, hnil⟩, k7, hh, -⟩ := k320
  obtain ⟨hL, hl9, hs⟩ := fr
  obtain ⟨z1, z2, -⟩ := okw_v k5 h309 okw89
  obtain ⟨y1, y2, y3, -⟩ := okn k5 h309
  obtain ⟨r1, r2⟩ := rmk_ok C k9
  simp only [List.all_cons, Bool.and_eq_true] at hs
  have hv0 : ([.ref 1] : List Value).all (vok Mb9.1) = true := by simp only [List.all_cons, Bool.and_eq_true]; exact ⟨hs.1, rfl⟩
  have hv1 : ([.ref 1, .ref 0] : List Value).all (vok Mb9.1) = true := by simp only [List.all_cons, Bool.and_eq_true]; exact hs.2
  have hcode : Cond.code (nm 89) (byt 89) (mxl 89) none ∈ WALL := by
    have := okc k5 h309 _ List.mem_cons_self
    rw [cwd_nil hnil, k7.2] at this
    exact this
  have hpre := pre_in (a := 89) C w hv0
  obtain ⟨e9, he9, q1, q2, q3⟩ := a3_in k1
  have hw9 := inWb_mem (List.all_eq_true.mp okM e9 he9)
  unfold wM at hw9
  rw [q1, q2, q3] at hw9
  have hr := vx_runI (m := m) (cells := cells) (slots := slots) (locs := locs) (below := below) (meth := meth) (e := e) (g := F0 m 9 LS (([.ref 1, .ref 1, .ref 0] : List Value).map (rv ad))) (As := []) (rest := ([.ref 1, .ref 0] : List Value).map (rv ad)) (n := 0) (index := 9) ⟨C.ex, C.by, C.ml, C.own, C.2.2.2.2.2.1⟩ (x10_met hl ad)
    ⟨⟨rfl, rfl, r1, r2, wall_pay C.2.2.2.2.2.1 (okc k5 h309), List.mem_cons_of_mem _ hcode, C.wd hcode, C.wd z1, ⟨y2, y3⟩, (by rw [← kn]; exact okl k5 h309), C.wd hw9⟩, k7.1, C.wd z2⟩ ⟨WS_blind, hpre⟩ rfl rfl hL.1 rfl (lv_room (by rw [csm_rv]; decide)) d320 hb2
  exact call_go C K T9 r320 w hL hl9 (r := [.ref 1, .ref 0]) hv1 hb3 (fun h hx => by rw [hh] at hx; cases hx) (mk9 := []) (o1 := (.inl none, Md)) (o8 := (.inl none, Md0)) ho_Md hr h
theorem Ma_ok : itr 5 (gS 9) cfA = some (.inr (.inr (9, [.ref 0, .ref 1000002], [.ref 1, .ref 1, .ref 0])), Mb) := gO_ok rA
theorem Me_ok : itr 55 (gS 99) cfE = some (.inr (.inr (99, [.ref 0, .ref 1000002], [.ref 1000002, .ref 328, .ref 328, .ref 0])), Me) := gO_ok rE
def xL1 : Nat × Nat := (950, 169300)
def xL2 : Nat × Nat := (200, 9000)
/-- from the law's constructor's entry to its draws -/
theorem li_pre (hl : l.stackTraces = false) (C : Cx p l rmL s m args meth c D cA A sp 5000 (fun _ => 0) 320) (ha : args = (([.ref 0, .ref 1000002] : List Value).map (rv ad0)).toArray) (w0 : Wd D cA A sp 5000 (fun _ => 0) s ad0 1 (hdl 320 = []) ad0 Ma s.heap [])
    (K : ∀ (ad : Nat → Nat) (LS : Array Slot) (H : Heap) (locs : List Loc) (cells slots : Nat), Wd D cA A sp 5000 (fun _ => 0) s ad0 1 (hdl 320 = []) ad Me H locs → Fm ad 320 LS [.ref 0, .ref 1000002] [.ref 1000002, .ref 328, .ref 328, .ref 0] Me.1 → Bu xL2 rmL 320 99 Me cells slots → W p l e rmL s m args below meth c H locs cells slots Q (F0 m 99 LS (([.ref 1000002, .ref 328, .ref 328, .ref 0] : List Value).map (rv ad)))) :
    W p l e rmL s m args below meth c s.heap [] 0 0 Q (entryFrame m args (mxl 320)) := by
  obtain ⟨⟨q0, q12⟩, q99, q9⟩ := c320
  have hcl : (nm 320).cls = onm (ow 320) := (okn r320 h320).1
  subst ha
  rw [lg_entry_eq]
  have kM : kr 320 Ma = 5 := by decide +kernel
  have kb : kr 320 Mb = 5 := by decide +kernel
  have kb9 : kr 320 Mb9 = 4 := by decide +kernel
  have kd : kr 320 Md = 4 := by decide +kernel
  have ke : kr 320 Me = 4 := by decide +kernel
  have K12 : ∀ (ad : Nat → Nat) (LS : Array Slot) (H : Heap) (locs : List Loc) (cells slots : Nat), Wd D cA A sp 5000 (fun _ => 0) s ad0 1 (hdl 320 = []) ad Md H locs → Fm ad 320 LS [.ref 0, .ref 1000002] [.ref 1, .ref 0] Md.1 → Bu xL2 rmL 320 12 Md cells slots → W p l e rmL s m (([.ref 0, .ref 1000002] : List Value).map (rv ad0)).toArray below meth c H locs cells slots Q (F0 m 12 LS (([.ref 1, .ref 0] : List Value).map (rv ad))) := by
    intro ad LS H locs cells slots w fr hb
    exact nx_itr (X9 := xL2) C (gS_call (by decide)) (th_no no_stop) (fi_stop K) r320 hcl (nx_gS K) 55 12 [.ref 0, .ref 1000002] [.ref 1, .ref 0] Md ad LS H locs cells slots Me_ok w fr hb
  have K9 : ∀ (ad : Nat → Nat) (LS : Array Slot) (H : Heap) (locs : List Loc) (cells slots : Nat), Wd D cA A sp 5000 (fun _ => 0) s ad0 1 (hdl 320 = []) ad Mb H locs → Fm ad 320 LS [.ref 0, .ref 1000002] [.ref 1, .ref 1, .ref 0] Mb.1 → Bu xL1 rmL 320 9 Mb cells slots → W p l e rmL s m (([.ref 0, .ref 1000002] : List Value).map (rv ad0)).toArray below meth c H locs cells slots Q (F0 m 9 LS (([.ref 1, .ref 1, .ref 0] : List Value).map (rv ad))) := by
    intro ad LS H locs cells slots w fr hb
    obtain ⟨h3, h4⟩ := hb
    rw [q9, kb] at h3 h4
    have h3 : cells + (0 + 950 + 4 * 5) ≤ 1000 := h3
    have h4 : slots + (0 + 169300 + 24 * 5) ≤ 170000 := h4
    have z1 : cells + 700 ≤ rmL.cells ∧ slots + 160000 ≤ rmL.slots := ⟨by show _ ≤ 1000; omega, by show _ ≤ 170000; omega⟩
    have z2 : Bu xL2 rmL 320 (9 + 3) Mb9 (cells + 700) (slots + 160000) := by
      unfold Bu
      rw [show cst 320 (9 + 3) = (12, 182) from q12, kb9]
      exact ⟨by show cells + 700 + (12 + 200 + 4 * 4) ≤ 1000; clear z1 h4; omega, by show slots + 160000 + (182 + 9000 + 24 * 4) ≤ 170000; clear z1 h3; omega⟩
    have w9 : Wd D cA A sp 5000 (fun _ => 0) s ad0 1 (hdl 320 = []) ad Mb9 H locs := w.cIp (μ := 320) (a := 89)
    exact li_call (g := gS 12) (o := (.inr (.inr (12, [.ref 0, .ref 1000002], [.ref 1, .ref 0])), Md)) hl C (nx_gS K12) (th_no no_stop) w9 fr z1 z2 (by rw [mk_nil]; exact gS_hit)
  exact nx_itr (X9 := xL1) C (gS_call (by decide)) (th_no no_stop) (fi_stop K9) r320 hcl (nx_gS K9) 5 0 (pad (mxl 320) (ent [.ref 0, .ref 1000002])) [] Ma ad0 _ s.heap [] 0 0 Ma_ok w0 ⟨LR.entry (by decide +kernel), by decide +kernel, rfl⟩ (by
    unfold Bu
    rw [q0, kM]
    exact ⟨by show 0 + (1 + 950 + 4 * 5) ≤ 1000; omega, by show 0 + (8 + 169300 + 24 * 5) ≤ 170000; omega⟩)
end STEP
