/-! the law's way to its loop -/
section STEP
variable {X9 : Nat × Nat} {p : Program} {l : Launch} {e : Env} {R : Room} {s : State} {m : MethodId} {args : Array Value} {below : List Frame} {meth : Method} {c : Code} {D : va_G} {cA : Nat → ClassId} {A : Nat → Prop} {sp : Nat → Nat} {L : Nat} {xs : Nat → Int32} {ad0 : Nat → Nat} {n0 : Nat} {μ : Nat} {Q : State → Prop} {f g : Cf → Option Ou} {c0 : Cf} {o : Ou}
variable {pc : Nat} {ls st : List Value} {n : Nat} {S : Nat → Nat × Nat} {Rf : Nat → Nat → Option Nat} {I : Nat → Nat → Int32} {J : Nat → Nat → Int64} {Df : Nat → Nat → UInt64} {ad : Nat → Nat} {LS : Array Slot} {H : Heap} {locs : List Loc} {cells slots : Nat}
variable {fm tm : List Bool} {a b cc : Nat} {k : Int32}
variable {pc : Nat} {ls st : List Value} {n : Nat} {S : Nat → Nat × Nat} {Rf : Nat → Nat → Option Nat} {I : Nat → Nat → Int32} {J : Nat → Nat → Int64} {Df : Nat → Nat → UInt64} {ad : Nat → Nat} {LS : Array Slot} {H : Heap} {locs : List Loc} {cells slots : Nat}
theorem mk_nil (l9 : List Value) : mk [] l9 = l9 := by cases l9 <;> rfl
theorem gS_hit {pc9 μ9 : Nat} {l9 s9 : List Value} {M9 : Mm} : gS pc9 (μ9, pc9, l9, s9, M9) = some (.inr (.inr (pc9, l9, s9)), M9) := by
  unfold gS
  have : Nat.beq pc9 pc9 = true := Nat.beq_refl pc9
  simp only [this, cond_true]
theorem nx_gS {pc9 : Nat} {ls9 st9 : List Value} {M9 : Mm} (k : ∀ (ad : Nat → Nat) (LS : Array Slot) (H : Heap) (locs : List Loc) (cells slots : Nat), Wd D cA A sp L xs s ad0 n0 (hdl μ = []) ad M9 H locs → Fm ad μ LS ls9 st9 M9.1 → Bu X9 R μ pc9 cells slots → W p l e R s m args below meth c H locs cells slots Q (F0 m pc9 LS (st9.map (rv ad)))) :
    Nx X9 p l e R s m args below meth c D cA A sp L xs ad0 n0 μ Q (gS pc9) (.inr (.inr (pc9, ls9, st9)), M9) := by
  intro pc ls st M ad LS H locs cells slots h w fr hb
  unfold gS at h
  dsimp only at h
  cases hb9 : Nat.beq pc pc9 with
  | false => rw [hb9] at h; cases h
  | true =>
    rw [hb9] at h
    have h : some ((.inr (.inr (pc, ls, st)), M) : Ou) = some (.inr (.inr (pc9, ls9, st9)), M9) := h
    injection h with h
    injection h with h1 h2
    injection h1 with h1
    injection h1 with h1
    injection h1 with e1 e2
    injection e2 with e2 e3
    subst e1
    subst e2
    subst e3
    subst h2
    exact k ad LS H locs cells slots w fr hb
theorem nx_itr (C : Cx p l R s m args meth c D cA A sp L xs μ) (hf : CallOK l D cA A sp L xs f) (T9 : Th p l e R s m args below meth c D cA A sp L xs ad0 n0 μ Q o) (F9 : Fi X9 p l e R s m args below meth c D cA A sp L xs ad0 n0 μ Q o) (hμ : μ < 318) (hcl : (nm μ).cls = onm (ow μ)) (K : Nx X9 p l e R s m args below meth c D cA A sp L xs ad0 n0 μ Q f o) : ∀ k, Nx X9 p l e R s m args below meth c D cA A sp L xs ad0 n0 μ Q (itr k f) o := by
  intro k
  induction k with
  | zero => exact K
  | succ k ih =>
    intro pc ls st M ad LS H locs cells slots h w fr hb
    obtain ⟨n, S, Rf, I, J, Df⟩ := M
    exact step_ok C ih hf T9 F9 hμ hcl w fr hb h
theorem gS_call {pc9 : Nat} (h9 : 0 < pc9) : CallOK l D cA A sp L xs (gS pc9) := by
  intro a as M o1 ad ha h309 hcs hns hf1
  unfold gS at hf1
  dsimp only at hf1
  have hb9 : Nat.beq 0 pc9 = false := by
    cases hb : Nat.beq 0 pc9 with
    | false => rfl
    | true => have := beq_e hb; omega
  rw [hb9] at hf1
  cases hf1
theorem no_stop {z : Nat × List Value × List Value} {M : Mm} : ∀ E M9, ((.inr (.inr z), M) : Ou) ≠ (.inr (.inl E), M9) := fun E M9 h => by
  injection h with h
  injection h with h
  cases h
def xA : Nat × Nat := (room_1.cells - 50, room_1.slots - 26810)
def xB : Nat × Nat := (room_1.cells - 10000, room_1.slots - 300000)
theorem xs_ok : (xA.1 + 50 = room_1.cells ∧ xA.2 + 26810 = room_1.slots) ∧ (xB.1 + 10000 = room_1.cells ∧ xB.2 + 300000 = room_1.slots) ∧ (500000 ≤ room_1.cells ∧ 7000000 ≤ room_1.slots) := by decide +kernel
theorem c309b : ((cst 309 0).1 = 50 ∧ (cst 309 0).2 = 26810) ∧ ((cst 309 4).1 = 49 ∧ (cst 309 4).2 = 26802) ∧ ((cst 309 7).1 = 21 ∧ (cst 309 7).2 = 26265) ∧ ((cst 309 28).1 = 0 ∧ (cst 309 28).2 = 0) ∧ ((cst 309 30).1 = 4 ∧ (cst 309 30).2 = 24) := by decide +kernel
theorem c309 : cst 309 0 = (50, 26810) ∧ cst 309 4 = (49, 26802) ∧ cst 309 7 = (21, 26265) ∧ cst 309 28 = (0, 0) ∧ cst 309 30 = (4, 24) := by decide +kernel
theorem d309 : decode (byt 309) 4 = .ok (.invokespecial 147, 3) ∧ decode (byt 309) 28 = .ok (.iload 5, 2) := by decide +kernel
theorem k309 : (a3 pM (ow 309) 147 89 = true ∧ rmk 89 309 = true) ∧ (nar 89 = 0 ∧ hdl 89 = []) ∧ ((nm 89).name = "<init>" ∧ rtt 89 = none) ∧ hnd 309 = [] ∧ (nm 309).cls = onm (ow 309) := by decide +kernel
theorem okw89 : Nat.beq (wix 89).2.1 0 = true := by decide +kernel
/-- at the law's call of the book's constructor -/
theorem law_call (hl : l.stackTraces = false) (C : Cx p l R s m args meth c D cA A sp L xs 309) (K : Nx X9 p l e R s m args below meth c D cA A sp L xs ad0 n0 309 Q g o) (T9 : Th p l e R s m args below meth c D cA A sp L xs ad0 n0 309 Q o)
    (w : Wd D cA A sp L xs s ad0 n0 (hdl 309 = []) ad Mb H locs) (fr : Fm ad 309 LS ls [.ref 0, .ref 0] Mb.1) (hb2 : cells + 700 ≤ R.cells ∧ slots + 160000 ≤ R.slots) (hb3 : Bu X9 R 309 (4 + 3) (cells + 700) (slots + 160000)) (h : g (309, 7, mk [] ls, [.ref 0], Md) = some o) :
    W p l e R s m args below meth c H locs cells slots Q (F0 m 4 LS ([.ref 0, .ref 0].map (rv ad))) := by
  have h309 : (89 : Nat) ≠ 309 := by decide
  have k5 : (89 : Nat) < 318 := by decide
  obtain ⟨⟨k1, k9⟩, ⟨kn, hnil⟩, k7, hh, hcl⟩ := k309
  obtain ⟨hL, hl9, hs⟩ := fr
  obtain ⟨z1, z2, -⟩ := okw_v k5 h309 okw89
  obtain ⟨y1, y2, y3, -⟩ := okn k5 h309
  obtain ⟨r1, r2⟩ := rmk_ok C k9
  simp only [List.all_cons, Bool.and_eq_true] at hs
  have hv0 : ([.ref 0] : List Value).all (vok Mb.1) = true := by simp only [List.all_cons, Bool.and_eq_true]; exact ⟨hs.1, rfl⟩
  have hcode : Cond.code (nm 89) (byt 89) (mxl 89) none ∈ WALL := by
    have := okc k5 h309 _ List.mem_cons_self
    rw [cwd_nil hnil, k7.2] at this
    exact this
  have hpre := pre_ok C w hv0
  obtain ⟨e9, he9, q1, q2, q3⟩ := a3_in k1
  have hw9 := inWb_mem (List.all_eq_true.mp okM e9 he9)
  unfold wM at hw9
  rw [q1, q2, q3] at hw9
  have hr := vx_runI (m := m) (cells := cells) (slots := slots) (locs := locs) (below := below) (meth := meth) (e := e) (g := F0 m 4 LS (([.ref 0, .ref 0] : List Value).map (rv ad))) (As := []) (rest := ([.ref 0] : List Value).map (rv ad)) (n := 0) (index := 147) ⟨C.ex, C.by, C.ml, C.own, C.2.2.2.2.2.1⟩ (x10_met hl ad)
    ⟨⟨rfl, rfl, r1, r2, wall_pay C.2.2.2.2.2.1 (okc k5 h309), List.mem_cons_of_mem _ hcode, C.wd hcode, C.wd z1, ⟨y2, y3⟩, (by rw [← kn]; exact okl k5 h309), C.wd hw9⟩, k7.1, C.wd z2⟩ ⟨WS_blind, hpre⟩ rfl rfl hL.1 rfl (lv_room (by rw [csm_rv]; decide)) d309.1 hb2
  exact call_go C K T9 (by decide) w hL hl9 (r := [.ref 0]) hv0 hb3 (fun h hx => by rw [hh] at hx; cases hx) hr h
def Lst (i : Int32) : List Value := [.ref 1000002, .ref 0, .ref 316, .ref 335, .ref 336, .int i, dv, dv, dv, dv]
theorem Mb_ok : itr 2 (gS 4) cfA = some (.inr (.inr (4, pad 10 (ent [.ref 1000002]), [.ref 0, .ref 0])), Mb) := gO_ok rA
theorem Me_ok : run 100000 cfE = some (.inr (.inr (28, Lst 0, [])), Me) := gO_ok rE
/-- from the law's entry to its loop -/
theorem law_pre (hl : l.stackTraces = false) (C : Cx p l room_1 s m args meth c D cA A sp 5000 (fun _ => 0) 309) (ha : args = (([.ref 1000002] : List Value).map (rv sp)).toArray)
    (K : ∀ (ad : Nat → Nat) (LS : Array Slot) (H : Heap) (locs : List Loc) (cells slots : Nat), Wd D cA A sp 5000 (fun _ => 0) s sp 0 (hdl 309 = []) ad Me H locs → Fm ad 309 LS (Lst 0) [] Me.1 → cells ≤ 10000 → slots ≤ 300000 → W p l e room_1 s m args below meth c H locs cells slots Q (F0 m 28 LS [])) :
    W p l e room_1 s m args below meth c s.heap [] 0 0 Q (entryFrame m args 10) := by
  obtain ⟨⟨q0, q0b⟩, ⟨q4, q4b⟩, ⟨q7, q7b⟩, ⟨q28, q28b⟩, -⟩ := c309b
  obtain ⟨⟨a1, a2⟩, ⟨b1, b2⟩, r1, r2⟩ := xs_ok
  have hμ : (309 : Nat) < 318 := by decide
  have hcl := k309.2.2.2.2
  subst ha
  have w0 : Wd D cA A sp 5000 (fun _ => 0) s sp 0 (hdl 309 = []) sp Ma s.heap [] := by
    refine ⟨fun k q h => ?_, ⟨fun i j p q h => ?_, fun k q h => ?_⟩, va_S.rf, ⟨Nat.zero_le _, fun _ _ => rfl, fun p h => absurd h (Nat.not_lt_zero _), fun p j q h => absurd h (Nat.not_lt_zero _), rfl, fun _ _ => rfl⟩, fun _ _ _ => rfl, Nat.le_refl _, fun _ _ => rfl, fun _ => rfl⟩
    · exact absurd h (by simp [wsl, Ma])
    · exact absurd h (by simp [wsl, Ma])
    · exact absurd h (by simp [wsl, Ma])
  rw [lg_entry_eq]
  have K7 : ∀ (ad : Nat → Nat) (LS : Array Slot) (H : Heap) (locs : List Loc) (cells slots : Nat), Wd D cA A sp 5000 (fun _ => 0) s sp 0 (hdl 309 = []) ad Md H locs → Fm ad 309 LS (pad 10 (ent [.ref 1000002])) [.ref 0] Md.1 → Bu xB room_1 309 7 cells slots → W p l e room_1 s m (([.ref 1000002] : List Value).map (rv sp)).toArray below meth c H locs cells slots Q (F0 m 7 LS (([.ref 0] : List Value).map (rv ad))) := by
    intro ad LS H locs cells slots w fr hb
    exact sim_stop hl C hμ hcl Me_ok w fr hb (fun ad1 LS1 H1 locs1 cells1 slots1 w1 fr1 hb1 => by
      obtain ⟨h3, h4⟩ := hb1
      rw [q28] at h3
      rw [q28b] at h4
      exact K ad1 LS1 H1 locs1 cells1 slots1 w1 fr1 (by omega) (by omega))
  have K4 : ∀ (ad : Nat → Nat) (LS : Array Slot) (H : Heap) (locs : List Loc) (cells slots : Nat), Wd D cA A sp 5000 (fun _ => 0) s sp 0 (hdl 309 = []) ad Mb H locs → Fm ad 309 LS (pad 10 (ent [.ref 1000002])) [.ref 0, .ref 0] Mb.1 → Bu xA room_1 309 4 cells slots → W p l e room_1 s m (([.ref 1000002] : List Value).map (rv sp)).toArray below meth c H locs cells slots Q (F0 m 4 LS (([.ref 0, .ref 0] : List Value).map (rv ad))) := by
    intro ad LS H locs cells slots w fr hb
    obtain ⟨h3, h4⟩ := hb
    rw [q4] at h3
    rw [q4b] at h4
    have z1 : cells + 700 ≤ room_1.cells ∧ slots + 160000 ≤ room_1.slots := ⟨by omega, by omega⟩
    have z2 : Bu xB room_1 309 (4 + 3) (cells + 700) (slots + 160000) := ⟨by show cells + 700 + ((cst 309 7).1 + xB.1) ≤ room_1.cells; rw [q7]; omega, by show slots + 160000 + ((cst 309 7).2 + xB.2) ≤ room_1.slots; rw [q7b]; omega⟩
    exact law_call (g := gS 7) (o := (.inr (.inr (7, pad 10 (ent [.ref 1000002]), [.ref 0])), Md)) hl C (nx_gS K7) (th_no no_stop) w fr z1 z2 (by rw [mk_nil]; exact gS_hit)
  exact nx_itr (X9 := xA) C (gS_call (by decide)) (th_no no_stop) (fi_stop K4) hμ hcl (nx_gS K4) 2 0 (pad 10 (ent [.ref 1000002])) [] Ma sp _ s.heap [] 0 0 Mb_ok w0 ⟨LR.entry (by decide +kernel), by decide +kernel, rfl⟩ ⟨by rw [q0]; omega, by rw [q0b]; omega⟩
end STEP
