/-! a method's end; one step -/
abbrev frm (μ : Nat) : Nat := fr μ
abbrev enms : List String := ["java/lang/RuntimeException", "java/lang/Exception"]
def ixE (E : Nat) : Nat := bif Nat.beq E 3 then 13 else 7
def rxE (E : Nat) : ByteArray := ⟨#[0x2a, 0x2b, 0xb7, 0x00, bif Nat.beq E 3 then 0x0d else 0x07, 0xb1]⟩
theorem rx_ok (E : Nat) : decode (rxE E) 0 = .ok (.aload_n 0, 1) ∧ decode (rxE E) 1 = .ok (.aload_n 1, 1) ∧ decode (rxE E) 2 = .ok (.invokespecial (ixE E), 3) ∧ decode (rxE E) 5 = .ok (.return_, 1) := by
  unfold rxE ixE
  cases Nat.beq E 3 <;> decide +kernel
theorem thr_ok : (List.range 4).all (fun E => (Bundle.fit (exn E) && (decide (Cond.initialized (exn E) ∈ lw_tbl) && goodWord (Cond.initialized (exn E)))) && (vy_at "GlacierBook" (icE E) (exn E) (ixE E) (rxE E) enms).all (fun w => vx_ot w && ((goodWord w && decide (w ∈ lw_tbl)) || decide (w ∈ BW)))) = true := by decide +kernel
theorem nms_ok : ∀ n ∈ enms, Bundle.fit n = true := by decide +kernel
theorem bw_tab : ∀ w ∈ BW, w.onTables = true := by
  intro w hw
  rcases List.mem_cons.mp hw with rfl | hw
  · rfl
  rcases List.mem_append.mp hw with hw | hw
  · simp only [List.mem_cons, List.not_mem_nil, or_false] at hw
    rcases hw with rfl | rfl | rfl <;> rfl
  · obtain ⟨E, -, rfl⟩ := List.mem_map.mp hw
    rfl
section STEP
variable {X9 : Nat × Nat} {p : Program} {l : Launch} {e : Env} {R : Room} {s : State} {m : MethodId} {args : Array Value} {below : List Frame} {meth : Method} {c : Code} {D : va_G} {cA : Nat → ClassId} {A : Nat → Prop} {sp : Nat → Nat} {L : Nat} {xs : Nat → Int32} {ad0 : Nat → Nat} {n0 : Nat} {μ : Nat} {Q : State → Prop} {f g : Cf → Option Ou} {c0 : Cf} {o : Ou}
variable {pc : Nat} {ls st : List Value} {n : Nat} {S : Nat → Nat × Nat} {Rf : Nat → Nat → Option Nat} {I : Nat → Nat → Int32} {J : Nat → Nat → Int64} {Df : Nat → Nat → UInt64} {ad : Nat → Nat} {LS : Array Slot} {H : Heap} {locs : List Loc} {cells slots : Nat}
variable {fm tm : List Bool} {a b cc : Nat} {k : Int32}
theorem WS.kept {M : Mm} {H1 : Heap} (h : WS D cA A sp L xs ad M H) (hk : ∀ q : Nat, q < H.size → H1[q]? = H[q]?) : WS D cA A sp L xs ad M H1 :=
  ⟨h.1.kept (fun k q hq => hk _ (h.1 k q hq).lt), h.2.1, h.2.2.1, h.2.2.2⟩
theorem qcs_ok {M0 M : Mm} {v : Option Value} (w : Wd D cA A sp L xs s ad0 M0.1 (hdl μ = []) ad M H locs) (hv : ∀ z, v = some z → vok M.1 z = true) (hr : hdl μ ≠ [] → ∀ q, v ≠ some (.ref q)) {a9 : Array Value} : ∀ t : State, t.heap = H → s.WarmedH t.vm → QcS D cA A sp L xs μ M0 ad0 (.inl v, M) a9 s (.returned (v.map (rv ad))) t := by
  intro t ht hW
  refine ⟨v, M, ad, rfl, rfl, by rw [ht]; exact w.ws, w.2.2.2.2.2.1, w.2.2.2.2.2.2.1, w.2.2.2.2.2.2.2, hv, hr, w.2.2.1.F ht⟩
theorem fin_ret {M0 M : Mm} {v : Option Value} (C : Cx p l R s m args meth c D cA A sp L xs μ) (w : Wd D cA A sp L xs s ad0 M0.1 (hdl μ = []) ad M H locs) (hb : Bu X9 R μ pc M cells slots) {g9 : JFrame} (ho : o = (.inl v, M))
    (k : W p l e R s m args below meth c H locs R.cells R.slots (MQ below (QcS D cA A sp L xs μ M0 ad0 o) args s R.cells R.slots A) g9) : W p l e R s m args below meth c H locs cells slots (vx_MQ below (QcS D cA A sp L xs μ M0 ad0 o) (XcS D cA A sp L xs M0 ad0 o) args s R.cells R.slots A) g9 :=
  W.widen (Nat.le_trans (Nat.le_add_right _ _) hb.1) (Nat.le_trans (Nat.le_add_right _ _) hb.2) (vx_ret k)
theorem nrf (C : Cx p l R s m args meth c D cA A sp L xs μ) (hμ : rl2 μ = true) {rt9 : FieldType} (hr : rtt μ = some rt9) (hrf : isRf rt9 = true) : hdl μ = [] := by
  have h := rlall ex4_ok hμ
  simp only [Bool.or_eq_true, decide_eq_true_eq] at h
  rcases h with h | h
  · exact List.isEmpty_iff.mp h
  · rw [hr] at h
    cases h
    cases hrf
theorem fin_throw {M0 M : Mm} {x E : Nat} (C : Cx p l R s m args meth c D cA A sp L xs μ) (h309 : μ ≠ 358) (w : Wd D cA A sp L xs s ad0 M0.1 (hdl μ = []) ad M H locs) (fr : Fm ad μ LS ls st M.1) (hb : Bu X9 R μ pc M cells slots) (ho : o = (.inr (.inl E), M)) (h8 : csm st ≤ 8) (hk : a3 pE (ow μ) x E = true) (ht : chT μ pc E = true) (hd : decode (byt μ) pc = .ok (.new x, 3)) :
    W p l e R s m args below meth c H locs cells slots (vx_MQ below (QcS D cA A sp L xs μ M0 ad0 o) (XcS D cA A sp L xs M0 ad0 o) args s R.cells R.slots A) (F0 m pc LS (st.map (rv ad))) := by
  subst ho
  obtain ⟨hL, hl, hs⟩ := fr
  unfold chT at ht
  rw [Bool.and_eq_true, Bool.and_eq_true, Bool.and_eq_true, Bool.and_eq_true, Bool.and_eq_true, Bool.and_eq_true, Bool.and_eq_true] at ht
  obtain ⟨⟨t1, t2, t3, t4, t5, t6⟩, t7, t8⟩ := ht
  have t7 := of_decide_eq_true t7
  have hE := Nat.blt_eq.mp t6
  have h5 := Nat.blt_eq.mp t3
  have h90 := Nat.ble_eq.mp t4
  obtain ⟨c1, c2⟩ := cle_1 t5
  have c1 : 1 ≤ (cst μ pc).1 := c1
  have c2 : 6 ≤ (cst μ pc).2 := c2
  obtain ⟨hb1, hb2⟩ := hb
  have how : ow μ = 10 := beq_e t1
  have hown : s.vm.findClass "GlacierBook" = some m.cls := by have := C.own; rw [how] at this; exact this
  have hfr : fr μ ≤ R.frames := C.2.2.2.2.2.2.2.2.2.1
  have hlc : lc μ ≤ R.locals := C.2.2.2.2.2.2.2.2.2.2.1
  obtain ⟨e9, he9, q1, q2, q3⟩ := a3_in hk
  have hw9 := C.wd (inWb_mem (List.all_eq_true.mp okE e9 he9))
  unfold wE at hw9
  rw [q1, q2, q3, how] at hw9
  have hth := List.all_eq_true.mp thr_ok E (List.mem_range.mpr hE)
  simp only [Bool.and_eq_true, decide_eq_true_eq] at hth
  obtain ⟨⟨f1, f2⟩, f3⟩ := hth
  have f3 := fun w hw => List.all_eq_true.mp f3 w hw
  have hini : (Cond.initialized (exn E)).before args s = true := C.wd (List.mem_filter.mpr f2)
  have hat : ∀ w ∈ vy_at "GlacierBook" (icE E) (exn E) (ixE E) (rxE E) enms, w.before args s = true := by
    intro w9 hw
    have h := f3 w9 hw
    simp only [Bool.and_eq_true, Bool.or_eq_true, decide_eq_true_eq] at h
    rcases h.2 with h | h
    · exact C.wd (List.mem_filter.mpr ⟨h.2, h.1⟩)
    · exact va_tabs (bw_tab w9 h) rfl (C.gs.2.2.2.2.2.2.2.1.2.2.1 w9 h)
  have hgood : ∀ w ∈ Cond.classLink "GlacierBook" x (exn E) :: Cond.initialized (exn E) :: vy_at "GlacierBook" (icE E) (exn E) (ixE E) (rxE E) enms, vx_ot w = true := by
    intro w9 hw
    rcases List.mem_cons.mp hw with rfl | hw
    · rfl
    rcases List.mem_cons.mp hw with rfl | hw
    · rfl
    have h := f3 w9 hw
    rw [Bool.and_eq_true] at h
    exact h.1
  have htab : c.exceptionTable.toList = [] := by rw [C.2.2.2.2.2.2.2.1 h309, List.isEmpty_iff.mp t2]; rfl
  have hx : ∀ t : State, s.vm.Alike t.vm → H.size ≤ t.heap.size → (∀ q : Nat, q < H.size → t.heap[q]? = H[q]?) → XcS D cA A sp L xs M0 ad0 (.inr (.inl E), M) (exn E) s t := by
    intro t _ hz hq
    refine ⟨E, M, ad, rfl, rfl, hE, w.ws.kept hq, w.2.2.2.2.2.1, w.2.2.2.2.2.2.1, Nat.le_trans w.2.2.1.1 hz, fun q h1 h2 => ?_⟩
    rw [hq q (Nat.lt_of_lt_of_le h1 w.2.2.1.1)]
    exact w.2.2.1.2.1 q h1 h2
  have hsz : LS.size = c.maxLocals := by rw [C.ml]; exact hL.1
  have hrl : ((st.map (rv ad)).map fun v => v.category).sum + (13 * (enms.length + 1) + 43) ≤ R.locals := by
    rw [csm_rv]
    show csm st + (13 * (2 + 1) + 43) ≤ R.locals
    omega
  have hrf : enms.length + 3 < R.frames := by show 2 + 3 < R.frames; omega
  have hsT : l.stackTraces = false := C.2.2.2.2.2.2.2.2.2.2.2.1
  have aT_in : ∀ s9, aT (ow μ) s9 = true → ∃ tx sa, vk_R "GlacierBook" s9 tx sa s := by
    intro s9 h
    obtain ⟨e8, he8, h⟩ := List.any_eq_true.mp h
    rw [Bool.and_eq_true] at h
    obtain ⟨sa, hR⟩ := C.gs.2.2.2.2.2.2.1 e8 he8 (by rw [beq_e h.1, how])
    rw [beq_e h.2] at hR
    exact ⟨_, sa, hR⟩
  obtain ⟨x0, x1, x2, x5⟩ := rx_ok E
  split at t8
  · rename_i s9 hd4
    rw [Bool.and_eq_true, Bool.and_eq_true] at t8
    obtain ⟨u1, u2, u3⟩ := t8
    obtain ⟨tx, sa, hR⟩ := aT_in s9 u1
    exact vy_throw C.ex C.by hsT x0 x1 x2 x5 hown f1 nms_ok hw9 hini hR hat hgood C.gs.2.2.2.2.2.2.2.1.1 C.gs.2.2.2.2.2.2.2.1.2.1 w.2.2.1 hsz hd t7 (Or.inl ⟨hd4, rfl⟩) (of_decide_eq_true u2) (of_decide_eq_true u3) (fun x hx => by rw [htab] at hx; cases hx) hrf hrl (by omega) (by omega) C.2.2.2.2.2.2.1 hx w.2.2.1.2.2 (by omega) (by omega)
  · rename_i s9 hd4
    rw [Bool.and_eq_true, Bool.and_eq_true] at t8
    obtain ⟨u1, u2, u3⟩ := t8
    obtain ⟨tx, sa, hR⟩ := aT_in s9 u1
    exact vy_throw C.ex C.by hsT x0 x1 x2 x5 hown f1 nms_ok hw9 hini hR hat hgood C.gs.2.2.2.2.2.2.2.1.1 C.gs.2.2.2.2.2.2.2.1.2.1 w.2.2.1 hsz hd t7 (Or.inr ⟨hd4, rfl⟩) (of_decide_eq_true u2) (of_decide_eq_true u3) (fun x hx => by rw [htab] at hx; cases hx) hrf hrl (by omega) (by omega) C.2.2.2.2.2.2.1 hx w.2.2.1.2.2 (by omega) (by omega)
  · cases t8
theorem th_norm {M0 : Mm} (C : Cx p l R s m args meth c D cA A sp L xs μ) (hμ : rl2 μ = true) (h309 : μ ≠ 358) : Th p l e R s m args below meth c D cA A sp L xs ad0 M0.1 μ (vx_MQ below (QcS D cA A sp L xs μ M0 ad0 o) (XcS D cA A sp L xs M0 ad0 o) args s R.cells R.slots A) o := by
  intro pc E M ad LS rest H locs cells slots q ce ho hE hct w hc hs hce hcv hcl
  subst ho
  have hpr9 := rlall hpr_ok hμ
  simp only [hpr, Bool.and_eq_true] at hpr9
  have hf := (hs_find (pc := pc) C hE (hnd μ) (hdl μ) (beq_e hpr9.1) hpr9.2).1 hct
  rw [← C.2.2.2.2.2.2.2.1 h309] at hf
  exact vx_outP C.own C.2.2.2.2.2.2.1 hf hce hcv hcl (fun t ht _ => ⟨E, M, ad, rfl, rfl, hE, by rw [ht]; exact w.ws, w.2.2.2.2.2.1, w.2.2.2.2.2.2.1, w.2.2.1.F ht⟩) w.2.2.1.2.2 hc hs
theorem rt_inv {b : Bool} {v : Option Value} {M : Mm} (h : rt b v M = .inr (.inr (true, o))) : b = true ∧ o = (.inl v, M) := by
  unfold rt at h
  injection h with h
  injection h with h
  injection h with h1 h2
  exact ⟨h1, h2.symm⟩
theorem hl_n {X : Bool × Ou} (h : hl = .inr (.inr X)) : False := by cases h
theorem i1_inv {F : Int32 → List Value → Ac} {X : Bool × Ou} (h : i1 st F = .inr (.inr X)) : ∃ x r, st = .int x :: r ∧ F x r = .inr (.inr X) := by
  match st, h with
  | .int x :: r, h => exact ⟨x, r, rfl, h⟩
  | [], h => exact (hl_n h).elim
  | .long _ :: _, h => exact (hl_n h).elim
  | .float _ :: _, h => exact (hl_n h).elim
  | .double _ :: _, h => exact (hl_n h).elim
  | .null :: _, h => exact (hl_n h).elim
  | .ref _ :: _, h => exact (hl_n h).elim
  | .retAddr _ :: _, h => exact (hl_n h).elim
theorem v1_inv {F : Value → List Value → Ac} {X : Bool × Ou} (h : f1 st F = .inr (.inr X)) : ∃ v r, st = v :: r ∧ F v r = .inr (.inr X) := by
  match st, h with
  | v :: r, h => exact ⟨v, r, rfl, h⟩
  | [], h => exact (hl_n h).elim
theorem nil_of {r : List Value} (h : r.isEmpty = true) : r = [] := List.isEmpty_iff.mp h
theorem nar_z {x : Int32} (h : x = 0 ∨ x = 1) : narrow .boolean (.int x) = .int x := by rcases h with rfl | rfl <;> rfl
theorem nar_c {x : Int32} (h : 0 ≤ x ∧ x ≤ 65535) : narrow .char (.int x) = .int x := by
  obtain ⟨j, hj, rfl⟩ := nI_of (Int32.not_lt.mpr h.1)
  have h2 := h.2
  rw [show (65535 : Int32) = nI 65535 from rfl, nI_leI hj (by decide)] at h2
  exact (pk_charN (q := j) (by omega)).1
theorem nar_b {x : Int32} (h : -128 ≤ x ∧ x ≤ 127) : narrow .byte (.int x) = .int x := by
  show Value.int x.toInt8.toInt32 = .int x
  congr 1
  apply Int32.toInt_inj.mp
  rw [Int8.toInt_toInt32, Int32.toInt_toInt8]
  have h1 := Int32.le_iff_toInt_le.mp h.1
  have h2 := Int32.le_iff_toInt_le.mp h.2
  rw [show (-128 : Int32).toInt = -128 from rfl] at h1
  rw [show (127 : Int32).toInt = 127 from rfl] at h2
  rw [Int.bmod_def]
  omega
theorem fin_norm {M0 : Mm} (C : Cx p l R s m args meth c D cA A sp L xs μ) (hμ : rl2 μ = true) (h309 : μ ≠ 358) (hns : ∀ z, o.1 ≠ .inr (.inr z)) : Fi X9 p l e R s m args below meth c D cA A sp L xs ad0 M0.1 μ (vx_MQ below (QcS D cA A sp L xs μ M0 ad0 o) (XcS D cA A sp L xs M0 ad0 o) args s R.cells R.slots A) o := by
  intro pc ls st M ad LS H locs cells slots hif h w fr hb
  obtain ⟨n, S, Rf, I, J, Df⟩ := M
  unfold st1 at h
  dsimp only at h
  cases he : cins μ pc with
  | none =>
    rw [he] at h
    injection h with h
    injection h with h
    injection h with h1 h2
    subst h2
    exact (hns _ rfl).elim
  | some e9 =>
    rw [he] at h
    obtain ⟨i, len, fm, tm, a, b, cc, k⟩ := e9
    obtain ⟨hd, hlen, hc⟩ := okZ_all μ hμ pc _ he
    have hif := hif _ he
    dsimp only at h hd hlen hc hif
    have hX : (spc i a b cc && Nat.ble 359 μ) = false := by cases i <;> first | rfl | cases hif
    unfold stX at h
    rw [hX, cond_false] at h hc
    obtain ⟨hL, hl, hs⟩ := fr
    cases i with
    | ireturn =>
      have hl1 : len = 1 := beq_e hlen
      subst hl1
      obtain ⟨x, r, rfl, h⟩ := i1_inv h
      obtain ⟨hg, ho⟩ := rt_inv h
      rw [Bool.and_eq_true] at hg
      obtain ⟨hr, hg⟩ := hg
      have hr := nil_of hr
      subst hr
      have hq := qcs_ok (a9 := args) (v := some (.int x)) w (fun z hz => by cases hz; rfl) (fun _ q hq => by cases hq)
      subst ho
      have hlk := C.2.2.2.2.2.2.1
      have hc : (bif Nat.beq cc 0 then decide (rtt μ = some .int) else bif Nat.beq cc 1 then decide (rtt μ = some .boolean) else bif Nat.beq cc 2 then decide (rtt μ = some .char) else decide (rtt μ = some .byte)) = true := hc
      have hrt := C.2.2.1
      refine fin_ret C w hb rfl ?_
      show W p l e R s m args below meth c H locs R.cells R.slots _ (F0 m pc LS [.int x])
      cases c0 : Nat.beq cc 0 with
      | true =>
        rw [c0] at hc
        exact W.iret C.ex C.by (hrt.trans (of_decide_eq_true hc)) hq w.2.2.1.2.2 hd hlk
      | false =>
        rw [c0] at hc hg
        cases c1 : Nat.beq cc 1 with
        | true =>
          rw [c1] at hc hg
          exact W.zret C.ex C.by (hrt.trans (of_decide_eq_true hc)) (nar_z (of_decide_eq_true hg)) hq w.2.2.1.2.2 hd hlk
        | false =>
          rw [c1] at hc hg
          cases c2 : Nat.beq cc 2 with
          | true =>
            rw [c2] at hc hg
            exact W.zret C.ex C.by (hrt.trans (of_decide_eq_true hc)) (nar_c (of_decide_eq_true hg)) hq w.2.2.1.2.2 hd hlk
          | false =>
            rw [c2] at hc hg
            exact W.zret C.ex C.by (hrt.trans (of_decide_eq_true hc)) (nar_b (of_decide_eq_true hg)) hq w.2.2.1.2.2 hd hlk
    | lreturn =>
      have hl1 : len = 1 := beq_e hlen
      subst hl1
      obtain ⟨v, r, rfl, h⟩ := v1_inv h
      cases v with
      | long x =>
        obtain ⟨hr, ho⟩ := rt_inv h
        have hr := nil_of hr
        subst hr
        have hq := qcs_ok (a9 := args) (v := some (.long x)) w (fun z hz => by cases hz; rfl) (fun _ q hq => by cases hq)
        subst ho
        exact fin_ret C w hb rfl (W.lret C.ex C.by (C.2.2.1.trans (of_decide_eq_true hc)) hq w.2.2.1.2.2 hd C.2.2.2.2.2.2.1)
      | _ => exact (hl_n h).elim
    | freturn =>
      have hl1 : len = 1 := beq_e hlen
      subst hl1
      obtain ⟨v, r, rfl, h⟩ := v1_inv h
      cases v with
      | float x =>
        obtain ⟨hr, ho⟩ := rt_inv h
        have hr := nil_of hr
        subst hr
        have hq := qcs_ok (a9 := args) (v := some (.float x)) w (fun z hz => by cases hz; rfl) (fun _ q hq => by cases hq)
        subst ho
        exact fin_ret C w hb rfl (W.fret C.ex C.by (C.2.2.1.trans (of_decide_eq_true hc)) hq w.2.2.1.2.2 hd C.2.2.2.2.2.2.1)
      | _ => exact (hl_n h).elim
    | dreturn =>
      have hl1 : len = 1 := beq_e hlen
      subst hl1
      obtain ⟨v, r, rfl, h⟩ := v1_inv h
      cases v with
      | double x =>
        obtain ⟨hr, ho⟩ := rt_inv h
        have hr := nil_of hr
        subst hr
        have hq := qcs_ok (a9 := args) (v := some (.double x)) w (fun z hz => by cases hz; rfl) (fun _ q hq => by cases hq)
        subst ho
        exact fin_ret C w hb rfl (W.dret C.ex C.by (C.2.2.1.trans (of_decide_eq_true hc)) hq w.2.2.1.2.2 hd C.2.2.2.2.2.2.1)
      | _ => exact (hl_n h).elim
    | areturn =>
      have hl1 : len = 1 := beq_e hlen
      subst hl1
      obtain ⟨v, r, rfl, h⟩ := v1_inv h
      cases v with
      | ref x =>
        obtain ⟨hr, ho⟩ := rt_inv h
        have hr := nil_of hr
        subst hr
        have hc : (match rtt μ with
          | some (.object _) => true
          | some (.array _) => true
          | _ => false) = true := hc
        obtain ⟨rt9, hr9, hrf⟩ : ∃ rt9, rtt μ = some rt9 ∧ isRf rt9 = true := by
          split at hc
          · rename_i z hz; exact ⟨_, hz, rfl⟩
          · rename_i z hz; exact ⟨_, hz, rfl⟩
          · cases hc
        have hnil := nrf C hμ hr9 hrf
        simp only [List.all_cons, Bool.and_eq_true] at hs
        have hq := qcs_ok (a9 := args) (v := some (.ref x)) w (fun z hz => by cases hz; exact hs.1) (fun q _ => absurd hnil q)
        subst ho
        have hrt : (∃ n, rt9 = .object n) ∨ ∃ t, rt9 = .array t := by cases rt9 <;> first | exact Or.inl ⟨_, rfl⟩ | exact Or.inr ⟨_, rfl⟩ | cases hrf
        exact fin_ret C w hb rfl (W.aret C.ex C.by (C.2.2.1.trans hr9) hrt (Or.inr ⟨_, rfl⟩) hq w.2.2.1.2.2 hd C.2.2.2.2.2.2.1)
      | _ => exact (hl_n h).elim
    | return_ =>
      have hl1 : len = 1 := beq_e hlen
      subst hl1
      obtain ⟨hr, ho⟩ := rt_inv h
      have hr := nil_of hr
      subst hr
      have hq := qcs_ok (a9 := args) (v := none) w (fun z hz => by cases hz) (fun _ q hq => by cases hq)
      subst ho
      exact fin_ret C w hb rfl (W.vret C.ex C.by (C.2.2.1.trans (of_decide_eq_true hc)) hq w.2.2.1.2.2 hd C.2.2.2.2.2.2.1)
    | new x =>
      have hl1 : len = 3 := beq_e hlen
      subst hl1
      have h : (bif Nat.beq a 0 then gd (Nat.blt n 900000) μ (pc + 3) (mk fm ls) (.ref n :: st) (n + 1, upR S n (b, 0), upR Rf n (fun _ => none), upR I n (fun _ => 0), upR J n (fun _ => 0), Df) else .inr (.inr (Nat.ble (csm st) 8, .inr (.inl b), (n, S, Rf, I, J, Df)))) = .inr (.inr (true, o)) := h
      have hc : (bif Nat.beq a 0 then a3 pK (ow μ) x b && (Nat.blt b 15 && cle (ada (1, nfl b) (cst μ (pc + 3))) (cst μ pc)) else a3 pE (ow μ) x b && chT μ pc b) = true := hc
      cases ha : Nat.beq a 0 with
      | true => rw [ha] at h; cases h
      | false =>
        rw [ha] at h hc
        rw [cond_false, Bool.and_eq_true] at hc
        rw [cond_false] at h
        injection h with h
        injection h with h
        injection h with h1 h2
        exact fin_throw C h309 w ⟨hL, hl, hs⟩ hb h2.symm (Nat.ble_eq.mp h1) hc.1 hc.2 hd
    | _ => cases hif
theorem ends_of {f g : Cf → Option Ou} {c0 c1 : Cf} {b : Bool} {o' : Ou} (hst : st1 c1 = .inr (.inr (b, o'))) (h : acK f g c0 (st1 c1) = some o) : st1 c1 = .inr (.inr (true, o)) := by
  rw [hst] at h
  cases b with
  | true =>
    have h : some o' = some o := h
    cases h
    exact hst
  | false => cases h
/-- a step of the texts' making -/
theorem stepB_ok {i : Instr} {len : Nat} (C : Cx p l R s m args meth c D cA A sp L xs μ) (K : Nx X9 p l e R s m args below meth c D cA A sp L xs ad0 n0 μ Q g o) (hf : CallOK l D cA A sp L xs f) (T9 : Th p l e R s m args below meth c D cA A sp L xs ad0 n0 μ Q o) (hμ : rl2 μ = true) (hcl : (nm μ).cls = onm (ow μ)) (w : Wd D cA A sp L xs s ad0 n0 (hdl μ = []) ad (n, S, Rf, I, J, Df) H locs) (fr : Fm ad μ LS ls st n) (hb : Bu X9 R μ pc (n, S, Rf, I, J, Df) cells slots) (hd : decode (byt μ) pc = .ok (i, len)) (hlen : ilc i len = true) (hc : chTx μ pc i len a b cc k = true) (hs : spc i a b cc = true) (h : acK f g (μ, pc, ls, st, (n, S, Rf, I, J, Df)) (stB μ pc ls st n S Rf I J Df i len fm tm a b cc k) = some o) : W p l e R s m args below meth c H locs cells slots Q (F0 m pc LS (st.map (rv ad))) := by
  cases i with
  | pop =>
    have hl1 : len = 1 := beq_e hlen
    subst hl1
    exact b_pop C K w fr hb hd hc h
  | aconst_null =>
    have hl1 : len = 1 := beq_e hlen
    subst hl1
    exact b_null C K w fr hb hd hc h
  | ifnonnull off =>
    have hl1 : len = 3 := beq_e hlen
    subst hl1
    have hc : (decide ((pc : Int) + off = (a : Int)) && cle (cst μ a) (cst μ pc)) = true := hc
    rw [Bool.and_eq_true] at hc
    exact b_ifnonnull C K w fr hb hd (of_decide_eq_true hc.1) hc.2 h
  | bastore =>
    have hl1 : len = 1 := beq_e hlen
    subst hl1
    exact b_bastore C K w fr hb hd hc h
  | baload =>
    have hl1 : len = 1 := beq_e hlen
    subst hl1
    exact b_baload C K w fr hb hd hc h
  | getstatic x =>
    have hl1 : len = 3 := beq_e hlen
    subst hl1
    have hc : (a3 pSt (ow μ) x 1000014 && cle (cst μ (pc + 3)) (cst μ pc)) = true := hc
    rw [Bool.and_eq_true] at hc
    exact b_getstatic C K w fr hb hd hc.1 (beq_e hs) hc.2 h
  | putfield x =>
    have hl1 : len = 3 := beq_e hlen
    subst hl1
    have hc : ((aF (ow μ) x a b && (Nat.beq (fkd a b) cc && Nat.blt a 15)) && (((bif Nat.beq cc 1 then true else bif Nat.beq cc 0 then decide (clt a b = .int) else Nat.beq cc 3 && decide (clt a b = .byte)) && (decide (((clq a).2.1 b).2.2.2 = false) || decide (((clq a).2.1 b).2.2.2 = true ∧ (nm μ).name = "<init>" ∧ ((clq a).2.1 b).1 = (nm μ).cls))) && cle (cst μ (pc + 3)) (cst μ pc))) = true := hc
    rw [Bool.and_eq_true] at hc
    have h2 := hc.2
    rw [Bool.and_eq_true] at h2
    exact b_putfield C K w fr hb hd h2.2 hc.1 h2.1 hcl h
  | invokevirtual x =>
    have hl1 : len = 3 := beq_e hlen
    subst hl1
    exact b_invV C K hf T9 hμ hc w fr hb hd h
  | invokestatic x =>
    have hl1 : len = 3 := beq_e hlen
    subst hl1
    exact b_copy C K hc w fr hb hd h
  | invokespecial x =>
    have hl1 : len = 3 := beq_e hlen
    subst hl1
    exact b_invS C K hf T9 hμ hc w fr hb hd h
  | _ => cases hs
set_option maxHeartbeats 4000000 in
theorem step_ok (C : Cx p l R s m args meth c D cA A sp L xs μ) (K : Nx X9 p l e R s m args below meth c D cA A sp L xs ad0 n0 μ Q g o) (hf : CallOK l D cA A sp L xs f) (T9 : Th p l e R s m args below meth c D cA A sp L xs ad0 n0 μ Q o) (F9 : Fi X9 p l e R s m args below meth c D cA A sp L xs ad0 n0 μ Q o) (hμ : rl2 μ = true) (hcl : (nm μ).cls = onm (ow μ)) (w : Wd D cA A sp L xs s ad0 n0 (hdl μ = []) ad (n, S, Rf, I, J, Df) H locs) (fr : Fm ad μ LS ls st n) (hb : Bu X9 R μ pc (n, S, Rf, I, J, Df) cells slots) (h : acK f g (μ, pc, ls, st, (n, S, Rf, I, J, Df)) (st1 (μ, pc, ls, st, (n, S, Rf, I, J, Df))) = some o) : W p l e R s m args below meth c H locs cells slots Q (F0 m pc LS (st.map (rv ad))) := by
  cases he : cins μ pc with
  | none =>
    refine F9 pc ls st _ ad LS H locs cells slots (fun e9 h9 => by rw [he] at h9; cases h9) ?_ w fr hb
    have e1 : st1 (μ, pc, ls, st, (n, S, Rf, I, J, Df)) = .inr (.inr (true, .inr (.inr (pc, ls, st)), (n, S, Rf, I, J, Df))) := by
      show (match cins μ pc with
        | some (i, len, fm, tm, a, b, c, k) => stX μ pc ls st n S Rf I J Df i len fm tm a b c k
        | none => _) = _
      rw [he]
    exact ends_of e1 h
  | some e9 =>
    obtain ⟨i, len, fm, tm, a, b, cc, k⟩ := e9
    obtain ⟨hd, hlen, hc⟩ := okZ_all μ hμ pc _ he
    dsimp only at hd hlen hc
    have hO := h
    have h : acK f g (μ, pc, ls, st, (n, S, Rf, I, J, Df)) (stX μ pc ls st n S Rf I J Df i len fm tm a b cc k) = some o := by
      have e1 : st1 (μ, pc, ls, st, (n, S, Rf, I, J, Df)) = stX μ pc ls st n S Rf I J Df i len fm tm a b cc k := by
        show (match cins μ pc with
          | some (i, len, fm, tm, a, b, c, k) => stX μ pc ls st n S Rf I J Df i len fm tm a b c k
          | none => _) = _
        rw [he]
      rw [e1] at h
      exact h
    unfold stX at h
    refine (Bool.eq_false_or_eq_true (spc i a b cc && Nat.ble 359 μ)).elim (fun hX => ?_) (fun hX => ?_)
    · rw [hX, cond_true] at h hc
      exact stepB_ok C K hf T9 hμ hcl w fr hb hd hlen hc (Bool.and_eq_true_iff.mp hX).1 h
    rw [hX, cond_false] at h hc
    cases i with
    | iadd =>
      have hl1 : len = 1 := beq_e hlen
      subst hl1
      exact s_iadd C K w fr hb hd hc h
    | isub =>
      have hl1 : len = 1 := beq_e hlen
      subst hl1
      exact s_isub C K w fr hb hd hc h
    | imul =>
      have hl1 : len = 1 := beq_e hlen
      subst hl1
      exact s_imul C K w fr hb hd hc h
    | idiv =>
      have hl1 : len = 1 := beq_e hlen
      subst hl1
      exact s_idiv C K w fr hb hd hc h
    | irem =>
      have hl1 : len = 1 := beq_e hlen
      subst hl1
      exact s_irem C K w fr hb hd hc h
    | ineg =>
      have hl1 : len = 1 := beq_e hlen
      subst hl1
      exact s_ineg C K w fr hb hd hc h
    | iand =>
      have hl1 : len = 1 := beq_e hlen
      subst hl1
      exact s_iand C K w fr hb hd hc h
    | ior =>
      have hl1 : len = 1 := beq_e hlen
      subst hl1
      exact s_ior C K w fr hb hd hc h
    | ixor =>
      have hl1 : len = 1 := beq_e hlen
      subst hl1
      exact s_ixor C K w fr hb hd hc h
    | ishl =>
      have hl1 : len = 1 := beq_e hlen
      subst hl1
      exact s_ishl C K w fr hb hd hc h
    | ishr =>
      have hl1 : len = 1 := beq_e hlen
      subst hl1
      exact s_ishr C K w fr hb hd hc h
    | iushr =>
      have hl1 : len = 1 := beq_e hlen
      subst hl1
      exact s_iushr C K w fr hb hd hc h
    | ladd =>
      have hl1 : len = 1 := beq_e hlen
      subst hl1
      exact s_ladd C K w fr hb hd hc h
    | lsub =>
      have hl1 : len = 1 := beq_e hlen
      subst hl1
      exact s_lsub C K w fr hb hd hc h
    | lmul =>
      have hl1 : len = 1 := beq_e hlen
      subst hl1
      exact s_lmul C K w fr hb hd hc h
    | land =>
      have hl1 : len = 1 := beq_e hlen
      subst hl1
      exact s_land C K w fr hb hd hc h
    | lor =>
      have hl1 : len = 1 := beq_e hlen
      subst hl1
      exact s_lor C K w fr hb hd hc h
    | lneg =>
      have hl1 : len = 1 := beq_e hlen
      subst hl1
      exact s_lneg C K w fr hb hd hc h
    | lshl =>
      have hl1 : len = 1 := beq_e hlen
      subst hl1
      exact s_lshl C K w fr hb hd hc h
    | lshr =>
      have hl1 : len = 1 := beq_e hlen
      subst hl1
      exact s_lshr C K w fr hb hd hc h
    | lushr =>
      have hl1 : len = 1 := beq_e hlen
      subst hl1
      exact s_lushr C K w fr hb hd hc h
    | lcmp =>
      have hl1 : len = 1 := beq_e hlen
      subst hl1
      exact s_lcmp C K w fr hb hd hc h
    | i2l =>
      have hl1 : len = 1 := beq_e hlen
      subst hl1
      exact s_i2l C K w fr hb hd hc h
    | l2i =>
      have hl1 : len = 1 := beq_e hlen
      subst hl1
      exact s_l2i C K w fr hb hd hc h
    | i2c =>
      have hl1 : len = 1 := beq_e hlen
      subst hl1
      exact s_i2c C K w fr hb hd hc h
    | i2d =>
      have hl1 : len = 1 := beq_e hlen
      subst hl1
      exact s_i2d C K w fr hb hd hc h
    | i2f =>
      have hl1 : len = 1 := beq_e hlen
      subst hl1
      exact s_i2f C K w fr hb hd hc h
    | f2d =>
      have hl1 : len = 1 := beq_e hlen
      subst hl1
      exact s_f2d C K w fr hb hd hc h
    | ddiv =>
      have hl1 : len = 1 := beq_e hlen
      subst hl1
      exact s_ddiv C K w fr hb hd hc h
    | fdiv =>
      have hl1 : len = 1 := beq_e hlen
      subst hl1
      exact s_fdiv C K w fr hb hd hc h
    | dup =>
      have hl1 : len = 1 := beq_e hlen
      subst hl1
      exact s_dup C K w fr hb hd hc h
    | dup2 =>
      have hl1 : len = 1 := beq_e hlen
      subst hl1
      exact s_dup2 C K w fr hb hd hc h
    | iaload =>
      have hl1 : len = 1 := beq_e hlen
      subst hl1
      exact s_iaload C K w fr hb hd hc h
    | baload =>
      have hl1 : len = 1 := beq_e hlen
      subst hl1
      exact s_baload C K w fr hb hd hc h
    | caload =>
      have hl1 : len = 1 := beq_e hlen
      subst hl1
      exact s_caload C K w fr hb hd hc h
    | laload =>
      have hl1 : len = 1 := beq_e hlen
      subst hl1
      exact s_laload C K w fr hb hd hc h
    | daload => cases hc
    | aaload =>
      have hl1 : len = 1 := beq_e hlen
      subst hl1
      exact s_aaload C K w fr hb hd hc h
    | iastore =>
      have hl1 : len = 1 := beq_e hlen
      subst hl1
      exact s_iastore C K w fr hb hd hc h
    | bastore =>
      have hl1 : len = 1 := beq_e hlen
      subst hl1
      exact s_bastore C K w fr hb hd hc h
    | castore =>
      have hl1 : len = 1 := beq_e hlen
      subst hl1
      exact s_castore C K w fr hb hd hc h
    | lastore =>
      have hl1 : len = 1 := beq_e hlen
      subst hl1
      exact s_lastore C K w fr hb hd hc h
    | dastore => cases hc
    | aastore =>
      have hl1 : len = 1 := beq_e hlen
      subst hl1
      exact s_aastore C K w fr hb hd hc h
    | arraylength =>
      have hl1 : len = 1 := beq_e hlen
      subst hl1
      exact s_arraylength C K w fr hb hd hc h
    | dcmp op =>
      have hl1 : len = 1 := beq_e hlen
      subst hl1
      exact s_dcmp C K w fr hb hd hc h
    | iconst q =>
      have hl1 : len = 1 := beq_e hlen
      subst hl1
      have hc : (decide (Int32.ofInt q = k) && cle (cst μ (pc + 1)) (cst μ pc)) = true := hc
      rw [Bool.and_eq_true] at hc
      exact s_iconst C K w fr hb hd hc.2 (of_decide_eq_true hc.1) h
    | bipush q =>
      have hl1 : len = 2 := beq_e hlen
      subst hl1
      have hc : (decide ((Int8.ofInt q).toInt32 = k) && cle (cst μ (pc + 2)) (cst μ pc)) = true := hc
      rw [Bool.and_eq_true] at hc
      exact s_bipush C K w fr hb hd hc.2 (of_decide_eq_true hc.1) h
    | sipush q =>
      have hl1 : len = 3 := beq_e hlen
      subst hl1
      have hc : (decide ((Int16.ofInt q).toInt32 = k) && cle (cst μ (pc + 3)) (cst μ pc)) = true := hc
      rw [Bool.and_eq_true] at hc
      exact s_sipush C K w fr hb hd hc.2 (of_decide_eq_true hc.1) h
    | lconst q =>
      have hl1 : len = 1 := beq_e hlen
      subst hl1
      exact s_lconst C K w fr hb hd hc h
    | fconst q =>
      have hl1 : len = 1 := beq_e hlen
      subst hl1
      have hc : (decide (q = 0) && cle (cst μ (pc + 1)) (cst μ pc)) = true := hc
      rw [Bool.and_eq_true] at hc
      exact s_fconst C K w fr hb hd hc.2 (of_decide_eq_true hc.1) h
    | ldc x =>
      have hl1 : len = 2 := beq_e hlen
      subst hl1
      have hc : ((bif Nat.beq a 0 then aC (ow μ) x k else (a3 pS (ow μ) x b && ((Nat.beq (ow μ) 9 || Nat.beq (ow μ) 12) && (Nat.ble 1000020 b && Nat.ble b 1000060)))) && cle (cst μ (pc + 2)) (cst μ pc)) = true := hc
      rw [Bool.and_eq_true] at hc
      exact s_ldc C K w fr hb hd hc.2 hc.1 h
    | ldc_w x =>
      have hl1 : len = 3 := beq_e hlen
      subst hl1
      have hc : ((bif Nat.beq a 0 then aC (ow μ) x k else (a3 pS (ow μ) x b && ((Nat.beq (ow μ) 9 || Nat.beq (ow μ) 12) && (Nat.ble 1000020 b && Nat.ble b 1000060)))) && cle (cst μ (pc + 3)) (cst μ pc)) = true := hc
      rw [Bool.and_eq_true] at hc
      exact s_ldc_w C K w fr hb hd hc.2 hc.1 h
    | ldc2_w x =>
      have hl1 : len = 3 := beq_e hlen
      subst hl1
      have hc : (a3 pL (ow μ) x b && cle (cst μ (pc + 3)) (cst μ pc)) = true := hc
      rw [Bool.and_eq_true] at hc
      exact s_ldc2_w C K w fr hb hd hc.2 (C.wd (aL_in hc.1)) h
    | iload_n q =>
      have hl1 : len = 1 := beq_e hlen
      subst hl1
      exact s_iload_n C K w fr hb hd hc h
    | lload_n q =>
      have hl1 : len = 1 := beq_e hlen
      subst hl1
      exact s_lload_n C K w fr hb hd hc h
    | aload_n q =>
      have hl1 : len = 1 := beq_e hlen
      subst hl1
      exact s_aload_n C K w fr hb hd hc h
    | istore_n q =>
      have hl1 : len = 1 := beq_e hlen
      subst hl1
      exact s_istore_n C K w fr hb hd hc h
    | lstore_n q =>
      have hl1 : len = 1 := beq_e hlen
      subst hl1
      exact s_lstore_n C K w fr hb hd hc h
    | astore_n q =>
      have hl1 : len = 1 := beq_e hlen
      subst hl1
      exact s_astore_n C K w fr hb hd hc h
    | iload q =>
      have hl1 : len = 2 := beq_e hlen
      subst hl1
      exact s_iload C K w fr hb hd hc h
    | lload q =>
      have hl1 : len = 2 := beq_e hlen
      subst hl1
      exact s_lload C K w fr hb hd hc h
    | dload q =>
      have hl1 : len = 2 := beq_e hlen
      subst hl1
      exact s_dload C K w fr hb hd hc h
    | aload q =>
      have hl1 : len = 2 := beq_e hlen
      subst hl1
      exact s_aload C K w fr hb hd hc h
    | istore q =>
      have hl1 : len = 2 := beq_e hlen
      subst hl1
      exact s_istore C K w fr hb hd hc h
    | lstore q =>
      have hl1 : len = 2 := beq_e hlen
      subst hl1
      exact s_lstore C K w fr hb hd hc h
    | dstore q =>
      have hl1 : len = 2 := beq_e hlen
      subst hl1
      exact s_dstore C K w fr hb hd hc h
    | astore q =>
      have hl1 : len = 2 := beq_e hlen
      subst hl1
      exact s_astore C K w fr hb hd hc h
    | iinc q z =>
      have hl1 : len = 3 := beq_e hlen
      subst hl1
      have hc : (decide (Int32.ofInt z = k) && cle (cst μ (pc + 3)) (cst μ pc)) = true := hc
      rw [Bool.and_eq_true] at hc
      exact s_iinc C K w fr hb hd hc.2 (of_decide_eq_true hc.1) h
    | ifCond cnd off =>
      have hl1 : len = 3 := beq_e hlen
      subst hl1
      have hc9 : (decide ((pc : Int) + off = (a : Int)) && (cle (cst μ a) (cst μ pc) && cle (cst μ (pc + 3)) (cst μ pc))) = true := hc
      clear hc
      rw [Bool.and_eq_true, Bool.and_eq_true] at hc9
      cases cnd with
      | eq => exact s_if_eq C K w fr hb hd hc9.2.2 (of_decide_eq_true hc9.1) hc9.2.1 h
      | ne => exact s_if_ne C K w fr hb hd hc9.2.2 (of_decide_eq_true hc9.1) hc9.2.1 h
      | lt => exact s_if_lt C K w fr hb hd hc9.2.2 (of_decide_eq_true hc9.1) hc9.2.1 h
      | ge => exact s_if_ge C K w fr hb hd hc9.2.2 (of_decide_eq_true hc9.1) hc9.2.1 h
      | gt => exact s_if_gt C K w fr hb hd hc9.2.2 (of_decide_eq_true hc9.1) hc9.2.1 h
      | le => exact s_if_le C K w fr hb hd hc9.2.2 (of_decide_eq_true hc9.1) hc9.2.1 h
    | if_icmp cnd off =>
      have hl1 : len = 3 := beq_e hlen
      subst hl1
      have hc9 : (decide ((pc : Int) + off = (a : Int)) && (cle (cst μ a) (cst μ pc) && cle (cst μ (pc + 3)) (cst μ pc))) = true := hc
      clear hc
      rw [Bool.and_eq_true, Bool.and_eq_true] at hc9
      cases cnd with
      | eq => exact s_icmp_eq C K w fr hb hd hc9.2.2 (of_decide_eq_true hc9.1) hc9.2.1 h
      | ne => exact s_icmp_ne C K w fr hb hd hc9.2.2 (of_decide_eq_true hc9.1) hc9.2.1 h
      | lt => exact s_icmp_lt C K w fr hb hd hc9.2.2 (of_decide_eq_true hc9.1) hc9.2.1 h
      | ge => exact s_icmp_ge C K w fr hb hd hc9.2.2 (of_decide_eq_true hc9.1) hc9.2.1 h
      | gt => exact s_icmp_gt C K w fr hb hd hc9.2.2 (of_decide_eq_true hc9.1) hc9.2.1 h
      | le => exact s_icmp_le C K w fr hb hd hc9.2.2 (of_decide_eq_true hc9.1) hc9.2.1 h
    | ifnull off =>
      have hl1 : len = 3 := beq_e hlen
      subst hl1
      exact s_ifnull C K w fr hb hd hc h
    | goto off =>
      have hl1 : len = 3 := beq_e hlen
      subst hl1
      have hc : (decide ((pc : Int) + off = (a : Int)) && cle (cst μ a) (cst μ pc)) = true := hc
      rw [Bool.and_eq_true] at hc
      exact s_goto C K w fr hb hd (of_decide_eq_true hc.1) hc.2 h
    | tableswitch d lo hi offs =>
      have hc : (cle (cst μ ((pc : Int) + d).toNat) (cst μ pc) && offs.toList.all (fun o => cle (cst μ ((pc : Int) + o).toNat) (cst μ pc))) = true := hc
      rw [Bool.and_eq_true] at hc
      exact s_tsw C K w fr hb hd hc.1 hc.2 h
    | getfield x =>
      have hl1 : len = 3 := beq_e hlen
      subst hl1
      have hc : ((bif Nat.beq a 43 then a3 pFs (ow μ) x cc && Nat.ble cc 1 else (aF (ow μ) x a b && (Nat.beq (fkd a b) cc && Nat.blt a 15))) && cle (cst μ (pc + 3)) (cst μ pc)) = true := hc
      rw [Bool.and_eq_true] at hc
      exact s_getfield C K w fr hb hd hc.2 hc.1 h
    | putfield x =>
      have hl1 : len = 3 := beq_e hlen
      subst hl1
      have hc : ((aF (ow μ) x a b && (Nat.beq (fkd a b) cc && Nat.blt a 15)) && ((bif Nat.beq cc 0 then decide (((clq a).2.1 b).2.2.2 = false ∧ clt a b = .int) else bif Nat.beq cc 2 then decide (((clq a).2.1 b).2.2.2 = false ∧ clt a b = .long) else Nat.beq cc 1 && (decide (((clq a).2.1 b).2.2.2 = false) || decide (((clq a).2.1 b).2.2.2 = true ∧ (nm μ).name = "<init>" ∧ ((clq a).2.1 b).1 = (nm μ).cls))) && cle (cst μ (pc + 3)) (cst μ pc))) = true := hc
      obtain ⟨p1, p2⟩ := Bool.and_eq_true_iff.mp hc
      obtain ⟨p2, p3⟩ := Bool.and_eq_true_iff.mp p2
      exact s_putfield C K w fr hb hd p3 p1 p2 hcl h
    | getstatic x =>
      have hl1 : len = 3 := beq_e hlen
      subst hl1
      have hc : (a3 pSt (ow μ) x b && ((bif Nat.beq cc 0 then Nat.ble 1000011 b && Nat.ble b 1000013 else Nat.beq b 0 && decide (k = 1)) && cle (cst μ (pc + 3)) (cst μ pc))) = true := hc
      rw [Bool.and_eq_true, Bool.and_eq_true] at hc
      exact s_getstatic C K w fr hb hd hc.2.2 (by rw [Bool.and_eq_true]; exact ⟨hc.1, hc.2.1⟩) h
    | invokevirtual x =>
      have hl1 : len = 3 := beq_e hlen
      subst hl1
      exact s_invV C K hf T9 hμ hc w fr hb hd h
    | invokestatic x =>
      have hl1 : len = 3 := beq_e hlen
      subst hl1
      cases hge : Nat.ble 1000 a with
      | false =>
        have hc : (bif Nat.ble 1000 a then _ else _) = true := hc
        rw [hge] at hc
        exact s_invS C K hf T9 hμ hc w fr hb hd h
      | true =>
        have hc : (bif Nat.ble 1000 a then a3 pX (ow μ) x a && ((bif Nat.beq a 1004 then Nat.ble 3 (frm μ) && Nat.ble 60 (lc μ) else Nat.ble 1 (frm μ) && Nat.ble (bif Nat.beq a 1000 then 26 else 22) (lc μ)) && (cle (cst μ (pc + 3)) (cst μ pc) && (Nat.beq a 1000 || (Nat.beq a 1004 || (Nat.beq a 1005 || (Nat.beq a 1006 || (Nat.beq a 1007 || Nat.beq a 1008))))))) else _) = true := hc
        rw [hge, cond_true, Bool.and_eq_true, Bool.and_eq_true, Bool.and_eq_true] at hc
        obtain ⟨c1, c2, c3, c4⟩ := hc
        simp only [Bool.or_eq_true] at c4
        have mkk : ∀ X : Bool, X = true → (a3 pX (ow μ) x a && (X && cle (cst μ (pc + 3)) (cst μ pc))) = true := fun X hX => by rw [Bool.and_eq_true, Bool.and_eq_true]; exact ⟨c1, hX, c3⟩
        rcases c4 with c4 | c4 | c4 | c4 | c4 | c4
        · have ha := beq_e c4
          subst ha
          exact s_xcpy C K (mkk _ c2) w fr hb hd h
        · have ha := beq_e c4
          subst ha
          exact s_xcix C K (mkk _ c2) w fr hb hd h
        · have ha := beq_e c4
          subst ha
          exact s_xmin C K (mkk _ c2) w fr hb hd h
        · have ha := beq_e c4
          subst ha
          exact s_xmax C K (mkk _ c2) w fr hb hd h
        · have ha := beq_e c4
          subst ha
          exact s_xabs C K (mkk _ c2) w fr hb hd h
        · have ha := beq_e c4
          subst ha
          exact s_xfdv C K (mkk _ c2) w fr hb hd h
    | invokespecial x =>
      have hl1 : len = 3 := beq_e hlen
      subst hl1
      cases hge : Nat.beq a 1003 with
      | false =>
        have hc : (bif Nat.beq a 1003 then _ else _) = true := hc
        rw [hge] at hc
        exact s_invI C K hf T9 hμ hc w fr hb hd h
      | true =>
        have hc : (bif Nat.beq a 1003 then a3 pX (ow μ) x 1003 && ((Nat.ble 1 (frm μ) && Nat.ble 20 (lc μ)) && cle (cst μ (pc + 3)) (cst μ pc)) else _) = true := hc
        rw [hge] at hc
        have ha := beq_e hge
        subst ha
        exact s_xobj C K hc w fr hb hd h
    | newarray t =>
      have hl1 : len = 2 := beq_e hlen
      subst hl1
      exact s_newarray C K w fr hb hd hc h
    | anewarray x =>
      have hl1 : len = 3 := beq_e hlen
      subst hl1
      exact s_anewarray C K w fr hb hd hc h
    | multianewarray x z =>
      have hlen : (Nat.beq len 4 && decide (z = 2)) = true := hlen
      rw [Bool.and_eq_true] at hlen
      have hl1 : len = 4 := beq_e hlen.1
      subst hl1
      have hz := of_decide_eq_true hlen.2
      subst hz
      exact s_mul C K w fr hb hd hc h
    | new x =>
      have hl1 : len = 3 := beq_e hlen
      subst hl1
      cases ha : Nat.beq a 0 with
      | true =>
        have hc : (bif Nat.beq a 0 then a3 pK (ow μ) x b && (Nat.blt b 15 && cle (ada (1, nfl b) (cst μ (pc + 3))) (cst μ pc)) else _) = true := hc
        rw [ha] at hc
        exact s_new0 C K w fr hb hd ha hc h
      | false =>
        have hst : st1 (μ, pc, ls, st, (n, S, Rf, I, J, Df)) = .inr (.inr (Nat.ble (csm st) 8, .inr (.inl b), (n, S, Rf, I, J, Df))) := by
          show (match cins μ pc with
            | some (i, len, fm, tm, a, b, c, k) => stX μ pc ls st n S Rf I J Df i len fm tm a b c k
            | none => _) = _
          rw [he]
          show (bif Nat.beq a 0 then _ else _) = _
          rw [ha]
          rfl
        exact F9 pc _ _ _ ad LS H locs cells slots (fun e9 h9 => by rw [he] at h9; cases h9; rfl) (ends_of hst hO) w fr hb
    | ireturn =>
      obtain ⟨x, r, rfl, h⟩ := ak_i1 h
      have hst : st1 (μ, pc, ls, .int x :: r, (n, S, Rf, I, J, Df)) = .inr (.inr (r.isEmpty && (bif Nat.beq cc 0 then true else bif Nat.beq cc 1 then decide (x = 0 ∨ x = 1) else bif Nat.beq cc 2 then decide (0 ≤ x ∧ x ≤ 65535) else decide (-128 ≤ x ∧ x ≤ 127)), .inl (some (.int x)), (n, S, Rf, I, J, Df))) := by
        show (match cins μ pc with
          | some (i, len, fm, tm, a, b, c, k) => stX μ pc ls (.int x :: r) n S Rf I J Df i len fm tm a b c k
          | none => _) = _
        rw [he]
        rfl
      exact F9 pc _ _ _ ad LS H locs cells slots (fun e9 h9 => by rw [he] at h9; cases h9; rfl) (ends_of hst hO) w fr hb
    | lreturn =>
      obtain ⟨x, r, rfl, h⟩ := ak_l1 h
      have hst : st1 (μ, pc, ls, .long x :: r, (n, S, Rf, I, J, Df)) = .inr (.inr (r.isEmpty, .inl (some (.long x)), (n, S, Rf, I, J, Df))) := by
        show (match cins μ pc with
          | some (i, len, fm, tm, a, b, c, k) => stX μ pc ls (.long x :: r) n S Rf I J Df i len fm tm a b c k
          | none => _) = _
        rw [he]
        rfl
      exact F9 pc _ _ _ ad LS H locs cells slots (fun e9 h9 => by rw [he] at h9; cases h9; rfl) (ends_of hst hO) w fr hb
    | freturn =>
      obtain ⟨v, r, rfl, h⟩ := ak_f1 h
      obtain ⟨x, rfl, h⟩ := ak_fF h
      have hst : st1 (μ, pc, ls, .float x :: r, (n, S, Rf, I, J, Df)) = .inr (.inr (r.isEmpty, .inl (some (.float x)), (n, S, Rf, I, J, Df))) := by
        show (match cins μ pc with
          | some (i, len, fm, tm, a, b, c, k) => stX μ pc ls (.float x :: r) n S Rf I J Df i len fm tm a b c k
          | none => _) = _
        rw [he]
        rfl
      exact F9 pc _ _ _ ad LS H locs cells slots (fun e9 h9 => by rw [he] at h9; cases h9; rfl) (ends_of hst hO) w fr hb
    | dreturn =>
      obtain ⟨v, r, rfl, h⟩ := ak_f1 h
      obtain ⟨x, rfl, h⟩ := ak_fD h
      have hst : st1 (μ, pc, ls, .double x :: r, (n, S, Rf, I, J, Df)) = .inr (.inr (r.isEmpty, .inl (some (.double x)), (n, S, Rf, I, J, Df))) := by
        show (match cins μ pc with
          | some (i, len, fm, tm, a, b, c, k) => stX μ pc ls (.double x :: r) n S Rf I J Df i len fm tm a b c k
          | none => _) = _
        rw [he]
        rfl
      exact F9 pc _ _ _ ad LS H locs cells slots (fun e9 h9 => by rw [he] at h9; cases h9; rfl) (ends_of hst hO) w fr hb
    | areturn =>
      obtain ⟨v, r, rfl, h⟩ := ak_f1 h
      obtain ⟨x, rfl, h⟩ := ak_fR h
      have hst : st1 (μ, pc, ls, .ref x :: r, (n, S, Rf, I, J, Df)) = .inr (.inr (r.isEmpty, .inl (some (.ref x)), (n, S, Rf, I, J, Df))) := by
        show (match cins μ pc with
          | some (i, len, fm, tm, a, b, c, k) => stX μ pc ls (.ref x :: r) n S Rf I J Df i len fm tm a b c k
          | none => _) = _
        rw [he]
        rfl
      exact F9 pc _ _ _ ad LS H locs cells slots (fun e9 h9 => by rw [he] at h9; cases h9; rfl) (ends_of hst hO) w fr hb
    | return_ =>
      have hst : st1 (μ, pc, ls, st, (n, S, Rf, I, J, Df)) = .inr (.inr (st.isEmpty, .inl (none), (n, S, Rf, I, J, Df))) := by
        show (match cins μ pc with
          | some (i, len, fm, tm, a, b, c, k) => stX μ pc ls (st) n S Rf I J Df i len fm tm a b c k
          | none => _) = _
        rw [he]
        rfl
      exact F9 pc _ _ _ ad LS H locs cells slots (fun e9 h9 => by rw [he] at h9; cases h9; rfl) (ends_of hst hO) w fr hb
    | _ => exact (ak_hl h).elim
end STEP
