/-! the instructions that call -/
theorem inW0 (y : MethodName) : inWb 0 (.static y) = false := by
  have e : ∃ a b c, lw_tbl[0]? = some (Cond.selects a b c) := ⟨_, _, _, rfl⟩
  obtain ⟨a, b, c, e⟩ := e
  unfold inWb
  rw [e]
  simp
theorem okW3 : (List.range 22).all (fun j => Nat.beq j 4 || (!(Nat.beq (wix (359 + j)).2.1 0) || (decide ((nm (359 + j)).name = "<init>") || (decide ((nm (359 + j)).cls = "java/lang/AbstractStringBuilder") || inWb (wix (359 + j)).2.2.2.1 (.selects (nm (359 + j)).cls (nm (359 + j)) (nm (359 + j))))))) = true := by decide +kernel
theorem pM_3 : pM.all (fun e => !(Nat.beq e.2.2.1 363)) = true := by decide +kernel
theorem clq_na : ∀ c, c < 15 → (clq c).1 ≠ "java/lang/AbstractStringBuilder" := by decide +kernel
theorem okw_v {a : Nat} (ha : rl2 a = true) (h9 : a ≠ 358) (h0 : Nat.beq (wix a).2.1 0 = true) : Cond.initialized (nm a).cls ∈ WALL ∧ Cond.instanceMethod (nm a) ∈ WALL ∧ (Cond.selects (nm a).cls (nm a) (nm a) ∈ WALL ∨ (nm a).name = "<init>" ∨ (nm a).cls = "java/lang/AbstractStringBuilder" ∨ a = 363) := by
  have h := (okW_all a ha).resolve_left h9
  unfold okW at h
  rw [beq_e h0, inW0, Bool.false_or] at h
  simp only [Bool.and_eq_true, Bool.or_eq_true, decide_eq_true_eq] at h
  refine ⟨inWb_mem h.1, inWb_mem h.2.1, ?_⟩
  rcases h.2.2 with q | q | q
  · exact Or.inl (inWb_mem q)
  · exact Or.inr (Or.inl q)
  · have h1 := rl2_lt ha
    have h2 := Nat.ble_eq.mp q
    have h3 := List.all_eq_true.mp okW3 (a - 359) (List.mem_range.mpr (by omega))
    rw [show 359 + (a - 359) = a by omega, h0] at h3
    simp only [Bool.not_true, Bool.false_or, Bool.or_eq_true, decide_eq_true_eq] at h3
    rcases h3 with q | q | q | q
    · have := Nat.eq_of_beq_eq_true q
      exact Or.inr (Or.inr (Or.inr (by omega)))
    · exact Or.inr (Or.inl q)
    · exact Or.inr (Or.inr (Or.inl q))
    · exact Or.inl (inWb_mem q)
theorem okw_s {a : Nat} (ha : rl2 a = true) (h9 : a ≠ 358) (h0 : Nat.beq (wix a).2.1 0 = false) : Cond.initialized (nm a).cls ∈ WALL ∧ Cond.static (nm a) ∈ WALL := by
  have h := (okW_all a ha).resolve_left h9
  have h2 := (okQ_all a ha).resolve_left h9
  unfold okW at h
  rw [h0, Bool.false_or] at h2
  rw [Bool.and_eq_true] at h
  exact ⟨inWb_mem h.1, inWb_mem h2⟩
theorem okn {a : Nat} (ha : rl2 a = true) (h9 : a ≠ 358) : (nm a).cls = onm (ow a) ∧ (nm a).cls ≠ "java/lang/invoke/MethodHandle" ∧ (nm a).cls ≠ "java/lang/invoke/VarHandle" ∧ plainName (nm a).cls = true := of_decide_eq_true ((okN_all a ha).resolve_left h9)
theorem okl {a : Nat} (ha : rl2 a = true) (h9 : a ≠ 358) : ∀ sig, parseMethodDescriptor (nm a).desc = some sig → nar a = sig.parameters.length := by
  intro sig h
  have h1 := of_decide_eq_true ((okP_all a ha).resolve_left h9)
  rw [h] at h1
  exact (Option.some.inj h1).symm
theorem okc {a : Nat} (ha : rl2 a = true) (h9 : a ≠ 358) : ∀ w ∈ cwd a :: WALL, w ∈ WALL := by
  intro w hw
  rcases List.mem_cons.mp hw with rfl | hw
  · exact (cw_all a ha).resolve_left h9
  · exact hw
theorem cwd_nil {a : Nat} (h : hdl a = []) : cwd a = .code (nm a) (byt a) (mxl a) (rtt a) := by unfold cwd; rw [h]
theorem cwd_cons {a : Nat} (h : hdl a ≠ []) : cwd a = .codeWith (nm a) (byt a) (mxl a) (rtt a) (hdl a) := by
  unfold cwd
  split
  · rename_i h2; exact absurd h2 h
  · rfl
theorem take_st {st : List Value} {b q : Nat} (hb : 0 < b) (h : (st.drop (b - 1)).head? = some (.ref q)) : st.take b = st.take (b - 1) ++ [.ref q] ∧ b ≤ st.length := by
  rw [List.head?_drop] at h
  have hl : b - 1 < st.length := (List.getElem?_eq_some_iff.mp h).1
  refine ⟨?_, by omega⟩
  have e : b = (b - 1) + 1 := by omega
  conv => lhs; rw [e]
  rw [List.take_add_one, h]
  rfl
theorem ak_call {f g : Cf → Option Ou} {o : Ou} {μ pc pc' a : Nat} {ls lsn st r as : List Value} {M0 M : Mm} (h : acK f g (μ, pc, ls, st, M0) (.inr (.inl (a, as, (μ, pc', lsn, r, M), ls))) = some o) : ∃ o8, f (a, 0, pad (mxl a) (ent as), [], cIn a M) = some o8 ∧ (∀ z, o8.1 ≠ .inr (.inr z)) ∧ (match some ((o8.1, cOut μ M o8.2) : Ou) with
      | some (.inl v, M') => g (μ, pc', lsn, v.toList ++ r, M')
      | some (.inr (.inl E), M') => (match ctc μ pc E with
        | some h => g (μ, h, mk (hmk μ) ls, [.ref iEXC], M')
        | none => some (.inr (.inl E), M'))
      | _ => none) = some o := by
  unfold acK at h
  dsimp only at h
  cases hx : f (a, 0, pad (mxl a) (ent as), [], cIn a M) with
  | none => rw [hx] at h; cases h
  | some o1 =>
    rw [hx] at h
    obtain ⟨x9, M9⟩ := o1
    rcases x9 with v | E | z
    · exact ⟨_, rfl, (fun z hz => by cases hz), h⟩
    · exact ⟨_, rfl, (fun z hz => by cases hz), h⟩
    · cases h
theorem crd_sub {c : Int32} {k : Nat} (hk : k ≤ 5000) (h : Int32.ofNat k ≤ c) : (c - Int32.ofNat k).toNatClampNeg + k = c.toNatClampNeg := by
  have h1 := Int32.le_iff_toInt_le.mp h
  have h2 : (Int32.ofNat k).toInt = k := Int32.toInt_ofNat_of_lt (by omega)
  have h3 := Int32.toInt_lt c
  have h4 : (c - Int32.ofNat k).toInt = c.toInt - k := by
    rw [Int32.toInt_sub, h2]
    exact Int.bmod_eq_of_le (by omega) (by omega)
  show (c - Int32.ofNat k).toInt.toNat + k = c.toInt.toNat
  rw [h4]
  omega
theorem cK_bk : (List.range 318).all (fun a => Nat.beq (cK a) 1) = true := by decide +kernel
section STEP
variable {X9 : Nat × Nat} {p : Program} {l : Launch} {e : Env} {R : Room} {s : State} {m : MethodId} {args : Array Value} {below : List Frame} {meth : Method} {c : Code} {D : va_G} {cA : Nat → ClassId} {A : Nat → Prop} {sp : Nat → Nat} {L : Nat} {xs : Nat → Int32} {ad0 : Nat → Nat} {n0 : Nat} {μ : Nat} {Q : State → Prop} {f g : Cf → Option Ou} {c0 : Cf} {o : Ou}
variable {pc : Nat} {ls st : List Value} {n : Nat} {S : Nat → Nat × Nat} {Rf : Nat → Nat → Option Nat} {I : Nat → Nat → Int32} {J : Nat → Nat → Int64} {Df : Nat → Nat → UInt64} {ad : Nat → Nat} {LS : Array Slot} {H : Heap} {locs : List Loc} {cells slots : Nat}
variable {fm tm : List Bool} {a b cc : Nat} {k : Int32}
theorem Wd.ws {hx : Prop} {M : Mm} (w : Wd D cA A sp L xs s ad0 n0 hx ad M H locs) : WS D cA A sp L xs ad M H := ⟨w.1, w.2.1, w.2.2.2.1, w.2.2.2.2.1⟩
theorem pre_ok (C : Cx p l R s m args meth c D cA A sp L xs μ) {hx : Prop} {M : Mm} (w : Wd D cA A sp L xs s ad0 n0 hx ad M H locs) {as : List Value} (has : as.all (vok M.1) = true) : ∀ U : State, U.heap = H → s.WarmedH U.vm → PcS D cA A sp L xs as M ad ((as.map (rv ad)).toArray) U := by
  intro U hU hW
  refine ⟨rfl, has, ?_, ?_⟩
  · rw [hU]; exact C.gs.go hW w.2.2.1.1 w.2.2.1.2.1
  · rw [hU]; exact w.ws
theorem rmk_ok {a : Nat} (C : Cx p l R s m args meth c D cA A sp L xs μ) (h : rmk a μ = true) : fr a + 1 ≤ R.frames ∧ 8 + (mxl a + 11) + lc a ≤ R.locals := by
  simp only [rmk, Bool.and_eq_true, Nat.ble_eq] at h
  exact ⟨Nat.le_trans h.1 C.2.2.2.2.2.2.2.2.2.1, Nat.le_trans h.2 C.2.2.2.2.2.2.2.2.2.2.1⟩
theorem Bu.call {nx : Nat} (ha : a < 381) (hb : Bu X9 R μ pc (n, S, Rf, I, J, Df) cells slots) (hq : chQ a μ pc nx = true) (hG : cG μ a I = true) : (cells + ((cst a 0).1 + 4 * kk a) ≤ R.cells ∧ slots + ((cst a 0).2 + 24 * kk a) ≤ R.slots) ∧ Bu X9 R μ nx (n, S, Rf, cI μ a I, J, Df) (cells + ((cst a 0).1 + 4 * kk a)) (slots + ((cst a 0).2 + 24 * kk a)) := by
  have hlt := Nat.ble_eq.mp (List.all_eq_true.mp cK_lt a (List.mem_range.mpr ha))
  unfold Bu kr at hb ⊢
  unfold chQ at hq
  unfold cG at hG
  unfold cI
  cases hm : Nat.ble 318 μ with
  | false =>
    rw [hm] at hb hq
    have h3 : kk a = 0 := by
      unfold kk
      cases hx : Nat.blt a 318 with
      | true => rw [show Nat.ble 318 a = false from by cases hy : Nat.ble 318 a with | false => rfl | true => (have := Nat.ble_eq.mp hy; have := Nat.blt_eq.mp hx; omega)]; rfl
      | false => rw [hx] at hq; cases hq
    have hq : cle (ada (cst a 0) (cst μ nx)) (cst μ pc) = true := by
      cases hx : Nat.blt a 318 with
      | true => rw [hx] at hq; exact hq
      | false => rw [hx] at hq; cases hq
    obtain ⟨h1, h2⟩ := cle_1 hq
    have h1 : (cst a 0).1 + (cst μ nx).1 ≤ (cst μ pc).1 := h1
    have h2 : (cst a 0).2 + (cst μ nx).2 ≤ (cst μ pc).2 := h2
    rw [h3]
    simp only [cond_false] at hb ⊢
    omega
  | true =>
    rw [hm] at hb hq hG
    simp only [cond_true] at hb hG ⊢
    have hsub := crd_sub hlt (of_decide_eq_true hG)
    have hc1 : (ups I iCRD 0 (I iCRD 0 - Int32.ofNat (cK a)) iCRD 0) = I iCRD 0 - Int32.ofNat (cK a) := ups_crs
    rw [hc1]
    cases hx : Nat.blt a 318 with
    | true =>
      rw [hx] at hq
      have hq : (cle (cst a 0) (4, 24) && cle (cst μ nx) (cst μ pc)) = true := hq
      rw [Bool.and_eq_true] at hq
      obtain ⟨h1, h2⟩ := cle_1 hq.1
      obtain ⟨h3, h4⟩ := cle_1 hq.2
      have h1 : (cst a 0).1 ≤ 4 := h1
      have h2 : (cst a 0).2 ≤ 24 := h2
      have hk1 : cK a = 1 := beq_e (List.all_eq_true.mp cK_bk a (List.mem_range.mpr (Nat.blt_eq.mp hx)))
      have hk0 : kk a = 0 := by
        unfold kk
        rw [show Nat.ble 318 a = false from by cases hy : Nat.ble 318 a with | false => rfl | true => (have := Nat.ble_eq.mp hy; have := Nat.blt_eq.mp hx; omega)]; rfl
      rw [hk0]
      rw [hk1] at hsub ⊢
      omega
    | false =>
      rw [hx] at hq
      have hq : cle (ada (cst a 0) (cst μ nx)) (cst μ pc) = true := hq
      obtain ⟨h1, h2⟩ := cle_1 hq
      have h1 : (cst a 0).1 + (cst μ nx).1 ≤ (cst μ pc).1 := h1
      have h2 : (cst a 0).2 + (cst μ nx).2 ≤ (cst μ pc).2 := h2
      have hk0 : kk a = cK a := by
        unfold kk
        rw [show Nat.ble 318 a = true from Nat.ble_eq.mpr (by cases hy : Nat.ble 318 a with | true => exact Nat.ble_eq.mp hy | false => (rcases Nat.lt_or_ge a 318 with q | q; (rw [Nat.blt_eq.mpr q] at hx; cases hx); exact q))]; rfl
      rw [hk0]
      omega
theorem Wd.cIp {hx : Prop} (w : Wd D cA A sp L xs s ad0 n0 hx ad (n, S, Rf, I, J, Df) H locs) : Wd D cA A sp L xs s ad0 n0 hx ad (n, S, Rf, cI μ a I, J, Df) H locs := by
  unfold cI
  cases Nat.ble 318 μ with
  | true => exact w.crd
  | false => exact w
theorem pre_in (C : Cx p l R s m args meth c D cA A sp L xs μ) {hx : Prop} {M : Mm} (w : Wd D cA A sp L xs s ad0 n0 hx ad M H locs) {as : List Value} (has : as.all (vok M.1) = true) : ∀ U : State, U.heap = H → s.WarmedH U.vm → PcS D cA A sp L xs as (cIn a M) ad ((as.map (rv ad)).toArray) U :=
  pre_ok C (w.cIN (a9 := a)) (by rw [cIn_1]; exact has)
theorem s_invV {x : Nat} (C : Cx p l R s m args meth c D cA A sp L xs μ) (K : Nx X9 p l e R s m args below meth c D cA A sp L xs ad0 n0 μ Q g o) (hf : CallOK l D cA A sp L xs f) (T9 : Th p l e R s m args below meth c D cA A sp L xs ad0 n0 μ Q o) (hμ : rl2 μ = true) (hk : (a3 pM (ow μ) x a && ((Nat.beq b (nar a + 1) && (Nat.beq (wix a).2.1 0 && ((hdl a).isEmpty && (rl2 a && (!Nat.beq a 358))))) && ((bif Nat.beq cc 43 then decide ((nm a).cls = "java/lang/String") else Nat.blt cc 15 && decide ((clq cc).1 = (nm a).cls)) && (decide ((nm a).name ≠ "<init>") && ((rmk a μ && (hnd μ).all (fun h => chQ a μ pc h.2.2.1)) && chQ a μ pc (pc + 3)))))) = true) (w : Wd D cA A sp L xs s ad0 n0 (hdl μ = []) ad (n, S, Rf, I, J, Df) H locs) (fr : Fm ad μ LS ls st n) (hb : Bu X9 R μ pc (n, S, Rf, I, J, Df) cells slots) (hd : decode (byt μ) pc = .ok (.invokevirtual x, 3)) (h : acK f g (μ, pc, ls, st, (n, S, Rf, I, J, Df)) (stA μ pc ls st n S Rf I J Df (.invokevirtual x) 3 fm tm a b cc k) = some o) : W p l e R s m args below meth c H locs cells slots Q (F0 m pc LS (st.map (rv ad))) := by
  obtain ⟨v, hv, h⟩ := ak_lk h
  obtain ⟨q, rfl, h⟩ := ak_fR h
  obtain ⟨hg, h⟩ := ak_ifh h
  obtain ⟨o8, hf1, hns, hm⟩ := ak_call h
  obtain ⟨hL, hl, hs⟩ := fr
  simp only [Bool.and_eq_true, Nat.blt_eq, Nat.ble_eq, Bool.not_eq_true', decide_eq_true_eq, Bool.or_eq_true] at hk hg
  obtain ⟨k1, ⟨k2, k3, k4, k5, k6⟩, k7, k8, ⟨k9, k10⟩, k11⟩ := hk
  obtain ⟨g12, ⟨g3, g4⟩, g5⟩ := hg
  have h309 : a ≠ 358 := fun z => by rw [z] at k6; cases k6
  have hnil : hdl a = [] := List.isEmpty_iff.mp k4
  have hb1 : b = nar a + 1 := beq_e k2
  obtain ⟨e9, he9, q1, q2, q3⟩ := a3_in k1
  have hw9 := inWb_mem (List.all_eq_true.mp okM e9 he9)
  unfold wM at hw9
  rw [q1, q2, q3] at hw9
  obtain ⟨t1, t2⟩ := take_st (by omega) hv
  obtain ⟨z1, z2, z3⟩ := okw_v k5 h309 k3
  have z3 := z3.resolve_right (fun q => q.elim k8 (fun q => q.elim (fun q => by
    cases h43 : Nat.beq cc 43 with
    | true => rw [h43] at k7; have := of_decide_eq_true k7; rw [q] at this; exact absurd this (by decide)
    | false =>
      rw [h43] at k7
      simp only [cond_false, Bool.and_eq_true, Nat.blt_eq, decide_eq_true_eq] at k7
      exact clq_na cc k7.1 (k7.2.trans q)) (fun q => by
    have := List.all_eq_true.mp pM_3 e9 he9
    rw [q3, q] at this
    cases this)))
  obtain ⟨y1, y2, y3, -⟩ := okn k5 h309
  obtain ⟨r1, r2⟩ := rmk_ok C k9
  have hcs : csm (st.take b).reverse ≤ mxl a := by rw [csm_rev]; exact g4
  have ha9 := rl2_lt k5
  have w1 := w.cIp (μ := μ) (a := a)
  have hM := hf a (st.take b).reverse _ o8 ad k5 h309 hcs hns hf1 (kr_in ha9)
  have hall : (st.take b).all (vok n) = true := List.all_eq_true.mpr fun v hv => List.all_eq_true.mp hs v (List.mem_of_mem_take hv)
  have hallr : (st.take b).reverse.all (vok n) = true := by rw [List.all_reverse]; exact hall
  have hdr : (st.drop b).all (vok n) = true := List.all_eq_true.mpr fun v hv => List.all_eq_true.mp hs v (List.mem_of_mem_drop hv)
  have has : (st.take b).reverse.map (rv ad) = .ref (ad q) :: (st.take (b - 1)).reverse.map (rv ad) := by rw [t1, List.reverse_append]; rfl
  have hcode : Cond.code (nm a) (byt a) (mxl a) (rtt a) ∈ WALL := by rw [← cwd_nil hnil]; exact okc k5 h309 _ List.mem_cons_self
  have hpre := pre_in (a := a) C w1 hallr
  rw [has] at hpre
  have hrec : ∃ cellB : Cell, H[ad q]? = some cellB ∧ cellB.vm.isStatics = false ∧ s.vm.findClass (nm a).cls = some cellB.cls := by
    have obj : ∀ c9 : Nat, Nat.beq (S q).1 c9 = true → q < n → c9 < 15 → (clq c9).1 = (nm a).cls → ∃ cellB : Cell, H[ad q]? = some cellB ∧ cellB.vm.isStatics = false ∧ s.vm.findClass (nm a).cls = some cellB.cls := by
      intro c9 g1 g2 k3 k4
      have he : (wsl cA ad (n, S, Rf, I, J, Df))[q]? = some (ad q, _) := (wsl_at (M := (n, S, Rf, I, J, Df)) g2).trans (by rw [cel_c (beq_e g1) k3])
      have := va_recv C.kk w.1 (clsv_at c9 k3) he
      rw [k4] at this
      exact this
    cases h43 : Nat.beq cc 43 with
    | true =>
      rw [h43] at k7
      have k7 := of_decide_eq_true k7
      rcases g12 with ⟨g1, -⟩ | ⟨-, g1, g2⟩
      · obtain ⟨hn, hS9⟩ := w.kind (p := q) (by rw [beq_e g1, beq_e h43]; omega)
        obtain ⟨i, hi, rfl⟩ := ssp_k.2.2.1 (by rw [← hS9, beq_e g1, beq_e h43])
        have hb9 := stp_b hi
        have ha : ad (stp i) = sp (stp i) := w.sp' (by omega) (by show _ ≠ 1000000; omega)
        rw [ha, k7]
        exact vk_recv (adK := fun i => sp (stp i)) (i := i) C.gs.2.2.2.2.1 hi w.2.2.1
      · exact obj 13 g1 g2 (by decide) (by rw [k7]; rfl)
    | false =>
      rw [h43] at k7
      simp only [cond_false, Bool.and_eq_true, Nat.blt_eq, decide_eq_true_eq] at k7
      rcases g12 with ⟨g1, g2⟩ | ⟨z, -, -⟩
      · exact obj cc g1 (g2.resolve_left (fun z => by rw [h43] at z; cases z)) k7.1 k7.2
      · rw [h43] at z; cases z
  have hr := vx_runV (m := m) (cells := cells) (slots := slots) (locs := locs) (below := below) (meth := meth) (e := e) (g := F0 m pc LS (st.map (rv ad))) (As := (st.take (b - 1)).reverse.map (rv ad)) (rest := (st.drop b).map (rv ad)) (n := nar a) (C := (nm a).cls) (index := x) ⟨C.ex, C.by, C.ml, C.own, C.2.2.2.2.2.1⟩ hM
    ⟨⟨rfl, rfl, r1, r2, wall_pay C.2.2.2.2.2.1 (okc k5 h309), List.mem_cons_of_mem _ hcode, C.wd hcode, C.wd z1, ⟨y2, y3⟩, okl k5 h309, C.wd hw9⟩, C.wd z2, C.wd z3⟩ ⟨WS_blind, hrec, hpre⟩ rfl (by simp; omega) hL.1 (by
      show st.map (rv ad) = _
      rw [← List.map_reverse, List.reverse_reverse]
      conv => lhs; rw [← List.take_append_drop b st, t1]
      simp [rv]) (lv_room (by rw [csm_rv]; exact g3)) hd (hb.call ha9 k11 g5).1
  exact call_go C K T9 hμ w1 hL hl hdr (hb.call ha9 k11 g5).2 (fun h9 hm9 => (hb.call ha9 (List.all_eq_true.mp k10 h9 hm9) g5).2) rfl hr hm
theorem s_invS {x : Nat} (C : Cx p l R s m args meth c D cA A sp L xs μ) (K : Nx X9 p l e R s m args below meth c D cA A sp L xs ad0 n0 μ Q g o) (hf : CallOK l D cA A sp L xs f) (T9 : Th p l e R s m args below meth c D cA A sp L xs ad0 n0 μ Q o) (hμ : rl2 μ = true) (hk : (a3 pM (ow μ) x a && ((Nat.beq b (nar a) && (!(Nat.beq (wix a).2.1 0) && (rl2 a && (!Nat.beq a 358)))) && (rmk a μ && (chQ a μ pc (pc + 3) && (hnd μ).all (fun h => chQ a μ pc h.2.2.1))))) = true) (w : Wd D cA A sp L xs s ad0 n0 (hdl μ = []) ad (n, S, Rf, I, J, Df) H locs) (fr : Fm ad μ LS ls st n) (hb : Bu X9 R μ pc (n, S, Rf, I, J, Df) cells slots) (hd : decode (byt μ) pc = .ok (.invokestatic x, 3)) (h : acK f g (μ, pc, ls, st, (n, S, Rf, I, J, Df)) (stA μ pc ls st n S Rf I J Df (.invokestatic x) 3 fm tm a b cc k) = some o) : W p l e R s m args below meth c H locs cells slots Q (F0 m pc LS (st.map (rv ad))) := by
  simp only [Bool.and_eq_true, Nat.blt_eq, Nat.ble_eq, Bool.not_eq_true'] at hk
  obtain ⟨k1, ⟨k2, k3, k5, k6⟩, k9, k11, k10⟩ := hk
  have h309 : a ≠ 358 := fun z => by rw [z] at k6; cases k6
  have nb : ∀ k : Nat, 381 ≤ k → Nat.beq a k = false := fun k hk => nbeq (by have := rl2_lt k5; omega)
  have h8 : acK f g (μ, pc, ls, st, (n, S, Rf, I, J, Df)) (bif ((Nat.ble (csm (st.drop b)) 8 && Nat.ble (csm (st.take b)) (mxl a)) && cG μ a I) && Nat.ble b st.length then .inr (.inl (a, (st.take b).reverse, (μ, pc + 3, mk fm ls, st.drop b, (n, S, Rf, cI μ a I, J, Df)), ls)) else hl) = some o := by
    unfold stA at h
    simp only [nb 1000 (by omega), nb 1004 (by omega), nb 1005 (by omega), nb 1006 (by omega), nb 1007 (by omega), nb 1008 (by omega), cond_false] at h
    exact h
  obtain ⟨hg, h8⟩ := ak_ifh h8
  obtain ⟨o8, hf1, hns, hm⟩ := ak_call h8
  obtain ⟨hL, hl, hs⟩ := fr
  simp only [Bool.and_eq_true, Nat.ble_eq] at hg
  obtain ⟨⟨⟨g3, g4⟩, g6⟩, g5⟩ := hg
  have hb1 : b = nar a := beq_e k2
  obtain ⟨e9, he9, q1, q2, q3⟩ := a3_in k1
  have hw9 := inWb_mem (List.all_eq_true.mp okM e9 he9)
  unfold wM at hw9
  rw [q1, q2, q3] at hw9
  obtain ⟨z1, z2⟩ := okw_s k5 h309 k3
  obtain ⟨y1, y2, y3, -⟩ := okn k5 h309
  obtain ⟨r1, r2⟩ := rmk_ok C k9
  have hcs : csm (st.take b).reverse ≤ mxl a := by rw [csm_rev]; exact g4
  have ha9 := rl2_lt k5
  have w1 := w.cIp (μ := μ) (a := a)
  have hM := hf a (st.take b).reverse _ o8 ad k5 h309 hcs hns hf1 (kr_in ha9)
  have hall : (st.take b).all (vok n) = true := List.all_eq_true.mpr fun v hv => List.all_eq_true.mp hs v (List.mem_of_mem_take hv)
  have hallr : (st.take b).reverse.all (vok n) = true := by rw [List.all_reverse]; exact hall
  have hdr : (st.drop b).all (vok n) = true := List.all_eq_true.mpr fun v hv => List.all_eq_true.mp hs v (List.mem_of_mem_drop hv)
  have hpre := pre_in (a := a) C w1 hallr
  have hstk : st.map (rv ad) = ((st.take b).reverse.map (rv ad)).reverse ++ (st.drop b).map (rv ad) := by
    rw [← List.map_reverse, List.reverse_reverse, ← List.map_append, List.take_append_drop]
  have hlen : ((st.take b).reverse.map (rv ad)).length = nar a := by simp; omega
  by_cases hnil : hdl a = []
  · have hcode : Cond.code (nm a) (byt a) (mxl a) (rtt a) ∈ WALL := by rw [← cwd_nil hnil]; exact okc k5 h309 _ List.mem_cons_self
    have hr := vx_runS (m := m) (cells := cells) (slots := slots) (locs := locs) (below := below) (meth := meth) (e := e) (g := F0 m pc LS (st.map (rv ad))) (As := (st.take b).reverse.map (rv ad)) (rest := (st.drop b).map (rv ad)) (n := nar a) (index := x) ⟨C.ex, C.by, C.ml, C.own, C.2.2.2.2.2.1⟩ hM
      ⟨⟨rfl, rfl, r1, r2, wall_pay C.2.2.2.2.2.1 (okc k5 h309), List.mem_cons_of_mem _ hcode, C.wd hcode, C.wd z1, ⟨y2, y3⟩, okl k5 h309, C.wd hw9⟩, C.wd z2⟩ ⟨WS_blind, hpre⟩ rfl hlen hL.1 hstk (lv_room (by rw [csm_rv]; exact g3)) hd (hb.call ha9 k11 g6).1
    exact call_go C K T9 hμ w1 hL hl hdr (hb.call ha9 k11 g6).2 (fun h9 hm9 => (hb.call ha9 (List.all_eq_true.mp k10 h9 hm9) g6).2) rfl hr hm
  · have hcode : Cond.codeWith (nm a) (byt a) (mxl a) (rtt a) (hdl a) ∈ WALL := by rw [← cwd_cons hnil]; exact okc k5 h309 _ List.mem_cons_self
    have hr := vx_runSX (m := m) (cells := cells) (slots := slots) (locs := locs) (below := below) (meth := meth) (e := e) (g := F0 m pc LS (st.map (rv ad))) (As := (st.take b).reverse.map (rv ad)) (rest := (st.drop b).map (rv ad)) (n := nar a) (index := x) ⟨C.ex, C.by, C.ml, C.own, C.2.2.2.2.2.1⟩ hM
      ⟨⟨rfl, rfl, r1, r2, wall_pay C.2.2.2.2.2.1 (okc k5 h309), List.mem_cons_of_mem _ hcode⟩, C.wd hcode, C.wd z1, ⟨y2, y3⟩, okl k5 h309, C.wd hw9, C.wd z2⟩ ⟨WS_blind, hpre⟩ rfl hlen hL.1 hstk (lv_room (by rw [csm_rv]; exact g3)) hd (hb.call ha9 k11 g6).1
    exact call_go C K T9 hμ w1 hL hl hdr (hb.call ha9 k11 g6).2 (fun h9 hm9 => (hb.call ha9 (List.all_eq_true.mp k10 h9 hm9) g6).2) rfl hr hm
theorem s_invI {x : Nat} (C : Cx p l R s m args meth c D cA A sp L xs μ) (K : Nx X9 p l e R s m args below meth c D cA A sp L xs ad0 n0 μ Q g o) (hf : CallOK l D cA A sp L xs f) (T9 : Th p l e R s m args below meth c D cA A sp L xs ad0 n0 μ Q o) (hμ : rl2 μ = true) (hk : ((a3 pM (ow μ) x a || a3 pN (ow μ) x a) && ((Nat.beq b (nar a + 1) && (Nat.beq (wix a).2.1 0 && ((hdl a).isEmpty && (rl2 a && (!Nat.beq a 358))))) && (decide ((nm a).name = "<init>" ∧ rtt a = none) && (rmk a μ && (chQ a μ pc (pc + 3) && (hnd μ).all (fun h => chQ a μ pc h.2.2.1)))))) = true) (w : Wd D cA A sp L xs s ad0 n0 (hdl μ = []) ad (n, S, Rf, I, J, Df) H locs) (fr : Fm ad μ LS ls st n) (hb : Bu X9 R μ pc (n, S, Rf, I, J, Df) cells slots) (hd : decode (byt μ) pc = .ok (.invokespecial x, 3)) (h : acK f g (μ, pc, ls, st, (n, S, Rf, I, J, Df)) (stA μ pc ls st n S Rf I J Df (.invokespecial x) 3 fm tm a b cc k) = some o) : W p l e R s m args below meth c H locs cells slots Q (F0 m pc LS (st.map (rv ad))) := by
  simp only [Bool.and_eq_true, Nat.blt_eq, Nat.ble_eq, Bool.not_eq_true', Bool.or_eq_true, decide_eq_true_eq] at hk
  obtain ⟨k1, ⟨k2, k3, k4, k5, k6⟩, ⟨k7, k8⟩, k9, k11, k10⟩ := hk
  have h309 : a ≠ 358 := fun z => by rw [z] at k6; cases k6
  have h8 : acK f g (μ, pc, ls, st, (n, S, Rf, I, J, Df)) (lk (st.drop (b - 1)).head? (fun v => fR v (fun _ => bif ((Nat.ble (csm (st.drop b)) 8 && Nat.ble (csm (st.take b)) (mxl a)) && cG μ a I) then .inr (.inl (a, (st.take b).reverse, (μ, pc + 3, mk fm ls, st.drop b, (n, S, Rf, cI μ a I, J, Df)), ls)) else hl))) = some o := by
    unfold stA at h
    simp only [nbeq (show a ≠ 1003 by have := rl2_lt k5; omega), cond_false] at h
    exact h
  obtain ⟨v, hv, h8⟩ := ak_lk h8
  obtain ⟨q, rfl, h8⟩ := ak_fR h8
  obtain ⟨hg, h8⟩ := ak_ifh h8
  obtain ⟨o8, hf1, hns, hm⟩ := ak_call h8
  obtain ⟨hL, hl, hs⟩ := fr
  simp only [Bool.and_eq_true, Nat.ble_eq] at hg
  obtain ⟨⟨g3, g4⟩, g5⟩ := hg
  have hnil : hdl a = [] := List.isEmpty_iff.mp k4
  have hb1 : b = nar a + 1 := beq_e k2
  obtain ⟨t1, t2⟩ := take_st (by omega) hv
  obtain ⟨z1, z2, -⟩ := okw_v k5 h309 k3
  obtain ⟨y1, y2, y3, -⟩ := okn k5 h309
  obtain ⟨r1, r2⟩ := rmk_ok C k9
  have hcs : csm (st.take b).reverse ≤ mxl a := by rw [csm_rev]; exact g4
  have ha9 := rl2_lt k5
  have w1 := w.cIp (μ := μ) (a := a)
  have hM := hf a (st.take b).reverse _ o8 ad k5 h309 hcs hns hf1 (kr_in ha9)
  have hall : (st.take b).all (vok n) = true := List.all_eq_true.mpr fun v hv => List.all_eq_true.mp hs v (List.mem_of_mem_take hv)
  have hallr : (st.take b).reverse.all (vok n) = true := by rw [List.all_reverse]; exact hall
  have hdr : (st.drop b).all (vok n) = true := List.all_eq_true.mpr fun v hv => List.all_eq_true.mp hs v (List.mem_of_mem_drop hv)
  have has : (st.take b).reverse.map (rv ad) = .ref (ad q) :: (st.take (b - 1)).reverse.map (rv ad) := by rw [t1, List.reverse_append]; rfl
  have hcode : Cond.code (nm a) (byt a) (mxl a) none ∈ WALL := by rw [← k8, ← cwd_nil hnil]; exact okc k5 h309 _ List.mem_cons_self
  have hpre := pre_in (a := a) C w1 hallr
  rw [has] at hpre
  have hstk : st.map (rv ad) = ((st.take (b - 1)).reverse.map (rv ad)).reverse ++ .ref (ad q) :: (st.drop b).map (rv ad) := by
    rw [← List.map_reverse, List.reverse_reverse]
    conv => lhs; rw [← List.take_append_drop b st, t1]
    simp [rv]
  have hlen : ((st.take (b - 1)).reverse.map (rv ad)).length = nar a := by simp; omega
  rcases k1 with k1 | k1
  · obtain ⟨e9, he9, q1, q2, q3⟩ := a3_in k1
    have hw9 := inWb_mem (List.all_eq_true.mp okM e9 he9)
    unfold wM at hw9
    rw [q1, q2, q3] at hw9
    have hr := vx_runI (m := m) (cells := cells) (slots := slots) (locs := locs) (below := below) (meth := meth) (e := e) (g := F0 m pc LS (st.map (rv ad))) (As := (st.take (b - 1)).reverse.map (rv ad)) (rest := (st.drop b).map (rv ad)) (n := nar a) (index := x) ⟨C.ex, C.by, C.ml, C.own, C.2.2.2.2.2.1⟩ hM
      ⟨⟨rfl, rfl, r1, r2, wall_pay C.2.2.2.2.2.1 (okc k5 h309), List.mem_cons_of_mem _ hcode, C.wd hcode, C.wd z1, ⟨y2, y3⟩, okl k5 h309, C.wd hw9⟩, k7, C.wd z2⟩ ⟨WS_blind, hpre⟩ rfl hlen hL.1 hstk (lv_room (by rw [csm_rv]; exact g3)) hd (hb.call ha9 k11 g5).1
    exact call_go C K T9 hμ w1 hL hl hdr (hb.call ha9 k11 g5).2 (fun h9 hm9 => (hb.call ha9 (List.all_eq_true.mp k10 h9 hm9) g5).2) rfl hr hm
  · obtain ⟨e9, he9, q1, q2, q3⟩ := a3_in k1
    have hnw := C.gs.2.2.2.2.2.2.2.1.2.2.2.2.2.2.1 e9 he9
    rw [q1, q2, q3] at hnw
    have hr := vx_runIN (m := m) (cells := cells) (slots := slots) (locs := locs) (below := below) (meth := meth) (e := e) (g := F0 m pc LS (st.map (rv ad))) (As := (st.take (b - 1)).reverse.map (rv ad)) (rest := (st.drop b).map (rv ad)) (n := nar a) (index := x) (host := "GlacierBook") ⟨C.ex, C.by, C.ml, C.own, C.2.2.2.2.2.1⟩ hM
      ⟨⟨⟨rfl, rfl, r1, r2, wall_pay C.2.2.2.2.2.1 (okc k5 h309), List.mem_cons_of_mem _ hcode⟩, C.wd hcode, C.wd z1, ⟨y2, y3⟩, okl k5 h309, va_Nw.use rfl hnw⟩, k7, C.wd z2⟩ ⟨WS_blind, hpre⟩ rfl hlen hL.1 hstk (lv_room (by rw [csm_rv]; exact g3)) hd (hb.call ha9 k11 g5).1
    exact call_go C K T9 hμ w1 hL hl hdr (hb.call ha9 k11 g5).2 (fun h9 hm9 => (hb.call ha9 (List.all_eq_true.mp k10 h9 hm9) g5).2) rfl hr hm
end STEP
