/-! members of the library that are one step of the clean machine -/
theorem okMx : (inWb 854 (Cond.code Lib.Math.max.name Lib.Math.max.code 2 (some .int)) && (inWb 595 (Cond.code Lib.Math.min.name Lib.Math.min.code 2 (some .int)) && (inWb 945 (Cond.code Lib.Math.abs.name Lib.Math.abs.code 1 (some .int)) && inWb 1097 (Cond.code yJ9_floorDiv_7cf53 cJ9_floorDiv_7cf53 3 (some .int))))) = true := by decide +kernel
abbrev wcix : List Cond := .code yJ0_checkIndex_df160 cJ0_checkIndex_df160 2 none :: [.fieldLink RJ0 1053 "jdk/internal/util/Preconditions" "SIOOBE_FORMATTER" "Ljava/util/function/BiFunction;", .methodLink RJ0 1059 yJ3_checkIndex_8e157, .static yJ3_checkIndex_8e157, .initialized RJ3, .code yJ3_checkIndex_8e157 cJ3_checkIndex_8e157 3 (some .int)]
theorem okCx : (inWb 1425 (.code yJ0_checkIndex_df160 cJ0_checkIndex_df160 2 none) && (inWb 1263 (.fieldLink RJ0 1053 "jdk/internal/util/Preconditions" "SIOOBE_FORMATTER" "Ljava/util/function/BiFunction;") && (inWb 1426 (.methodLink RJ0 1059 yJ3_checkIndex_8e157) && (inWb 1427 (.static yJ3_checkIndex_8e157) && (inWb 82 (.initialized RJ3) && (inWb 1428 (.code yJ3_checkIndex_8e157 cJ3_checkIndex_8e157 3 (some .int)) && (inWb 1424 (.static yJ0_checkIndex_df160) && inWb 79 (.initialized RJ0)))))))) = true := by decide +kernel
theorem wcix_in : ∀ w ∈ wcix, w ∈ WALL := by
  have h := okCx
  simp only [Bool.and_eq_true] at h
  obtain ⟨h1, h2, h3, h4, h5, h6, -⟩ := h
  intro w hw
  simp only [wcix, List.mem_cons, List.not_mem_nil, or_false] at hw
  rcases hw with rfl | rfl | rfl | rfl | rfl | rfl
  · exact inWb_mem h1
  · exact inWb_mem h2
  · exact inWb_mem h3
  · exact inWb_mem h4
  · exact inWb_mem h5
  · exact inWb_mem h6
theorem wall_pay {args : Array Value} {s : State} (hT : ∀ w ∈ WALL, w.before args s = true) {ws : List Cond} (h : ∀ w ∈ ws, w ∈ WALL) : ∀ w ∈ ws, ∀ (a' : Array Value) (U : State), s.WarmedH U.vm → w.before a' U = true :=
  pay_in (big := WALL) hT (goodIn_sub h (List.all_eq_true.mpr fun w hw => (List.mem_filter.mp (h w hw)).2))
/-- a call of a pure member: it goes on with its answer -/
theorem pure_go {p : Program} {l : Launch} {e : Env} {R : Room} {s : State} {m : MethodId} {args : Array Value} {below : List Frame} {meth : Method} {c : Code} {H : Heap} {locs : List Loc} {cells slots : Nat} {Q : State → Prop} {g : JFrame} {rest : List Value} {v9 : Option Value} {a : Array Value}
    (hr : va_Run p l e R s m args below meth c H locs cells slots 0 0 g rest ((fun _ (st : State) (oc : Outcome) (t : State) => oc = .returned v9 ∧ t.heap = st.heap : Array Value → State → Outcome → State → Prop) a) (fun _ => False)) (kk : W p l e R s m args below meth c H locs cells slots Q { g with pc := g.pc + 3, stack := v9.toList ++ rest }) : W p l e R s m args below meth c H locs cells slots Q g := by
  intro T hT X
  obtain ⟨v, st₀, t, T', Lx, h0, X', hL, e1, e2, ⟨hv, hh⟩, st⟩ := hr T hT X
  have hLn : Lx = [] := by
    cases Lx with
    | nil => rfl
    | cons q r => exact (hL q List.mem_cons_self).elim
  subst hLn
  rw [List.append_nil] at X'
  have hv : v = v9 := by injection hv
  subst hv
  obtain ⟨t2, a1, b1⟩ := kk T' (by rw [e1, hh, h0]) X'
  exact ⟨t2, st t2 a1, b1⟩
theorem met_ofWF {l : Launch} {y : MethodName} {ws ws' : List Cond} {rm : Room} {Pc : Array Value → State → Prop} {Qc : Array Value → State → Outcome → State → Prop} {mc ms : Nat} {free : Addr → Prop} {cc : ByteArray} {maxL : Nat} {ret : Option FieldType}
    (hy : plainFor y = true) (hw : ws = Cond.code y cc maxL ret :: ws')
    (body : ∀ p e s m args below meth c s₁, BodyLoose p l y (headSpec ws rm) cc maxL ret e s m args below meth c s₁ → c.maxLocals = maxL → Pc args s →
      W p l e (headSpec ws rm).room s m args below meth c s.heap [] 0 0 (MQ below Qc args s mc ms free) (entryFrame m args maxL)) : Met l y ws rm Pc Qc mc ms free := by
  refine MetFree.of_bodySF (code := cc) (maxLocals := maxL) (ret := ret) hy ?_ ?_
  · intro args s m h hn
    obtain ⟨meth, c, h1, h2, h3, h4, h5, h6, -, -⟩ := Cond.code_spec hn (atoms_spec (ws := ws) h _ (by rw [hw]; exact List.mem_cons_self))
    exact ⟨meth, c, h1, h2, h3, h4, h5, h6⟩
  · intro p e s m args below meth c s₁ B hml hP _
    have hh0 : s₁.heap = s.heap := by rw [B.state]; rfl
    obtain ⟨t, a1, o, b1, b2, b3⟩ := body p e s m args below meth c s₁ B hml hP s₁ hh0 (Stand.of_body B)
    exact ⟨t, o, a1, b1, b2, ⟨b3.1, b3.2⟩⟩
set_option maxHeartbeats 4000000 in
set_option maxRecDepth 100000 in
theorem c_fdv (l : Launch) (x y : Int32) (hy : ¬ y = 0) : Met l yJ9_floorDiv_7cf53 [.code yJ9_floorDiv_7cf53 cJ9_floorDiv_7cf53 3 (some .int)] ({ frames := 0, cells := 0, slots := 0, locals := 0 }) (va_Pc [.int x, .int y] (fun _ => True)) (fun _ st oc t => oc = .returned (some (.int (fdv x y))) ∧ t.heap = st.heap) 0 0 (fun _ => False) := by
  refine met_ofWF (cc := cJ9_floorDiv_7cf53) (maxL := 3) (ret := (some .int)) (by decide +kernel) rfl ?_
  intro p e s m args below meth c s₁ B hml hv
  obtain ⟨rfl, -⟩ := hv
  have hx := B.exec
  have hb := B.bytes
  have hr := B.returns
  have hlocks := B.notSynchronized
  have hl := lv_entry ([.int x, .int y]) (n := 3) (Nat.le_of_ble_eq_true rfl)
  rw [lg_entry_eq]
  generalize (lg_sl ([.int x, .int y]) ++ List.replicate (3 - (lg_sl ([.int x, .int y])).length) Slot.unset).toArray = ls at hl ⊢
  have hl : lv_has ls 3 [(0, .int x), (1, .int y)] := hl
  refine lv_iload_n hx hb (show decode cJ9_floorDiv_7cf53 0 = .ok (.iload_n 0, 1) by decide +kernel) rfl (lv_at hl 0 rfl) ?_
  refine lv_iload_n hx hb (show decode cJ9_floorDiv_7cf53 1 = .ok (.iload_n 1, 1) by decide +kernel) rfl (lv_at hl 1 rfl) ?_
  refine lv_idiv hx hb (show decode cJ9_floorDiv_7cf53 2 = .ok (.idiv, 1) by decide +kernel) hy ?_
  refine lv_istore_n hx hb (show decode cJ9_floorDiv_7cf53 3 = .ok (.istore_n 2, 1) by decide +kernel) rfl hl (by decide) rfl (fun ls hl => ?_)
  have hl : lv_has ls 3 [(2, .int (x / y)), (0, .int x), (1, .int y)] := hl
  refine lv_iload_n hx hb (show decode cJ9_floorDiv_7cf53 4 = .ok (.iload_n 0, 1) by decide +kernel) rfl (lv_at hl 1 rfl) ?_
  refine lv_iload_n hx hb (show decode cJ9_floorDiv_7cf53 5 = .ok (.iload_n 1, 1) by decide +kernel) rfl (lv_at hl 2 rfl) ?_
  refine lv_ixor hx hb (show decode cJ9_floorDiv_7cf53 6 = .ok (.ixor, 1) by decide +kernel) ?_
  have fin : fdv x y = x / y → W p l e ({ frames := 0, cells := 0, slots := 0, locals := 0 }) s m #[.int x, .int y] below meth c s.heap [] 0 0 (MQ below (fun _ st oc t => oc = .returned (some (.int (fdv x y))) ∧ t.heap = st.heap) #[.int x, .int y] s 0 0 (fun _ => False)) (F0 m 21 ls []) := by
    intro e9
    refine lv_iload_n hx hb (show decode cJ9_floorDiv_7cf53 21 = .ok (.iload_n 2, 1) by decide +kernel) rfl (lv_at hl 0 rfl) ?_
    exact W.iret hx hb hr (fun t ht _ => ⟨by rw [e9], ht⟩) (fun q hq => by cases hq) (show decode cJ9_floorDiv_7cf53 22 = .ok (.ireturn, 1) by decide +kernel)
  refine lv_if_ge hx hb (show decode cJ9_floorDiv_7cf53 7 = .ok (.ifCond .ge 14, 3) by decide +kernel) (tgt := 21) rfl (fun h1 => fin (by unfold fdv; rw [if_neg (Int32.not_lt.mpr h1)])) (fun h1 => ?_)
  have h1 : (x ^^^ y) < 0 := Int32.not_le.mp h1
  refine lv_iload_n hx hb (show decode cJ9_floorDiv_7cf53 10 = .ok (.iload_n 2, 1) by decide +kernel) rfl (lv_at hl 0 rfl) ?_
  refine lv_iload_n hx hb (show decode cJ9_floorDiv_7cf53 11 = .ok (.iload_n 1, 1) by decide +kernel) rfl (lv_at hl 2 rfl) ?_
  refine lv_imul hx hb (show decode cJ9_floorDiv_7cf53 12 = .ok (.imul, 1) by decide +kernel) ?_
  refine lv_iload_n hx hb (show decode cJ9_floorDiv_7cf53 13 = .ok (.iload_n 0, 1) by decide +kernel) rfl (lv_at hl 1 rfl) ?_
  refine lv_icmp_eq hx hb (show decode cJ9_floorDiv_7cf53 14 = .ok (.if_icmp .eq 7, 3) by decide +kernel) (tgt := 21) rfl (fun h2 => fin (by unfold fdv; rw [if_pos h1, if_pos h2])) (fun h2 => ?_)
  refine lv_iload_n hx hb (show decode cJ9_floorDiv_7cf53 17 = .ok (.iload_n 2, 1) by decide +kernel) rfl (lv_at hl 0 rfl) ?_
  refine lv_iconst hx hb (show decode cJ9_floorDiv_7cf53 18 = .ok (.iconst 1, 1) by decide +kernel) (v := 1) rfl ?_
  refine lv_isub hx hb (show decode cJ9_floorDiv_7cf53 19 = .ok (.isub, 1) by decide +kernel) ?_
  exact W.iret hx hb hr (fun t ht _ => ⟨by unfold fdv; rw [if_pos h1, if_neg h2], ht⟩) (fun q hq => by cases hq) (show decode cJ9_floorDiv_7cf53 20 = .ok (.ireturn, 1) by decide +kernel)
set_option maxHeartbeats 4000000 in
set_option maxRecDepth 100000 in
theorem c_pcix (l : Launch) (x y : Int32) (v : Value) (hv1 : v.category = 1) (h0 : 0 ≤ x) (h1 : x < y) : Met l yJ3_checkIndex_8e157 [.code yJ3_checkIndex_8e157 cJ3_checkIndex_8e157 3 (some .int)] ({ frames := 0, cells := 0, slots := 0, locals := 0 }) (va_Pc [.int x, .int y, v] (fun _ => True)) (fun _ st oc t => oc = .returned (some (.int x)) ∧ t.heap = st.heap) 0 0 (fun _ => False) := by
  refine Met.ofW (cc := cJ3_checkIndex_8e157) (maxL := 3) (ret := (some .int)) (by decide) rfl ?_
  intro p e s m args below meth c s₁ B hml hv
  obtain ⟨rfl, -⟩ := hv
  have hx := B.exec
  have hb := B.bytes
  have hr := B.returns
  have hlocks := B.notSynchronized
  have hs3 : (lg_sl ([.int x, .int y, v])).length ≤ 3 := by
    have h9 := sl_len (fun x => x) [.int x, .int y, v]
    have h8 : [Value.int x, .int y, v].map (rv (fun x => x)) = [.int x, .int y, v] := by cases v <;> rfl
    rw [h8] at h9
    rw [h9]
    show (1 + (1 + (v.category + 0)) : Nat) ≤ 3
    rw [hv1]
    decide
  have hl := lv_entry ([.int x, .int y, v]) (n := 3) hs3
  rw [lg_entry_eq]
  generalize (lg_sl ([.int x, .int y, v]) ++ List.replicate (3 - (lg_sl ([.int x, .int y, v])).length) Slot.unset).toArray = ls at hl ⊢
  have hl : lv_has ls 3 [(0, .int x), (1, .int y), (2, v)] := hl
  refine lv_iload_n hx hb (show decode cJ3_checkIndex_8e157 0 = .ok (.iload_n 0, 1) by decide +kernel) rfl (lv_at hl 0 rfl) ?_
  refine lv_if_lt hx hb (show decode cJ3_checkIndex_8e157 1 = .ok (.ifCond .lt 8, 3) by decide +kernel) (tgt := 9) rfl (fun h2 => absurd h0 (Int32.not_le.mpr h2)) (fun _ => ?_)
  refine lv_iload_n hx hb (show decode cJ3_checkIndex_8e157 4 = .ok (.iload_n 0, 1) by decide +kernel) rfl (lv_at hl 0 rfl) ?_
  refine lv_iload_n hx hb (show decode cJ3_checkIndex_8e157 5 = .ok (.iload_n 1, 1) by decide +kernel) rfl (lv_at hl 1 rfl) ?_
  refine lv_icmp_lt hx hb (show decode cJ3_checkIndex_8e157 6 = .ok (.if_icmp .lt 10, 3) by decide +kernel) (tgt := 16) rfl (fun _ => ?_) (fun h2 => absurd h1 h2)
  refine lv_iload_n hx hb (show decode cJ3_checkIndex_8e157 16 = .ok (.iload_n 0, 1) by decide +kernel) rfl (lv_at hl 0 rfl) ?_
  exact W.iret hx hb hr (fun t ht _ => ⟨rfl, ht⟩) (fun q hq => by cases hq) (show decode cJ3_checkIndex_8e157 17 = .ok (.ireturn, 1) by decide +kernel)
set_option maxHeartbeats 4000000 in
set_option maxRecDepth 100000 in
theorem c_cix (l : Launch) (A : Nat → Prop) (x y : Int32) (h0 : 0 ≤ x) (h1 : x < y) : Met l yJ0_checkIndex_df160 wcix ({ frames := 1, cells := 0, slots := 0, locals := 22 }) (va_Pc [.int x, .int y] (fun U => va_Zq "jdk/internal/util/Preconditions" "SIOOBE_FORMATTER" "Ljava/util/function/BiFunction;" A U U.heap)) (fun _ st oc t => oc = .returned none ∧ t.heap = st.heap) 0 0 (fun _ => False) := by
  refine Met.ofW (cc := cJ0_checkIndex_df160) (maxL := 2) (ret := none) (by decide) rfl ?_
  intro p e s m args below meth c s₁ B hml hv
  obtain ⟨rfl, hZ⟩ := hv
  have hx := B.exec
  have hb := B.bytes
  have hr := B.returns
  have hts := atoms_spec (ws := wcix) B.pre
  have hown : s.vm.findClass RJ0 = some m.cls := findClass_of_methodNamed B.named
  have hlocks := B.notSynchronized
  have hl := lv_entry ([.int x, .int y]) (n := 2) (Nat.le_of_ble_eq_true rfl)
  rw [lg_entry_eq]
  generalize (lg_sl ([.int x, .int y]) ++ List.replicate (2 - (lg_sl ([.int x, .int y])).length) Slot.unset).toArray = ls at hl ⊢
  have hl : lv_has ls 2 [(0, .int x), (1, .int y)] := hl
  refine lv_iload_n hx hb (show decode cJ0_checkIndex_df160 0 = .ok (.iload_n 0, 1) by decide +kernel) rfl (lv_at hl 0 rfl) ?_
  refine lv_iload_n hx hb (show decode cJ0_checkIndex_df160 1 = .ok (.iload_n 1, 1) by decide +kernel) rfl (lv_at hl 1 rfl) ?_
  have go : ∀ v : Value, v.category = 1 → va_Z "jdk/internal/util/Preconditions" "SIOOBE_FORMATTER" "Ljava/util/function/BiFunction;" v A s s.heap → W p l e ({ frames := 1, cells := 0, slots := 0, locals := 22 }) s m #[.int x, .int y] below meth c s.heap [] 0 0 (MQ below (fun _ st oc t => oc = .returned none ∧ t.heap = st.heap) #[.int x, .int y] s 0 0 (fun _ => False)) (F0 m 2 ls [.int y, .int x]) := by
    intro v hv1 hZ
    refine va_gets hx hb hZ (va_S.rf) hown (hts _ (by simp [wcix])) (fun x h => h) (show decode cJ0_checkIndex_df160 2 = .ok (.getstatic 1053, 3) by decide +kernel) ?_
    refine pure_go (a := #[.int x, .int y, v]) (v9 := some (.int x)) (rest := []) (va_runS (nL := 2) (Ts := wcix) (own := RJ0) (n := 3) (As := [.int x, .int y, v]) ⟨hx, hb, hml, hown, hts⟩ (c_pcix l x y v hv1 h0 h1) ⟨⟨rfl, rfl, by show (1 : Nat) ≤ 1; omega, by show (8 + (3 + 11) + 0 : Nat) ≤ 22; omega, fun w hw a' U hW => ?_, List.mem_cons_self, hts _ (by simp [wcix]), hts _ (by simp [wcix]; rfl), by decide, fun sig h => ?_, hts _ (by simp [wcix])⟩, hts _ (by simp [wcix])⟩ ⟨fun a U g mk h => h, fun U hU hW => ⟨rfl, trivial⟩⟩ rfl rfl hl.1 rfl (lv_room (by decide)) (show decode cJ0_checkIndex_df160 5 = .ok (.invokestatic 1059, 3) by decide +kernel) ⟨Nat.le_refl _, Nat.le_refl _⟩) ?_
    · have : w = .code yJ3_checkIndex_8e157 cJ3_checkIndex_8e157 3 (some .int) := by simpa using hw
      subst this
      exact word_at hW (Or.inl (by first | rfl | simp [Cond.onTables, Cond.keeps, Cond.steady])) (hts _ (by simp [wcix]))
    · have h2 : (parseMethodDescriptor yJ3_checkIndex_8e157.desc).map (fun d => d.parameters.length) = some 3 := by decide +kernel
      rw [h] at h2
      exact (Option.some.inj h2).symm
    show W p l e _ s m #[.int x, .int y] below meth c s.heap [] 0 0 _ (F0 m 8 ls [.int x])
    refine lv_pop hx hb (show decode cJ0_checkIndex_df160 8 = .ok (.pop, 1) by decide +kernel) rfl ?_
    exact W.vret hx hb hr (fun t ht _ => ⟨rfl, ht⟩) (fun q hq => by cases hq) (show decode cJ0_checkIndex_df160 9 = .ok (.return_, 1) by decide +kernel)
  rcases hZ with h | ⟨t, h⟩
  · exact go _ rfl h
  · exact go _ rfl h
section STEP
variable {X9 : Nat × Nat} {p : Program} {l : Launch} {e : Env} {R : Room} {s : State} {m : MethodId} {args : Array Value} {below : List Frame} {meth : Method} {c : Code} {D : va_G} {cA : Nat → ClassId} {A : Nat → Prop} {sp : Nat → Nat} {L : Nat} {xs : Nat → Int32} {ad0 : Nat → Nat} {n0 : Nat} {μ : Nat} {Q : State → Prop} {f g : Cf → Option Ou} {c0 : Cf} {o : Ou}
variable {pc : Nat} {ls st : List Value} {n : Nat} {S : Nat → Nat × Nat} {Rf : Nat → Nat → Option Nat} {I : Nat → Nat → Int32} {J : Nat → Nat → Int64} {Df : Nat → Nat → UInt64} {ad : Nat → Nat} {LS : Array Slot} {H : Heap} {locs : List Loc} {cells slots : Nat}
variable {fm tm : List Bool} {a b cc : Nat} {k : Int32}
theorem s_xmin {x : Nat} (C : Cx p l R s m args meth c D cA A sp L xs μ) (K : Nx X9 p l e R s m args below meth c D cA A sp L xs ad0 n0 μ Q g o) (hk : (a3 pX (ow μ) x 1005 && ((Nat.ble 1 (fr μ) && Nat.ble 22 (lc μ)) && cle (cst μ (pc + 3)) (cst μ pc))) = true) (w : Wd D cA A sp L xs s ad0 n0 (hdl μ = []) ad (n, S, Rf, I, J, Df) H locs) (fr : Fm ad μ LS ls st n) (hb : Bu X9 R μ pc (n, S, Rf, I, J, Df) cells slots) (hd : decode (byt μ) pc = .ok (.invokestatic x, 3)) (h : acK f g c0 (stA μ pc ls st n S Rf I J Df (.invokestatic x) 3 fm tm 1005 b cc k) = some o) : W p l e R s m args below meth c H locs cells slots Q (F0 m pc LS (st.map (rv ad))) := by
  obtain ⟨x1, y1, r, rfl, h⟩ := ak_i2 h
  obtain ⟨hg, h⟩ := ak_gd h
  have hg := Nat.ble_eq.mp hg
  obtain ⟨hL, hl, hs⟩ := fr
  simp only [Bool.and_eq_true, Nat.ble_eq] at hk
  obtain ⟨k1, k2, k3⟩ := hk
  obtain ⟨e9, he9, q1, q2, q3⟩ := a3_in k1
  have hw9 := inWb_mem (List.all_eq_true.mp okX e9 he9)
  unfold wX at hw9
  rw [q1, q2, q3] at hw9
  have hfr : fr μ ≤ R.frames := C.2.2.2.2.2.2.2.2.2.1
  have hlc : lc μ ≤ R.locals := C.2.2.2.2.2.2.2.2.2.2.1
  have hls : c.maxLocals = LS.size := by rw [C.ml]; exact hL.1.symm
  have hm := okMx
  simp only [Bool.and_eq_true] at hm
  obtain ⟨m1, m2, m3, m4⟩ := hm
  have hxs := okXs
  have hcat := csm_rv ad r
  simp only [List.all_cons, Bool.and_eq_true] at hs
  have hst := List.all_eq_true.mp okXs (1005, 594, 595) (by decide)
  simp only [Bool.and_eq_true] at hst
  exact va_mmin C.ex C.by hls C.own (C.wd hw9) (C.wd (inWb_mem hst.1)) (C.wd (inWb_mem hst.2)) (C.wd (inWb_mem m2)) (by omega) (by rw [hcat]; omega) (Nat.le_trans (Nat.le_add_right _ _) hb.1) (Nat.le_trans (Nat.le_add_right _ _) hb.2) hd (K1 (st' := .int (if y1 < x1 then y1 else x1) :: r) K h w hL hl (by simp only [List.all_cons, Bool.and_eq_true]; exact ⟨rfl, hs.2.2⟩) (hb.go k3))
theorem s_xmax {x : Nat} (C : Cx p l R s m args meth c D cA A sp L xs μ) (K : Nx X9 p l e R s m args below meth c D cA A sp L xs ad0 n0 μ Q g o) (hk : (a3 pX (ow μ) x 1006 && ((Nat.ble 1 (fr μ) && Nat.ble 22 (lc μ)) && cle (cst μ (pc + 3)) (cst μ pc))) = true) (w : Wd D cA A sp L xs s ad0 n0 (hdl μ = []) ad (n, S, Rf, I, J, Df) H locs) (fr : Fm ad μ LS ls st n) (hb : Bu X9 R μ pc (n, S, Rf, I, J, Df) cells slots) (hd : decode (byt μ) pc = .ok (.invokestatic x, 3)) (h : acK f g c0 (stA μ pc ls st n S Rf I J Df (.invokestatic x) 3 fm tm 1006 b cc k) = some o) : W p l e R s m args below meth c H locs cells slots Q (F0 m pc LS (st.map (rv ad))) := by
  obtain ⟨x1, y1, r, rfl, h⟩ := ak_i2 h
  obtain ⟨hg, h⟩ := ak_gd h
  have hg := Nat.ble_eq.mp hg
  obtain ⟨hL, hl, hs⟩ := fr
  simp only [Bool.and_eq_true, Nat.ble_eq] at hk
  obtain ⟨k1, k2, k3⟩ := hk
  obtain ⟨e9, he9, q1, q2, q3⟩ := a3_in k1
  have hw9 := inWb_mem (List.all_eq_true.mp okX e9 he9)
  unfold wX at hw9
  rw [q1, q2, q3] at hw9
  have hfr : fr μ ≤ R.frames := C.2.2.2.2.2.2.2.2.2.1
  have hlc : lc μ ≤ R.locals := C.2.2.2.2.2.2.2.2.2.2.1
  have hls : c.maxLocals = LS.size := by rw [C.ml]; exact hL.1.symm
  have hm := okMx
  simp only [Bool.and_eq_true] at hm
  obtain ⟨m1, m2, m3, m4⟩ := hm
  have hxs := okXs
  have hcat := csm_rv ad r
  simp only [List.all_cons, Bool.and_eq_true] at hs
  have hst := List.all_eq_true.mp okXs (1006, 853, 854) (by decide)
  simp only [Bool.and_eq_true] at hst
  exact va_mmax C.ex C.by hls C.own (C.wd hw9) (C.wd (inWb_mem hst.1)) (C.wd (inWb_mem hst.2)) (C.wd (inWb_mem m1)) (by omega) (by rw [hcat]; omega) (Nat.le_trans (Nat.le_add_right _ _) hb.1) (Nat.le_trans (Nat.le_add_right _ _) hb.2) hd (K1 (st' := .int (if x1 < y1 then y1 else x1) :: r) K h w hL hl (by simp only [List.all_cons, Bool.and_eq_true]; exact ⟨rfl, hs.2.2⟩) (hb.go k3))
theorem s_xabs {x : Nat} (C : Cx p l R s m args meth c D cA A sp L xs μ) (K : Nx X9 p l e R s m args below meth c D cA A sp L xs ad0 n0 μ Q g o) (hk : (a3 pX (ow μ) x 1007 && ((Nat.ble 1 (fr μ) && Nat.ble 22 (lc μ)) && cle (cst μ (pc + 3)) (cst μ pc))) = true) (w : Wd D cA A sp L xs s ad0 n0 (hdl μ = []) ad (n, S, Rf, I, J, Df) H locs) (fr : Fm ad μ LS ls st n) (hb : Bu X9 R μ pc (n, S, Rf, I, J, Df) cells slots) (hd : decode (byt μ) pc = .ok (.invokestatic x, 3)) (h : acK f g c0 (stA μ pc ls st n S Rf I J Df (.invokestatic x) 3 fm tm 1007 b cc k) = some o) : W p l e R s m args below meth c H locs cells slots Q (F0 m pc LS (st.map (rv ad))) := by
  obtain ⟨x1, r, rfl, h⟩ := ak_i1 h
  obtain ⟨hg, h⟩ := ak_gd h
  have hg := Nat.ble_eq.mp hg
  obtain ⟨hL, hl, hs⟩ := fr
  simp only [Bool.and_eq_true, Nat.ble_eq] at hk
  obtain ⟨k1, k2, k3⟩ := hk
  obtain ⟨e9, he9, q1, q2, q3⟩ := a3_in k1
  have hw9 := inWb_mem (List.all_eq_true.mp okX e9 he9)
  unfold wX at hw9
  rw [q1, q2, q3] at hw9
  have hfr : fr μ ≤ R.frames := C.2.2.2.2.2.2.2.2.2.1
  have hlc : lc μ ≤ R.locals := C.2.2.2.2.2.2.2.2.2.2.1
  have hls : c.maxLocals = LS.size := by rw [C.ml]; exact hL.1.symm
  have hm := okMx
  simp only [Bool.and_eq_true] at hm
  obtain ⟨m1, m2, m3, m4⟩ := hm
  have hxs := okXs
  have hcat := csm_rv ad r
  simp only [List.all_cons, Bool.and_eq_true] at hs
  have hst := List.all_eq_true.mp okXs (1007, 944, 945) (by decide)
  simp only [Bool.and_eq_true] at hst
  exact va_mabs C.ex C.by hls C.own (C.wd hw9) (C.wd (inWb_mem hst.1)) (C.wd (inWb_mem hst.2)) (C.wd (inWb_mem m3)) (by omega) (by rw [hcat]; omega) (Nat.le_trans (Nat.le_add_right _ _) hb.1) (Nat.le_trans (Nat.le_add_right _ _) hb.2) hd (K1 (st' := .int (if 0 ≤ x1 then x1 else 0 - x1) :: r) K h w hL hl (by simp only [List.all_cons, Bool.and_eq_true]; exact ⟨rfl, hs.2⟩) (hb.go k3))
theorem s_xfdv {x : Nat} (C : Cx p l R s m args meth c D cA A sp L xs μ) (K : Nx X9 p l e R s m args below meth c D cA A sp L xs ad0 n0 μ Q g o) (hk : (a3 pX (ow μ) x 1008 && ((Nat.ble 1 (fr μ) && Nat.ble 22 (lc μ)) && cle (cst μ (pc + 3)) (cst μ pc))) = true) (w : Wd D cA A sp L xs s ad0 n0 (hdl μ = []) ad (n, S, Rf, I, J, Df) H locs) (fr : Fm ad μ LS ls st n) (hb : Bu X9 R μ pc (n, S, Rf, I, J, Df) cells slots) (hd : decode (byt μ) pc = .ok (.invokestatic x, 3)) (h : acK f g c0 (stA μ pc ls st n S Rf I J Df (.invokestatic x) 3 fm tm 1008 b cc k) = some o) : W p l e R s m args below meth c H locs cells slots Q (F0 m pc LS (st.map (rv ad))) := by
  obtain ⟨x1, y1, r, rfl, h⟩ := ak_i2 h
  obtain ⟨hg, h⟩ := ak_gd h
  simp only [Bool.and_eq_true, Nat.ble_eq, decide_eq_true_eq] at hg
  obtain ⟨hL, hl, hs⟩ := fr
  simp only [Bool.and_eq_true, Nat.ble_eq] at hk
  obtain ⟨k1, k2, k3⟩ := hk
  obtain ⟨e9, he9, q1, q2, q3⟩ := a3_in k1
  have hw9 := inWb_mem (List.all_eq_true.mp okX e9 he9)
  unfold wX at hw9
  rw [q1, q2, q3] at hw9
  have hfr : fr μ ≤ R.frames := C.2.2.2.2.2.2.2.2.2.1
  have hlc : lc μ ≤ R.locals := C.2.2.2.2.2.2.2.2.2.2.1
  have hls : c.maxLocals = LS.size := by rw [C.ml]; exact hL.1.symm
  have hm := okMx
  simp only [Bool.and_eq_true] at hm
  obtain ⟨m1, m2, m3, m4⟩ := hm
  have hxs := okXs
  have hcat := csm_rv ad r
  simp only [List.all_cons, Bool.and_eq_true] at hs
  have hst := List.all_eq_true.mp okXs (1008, 1096, 1097) (by decide)
  simp only [Bool.and_eq_true] at hst
  have hpy : ∀ w ∈ [Cond.code yJ9_floorDiv_7cf53 cJ9_floorDiv_7cf53 3 (some .int)], w ∈ WALL := fun w hw => by rw [List.mem_singleton.mp hw]; exact inWb_mem m4
  refine pure_go (a := #[.int x1, .int y1]) (v9 := some (.int (fdv x1 y1))) (rest := r.map (rv ad)) (va_runS (nL := mxl μ) (Ts := WALL) (own := onm (ow μ)) (n := 2) (As := [.int x1, .int y1]) ⟨C.ex, C.by, C.ml, C.own, C.2.2.2.2.2.1⟩ (c_fdv l x1 y1 hg.2) ⟨⟨rfl, rfl, by show 0 + 1 ≤ R.frames; omega, by show (8 + (3 + 11) + 0 : Nat) ≤ R.locals; omega, wall_pay C.2.2.2.2.2.1 hpy, List.mem_cons_self, C.wd (inWb_mem m4), C.wd (inWb_mem hst.2), by decide, fun sig h => ?_, C.wd hw9⟩, C.wd (inWb_mem hst.1)⟩ ⟨fun a U g mk h => h, fun U hU hW => ⟨rfl, trivial⟩⟩ rfl rfl hL.1 rfl (lv_room (by rw [hcat]; exact hg.1)) hd ⟨Nat.le_trans (Nat.le_add_right _ _) hb.1, Nat.le_trans (Nat.le_add_right _ _) hb.2⟩) ?_
  · have h2 : (parseMethodDescriptor yJ9_floorDiv_7cf53.desc).map (fun d => d.parameters.length) = some 2 := by decide +kernel
    rw [h] at h2
    exact (Option.some.inj h2).symm
  exact K1 (st' := .int (fdv x1 y1) :: r) K h w hL hl (by simp only [List.all_cons, Bool.and_eq_true]; exact ⟨rfl, hs.2.2⟩) (hb.go k3)
theorem s_xcix {x : Nat} (C : Cx p l R s m args meth c D cA A sp L xs μ) (K : Nx X9 p l e R s m args below meth c D cA A sp L xs ad0 n0 μ Q g o) (hk : (a3 pX (ow μ) x 1004 && ((Nat.ble 3 (fr μ) && Nat.ble 60 (lc μ)) && cle (cst μ (pc + 3)) (cst μ pc))) = true) (w : Wd D cA A sp L xs s ad0 n0 (hdl μ = []) ad (n, S, Rf, I, J, Df) H locs) (fr : Fm ad μ LS ls st n) (hb : Bu X9 R μ pc (n, S, Rf, I, J, Df) cells slots) (hd : decode (byt μ) pc = .ok (.invokestatic x, 3)) (h : acK f g c0 (stA μ pc ls st n S Rf I J Df (.invokestatic x) 3 fm tm 1004 b cc k) = some o) : W p l e R s m args below meth c H locs cells slots Q (F0 m pc LS (st.map (rv ad))) := by
  obtain ⟨x1, y1, r, rfl, h⟩ := ak_i2 h
  obtain ⟨hg, h⟩ := ak_gd h
  simp only [Bool.and_eq_true, Nat.ble_eq, decide_eq_true_eq] at hg
  obtain ⟨hL, hl, hs⟩ := fr
  simp only [Bool.and_eq_true, Nat.ble_eq] at hk
  obtain ⟨k1, k2, k3⟩ := hk
  obtain ⟨e9, he9, q1, q2, q3⟩ := a3_in k1
  have hw9 := inWb_mem (List.all_eq_true.mp okX e9 he9)
  unfold wX at hw9
  rw [q1, q2, q3] at hw9
  have hfr : fr μ ≤ R.frames := C.2.2.2.2.2.2.2.2.2.1
  have hlc : lc μ ≤ R.locals := C.2.2.2.2.2.2.2.2.2.2.1
  have hls : c.maxLocals = LS.size := by rw [C.ml]; exact hL.1.symm
  have hcat := csm_rv ad r
  have hm := okCx
  simp only [Bool.and_eq_true] at hm
  obtain ⟨m1, -, -, -, -, -, m7, m8⟩ := hm
  simp only [List.all_cons, Bool.and_eq_true] at hs
  refine pure_go (a := #[.int x1, .int y1]) (v9 := none) (rest := r.map (rv ad)) (va_runS (nL := mxl μ) (Ts := WALL) (own := onm (ow μ)) (n := 2) (As := [.int x1, .int y1]) ⟨C.ex, C.by, C.ml, C.own, C.2.2.2.2.2.1⟩ (c_cix l A x1 y1 hg.2.1 hg.2.2) ⟨⟨rfl, rfl, by show 1 + 1 ≤ R.frames; omega, by show (8 + (2 + 11) + 22 : Nat) ≤ R.locals; omega, wall_pay C.2.2.2.2.2.1 wcix_in, List.mem_cons_self, C.wd (inWb_mem m1), C.wd (inWb_mem m8), by decide, fun sig h => ?_, C.wd hw9⟩, C.wd (inWb_mem m7)⟩ ⟨fun a U g mk h => ⟨h.1, va_Zq.kept (va_Zq.moved (Vm.Alike.refl _) h.2) (fun _ _ _ => rfl)⟩, fun U hU hW => ⟨rfl, (C.gs.go hW (by rw [hU]; exact w.2.2.1.1) (by rw [hU]; exact w.2.2.1.2.1)).2.2.2.2.2.2.2.2.2.1⟩⟩ rfl rfl hL.1 rfl (lv_room (by rw [hcat]; exact hg.1)) hd ⟨Nat.le_trans (Nat.le_add_right _ _) hb.1, Nat.le_trans (Nat.le_add_right _ _) hb.2⟩) ?_
  · have h2 : (parseMethodDescriptor yJ0_checkIndex_df160.desc).map (fun d => d.parameters.length) = some 2 := by decide +kernel
    rw [h] at h2
    exact (Option.some.inj h2).symm
  exact K1 (st' := r) K h w hL hl hs.2.2 (hb.go k3)
theorem s_xcpy {x : Nat} (C : Cx p l R s m args meth c D cA A sp L xs μ) (K : Nx X9 p l e R s m args below meth c D cA A sp L xs ad0 n0 μ Q g o) (hk : (a3 pX (ow μ) x 1000 && ((Nat.ble 1 (fr μ) && Nat.ble 26 (lc μ)) && cle (cst μ (pc + 3)) (cst μ pc))) = true) (w : Wd D cA A sp L xs s ad0 n0 (hdl μ = []) ad (n, S, Rf, I, J, Df) H locs) (fr : Fm ad μ LS ls st n) (hb : Bu X9 R μ pc (n, S, Rf, I, J, Df) cells slots) (hd : decode (byt μ) pc = .ok (.invokestatic x, 3)) (h : acK f g c0 (stA μ pc ls st n S Rf I J Df (.invokestatic x) 3 fm tm 1000 b cc k) = some o) : W p l e R s m args below meth c H locs cells slots Q (F0 m pc LS (st.map (rv ad))) := by
  have h : acK f g c0 (match (generalizing := false) st with
        | .int z :: .int dp :: .ref q :: .int sp :: .ref p :: r => bif Nat.beq (S p).1 20 && Nat.beq (S q).1 20 then
            gd ((decide (¬ sp < 0) && (decide (¬ dp < 0) && decide (¬ z < 0))) && ((Nat.ble (sp.toNatClampNeg + z.toNatClampNeg) (S p).2 && Nat.ble (dp.toNatClampNeg + z.toNatClampNeg) (S q).2) && ((Nat.blt p n && Nat.blt q n) && Nat.ble (csm r) 8))) μ (pc + 3) (mk fm ls) r (n, S, Rf, upR I q (va_cpy (I p) (I q) sp.toNatClampNeg dp.toNatClampNeg z.toNatClampNeg), J, Df) else hl
        | _ => hl) = some o := h
  obtain ⟨z, dp, q, sp1, p1, r, rfl⟩ : ∃ z dp q sp1 p1 r, st = .int z :: .int dp :: .ref q :: .int sp1 :: .ref p1 :: r := by
    split at h
    · exact ⟨_, _, _, _, _, _, rfl⟩
    · exact (ak_hl h).elim
  dsimp only at h
  obtain ⟨h1, h⟩ := ak_ifh h
  obtain ⟨hg, h⟩ := ak_gd h
  simp only [Bool.and_eq_true, Nat.ble_eq, Nat.blt_eq, decide_eq_true_eq] at hg h1
  obtain ⟨⟨g1, g2, g3⟩, ⟨g4, g5⟩, ⟨g6, g7⟩, g8⟩ := hg
  obtain ⟨hL, hl, hs⟩ := fr
  simp only [Bool.and_eq_true, Nat.ble_eq] at hk
  obtain ⟨k1, k2, k3⟩ := hk
  obtain ⟨e9, he9, q1, q2, q3⟩ := a3_in k1
  have hw9 := inWb_mem (List.all_eq_true.mp okX e9 he9)
  unfold wX at hw9
  rw [q1, q2, q3] at hw9
  have hfr : fr μ ≤ R.frames := C.2.2.2.2.2.2.2.2.2.1
  have hlc : lc μ ≤ R.locals := C.2.2.2.2.2.2.2.2.2.2.1
  have hls : c.maxLocals = LS.size := by rw [C.ml]; exact hL.1.symm
  have hcat := csm_rv ad r
  simp only [List.all_cons, Bool.and_eq_true] at hs
  have hxa := okXa
  simp only [Bool.and_eq_true] at hxa
  have hep : (wsl cA ad (n, S, Rf, I, J, Df))[p1]? = some (ad p1, _) := (wsl_at (M := (n, S, Rf, I, J, Df)) g6).trans (by rw [cel_i (c := 20) (beq_e h1.1) (by omega)])
  have heq : (wsl cA ad (n, S, Rf, I, J, Df))[q]? = some (ad q, _) := (wsl_at (M := (n, S, Rf, I, J, Df)) g7).trans (by rw [cel_i (c := 20) (beq_e h1.2) (by omega)])
  have hnw : nativeFrameWords "java/lang/System" "arraycopy" 5 + 11 ≤ 18 := by decide +kernel
  exact va_copyi C.ex C.by hls C.own (C.wd hw9) (C.wd (inWb_mem hxa.2.1)) (C.wd (inWb_mem hxa.1)) (C.wd (inWb_mem hxa.2.2)) C.kk w.1 w.2.1 w.2.2.1 p1 q 0 0 hep heq rfl rfl rfl g1 g2 g3 g4 g5 (fun i hi => rfl) (by omega) (by rw [hcat]; omega) hd (fun H1 locs1 hP hD hS => K1 (st' := r) K h (Wd.sI w g7 (by rw [cel_i (c := 20) (beq_e h1.2) (by omega), upR_s]) hP hD hS) hL hl hs.2.2.2.2.2 ((hb.go k3).mv (upr_crd (by have := w.le; omega))))
theorem okOi : (decide (Cond.instanceMethod objectInit ∈ lw_tbl) && (goodWord (Cond.instanceMethod objectInit) && (decide (Cond.code objectInit ⟨#[0xb1]⟩ 1 none ∈ lw_tbl) && goodWord (Cond.code objectInit ⟨#[0xb1]⟩ 1 none)))) = true := by decide +kernel
theorem s_xobj {x : Nat} (C : Cx p l R s m args meth c D cA A sp L xs μ) (K : Nx X9 p l e R s m args below meth c D cA A sp L xs ad0 n0 μ Q g o) (hk : (a3 pX (ow μ) x 1003 && ((Nat.ble 1 (fr μ) && Nat.ble 20 (lc μ)) && cle (cst μ (pc + 3)) (cst μ pc))) = true) (w : Wd D cA A sp L xs s ad0 n0 (hdl μ = []) ad (n, S, Rf, I, J, Df) H locs) (fr : Fm ad μ LS ls st n) (hb : Bu X9 R μ pc (n, S, Rf, I, J, Df) cells slots) (hd : decode (byt μ) pc = .ok (.invokespecial x, 3)) (h : acK f g c0 (stA μ pc ls st n S Rf I J Df (.invokespecial x) 3 fm tm 1003 b cc k) = some o) : W p l e R s m args below meth c H locs cells slots Q (F0 m pc LS (st.map (rv ad))) := by
  obtain ⟨v, r, rfl, h⟩ := ak_f1 h
  obtain ⟨q, rfl, h⟩ := ak_fR h
  obtain ⟨hg, h⟩ := ak_gd h
  have hg := Nat.ble_eq.mp hg
  obtain ⟨hL, hl, hs⟩ := fr
  simp only [Bool.and_eq_true, Nat.ble_eq] at hk
  obtain ⟨k1, k2, k3⟩ := hk
  obtain ⟨e9, he9, q1, q2, q3⟩ := a3_in k1
  have hw9 := inWb_mem (List.all_eq_true.mp okX e9 he9)
  unfold wX at hw9
  rw [q1, q2, q3] at hw9
  have hfr : fr μ ≤ R.frames := C.2.2.2.2.2.2.2.2.2.1
  have hlc : lc μ ≤ R.locals := C.2.2.2.2.2.2.2.2.2.2.1
  have hls : c.maxLocals = LS.size := by rw [C.ml]; exact hL.1.symm
  have hcat := csm_rv ad r
  simp only [List.all_cons, Bool.and_eq_true] at hs
  have ho := okOi
  simp only [Bool.and_eq_true, decide_eq_true_eq] at ho
  exact W.objInit C.ex C.by C.own (C.wd hw9) (C.wd (List.mem_filter.mpr ⟨ho.1, ho.2.1⟩)) (C.wd (List.mem_filter.mpr ho.2.2)) rfl (by show LS.size = _; rw [C.ml]; exact hL.1) rfl hd (by omega) (by show 2 * 0 + _ + 12 ≤ R.locals; rw [hcat]; omega) (K1 (st' := r) K h w hL hl hs.2 (hb.go k3))
end STEP
