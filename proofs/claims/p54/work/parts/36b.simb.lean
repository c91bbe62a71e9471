/-! the steps that the making of texts has beside -/
section STEP
variable {X9 : Nat × Nat} {p : Program} {l : Launch} {e : Env} {R : Room} {s : State} {m : MethodId} {args : Array Value} {below : List Frame} {meth : Method} {c : Code} {D : va_G} {cA : Nat → ClassId} {A : Nat → Prop} {sp : Nat → Nat} {L : Nat} {xs : Nat → Int32} {ad0 : Nat → Nat} {n0 : Nat} {μ : Nat} {Q : State → Prop} {f g : Cf → Option Ou} {c0 : Cf} {o : Ou}
variable {pc : Nat} {ls st : List Value} {n : Nat} {S : Nat → Nat × Nat} {Rf : Nat → Nat → Option Nat} {I : Nat → Nat → Int32} {J : Nat → Nat → Int64} {Df : Nat → Nat → UInt64} {ad : Nat → Nat} {LS : Array Slot} {H : Heap} {locs : List Loc} {cells slots : Nat}
variable {fm tm : List Bool} {a b cc : Nat} {k : Int32}
theorem Cx.sbg (C : Cx p l R s m args meth c D cA A sp L xs μ) : SBG sp A s s.heap := C.gs.2.2.2.2.2.2.2.1.2.2.2.2.2.2.2.2.2
theorem b_pop  (C : Cx p l R s m args meth c D cA A sp L xs μ) (K : Nx X9 p l e R s m args below meth c D cA A sp L xs ad0 n0 μ Q g o)  (w : Wd D cA A sp L xs s ad0 n0 (hdl μ = []) ad (n, S, Rf, I, J, Df) H locs) (fr : Fm ad μ LS ls st n) (hb : Bu X9 R μ pc (n, S, Rf, I, J, Df) cells slots) (hd : decode (byt μ) pc = .ok (.pop, 1)) (hc : cle (cst μ (pc + 1)) (cst μ pc) = true) (h : acK f g c0 (stB μ pc ls st n S Rf I J Df (.pop) 1 fm tm a b cc k) = some o) : W p l e R s m args below meth c H locs cells slots Q (F0 m pc LS (st.map (rv ad))) := by
  obtain ⟨v, r, rfl, h⟩ := ak_f1 h
  obtain ⟨hv, h⟩ := ak_ifh h
  obtain ⟨hL, hl, hs⟩ := fr
  have hc1 : (rv ad v).category = 1 := by rw [rv_cat]; cases v <;> first | rfl | cases hv
  simp only [List.all_cons, Bool.and_eq_true] at hs
  exact lv_pop C.ex C.by hd hc1 (K1 (st' := r) K h w hL hl hs.2 (hb.go hc))
theorem b_null  (C : Cx p l R s m args meth c D cA A sp L xs μ) (K : Nx X9 p l e R s m args below meth c D cA A sp L xs ad0 n0 μ Q g o)  (w : Wd D cA A sp L xs s ad0 n0 (hdl μ = []) ad (n, S, Rf, I, J, Df) H locs) (fr : Fm ad μ LS ls st n) (hb : Bu X9 R μ pc (n, S, Rf, I, J, Df) cells slots) (hd : decode (byt μ) pc = .ok (.aconst_null, 1)) (hc : cle (cst μ (pc + 1)) (cst μ pc) = true) (h : acK f g c0 (stB μ pc ls st n S Rf I J Df (.aconst_null) 1 fm tm a b cc k) = some o) : W p l e R s m args below meth c H locs cells slots Q (F0 m pc LS (st.map (rv ad))) := by
  obtain ⟨hL, hl, hs⟩ := fr
  exact lv_null C.ex C.by hd (K1 (st' := .null :: st) K h w hL hl (by simp only [List.all_cons, Bool.and_eq_true]; exact ⟨rfl, hs⟩) (hb.go hc))
theorem b_ifnonnull {off : Int} (C : Cx p l R s m args meth c D cA A sp L xs μ) (K : Nx X9 p l e R s m args below meth c D cA A sp L xs ad0 n0 μ Q g o)  (w : Wd D cA A sp L xs s ad0 n0 (hdl μ = []) ad (n, S, Rf, I, J, Df) H locs) (fr : Fm ad μ LS ls st n) (hb : Bu X9 R μ pc (n, S, Rf, I, J, Df) cells slots) (hd : decode (byt μ) pc = .ok (.ifnonnull off, 3)) (ht : (pc : Int) + off = (a : Int)) (hc2 : cle (cst μ a) (cst μ pc) = true) (h : acK f g c0 (stB μ pc ls st n S Rf I J Df (.ifnonnull off) 3 fm tm a b cc k) = some o) : W p l e R s m args below meth c H locs cells slots Q (F0 m pc LS (st.map (rv ad))) := by
  obtain ⟨v, r, rfl, h⟩ := ak_f1 h
  obtain ⟨x, rfl, h⟩ := ak_fR h
  obtain ⟨hL, hl, hs⟩ := fr
  simp only [List.all_cons, Bool.and_eq_true] at hs
  exact lv_ifnonnull C.ex C.by hd ht (K1 (st' := r) K h w hL hl hs.2 (hb.go hc2))
theorem b_bastore  (C : Cx p l R s m args meth c D cA A sp L xs μ) (K : Nx X9 p l e R s m args below meth c D cA A sp L xs ad0 n0 μ Q g o)  (w : Wd D cA A sp L xs s ad0 n0 (hdl μ = []) ad (n, S, Rf, I, J, Df) H locs) (fr : Fm ad μ LS ls st n) (hb : Bu X9 R μ pc (n, S, Rf, I, J, Df) cells slots) (hd : decode (byt μ) pc = .ok (.bastore, 1)) (hc : cle (cst μ (pc + 1)) (cst μ pc) = true) (h : acK f g c0 (stB μ pc ls st n S Rf I J Df (.bastore) 1 fm tm a b cc k) = some o) : W p l e R s m args below meth c H locs cells slots Q (F0 m pc LS (st.map (rv ad))) := by
  obtain ⟨v, z, y, r, rfl, h⟩ := ak_f3 h
  obtain ⟨x, rfl, h⟩ := ak_fI h
  obtain ⟨j, rfl, h⟩ := ak_fI h
  obtain ⟨q, rfl, h⟩ := ak_fR h
  obtain ⟨hL, hl, hs⟩ := fr
  simp only [List.all_cons, Bool.and_eq_true] at hs
  obtain ⟨h1, h⟩ := ak_ifh h
  obtain ⟨hg, h⟩ := ak_gd h
  simp only [Bool.and_eq_true, Nat.blt_eq] at hg
  have he : (wsl cA ad (n, S, Rf, I, J, Df))[q]? = some (ad q, _) := (wsl_at (M := (n, S, Rf, I, J, Df)) hg.1).trans (by rw [cel_b (beq_e h1)])
  exact va_bast C.ex C.by C.kk w.1 w.2.1 w.2.2.1 q 4 he rfl (inb_in hg.2) hd (fun H1 locs1 hP hD hS => K1 (st' := r) K h (Wd.sI w hg.1 (by rw [cel_b (beq_e h1), upR_s]) hP hD hS) hL hl hs.2.2.2 ((hb.go hc).mv (ups_crd (by have := w.le; omega))))
theorem b_baload  (C : Cx p l R s m args meth c D cA A sp L xs μ) (K : Nx X9 p l e R s m args below meth c D cA A sp L xs ad0 n0 μ Q g o)  (w : Wd D cA A sp L xs s ad0 n0 (hdl μ = []) ad (n, S, Rf, I, J, Df) H locs) (fr : Fm ad μ LS ls st n) (hb : Bu X9 R μ pc (n, S, Rf, I, J, Df) cells slots) (hd : decode (byt μ) pc = .ok (.baload, 1)) (hc : cle (cst μ (pc + 1)) (cst μ pc) = true) (h : acK f g c0 (stB μ pc ls st n S Rf I J Df (.baload) 1 fm tm a b cc k) = some o) : W p l e R s m args below meth c H locs cells slots Q (F0 m pc LS (st.map (rv ad))) := by
  obtain ⟨v, z, r, rfl, h⟩ := ak_f2 h
  obtain ⟨j, rfl, h⟩ := ak_fI h
  obtain ⟨q, rfl, h⟩ := ak_fR h
  obtain ⟨hL, hl, hs⟩ := fr
  simp only [List.all_cons, Bool.and_eq_true] at hs
  obtain ⟨h1, h⟩ := ak_ifh h
  obtain ⟨hg, h⟩ := ak_gd h
  obtain ⟨hn, hS9⟩ := w.kind (p := q) (by rw [beq_e h1]; omega)
  have hq := ssp_45 (p := q) (by rw [← hS9]; exact beq_e h1)
  subst hq
  have hin := inb_in hg
  rw [hS9] at hin
  have ha : ad 1000014 = sp 1000014 := w.sp' (by omega) (by decide)
  show W p l e R s m args below meth c H locs cells slots Q (F0 m pc LS (.int j :: .ref (ad 1000014) :: r.map (rv ad)))
  rw [ha]
  exact va_tb C.ex C.by C.sbg.2.2 w.2.2.1 hin rfl hd (K1 (st' := .int (sta 1000014 j.toNatClampNeg) :: r) K h w hL hl (by simp only [List.all_cons, Bool.and_eq_true]; exact ⟨rfl, hs.2.2⟩) (hb.go hc))
theorem b_getstatic {x : Nat} (C : Cx p l R s m args meth c D cA A sp L xs μ) (K : Nx X9 p l e R s m args below meth c D cA A sp L xs ad0 n0 μ Q g o)  (w : Wd D cA A sp L xs s ad0 n0 (hdl μ = []) ad (n, S, Rf, I, J, Df) H locs) (fr : Fm ad μ LS ls st n) (hb : Bu X9 R μ pc (n, S, Rf, I, J, Df) cells slots) (hd : decode (byt μ) pc = .ok (.getstatic x, 3)) (hk : a3 pSt (ow μ) x 1000014 = true) (hb9 : b = 1000014) (hc : cle (cst μ (pc + 3)) (cst μ pc) = true) (h : acK f g c0 (stB μ pc ls st n S Rf I J Df (.getstatic x) 3 fm tm a b cc k) = some o) : W p l e R s m args below meth c H locs cells slots Q (F0 m pc LS (st.map (rv ad))) := by
  obtain ⟨hL, hl, hs⟩ := fr
  obtain ⟨e9, he9, q1, q2, q3⟩ := a3_in hk
  have hw9 := inWb_mem (List.all_eq_true.mp okSt e9 he9)
  unfold wSt at hw9
  rw [q1, q2, q3] at hw9
  subst hb9
  have h : g (μ, pc + 3, mk fm ls, .ref 1000014 :: st, (n, S, Rf, I, J, Df)) = some o := h
  have ha : ad 1000014 = sp 1000014 := w.sp' (by omega) (by decide)
  refine va_gets C.ex C.by C.sbg.2.1 w.2.2.1 C.own (C.wd hw9) (fun x h => h) hd ?_
  rw [← ha]
  exact K1 (st' := .ref 1000014 :: st) K h w hL hl (by simp only [List.all_cons, Bool.and_eq_true]; exact ⟨by simp only [vok, Bool.or_eq_true, Nat.blt_eq]; exact Or.inr (by omega), hs⟩) (hb.go hc)
theorem b_putfield {x : Nat} (C : Cx p l R s m args meth c D cA A sp L xs μ) (K : Nx X9 p l e R s m args below meth c D cA A sp L xs ad0 n0 μ Q g o)  (w : Wd D cA A sp L xs s ad0 n0 (hdl μ = []) ad (n, S, Rf, I, J, Df) H locs) (fr : Fm ad μ LS ls st n) (hb : Bu X9 R μ pc (n, S, Rf, I, J, Df) cells slots) (hd : decode (byt μ) pc = .ok (.putfield x, 3)) (hc : cle (cst μ (pc + 3)) (cst μ pc) = true) (hk : (aF (ow μ) x a b && (Nat.beq (fkd a b) cc && Nat.blt a 15)) = true) (hk2 : ((bif Nat.beq cc 1 then true else bif Nat.beq cc 0 then decide (clt a b = .int) else Nat.beq cc 3 && decide (clt a b = .byte)) && (decide (((clq a).2.1 b).2.2.2 = false) || decide (((clq a).2.1 b).2.2.2 = true ∧ (nm μ).name = "<init>" ∧ ((clq a).2.1 b).1 = (nm μ).cls))) = true) (hcl : (nm μ).cls = onm (ow μ)) (h : acK f g c0 (stB μ pc ls st n S Rf I J Df (.putfield x) 3 fm tm a b cc k) = some o) : W p l e R s m args below meth c H locs cells slots Q (F0 m pc LS (st.map (rv ad))) := by
  obtain ⟨v, z, r, rfl, h⟩ := ak_f2 h
  obtain ⟨q, rfl, h⟩ := ak_fR h
  obtain ⟨hL, hl, hs⟩ := fr
  simp only [List.all_cons, Bool.and_eq_true] at hs
  obtain ⟨h2, h⟩ := ak_ifh h
  simp only [Bool.and_eq_true, Nat.blt_eq] at hk
  obtain ⟨k1, k2, k3⟩ := hk
  obtain ⟨f1, f2⟩ := fl_in k1
  rw [Bool.and_eq_true] at hk2
  obtain ⟨ht, hk2⟩ := hk2
  simp only [Bool.or_eq_true, decide_eq_true_eq] at hk2
  rcases ak_if h with ⟨hc1, h⟩ | ⟨h1, h⟩
  · obtain ⟨x9, rfl, h⟩ := ak_fR h
    obtain ⟨hg, h⟩ := ak_gd h
    simp only [Bool.and_eq_true, Nat.blt_eq] at hg
    have he : (wsl cA ad (n, S, Rf, I, J, Df))[q]? = some (ad q, _) := (wsl_at (M := (n, S, Rf, I, J, Df)) hg.1).trans (by rw [cel_c (beq_e h2) k3])
    have hrf := isRf_ok (clt_rf k3 f1 (by rw [beq_e k2]; exact hc1)) (ad x9)
    have hcel : cel cA ad S (upR Rf q (va_up (Rf q) b (some x9))) I J Df q = .inr (a, ((List.range (nfl a)).map (fun j => fcl (fkd a j) (Rf q j) (I q j) (J q j) ad)).set b (.ref (ad x9))) := by
      rw [cel_c (beq_e h2) k3]
      congr 2
      refine (map_set ?_ fun j hj => ?_).symm
      · rw [beq_e k2, beq_e hc1, upR_s]
        unfold va_up
        rw [if_pos rfl]; rfl
      · rw [upR_s]
        unfold va_up
        rw [if_neg hj]
    rcases hk2 with j1 | ⟨j1, j2, j3⟩
    · exact va_put (ty := clt a b) C.ex C.by (fun w h => C.wd h) (u_in k3) (clt a) (clt_ok a k3) (clq_nm a k3) C.own C.kk w.1 w.2.1 w.2.2.1 q he (clsv_at a k3) b (by rw [clq_n a k3]; exact f1) (C.wd f2) (fun x h => h) j1 (clt_ok a k3 b (by rw [clq_n a k3]; exact f1)) hrf.1 hrf.2 (by simpa using f1) hd
        (fun H1 locs1 hP hD hS => K1 (st' := r) K h (Wd.sR w hg.1 (Or.inl hg.2) hcel hP hD hS) hL hl hs.2.2 ((hb.go hc).mv rfl))
    · exact va_putF (ty := clt a b) C.ex C.by (fun w h => C.wd h) (u_in k3) (clt a) (clt_ok a k3) (clq_nm a k3) C.own C.kk w.1 w.2.1 w.2.2.1 q he (clsv_at a k3) b (by rw [clq_n a k3]; exact f1) (C.wd f2) (fun x h => h) j1 (C.2.2.2.2.2.2.2.2.1 j2) (by rw [j3, hcl]) (clt_ok a k3 b (by rw [clq_n a k3]; exact f1)) hrf.1 hrf.2 (by simpa using f1) hd
        (fun H1 locs1 hP hD hS => K1 (st' := r) K h (Wd.sR w hg.1 (Or.inl hg.2) hcel hP hD hS) hL hl hs.2.2 ((hb.go hc).mv rfl))
  · obtain ⟨x9, rfl, h⟩ := ak_fI h
    obtain ⟨hg, h⟩ := ak_gd h
    simp only [Bool.and_eq_true, Nat.blt_eq, Bool.or_eq_true, decide_eq_true_eq] at hg
    rw [h1, cond_false] at ht
    have he : (wsl cA ad (n, S, Rf, I, J, Df))[q]? = some (ad q, _) := (wsl_at (M := (n, S, Rf, I, J, Df)) hg.1).trans (by rw [cel_c (beq_e h2) k3])
    have hfl : fkd a b ≠ 1 ∧ fkd a b ≠ 2 ∧ narrow (clt a b) (.int x9) = .int x9 ∧ fits (clt a b) (.int x9) = true := by
      cases h0 : Nat.beq cc 0 with
      | true =>
        rw [h0, cond_true] at ht
        have e := of_decide_eq_true ht
        rw [e, beq_e k2, beq_e h0]
        exact ⟨by decide, by decide, rfl, rfl⟩
      | false =>
        rw [h0, cond_false, Bool.and_eq_true] at ht
        have e := of_decide_eq_true ht.2
        have x0 := hg.2.resolve_left (fun z => by rw [h0] at z; cases z)
        rw [e, beq_e k2, beq_e ht.1, x0]
        exact ⟨by decide, by decide, by decide, by decide⟩
    obtain ⟨n1, n2, n3, n4⟩ := hfl
    have hcel : cel cA ad S Rf (upR I q (upd (I q) b x9)) J Df q = .inr (a, ((List.range (nfl a)).map (fun j => fcl (fkd a j) (Rf q j) (I q j) (J q j) ad)).set b (.int x9)) := by
      rw [cel_c (beq_e h2) k3]
      congr 2
      refine (map_set ?_ fun j hj => ?_).symm
      · unfold fcl
        rw [nbeq n1, nbeq n2, upR_s, pk_us]; rfl
      · rw [upR_s, pk_un hj]
    rcases hk2 with j1 | ⟨j1, j2, j3⟩
    · exact va_put (ty := clt a b) C.ex C.by (fun w h => C.wd h) (u_in k3) (clt a) (clt_ok a k3) (clq_nm a k3) C.own C.kk w.1 w.2.1 w.2.2.1 q he (clsv_at a k3) b (by rw [clq_n a k3]; exact f1) (C.wd f2) (fun x h => h) j1 (clt_ok a k3 b (by rw [clq_n a k3]; exact f1)) n3 n4 (by simpa using f1) hd
        (fun H1 locs1 hP hD hS => K1 (st' := r) K h (Wd.sI w hg.1 hcel hP hD hS) hL hl hs.2.2 ((hb.go hc).mv (ups_crd (by have := w.le; omega))))
    · exact va_putF (ty := clt a b) C.ex C.by (fun w h => C.wd h) (u_in k3) (clt a) (clt_ok a k3) (clq_nm a k3) C.own C.kk w.1 w.2.1 w.2.2.1 q he (clsv_at a k3) b (by rw [clq_n a k3]; exact f1) (C.wd f2) (fun x h => h) j1 (C.2.2.2.2.2.2.2.2.1 j2) (by rw [j3, hcl]) (clt_ok a k3 b (by rw [clq_n a k3]; exact f1)) n3 n4 (by simpa using f1) hd
        (fun H1 locs1 hP hD hS => K1 (st' := r) K h (Wd.sI w hg.1 hcel hP hD hS) hL hl hs.2.2 ((hb.go hc).mv (ups_crd (by have := w.le; omega))))
/-- arraycopy out of a row that stands from the start -/
theorem fits_b {x : Int32} (h : 0 ≤ x ∧ x ≤ 127) : fits .byte (.int x) = true := by
  have h1 : (-128 : Int32) ≤ x := Int32.le_trans (by decide) h.1
  show (decide ((-128 : Int32) ≤ x) && decide (x ≤ 127)) = true
  rw [decide_eq_true h1, decide_eq_true h.2]; rfl
theorem tx_copy {code9 : ByteArray} {ls9 : Array Slot} {rest : List Value} {a9 : Nat} {tys : List (ClassId × FieldType)} {cl : List vw_C} {ws : va_W} (hexec : p.tables.exec = Jvm.exec) (hb : c.code = code9) (hml : c.maxLocals = ls9.size) {own : String} {index : Nat} (hown : s.vm.findClass own = some m.cls) (hlink : (Cond.methodLink own index arraycopyName).before args s = true) (hnat : (Cond.native arraycopyName).before args s = true) (hstat : (Cond.static arraycopyName).before args s = true) (hini : (Cond.initialized "java/lang/System").before args s = true)
    (hK : va_K D cl tys s) (hP : va_P D cl ws H) (hD : va_D A ws) (hS : va_S A s.heap H locs) {b0 n9 : Nat} {f9 : Nat → Int32} (hT : va_T .byte b0 n9 (fun j => .int (f9 j)) A s s.heap) (q1 t1 : Nat) {c1 : ClassId} {n1 : Nat} {g9 : Nat → Int32} (ha1 : ws[q1]? = some (a9, .inl (c1, n1, .inl g9))) (ht1 : tys[t1]? = some (c1, .byte))
    {sp9 dp z : Int32} (h1 : ¬ sp9 < 0) (h2 : ¬ dp < 0) (h3 : ¬ z < 0) (h4 : sp9.toNatClampNeg + z.toNatClampNeg ≤ n9) (h5 : dp.toNatClampNeg + z.toNatClampNeg ≤ n1) (hfit : ∀ i, i < z.toNatClampNeg → fits .byte (.int (f9 (sp9.toNatClampNeg + i))) = true)
    (hframes : 1 ≤ R.frames) (hlocals : (rest.map fun v => v.category).sum + (nativeFrameWords "java/lang/System" "arraycopy" 5 + 11) ≤ R.locals) (hdg : decode code9 pc = .ok (.invokestatic index, 3))
    (kk : ∀ (H1 : Heap) (locs1 : List Loc), va_P D cl (ws.set q1 (a9, .inl (c1, n1, .inl (va_cpy f9 g9 sp9.toNatClampNeg dp.toNatClampNeg z.toNatClampNeg)))) H1 → va_D A (ws.set q1 (a9, .inl (c1, n1, .inl (va_cpy f9 g9 sp9.toNatClampNeg dp.toNatClampNeg z.toNatClampNeg)))) → va_S A s.heap H1 locs1 → W p l e R s m args below meth c H1 locs1 cells slots Q (F0 m (pc + 3) ls9 rest)) : W p l e R s m args below meth c H locs cells slots Q (F0 m pc ls9 (.int z :: .int dp :: .ref a9 :: .int sp9 :: .ref b0 :: rest)) := by
  have pos : ∀ z : Int32, ¬ z < 0 → z.toInt = (z.toNatClampNeg : Int) := fun z hz => by
    have h0 := Int32.le_iff_toInt_le.mp (Int32.not_lt.mp hz)
    rw [Int32.toInt_zero] at h0
    show z.toInt = ((z.toInt.toNat : Nat) : Int)
    omega
  intro T hT9 X
  obtain ⟨sc, u1, u2, u3, u4, -, u6, u7⟩ := hT
  have hc0 : H[b0]? = some sc := by rw [hS.2.1 b0 (Array.getElem?_eq_some_iff.mp u1).1 u7]; exact u1
  have hc1 : H[a9]? = some (vp_cell c1 (n1, .inl g9)) := hP q1 _ ha1
  obtain ⟨v6, k0, hk0, cm0, hkk0⟩ := u2
  obtain ⟨-, k1, hk1, cm1, hkk1⟩ := (hK.2 t1 _ ht1).1 n1 (fun j => .int (g9 j))
  have at0 : ∀ i, i < z.toNatClampNeg → sc.slots.getD (sp9.toNatClampNeg + i) .null = .int (f9 (sp9.toNatClampNeg + i)) := fun i hi => by
    rw [Array.getD_eq_getD_getElem?, u6 _ (by omega)]
    rfl
  obtain ⟨vm', X', step⟩ := X.arraycopy hexec hown hlink hnat hstat hini (src := b0) (dst := a9) (cs := sc) (cd := vp_cell c1 (n1, .inl g9)) (srcPos := sp9) (destPos := dp) (n := z) (by rw [hT9]; exact hc0) (by rw [hT9]; exact hc1)
    v6 (fun _ h => by cases h) u3 (fun h => by cases h) hk0 hk1 hkk0 hkk1 (by simp [refKind]) h1 h2 h3
    (by rw [pos sp9 h1, pos z h3]; omega)
    (by rw [pos dp h2, pos z h3]; show ¬ _ > ((arrV c1 n1 (fun j => .int (g9 j))).slots.size : Int); rw [arrV_size]; omega)
    (fun vm₁ _ i hi => ⟨by rw [at0 i hi]; exact hfit i hi, by rw [at0 i hi]; exact trivial⟩)
    (g := F0 m pc ls9 (.int z :: .int dp :: .ref a9 :: .int sp9 :: .ref b0 :: rest)) rfl (by rw [hml]) (rest := rest) rfl (by rw [hb]; exact hdg) hframes (by show 2 * 0 + _ + _ ≤ _; omega)
  have e1 : copied sc (vp_cell c1 (n1, .inl g9)) sp9 dp z = vp_cell c1 (n1, .inl (va_cpy f9 g9 sp9.toNatClampNeg dp.toNatClampNeg z.toNatClampNeg)) := va_copiedX (fun z => .int z) sc c1 f9 g9 u6 h4
  rw [e1] at X' step
  have hl : a9 < H.size := (Array.getElem?_eq_some_iff.mp hc1).1
  have hh : ((T.setVm vm').setCell a9 (vp_cell c1 (n1, .inl (va_cpy f9 g9 sp9.toNatClampNeg dp.toNatClampNeg z.toNatClampNeg)))).heap = H.setIfInBounds a9 (vp_cell c1 (n1, .inl (va_cpy f9 g9 sp9.toNatClampNeg dp.toNatClampNeg z.toNatClampNeg))) := by rw [← hT9]; rfl
  have oq : ∀ q : Nat, q ≠ a9 → (H.setIfInBounds a9 (vp_cell c1 (n1, .inl (va_cpy f9 g9 sp9.toNatClampNeg dp.toNatClampNeg z.toNatClampNeg))))[q]? = H[q]? := fun q hq => by simp [Array.getElem?_setIfInBounds, Ne.symm hq]
  have hA9 : A a9 := hD.2 q1 _ ha1
  obtain ⟨t, a1, b1⟩ := kk _ _ (hP.set hD ha1 (show (H.setIfInBounds a9 _)[a9]? = some _ by simp [Array.getElem?_setIfInBounds, hl]) oq) (hD.set ha1) ⟨by simp; exact hS.1, fun q g1 g2 => by
      rw [oq q (fun e => g2 (by rw [e]; exact hA9))]
      exact hS.2.1 q g1 g2, fun q hq => by
      rcases List.mem_append.mp hq with h | h
      · exact hS.2.2 q h
      · obtain ⟨y, -, hy⟩ := List.mem_map.mp h
        rw [← hy]
        exact hA9⟩ _ hh X'
  exact ⟨t, step t a1, b1⟩
theorem b_copy {x : Nat} (C : Cx p l R s m args meth c D cA A sp L xs μ) (K : Nx X9 p l e R s m args below meth c D cA A sp L xs ad0 n0 μ Q g o) (hk : (a3 pX (ow μ) x 1000 && ((Nat.ble 1 (fr μ) && Nat.ble 26 (lc μ)) && cle (cst μ (pc + 3)) (cst μ pc))) = true) (w : Wd D cA A sp L xs s ad0 n0 (hdl μ = []) ad (n, S, Rf, I, J, Df) H locs) (fr : Fm ad μ LS ls st n) (hb : Bu X9 R μ pc (n, S, Rf, I, J, Df) cells slots) (hd : decode (byt μ) pc = .ok (.invokestatic x, 3))  (h : acK f g c0 (stB μ pc ls st n S Rf I J Df (.invokestatic x) 3 fm tm a b cc k) = some o) : W p l e R s m args below meth c H locs cells slots Q (F0 m pc LS (st.map (rv ad))) := by
  have h : acK f g c0 (match (generalizing := false) st with
        | .int z :: .int dp :: .ref q :: .int sp :: .ref p :: r => bif (Nat.beq (S p).1 29 || Nat.beq (S p).1 44) && Nat.beq (S q).1 29 then
            gd ((decide (¬ sp < 0) && (decide (¬ dp < 0) && decide (¬ z < 0))) && ((Nat.ble (sp.toNatClampNeg + z.toNatClampNeg) (S p).2 && Nat.ble (dp.toNatClampNeg + z.toNatClampNeg) (S q).2) && (((Nat.blt p n || Nat.beq (S p).1 44) && Nat.blt q n) && (Nat.ble (csm r) 8 && (List.range z.toNatClampNeg).all (fun i => decide (0 ≤ (bif Nat.beq (S p).1 44 then sta p else I p) (sp.toNatClampNeg + i)) && decide ((bif Nat.beq (S p).1 44 then sta p else I p) (sp.toNatClampNeg + i) ≤ 127)))))) μ (pc + 3) (mk fm ls) r (n, S, Rf, upR I q (va_cpy (bif Nat.beq (S p).1 44 then sta p else I p) (I q) sp.toNatClampNeg dp.toNatClampNeg z.toNatClampNeg), J, Df) else hl
        | _ => hl) = some o := h
  obtain ⟨z, dp, q, sp1, p1, r, rfl⟩ : ∃ z dp q sp1 p1 r, st = .int z :: .int dp :: .ref q :: .int sp1 :: .ref p1 :: r := by
    split at h
    · exact ⟨_, _, _, _, _, _, rfl⟩
    · exact (ak_hl h).elim
  dsimp only at h
  obtain ⟨h1, h⟩ := ak_ifh h
  obtain ⟨hg, h⟩ := ak_gd h
  rw [Bool.and_eq_true] at h1
  obtain ⟨h1, hq29⟩ := h1
  simp only [Bool.and_eq_true, Nat.ble_eq, Nat.blt_eq, decide_eq_true_eq, Bool.or_eq_true] at hg
  obtain ⟨⟨g1, g2, g3⟩, ⟨g4, g5⟩, ⟨g6, g7⟩, g8, g9⟩ := hg
  obtain ⟨hL, hl, hs⟩ := fr
  simp only [Bool.and_eq_true, Nat.ble_eq] at hk
  obtain ⟨k1, k2, k3⟩ := hk
  obtain ⟨e9, he9, q1, q2, q3⟩ := a3_in k1
  have hw9 := inWb_mem (List.all_eq_true.mp okX e9 he9)
  unfold wX at hw9
  rw [q1, q2, q3] at hw9
  have hfr : fr μ ≤ R.frames := C.2.2.2.2.2.2.2.2.2.1
  have hlc : lc μ ≤ R.locals := C.2.2.2.2.2.2.2.2.2.2.1
  have hls : c.maxLocals = LS.size := by rw [C.ml]; exact hL.1.symm
  have hcat := csm_rv ad r
  simp only [List.all_cons, Bool.and_eq_true] at hs
  have hxa := okXa
  simp only [Bool.and_eq_true] at hxa
  have heq : (wsl cA ad (n, S, Rf, I, J, Df))[q]? = some (ad q, _) := (wsl_at (M := (n, S, Rf, I, J, Df)) g7).trans (by rw [cel_b (beq_e hq29)])
  have hnw : nativeFrameWords "java/lang/System" "arraycopy" 5 + 11 ≤ 18 := by decide +kernel
  have hft : ∀ i, i < z.toNatClampNeg → fits .byte (.int ((bif Nat.beq (S p1).1 44 then sta p1 else I p1) (sp1.toNatClampNeg + i))) = true := fun i hi => by
    have := List.all_eq_true.mp g9 i (List.mem_range.mpr hi)
    simp only [Bool.and_eq_true, decide_eq_true_eq] at this
    exact fits_b this
  cases h44 : Nat.beq (S p1).1 44 with
  | false =>
    rw [h44] at h hft
    have h1 := (Bool.or_eq_true_iff.mp h1).resolve_right (fun z => by rw [h44] at z; cases z)
    have g6 := g6.resolve_right (fun z => by rw [h44] at z; cases z)
    have hep : (wsl cA ad (n, S, Rf, I, J, Df))[p1]? = some (ad p1, _) := (wsl_at (M := (n, S, Rf, I, J, Df)) g6).trans (by rw [cel_b (beq_e h1)])
    exact va_copyi C.ex C.by hls C.own (C.wd hw9) (C.wd (inWb_mem hxa.2.1)) (C.wd (inWb_mem hxa.1)) (C.wd (inWb_mem hxa.2.2)) C.kk w.1 w.2.1 w.2.2.1 p1 q 4 4 hep heq rfl rfl rfl g1 g2 g3 g4 g5 hft (by omega) (by rw [hcat]; omega) hd (fun H1 locs1 hP hD hS => K1 (st' := r) K h (Wd.sI w g7 (by rw [cel_b (beq_e hq29), upR_s]; rfl) hP hD hS) hL hl hs.2.2.2.2.2 ((hb.go k3).mv (upr_crd (by have := w.le; omega))))
  | true =>
    rw [h44] at h hft
    obtain ⟨hn, hS9⟩ := w.kind (p := p1) (by rw [beq_e h44]; omega)
    obtain ⟨i, hi, rfl⟩ := ssp_k.2.2.2.1 (by rw [← hS9]; exact beq_e h44)
    have hT := (C.gs.2.2.2.2.1.1 i hi).2.2.2
    rw [hS9, sln_ok i hi] at g4
    have hT2 : va_T .byte (sp (stp i + 10)) (slen.getD i 0) (fun j => .int (sta (stp i + 10) j)) A s s.heap := by
      obtain ⟨cell, t1, t2, t3, t4, t5, t6, t7⟩ := hT
      exact ⟨cell, t1, t2, t3, t4, t5, fun j hj => by rw [t6 j hj]; exact congrArg (fun z => some (Value.int z)) (sby_ok i hi j hj), t7⟩
    have ha : ad (stp i + 10) = sp (stp i + 10) := w.sp' (by have := stp_b hi; omega) (by have := stp_b hi; show _ ≠ 1000000; omega)
    show W p l e R s m args below meth c H locs cells slots Q (F0 m pc LS (.int z :: .int dp :: .ref (ad q) :: .int sp1 :: .ref (ad (stp i + 10)) :: r.map (rv ad)))
    rw [ha]
    exact tx_copy C.ex C.by hls C.own (C.wd hw9) (C.wd (inWb_mem hxa.2.1)) (C.wd (inWb_mem hxa.1)) (C.wd (inWb_mem hxa.2.2)) C.kk w.1 w.2.1 w.2.2.1 hT2 q 4 heq rfl g1 g2 g3 g4 g5 hft (by omega) (by rw [hcat]; omega) hd (fun H1 locs1 hP hD hS => K1 (st' := r) K h (Wd.sI w g7 (by rw [cel_b (beq_e hq29), upR_s]; rfl) hP hD hS) hL hl hs.2.2.2.2.2 ((hb.go k3).mv (upr_crd (by have := w.le; omega))))
/-- the words of the class above -/
abbrev SBn : String := "java/lang/StringBuilder"
abbrev ASn : String := "java/lang/AbstractStringBuilder"
def sbW : List Cond := [.instantiable SBn 4, .sameMethod ASn ASn "isLatin1" "()Z", .instantiable SBn 4, .instantiable SBn 4, .instantiable SBn 4, .selects SBn (nm 368) (nm 368), .selects SBn (nm 370) (nm 370), .instanceMethod (nm 367), .instanceMethod (nm 369), .instanceMethod (nm 372), .sameMethod ASn ASn (nm 371).name (nm 371).desc, .sameMethod ASn ASn (nm 365).name (nm 365).desc, .sameMethod ASn ASn (nm 366).name (nm 366).desc, .selects SBn (nm 371) (nm 363), .instanceMethod (nm 371), .code (nm 371) (byt 371) (mxl 371) (rtt 371)]
theorem sbW_ok : sbW.all (fun w => decide (w ∈ lw_tbl) && goodWord w) = true := by decide +kernel
theorem Cx.sbw (C : Cx p l R s m args meth c D cA A sp L xs μ) {i : Nat} {w : Cond} (h : sbW[i]? = some w) : w.before args s = true := by
  have h1 := List.all_eq_true.mp sbW_ok w (List.mem_of_getElem? h)
  simp only [Bool.and_eq_true, decide_eq_true_eq] at h1
  exact C.wd (List.mem_filter.mpr h1)
/-- a private method is the one selected for an object of a class below, too -/
theorem sel_priv {B : String} {y : MethodName} {N : Nat} {w1 w2 : String} (hy : y.cls ≠ "java/lang/invoke/MethodHandle" ∧ y.cls ≠ "java/lang/invoke/VarHandle") (hins : (Cond.instantiable B N).before args s = true) (hsame : (Cond.sameMethod y.cls y.cls w1 w2).before args s = true)
    (hpriv : (Cond.privateMethod y).before args s = true) (hinst : (Cond.instanceMethod y).before args s = true) : (Cond.selects B y y).before args s = true := by
  obtain ⟨c9, k9, hc, hk, -, -, -, -⟩ := Cond.instantiable_spec hins
  obtain ⟨mk, methM, hnamed, hmethM, -, -⟩ := Cond.instanceMethod_spec hinst
  have hfound : s.methodFound? y.cls y.name y.desc = some mk := State.methodFound?_of_named hnamed hy
  have hsel : selectMethod {} s.vm c9 mk = .method mk := selectMethod_private hmethM (Cond.privateMethod_at hpriv mk methM hnamed hmethM)
  obtain ⟨cn, ck, r1, hcn, hck, hni, -, -⟩ := Cond.sameMethod_found hsame
  have hcls : mk.cls = cn := Option.some.inj ((findClass_of_methodNamed hnamed).symm.trans hcn)
  simp only [Cond.before, Cond.holds, Cond.value, hc, hfound, hnamed, hsel, hcls, hck]
  simp; exact hni
theorem sb_sel (C : Cx p l R s m args meth c D cA A sp L xs μ) {a : Nat} (ha : a = 367 ∨ a = 368 ∨ a = 369 ∨ a = 370 ∨ a = 372) : (Cond.selects SBn (nm a) (nm a)).before args s = true := by
  have h1 := C.sbw (i := 0) rfl
  have h2 := C.sbw (i := 1) rfl
  rcases ha with rfl | rfl | rfl | rfl | rfl
  · exact C.sbg.1.2 _ (by simp)
  · exact C.sbw (i := 5) rfl
  · exact C.sbg.1.2 _ (by simp)
  · exact C.sbw (i := 6) rfl
  · exact C.sbg.1.2 _ (by simp)
theorem sbm_ok : ∀ a ∈ [363, 365, 366, 367, 368, 369, 370, 371, 372], rl2 a = true ∧ a ≠ 358 ∧ Nat.beq (wix a).2.1 0 = true ∧ hdl a = [] ∧ (nm a).name ≠ "<init>" := by decide +kernel
theorem b_invV {x : Nat} (C : Cx p l R s m args meth c D cA A sp L xs μ) (K : Nx X9 p l e R s m args below meth c D cA A sp L xs ad0 n0 μ Q g o) (hf : CallOK l D cA A sp L xs f) (T9 : Th p l e R s m args below meth c D cA A sp L xs ad0 n0 μ Q o) (hμ : rl2 μ = true) (hk : (((a3 pM (ow μ) x a && (Nat.beq a 367 || (Nat.beq a 368 || (Nat.beq a 369 || (Nat.beq a 370 || Nat.beq a 372))))) || (a3 pM (ow μ) x 371 && Nat.beq a 363)) && (Nat.beq b (nar a + 1) && (rmk a μ && ((hnd μ).isEmpty && chQ a μ pc (pc + 3))))) = true) (w : Wd D cA A sp L xs s ad0 n0 (hdl μ = []) ad (n, S, Rf, I, J, Df) H locs) (fr : Fm ad μ LS ls st n) (hb : Bu X9 R μ pc (n, S, Rf, I, J, Df) cells slots) (hd : decode (byt μ) pc = .ok (.invokevirtual x, 3))  (h : acK f g (μ, pc, ls, st, (n, S, Rf, I, J, Df)) (stB μ pc ls st n S Rf I J Df (.invokevirtual x) 3 fm tm a b cc k) = some o) : W p l e R s m args below meth c H locs cells slots Q (F0 m pc LS (st.map (rv ad))) := by
  obtain ⟨v, hv, h⟩ := ak_lk h
  obtain ⟨q, rfl, h⟩ := ak_fR h
  obtain ⟨hg, h⟩ := ak_ifh h
  obtain ⟨o8, hf1, hns, hm⟩ := ak_call h
  obtain ⟨hL, hl, hs⟩ := fr
  simp only [Bool.and_eq_true, Nat.blt_eq, Nat.ble_eq, Bool.or_eq_true] at hg
  obtain ⟨⟨g14, gn⟩, ⟨g3, g4⟩, g5⟩ := hg
  simp only [Bool.and_eq_true, Bool.or_eq_true] at hk
  obtain ⟨k1, k2, k9, k10, k11⟩ := hk
  have hmem : a ∈ [363, 365, 366, 367, 368, 369, 370, 371, 372] := by
    rcases k1 with ⟨-, k⟩ | ⟨-, k⟩
    · rcases k with k | k | k | k | k <;> (have := beq_e k; subst this; decide)
    · have := beq_e k; subst this; decide
  have hb1 : b = nar a + 1 := beq_e k2
  obtain ⟨t1, t2⟩ := take_st (by omega) hv
  obtain ⟨k5, h309, k3, hnil, hno⟩ := sbm_ok a hmem
  obtain ⟨z1, z2, -⟩ := okw_v k5 h309 k3
  obtain ⟨y1, y2, y3, -⟩ := okn k5 h309
  obtain ⟨r1, r2⟩ := rmk_ok C k9
  have hcs : csm (st.take b).reverse ≤ mxl a := by rw [csm_rev]; exact g4
  have ha9 := rl2_lt k5
  have w1 := w.cIp (μ := μ) (a := a)
  have hM := hf a (st.take b).reverse _ o8 ad k5 h309 hcs hns hf1 (kr_in ha9)
  have hall : (st.take b).all (vok n) = true := List.all_eq_true.mpr fun v hv => List.all_eq_true.mp hs v (List.mem_of_mem_take hv)
  have hallr : (st.take b).reverse.all (vok n) = true := by rw [List.all_reverse]; exact hall
  have hdr : (st.drop b).all (vok n) = true := List.all_eq_true.mpr fun v hv => List.all_eq_true.mp hs v (List.mem_of_mem_drop hv)
  have has : (st.take b).reverse.map (rv ad) = .ref (ad q) :: (st.take (b - 1)).reverse.map (rv ad) := by rw [t1, List.reverse_append]; rfl
  have hcode : Cond.code (nm a) (byt a) (mxl a) (rtt a) ∈ WALL := by rw [← cwd_nil hnil]; exact okc k5 h309 _ List.mem_cons_self
  have hpre := pre_in (a := a) C w1 hallr
  rw [has] at hpre
  have he : (wsl cA ad (n, S, Rf, I, J, Df))[q]? = some (ad q, _) := (wsl_at (M := (n, S, Rf, I, J, Df)) gn).trans (by rw [cel_c (beq_e g14) (by decide)])
  have hrec := va_recv C.kk w.1 (clsv_at 14 (by decide)) he
  have hstk : st.map (rv ad) = ((st.take (b - 1)).reverse.map (rv ad)).reverse ++ .ref (ad q) :: (st.drop b).map (rv ad) := by
    rw [← List.map_reverse, List.reverse_reverse]
    conv => lhs; rw [← List.take_append_drop b st, t1]
    simp [rv]
  have hlen : ((st.take (b - 1)).reverse.map (rv ad)).length = nar a := by simp; omega
  have hnh : ∀ h ∈ hnd μ, False := fun h9 hm9 => by rw [List.isEmpty_iff.mp k10] at hm9; cases hm9
  rcases k1 with ⟨k1, k⟩ | ⟨k1, k⟩
  · obtain ⟨e9, he9, q1, q2, q3⟩ := a3_in k1
    have hw9 := inWb_mem (List.all_eq_true.mp okM e9 he9)
    unfold wM at hw9
    rw [q1, q2, q3] at hw9
    have hsel := sb_sel C (a := a) (by rcases k with k | k | k | k | k <;> (have := beq_e k; omega))
    have hr := vx_runV (m := m) (cells := cells) (slots := slots) (locs := locs) (below := below) (meth := meth) (e := e) (g := F0 m pc LS (st.map (rv ad))) (As := (st.take (b - 1)).reverse.map (rv ad)) (rest := (st.drop b).map (rv ad)) (n := nar a) (C := SBn) (index := x) ⟨C.ex, C.by, C.ml, C.own, C.2.2.2.2.2.1⟩ hM
      ⟨⟨rfl, rfl, r1, r2, wall_pay C.2.2.2.2.2.1 (okc k5 h309), List.mem_cons_of_mem _ hcode, C.wd hcode, C.wd z1, ⟨y2, y3⟩, okl k5 h309, C.wd hw9⟩, C.wd z2, hsel⟩ ⟨WS_blind, hrec, hpre⟩ rfl hlen hL.1 hstk (lv_room (by rw [csm_rv]; exact g3)) hd (hb.call ha9 k11 g5).1
    exact call_go C K T9 hμ w1 hL hl hdr (hb.call ha9 k11 g5).2 (fun h9 hm9 => (hnh h9 hm9).elim) rfl hr hm
  · have := beq_e k
    subst this
    obtain ⟨e9, he9, q1, q2, q3⟩ := a3_in k1
    have hw9 := inWb_mem (List.all_eq_true.mp okM e9 he9)
    unfold wM at hw9
    rw [q1, q2, q3] at hw9
    have hr := vx_runU (m := m) (cells := cells) (slots := slots) (locs := locs) (below := below) (meth := meth) (e := e) (x := nm 371) (owner := ASn) (g := F0 m pc LS (st.map (rv ad))) (As := (st.take (b - 1)).reverse.map (rv ad)) (rest := (st.drop b).map (rv ad)) (n := nar 363) (C := SBn) (index := x) ⟨C.ex, C.by, C.ml, C.own, C.2.2.2.2.2.1⟩ hM
      ⟨⟨rfl, rfl, r1, r2, wall_pay C.2.2.2.2.2.1 (okc k5 h309), List.mem_cons_of_mem _ hcode⟩, C.wd hcode, C.wd z1, ⟨by decide, by decide⟩, okl (a := 371) (by decide +kernel) (by decide), C.wd hw9, C.sbw (i := 10) rfl, va_Decl.of (C.sbw (i := 14) rfl) (C.sbw (i := 15) rfl), C.sbw (i := 13) rfl, C.wd z2⟩ ⟨WS_blind, hrec, hpre⟩ rfl hlen hL.1 hstk (lv_room (by rw [csm_rv]; exact g3)) hd (hb.call ha9 k11 g5).1
    exact call_go C K T9 hμ w1 hL hl hdr (hb.call ha9 k11 g5).2 (fun h9 hm9 => (hnh h9 hm9).elim) rfl hr hm
theorem b_invS {x : Nat} (C : Cx p l R s m args meth c D cA A sp L xs μ) (K : Nx X9 p l e R s m args below meth c D cA A sp L xs ad0 n0 μ Q g o) (hf : CallOK l D cA A sp L xs f) (T9 : Th p l e R s m args below meth c D cA A sp L xs ad0 n0 μ Q o) (hμ : rl2 μ = true) (hk : ((a3 pM (ow μ) x a && (Nat.beq a 365 || (Nat.beq a 366 || Nat.beq a 371))) && (Nat.beq (ow μ) 17 && (Nat.beq b (nar a + 1) && (rmk a μ && ((hnd μ).isEmpty && chQ a μ pc (pc + 3)))))) = true) (w : Wd D cA A sp L xs s ad0 n0 (hdl μ = []) ad (n, S, Rf, I, J, Df) H locs) (fr : Fm ad μ LS ls st n) (hb : Bu X9 R μ pc (n, S, Rf, I, J, Df) cells slots) (hd : decode (byt μ) pc = .ok (.invokespecial x, 3))  (h : acK f g (μ, pc, ls, st, (n, S, Rf, I, J, Df)) (stB μ pc ls st n S Rf I J Df (.invokespecial x) 3 fm tm a b cc k) = some o) : W p l e R s m args below meth c H locs cells slots Q (F0 m pc LS (st.map (rv ad))) := by
  obtain ⟨v, hv, h⟩ := ak_lk h
  obtain ⟨q, rfl, h⟩ := ak_fR h
  obtain ⟨hg, h⟩ := ak_ifh h
  obtain ⟨o8, hf1, hns, hm⟩ := ak_call h
  obtain ⟨hL, hl, hs⟩ := fr
  simp only [Bool.and_eq_true, Nat.blt_eq, Nat.ble_eq, Bool.or_eq_true] at hg
  obtain ⟨⟨g14, gn⟩, ⟨g3, g4⟩, g5⟩ := hg
  simp only [Bool.and_eq_true, Bool.or_eq_true] at hk
  obtain ⟨⟨k1, k⟩, k17, k2, k9, k10, k11⟩ := hk
  have hmem : a ∈ [363, 365, 366, 367, 368, 369, 370, 371, 372] := by
    rcases k with k | k | k <;> (have := beq_e k; subst this; decide)
  have hb1 : b = nar a + 1 := beq_e k2
  obtain ⟨t1, t2⟩ := take_st (by omega) hv
  obtain ⟨k5, h309, k3, hnil, hno⟩ := sbm_ok a hmem
  obtain ⟨z1, z2, -⟩ := okw_v k5 h309 k3
  obtain ⟨y1, y2, y3, -⟩ := okn k5 h309
  obtain ⟨r1, r2⟩ := rmk_ok C k9
  have hcs : csm (st.take b).reverse ≤ mxl a := by rw [csm_rev]; exact g4
  have ha9 := rl2_lt k5
  have w1 := w.cIp (μ := μ) (a := a)
  have hM := hf a (st.take b).reverse _ o8 ad k5 h309 hcs hns hf1 (kr_in ha9)
  have hall : (st.take b).all (vok n) = true := List.all_eq_true.mpr fun v hv => List.all_eq_true.mp hs v (List.mem_of_mem_take hv)
  have hallr : (st.take b).reverse.all (vok n) = true := by rw [List.all_reverse]; exact hall
  have hdr : (st.drop b).all (vok n) = true := List.all_eq_true.mpr fun v hv => List.all_eq_true.mp hs v (List.mem_of_mem_drop hv)
  have has : (st.take b).reverse.map (rv ad) = .ref (ad q) :: (st.take (b - 1)).reverse.map (rv ad) := by rw [t1, List.reverse_append]; rfl
  have hcode : Cond.code (nm a) (byt a) (mxl a) (rtt a) ∈ WALL := by rw [← cwd_nil hnil]; exact okc k5 h309 _ List.mem_cons_self
  have hpre := pre_in (a := a) C w1 hallr
  rw [has] at hpre
  have he : (wsl cA ad (n, S, Rf, I, J, Df))[q]? = some (ad q, _) := (wsl_at (M := (n, S, Rf, I, J, Df)) gn).trans (by rw [cel_c (beq_e g14) (by decide)])
  have hrec := va_recv C.kk w.1 (clsv_at 14 (by decide)) he
  have hstk : st.map (rv ad) = ((st.take (b - 1)).reverse.map (rv ad)).reverse ++ .ref (ad q) :: (st.drop b).map (rv ad) := by
    rw [← List.map_reverse, List.reverse_reverse]
    conv => lhs; rw [← List.take_append_drop b st, t1]
    simp [rv]
  have hlen : ((st.take (b - 1)).reverse.map (rv ad)).length = nar a := by simp; omega
  have hnh : ∀ h ∈ hnd μ, False := fun h9 hm9 => by rw [List.isEmpty_iff.mp k10] at hm9; cases hm9
  obtain ⟨e9, he9, q1, q2, q3⟩ := a3_in k1
  have hw9 := inWb_mem (List.all_eq_true.mp okM e9 he9)
  unfold wM at hw9
  rw [q1, q2, q3] at hw9
  have hown := C.own
  rw [beq_e k17] at hown hw9
  have hcls : (nm a).cls = ASn := by rcases k with k | k | k <;> (have := beq_e k; subst this; rfl)
  have hsame : (Cond.sameMethod (nm a).cls (nm a).cls (nm a).name (nm a).desc).before args s = true := by
    rcases k with k | k | k <;> (have := beq_e k; subst this)
    · exact C.sbw (i := 11) rfl
    · exact C.sbw (i := 12) rfl
    · exact C.sbw (i := 10) rfl
  have hsup : (Cond.superclass (onm 17) (nm a).cls).before args s = true := by rw [hcls]; exact C.sbg.1.1
  obtain ⟨cellB, hc1, hc2, hc3⟩ := hrec
  obtain ⟨c9, kC, hfc, hkC, hord, -⟩ := Cond.instantiable_spec (C.sbw (i := 0) rfl)
  have hat : ClassAt s SBn c9 := ⟨hfc, kC, hkC, hord⟩
  have hr := vx_runSU (m := m) (cells := cells) (slots := slots) (locs := locs) (below := below) (meth := meth) (e := e) (own := onm 17) (g := F0 m pc LS (st.map (rv ad))) (As := (st.take (b - 1)).reverse.map (rv ad)) (rest := (st.drop b).map (rv ad)) (n := nar a) (C := SBn) (index := x) hat ⟨C.ex, C.by, C.ml, hown, C.2.2.2.2.2.1⟩ hM
    ⟨⟨rfl, rfl, r1, r2, wall_pay C.2.2.2.2.2.1 (okc k5 h309), List.mem_cons_of_mem _ hcode⟩, C.wd hw9, hsame, hsup, C.wd z2, C.wd z1, C.wd hcode, hno, okl k5 h309⟩ ⟨WS_blind, ⟨cellB, hc1, hc2, hc3⟩, hpre⟩ rfl hlen hL.1 hstk (lv_room (by rw [csm_rv]; exact g3)) hd (hb.call ha9 k11 g5).1
  exact call_go C K T9 hμ w1 hL hl hdr (hb.call ha9 k11 g5).2 (fun h9 hm9 => (hnh h9 hm9).elim) rfl hr hm
end STEP
