/-! the steps of single instructions -/
theorem ok64_n {r : UInt64} (h : ok64 r = true) : vf_n64 r := of_decide_eq_true (p := r &&& 0x7fffffffffffffff ≤ 0x7ff0000000000000) h
theorem ok32_n {r : UInt32} (h : ok32 r = true) : vf_n32 r := of_decide_eq_true (p := r &&& 0x7fffffff ≤ 0x7f800000) h
section STEP
variable {X9 : Nat × Nat} {p : Program} {l : Launch} {e : Env} {R : Room} {s : State} {m : MethodId} {args : Array Value} {below : List Frame} {meth : Method} {c : Code} {D : va_G} {cA : Nat → ClassId} {A : Nat → Prop} {sp : Nat → Nat} {L : Nat} {xs : Nat → Int32} {ad0 : Nat → Nat} {n0 : Nat} {μ : Nat} {Q : State → Prop} {f g : Cf → Option Ou} {c0 : Cf} {o : Ou}
variable {pc : Nat} {ls st : List Value} {n : Nat} {S : Nat → Nat × Nat} {Rf : Nat → Nat → Option Nat} {I : Nat → Nat → Int32} {J : Nat → Nat → Int64} {Df : Nat → Nat → UInt64} {ad : Nat → Nat} {LS : Array Slot} {H : Heap} {locs : List Loc} {cells slots : Nat}
variable {fm tm : List Bool} {a b cc : Nat} {k : Int32}
theorem Cx.ex (C : Cx p l R s m args meth c D cA A sp L xs μ) : p.tables.exec = Jvm.exec := C.1
theorem Cx.by (C : Cx p l R s m args meth c D cA A sp L xs μ) : c.code = byt μ := C.2.1
theorem Cx.ml (C : Cx p l R s m args meth c D cA A sp L xs μ) : c.maxLocals = mxl μ := C.2.2.2.1
theorem Cx.own (C : Cx p l R s m args meth c D cA A sp L xs μ) : s.vm.findClass (onm (ow μ)) = some m.cls := C.2.2.2.2.1
theorem Cx.wd (C : Cx p l R s m args meth c D cA A sp L xs μ) {w : Jvm.Cond} (h : w ∈ WALL) : w.before args s = true := C.2.2.2.2.2.1 w h
theorem K1 (K : Nx X9 p l e R s m args below meth c D cA A sp L xs ad0 n0 μ Q g o) {pc' : Nat} {ls' st' : List Value} {LS' : Array Slot} {M : Mm} (h : g (μ, pc', mk fm ls', st', M) = some o) (w : Wd D cA A sp L xs s ad0 n0 (hdl μ = []) ad M H locs) (hL : LR ad LS' (mxl μ) ls') (hl : ls'.all (vok M.1) = true) (hs : st'.all (vok M.1) = true) (hb : Bu X9 R μ pc' M cells slots) :
    W p l e R s m args below meth c H locs cells slots Q (F0 m pc' LS' (st'.map (rv ad))) := K pc' _ _ M ad LS' H locs cells slots h w ⟨hL.mk fm, all_mk fm ls' hl, hs⟩ hb
theorem s_iadd  (C : Cx p l R s m args meth c D cA A sp L xs μ) (K : Nx X9 p l e R s m args below meth c D cA A sp L xs ad0 n0 μ Q g o) (w : Wd D cA A sp L xs s ad0 n0 (hdl μ = []) ad (n, S, Rf, I, J, Df) H locs) (fr : Fm ad μ LS ls st n) (hb : Bu X9 R μ pc (n, S, Rf, I, J, Df) cells slots) (hd : decode (byt μ) pc = .ok (.iadd, 1)) (hc : cle (cst μ (pc + 1)) (cst μ pc) = true)  (h : acK f g c0 (stA μ pc ls st n S Rf I J Df (.iadd) 1 fm tm a b cc k) = some o) : W p l e R s m args below meth c H locs cells slots Q (F0 m pc LS (st.map (rv ad))) := by
  obtain ⟨x, y, r, rfl, h⟩ := ak_i2 h
  obtain ⟨hL, hl, hs⟩ := fr
  simp only [List.all_cons, Bool.and_eq_true] at hs
  exact lv_iadd C.ex C.by hd (K1 (st' := .int (x + y) :: r) K h w hL hl (by simp only [List.all_cons, Bool.and_eq_true]; exact ⟨rfl, hs.2.2⟩) (hb.go hc))
theorem s_isub  (C : Cx p l R s m args meth c D cA A sp L xs μ) (K : Nx X9 p l e R s m args below meth c D cA A sp L xs ad0 n0 μ Q g o) (w : Wd D cA A sp L xs s ad0 n0 (hdl μ = []) ad (n, S, Rf, I, J, Df) H locs) (fr : Fm ad μ LS ls st n) (hb : Bu X9 R μ pc (n, S, Rf, I, J, Df) cells slots) (hd : decode (byt μ) pc = .ok (.isub, 1)) (hc : cle (cst μ (pc + 1)) (cst μ pc) = true)  (h : acK f g c0 (stA μ pc ls st n S Rf I J Df (.isub) 1 fm tm a b cc k) = some o) : W p l e R s m args below meth c H locs cells slots Q (F0 m pc LS (st.map (rv ad))) := by
  obtain ⟨x, y, r, rfl, h⟩ := ak_i2 h
  obtain ⟨hL, hl, hs⟩ := fr
  simp only [List.all_cons, Bool.and_eq_true] at hs
  exact lv_isub C.ex C.by hd (K1 (st' := .int (x - y) :: r) K h w hL hl (by simp only [List.all_cons, Bool.and_eq_true]; exact ⟨rfl, hs.2.2⟩) (hb.go hc))
theorem s_imul  (C : Cx p l R s m args meth c D cA A sp L xs μ) (K : Nx X9 p l e R s m args below meth c D cA A sp L xs ad0 n0 μ Q g o) (w : Wd D cA A sp L xs s ad0 n0 (hdl μ = []) ad (n, S, Rf, I, J, Df) H locs) (fr : Fm ad μ LS ls st n) (hb : Bu X9 R μ pc (n, S, Rf, I, J, Df) cells slots) (hd : decode (byt μ) pc = .ok (.imul, 1)) (hc : cle (cst μ (pc + 1)) (cst μ pc) = true)  (h : acK f g c0 (stA μ pc ls st n S Rf I J Df (.imul) 1 fm tm a b cc k) = some o) : W p l e R s m args below meth c H locs cells slots Q (F0 m pc LS (st.map (rv ad))) := by
  obtain ⟨x, y, r, rfl, h⟩ := ak_i2 h
  obtain ⟨hL, hl, hs⟩ := fr
  simp only [List.all_cons, Bool.and_eq_true] at hs
  exact lv_imul C.ex C.by hd (K1 (st' := .int (x * y) :: r) K h w hL hl (by simp only [List.all_cons, Bool.and_eq_true]; exact ⟨rfl, hs.2.2⟩) (hb.go hc))
theorem s_iand  (C : Cx p l R s m args meth c D cA A sp L xs μ) (K : Nx X9 p l e R s m args below meth c D cA A sp L xs ad0 n0 μ Q g o) (w : Wd D cA A sp L xs s ad0 n0 (hdl μ = []) ad (n, S, Rf, I, J, Df) H locs) (fr : Fm ad μ LS ls st n) (hb : Bu X9 R μ pc (n, S, Rf, I, J, Df) cells slots) (hd : decode (byt μ) pc = .ok (.iand, 1)) (hc : cle (cst μ (pc + 1)) (cst μ pc) = true)  (h : acK f g c0 (stA μ pc ls st n S Rf I J Df (.iand) 1 fm tm a b cc k) = some o) : W p l e R s m args below meth c H locs cells slots Q (F0 m pc LS (st.map (rv ad))) := by
  obtain ⟨x, y, r, rfl, h⟩ := ak_i2 h
  obtain ⟨hL, hl, hs⟩ := fr
  simp only [List.all_cons, Bool.and_eq_true] at hs
  exact lv_iand C.ex C.by hd (K1 (st' := .int (x &&& y) :: r) K h w hL hl (by simp only [List.all_cons, Bool.and_eq_true]; exact ⟨rfl, hs.2.2⟩) (hb.go hc))
theorem s_ior  (C : Cx p l R s m args meth c D cA A sp L xs μ) (K : Nx X9 p l e R s m args below meth c D cA A sp L xs ad0 n0 μ Q g o) (w : Wd D cA A sp L xs s ad0 n0 (hdl μ = []) ad (n, S, Rf, I, J, Df) H locs) (fr : Fm ad μ LS ls st n) (hb : Bu X9 R μ pc (n, S, Rf, I, J, Df) cells slots) (hd : decode (byt μ) pc = .ok (.ior, 1)) (hc : cle (cst μ (pc + 1)) (cst μ pc) = true)  (h : acK f g c0 (stA μ pc ls st n S Rf I J Df (.ior) 1 fm tm a b cc k) = some o) : W p l e R s m args below meth c H locs cells slots Q (F0 m pc LS (st.map (rv ad))) := by
  obtain ⟨x, y, r, rfl, h⟩ := ak_i2 h
  obtain ⟨hL, hl, hs⟩ := fr
  simp only [List.all_cons, Bool.and_eq_true] at hs
  exact lv_ior C.ex C.by hd (K1 (st' := .int (x ||| y) :: r) K h w hL hl (by simp only [List.all_cons, Bool.and_eq_true]; exact ⟨rfl, hs.2.2⟩) (hb.go hc))
theorem s_ixor  (C : Cx p l R s m args meth c D cA A sp L xs μ) (K : Nx X9 p l e R s m args below meth c D cA A sp L xs ad0 n0 μ Q g o) (w : Wd D cA A sp L xs s ad0 n0 (hdl μ = []) ad (n, S, Rf, I, J, Df) H locs) (fr : Fm ad μ LS ls st n) (hb : Bu X9 R μ pc (n, S, Rf, I, J, Df) cells slots) (hd : decode (byt μ) pc = .ok (.ixor, 1)) (hc : cle (cst μ (pc + 1)) (cst μ pc) = true)  (h : acK f g c0 (stA μ pc ls st n S Rf I J Df (.ixor) 1 fm tm a b cc k) = some o) : W p l e R s m args below meth c H locs cells slots Q (F0 m pc LS (st.map (rv ad))) := by
  obtain ⟨x, y, r, rfl, h⟩ := ak_i2 h
  obtain ⟨hL, hl, hs⟩ := fr
  simp only [List.all_cons, Bool.and_eq_true] at hs
  exact lv_ixor C.ex C.by hd (K1 (st' := .int (x ^^^ y) :: r) K h w hL hl (by simp only [List.all_cons, Bool.and_eq_true]; exact ⟨rfl, hs.2.2⟩) (hb.go hc))
theorem s_ishl  (C : Cx p l R s m args meth c D cA A sp L xs μ) (K : Nx X9 p l e R s m args below meth c D cA A sp L xs ad0 n0 μ Q g o) (w : Wd D cA A sp L xs s ad0 n0 (hdl μ = []) ad (n, S, Rf, I, J, Df) H locs) (fr : Fm ad μ LS ls st n) (hb : Bu X9 R μ pc (n, S, Rf, I, J, Df) cells slots) (hd : decode (byt μ) pc = .ok (.ishl, 1)) (hc : cle (cst μ (pc + 1)) (cst μ pc) = true)  (h : acK f g c0 (stA μ pc ls st n S Rf I J Df (.ishl) 1 fm tm a b cc k) = some o) : W p l e R s m args below meth c H locs cells slots Q (F0 m pc LS (st.map (rv ad))) := by
  obtain ⟨x, y, r, rfl, h⟩ := ak_i2 h
  obtain ⟨hL, hl, hs⟩ := fr
  simp only [List.all_cons, Bool.and_eq_true] at hs
  exact lv_ishl C.ex C.by hd (K1 (st' := .int (x <<< (y &&& 31)) :: r) K h w hL hl (by simp only [List.all_cons, Bool.and_eq_true]; exact ⟨rfl, hs.2.2⟩) (hb.go hc))
theorem s_ishr  (C : Cx p l R s m args meth c D cA A sp L xs μ) (K : Nx X9 p l e R s m args below meth c D cA A sp L xs ad0 n0 μ Q g o) (w : Wd D cA A sp L xs s ad0 n0 (hdl μ = []) ad (n, S, Rf, I, J, Df) H locs) (fr : Fm ad μ LS ls st n) (hb : Bu X9 R μ pc (n, S, Rf, I, J, Df) cells slots) (hd : decode (byt μ) pc = .ok (.ishr, 1)) (hc : cle (cst μ (pc + 1)) (cst μ pc) = true)  (h : acK f g c0 (stA μ pc ls st n S Rf I J Df (.ishr) 1 fm tm a b cc k) = some o) : W p l e R s m args below meth c H locs cells slots Q (F0 m pc LS (st.map (rv ad))) := by
  obtain ⟨x, y, r, rfl, h⟩ := ak_i2 h
  obtain ⟨hL, hl, hs⟩ := fr
  simp only [List.all_cons, Bool.and_eq_true] at hs
  exact lv_ishr C.ex C.by hd (K1 (st' := .int (x >>> (y &&& 31)) :: r) K h w hL hl (by simp only [List.all_cons, Bool.and_eq_true]; exact ⟨rfl, hs.2.2⟩) (hb.go hc))
theorem s_iushr  (C : Cx p l R s m args meth c D cA A sp L xs μ) (K : Nx X9 p l e R s m args below meth c D cA A sp L xs ad0 n0 μ Q g o) (w : Wd D cA A sp L xs s ad0 n0 (hdl μ = []) ad (n, S, Rf, I, J, Df) H locs) (fr : Fm ad μ LS ls st n) (hb : Bu X9 R μ pc (n, S, Rf, I, J, Df) cells slots) (hd : decode (byt μ) pc = .ok (.iushr, 1)) (hc : cle (cst μ (pc + 1)) (cst μ pc) = true)  (h : acK f g c0 (stA μ pc ls st n S Rf I J Df (.iushr) 1 fm tm a b cc k) = some o) : W p l e R s m args below meth c H locs cells slots Q (F0 m pc LS (st.map (rv ad))) := by
  obtain ⟨x, y, r, rfl, h⟩ := ak_i2 h
  obtain ⟨hL, hl, hs⟩ := fr
  simp only [List.all_cons, Bool.and_eq_true] at hs
  exact lv_iushr C.ex C.by hd rfl (K1 (st' := .int ((x.toUInt32 >>> (y.toUInt32 &&& Int32.toUInt32 31)).toInt32) :: r) K h w hL hl (by simp only [List.all_cons, Bool.and_eq_true]; exact ⟨rfl, hs.2.2⟩) (hb.go hc))
theorem s_idiv  (C : Cx p l R s m args meth c D cA A sp L xs μ) (K : Nx X9 p l e R s m args below meth c D cA A sp L xs ad0 n0 μ Q g o) (w : Wd D cA A sp L xs s ad0 n0 (hdl μ = []) ad (n, S, Rf, I, J, Df) H locs) (fr : Fm ad μ LS ls st n) (hb : Bu X9 R μ pc (n, S, Rf, I, J, Df) cells slots) (hd : decode (byt μ) pc = .ok (.idiv, 1)) (hc : cle (cst μ (pc + 1)) (cst μ pc) = true)  (h : acK f g c0 (stA μ pc ls st n S Rf I J Df (.idiv) 1 fm tm a b cc k) = some o) : W p l e R s m args below meth c H locs cells slots Q (F0 m pc LS (st.map (rv ad))) := by
  obtain ⟨x, y, r, rfl, h⟩ := ak_i2 h
  obtain ⟨hy, h⟩ := ak_gd h
  obtain ⟨hL, hl, hs⟩ := fr
  simp only [List.all_cons, Bool.and_eq_true] at hs
  exact lv_idiv C.ex C.by hd (of_decide_eq_true hy) (K1 (st' := .int (x / y) :: r) K h w hL hl (by simp only [List.all_cons, Bool.and_eq_true]; exact ⟨rfl, hs.2.2⟩) (hb.go hc))
theorem s_irem  (C : Cx p l R s m args meth c D cA A sp L xs μ) (K : Nx X9 p l e R s m args below meth c D cA A sp L xs ad0 n0 μ Q g o) (w : Wd D cA A sp L xs s ad0 n0 (hdl μ = []) ad (n, S, Rf, I, J, Df) H locs) (fr : Fm ad μ LS ls st n) (hb : Bu X9 R μ pc (n, S, Rf, I, J, Df) cells slots) (hd : decode (byt μ) pc = .ok (.irem, 1)) (hc : cle (cst μ (pc + 1)) (cst μ pc) = true)  (h : acK f g c0 (stA μ pc ls st n S Rf I J Df (.irem) 1 fm tm a b cc k) = some o) : W p l e R s m args below meth c H locs cells slots Q (F0 m pc LS (st.map (rv ad))) := by
  obtain ⟨x, y, r, rfl, h⟩ := ak_i2 h
  obtain ⟨hy, h⟩ := ak_gd h
  obtain ⟨hL, hl, hs⟩ := fr
  simp only [List.all_cons, Bool.and_eq_true] at hs
  exact lv_irem C.ex C.by hd (of_decide_eq_true hy) (K1 (st' := .int (x - x / y * y) :: r) K h w hL hl (by simp only [List.all_cons, Bool.and_eq_true]; exact ⟨rfl, hs.2.2⟩) (hb.go hc))
theorem s_ineg  (C : Cx p l R s m args meth c D cA A sp L xs μ) (K : Nx X9 p l e R s m args below meth c D cA A sp L xs ad0 n0 μ Q g o) (w : Wd D cA A sp L xs s ad0 n0 (hdl μ = []) ad (n, S, Rf, I, J, Df) H locs) (fr : Fm ad μ LS ls st n) (hb : Bu X9 R μ pc (n, S, Rf, I, J, Df) cells slots) (hd : decode (byt μ) pc = .ok (.ineg, 1)) (hc : cle (cst μ (pc + 1)) (cst μ pc) = true)  (h : acK f g c0 (stA μ pc ls st n S Rf I J Df (.ineg) 1 fm tm a b cc k) = some o) : W p l e R s m args below meth c H locs cells slots Q (F0 m pc LS (st.map (rv ad))) := by
  obtain ⟨x, r, rfl, h⟩ := ak_i1 h
  obtain ⟨hL, hl, hs⟩ := fr
  simp only [List.all_cons, Bool.and_eq_true] at hs
  exact lv_ineg C.ex C.by hd (K1 (st' := .int (-x) :: r) K h w hL hl (by simp only [List.all_cons, Bool.and_eq_true]; exact ⟨rfl, hs.2⟩) (hb.go hc))
theorem s_ladd  (C : Cx p l R s m args meth c D cA A sp L xs μ) (K : Nx X9 p l e R s m args below meth c D cA A sp L xs ad0 n0 μ Q g o) (w : Wd D cA A sp L xs s ad0 n0 (hdl μ = []) ad (n, S, Rf, I, J, Df) H locs) (fr : Fm ad μ LS ls st n) (hb : Bu X9 R μ pc (n, S, Rf, I, J, Df) cells slots) (hd : decode (byt μ) pc = .ok (.ladd, 1)) (hc : cle (cst μ (pc + 1)) (cst μ pc) = true)  (h : acK f g c0 (stA μ pc ls st n S Rf I J Df (.ladd) 1 fm tm a b cc k) = some o) : W p l e R s m args below meth c H locs cells slots Q (F0 m pc LS (st.map (rv ad))) := by
  obtain ⟨x, y, r, rfl, h⟩ := ak_l2 h
  obtain ⟨hL, hl, hs⟩ := fr
  simp only [List.all_cons, Bool.and_eq_true] at hs
  exact lv_ladd C.ex C.by hd (K1 (st' := .long (x + y) :: r) K h w hL hl (by simp only [List.all_cons, Bool.and_eq_true]; exact ⟨rfl, hs.2.2⟩) (hb.go hc))
theorem s_lsub  (C : Cx p l R s m args meth c D cA A sp L xs μ) (K : Nx X9 p l e R s m args below meth c D cA A sp L xs ad0 n0 μ Q g o) (w : Wd D cA A sp L xs s ad0 n0 (hdl μ = []) ad (n, S, Rf, I, J, Df) H locs) (fr : Fm ad μ LS ls st n) (hb : Bu X9 R μ pc (n, S, Rf, I, J, Df) cells slots) (hd : decode (byt μ) pc = .ok (.lsub, 1)) (hc : cle (cst μ (pc + 1)) (cst μ pc) = true)  (h : acK f g c0 (stA μ pc ls st n S Rf I J Df (.lsub) 1 fm tm a b cc k) = some o) : W p l e R s m args below meth c H locs cells slots Q (F0 m pc LS (st.map (rv ad))) := by
  obtain ⟨x, y, r, rfl, h⟩ := ak_l2 h
  obtain ⟨hL, hl, hs⟩ := fr
  simp only [List.all_cons, Bool.and_eq_true] at hs
  exact lv_lsub C.ex C.by hd (K1 (st' := .long (x - y) :: r) K h w hL hl (by simp only [List.all_cons, Bool.and_eq_true]; exact ⟨rfl, hs.2.2⟩) (hb.go hc))
theorem s_lmul  (C : Cx p l R s m args meth c D cA A sp L xs μ) (K : Nx X9 p l e R s m args below meth c D cA A sp L xs ad0 n0 μ Q g o) (w : Wd D cA A sp L xs s ad0 n0 (hdl μ = []) ad (n, S, Rf, I, J, Df) H locs) (fr : Fm ad μ LS ls st n) (hb : Bu X9 R μ pc (n, S, Rf, I, J, Df) cells slots) (hd : decode (byt μ) pc = .ok (.lmul, 1)) (hc : cle (cst μ (pc + 1)) (cst μ pc) = true)  (h : acK f g c0 (stA μ pc ls st n S Rf I J Df (.lmul) 1 fm tm a b cc k) = some o) : W p l e R s m args below meth c H locs cells slots Q (F0 m pc LS (st.map (rv ad))) := by
  obtain ⟨x, y, r, rfl, h⟩ := ak_l2 h
  obtain ⟨hL, hl, hs⟩ := fr
  simp only [List.all_cons, Bool.and_eq_true] at hs
  exact lv_lmul C.ex C.by hd (K1 (st' := .long (x * y) :: r) K h w hL hl (by simp only [List.all_cons, Bool.and_eq_true]; exact ⟨rfl, hs.2.2⟩) (hb.go hc))
theorem s_land  (C : Cx p l R s m args meth c D cA A sp L xs μ) (K : Nx X9 p l e R s m args below meth c D cA A sp L xs ad0 n0 μ Q g o) (w : Wd D cA A sp L xs s ad0 n0 (hdl μ = []) ad (n, S, Rf, I, J, Df) H locs) (fr : Fm ad μ LS ls st n) (hb : Bu X9 R μ pc (n, S, Rf, I, J, Df) cells slots) (hd : decode (byt μ) pc = .ok (.land, 1)) (hc : cle (cst μ (pc + 1)) (cst μ pc) = true)  (h : acK f g c0 (stA μ pc ls st n S Rf I J Df (.land) 1 fm tm a b cc k) = some o) : W p l e R s m args below meth c H locs cells slots Q (F0 m pc LS (st.map (rv ad))) := by
  obtain ⟨x, y, r, rfl, h⟩ := ak_l2 h
  obtain ⟨hL, hl, hs⟩ := fr
  simp only [List.all_cons, Bool.and_eq_true] at hs
  exact lv_land C.ex C.by hd (K1 (st' := .long (x &&& y) :: r) K h w hL hl (by simp only [List.all_cons, Bool.and_eq_true]; exact ⟨rfl, hs.2.2⟩) (hb.go hc))
theorem s_lor  (C : Cx p l R s m args meth c D cA A sp L xs μ) (K : Nx X9 p l e R s m args below meth c D cA A sp L xs ad0 n0 μ Q g o) (w : Wd D cA A sp L xs s ad0 n0 (hdl μ = []) ad (n, S, Rf, I, J, Df) H locs) (fr : Fm ad μ LS ls st n) (hb : Bu X9 R μ pc (n, S, Rf, I, J, Df) cells slots) (hd : decode (byt μ) pc = .ok (.lor, 1)) (hc : cle (cst μ (pc + 1)) (cst μ pc) = true)  (h : acK f g c0 (stA μ pc ls st n S Rf I J Df (.lor) 1 fm tm a b cc k) = some o) : W p l e R s m args below meth c H locs cells slots Q (F0 m pc LS (st.map (rv ad))) := by
  obtain ⟨x, y, r, rfl, h⟩ := ak_l2 h
  obtain ⟨hL, hl, hs⟩ := fr
  simp only [List.all_cons, Bool.and_eq_true] at hs
  exact lv_lor C.ex C.by hd (K1 (st' := .long (x ||| y) :: r) K h w hL hl (by simp only [List.all_cons, Bool.and_eq_true]; exact ⟨rfl, hs.2.2⟩) (hb.go hc))
theorem s_lneg  (C : Cx p l R s m args meth c D cA A sp L xs μ) (K : Nx X9 p l e R s m args below meth c D cA A sp L xs ad0 n0 μ Q g o) (w : Wd D cA A sp L xs s ad0 n0 (hdl μ = []) ad (n, S, Rf, I, J, Df) H locs) (fr : Fm ad μ LS ls st n) (hb : Bu X9 R μ pc (n, S, Rf, I, J, Df) cells slots) (hd : decode (byt μ) pc = .ok (.lneg, 1)) (hc : cle (cst μ (pc + 1)) (cst μ pc) = true)  (h : acK f g c0 (stA μ pc ls st n S Rf I J Df (.lneg) 1 fm tm a b cc k) = some o) : W p l e R s m args below meth c H locs cells slots Q (F0 m pc LS (st.map (rv ad))) := by
  obtain ⟨x, r, rfl, h⟩ := ak_l1 h
  obtain ⟨hL, hl, hs⟩ := fr
  simp only [List.all_cons, Bool.and_eq_true] at hs
  exact lv_lneg C.ex C.by hd (K1 (st' := .long (-x) :: r) K h w hL hl (by simp only [List.all_cons, Bool.and_eq_true]; exact ⟨rfl, hs.2⟩) (hb.go hc))
theorem s_lshl  (C : Cx p l R s m args meth c D cA A sp L xs μ) (K : Nx X9 p l e R s m args below meth c D cA A sp L xs ad0 n0 μ Q g o) (w : Wd D cA A sp L xs s ad0 n0 (hdl μ = []) ad (n, S, Rf, I, J, Df) H locs) (fr : Fm ad μ LS ls st n) (hb : Bu X9 R μ pc (n, S, Rf, I, J, Df) cells slots) (hd : decode (byt μ) pc = .ok (.lshl, 1)) (hc : cle (cst μ (pc + 1)) (cst μ pc) = true)  (h : acK f g c0 (stA μ pc ls st n S Rf I J Df (.lshl) 1 fm tm a b cc k) = some o) : W p l e R s m args below meth c H locs cells slots Q (F0 m pc LS (st.map (rv ad))) := by
  obtain ⟨v, w1, r, rfl, h⟩ := ak_f2 h
  obtain ⟨y, rfl, h⟩ := ak_fI h
  obtain ⟨x, rfl, h⟩ := ak_fL h
  obtain ⟨hL, hl, hs⟩ := fr
  simp only [List.all_cons, Bool.and_eq_true] at hs
  exact lv_lshl C.ex C.by hd rfl (K1 (st' := .long (x <<< (y.toInt64 &&& 63)) :: r) K h w hL hl (by simp only [List.all_cons, Bool.and_eq_true]; exact ⟨rfl, hs.2.2⟩) (hb.go hc))
theorem s_lshr  (C : Cx p l R s m args meth c D cA A sp L xs μ) (K : Nx X9 p l e R s m args below meth c D cA A sp L xs ad0 n0 μ Q g o) (w : Wd D cA A sp L xs s ad0 n0 (hdl μ = []) ad (n, S, Rf, I, J, Df) H locs) (fr : Fm ad μ LS ls st n) (hb : Bu X9 R μ pc (n, S, Rf, I, J, Df) cells slots) (hd : decode (byt μ) pc = .ok (.lshr, 1)) (hc : cle (cst μ (pc + 1)) (cst μ pc) = true)  (h : acK f g c0 (stA μ pc ls st n S Rf I J Df (.lshr) 1 fm tm a b cc k) = some o) : W p l e R s m args below meth c H locs cells slots Q (F0 m pc LS (st.map (rv ad))) := by
  obtain ⟨v, w1, r, rfl, h⟩ := ak_f2 h
  obtain ⟨y, rfl, h⟩ := ak_fI h
  obtain ⟨x, rfl, h⟩ := ak_fL h
  obtain ⟨hL, hl, hs⟩ := fr
  simp only [List.all_cons, Bool.and_eq_true] at hs
  exact lv_lshr C.ex C.by hd rfl (K1 (st' := .long (x >>> (y.toInt64 &&& 63)) :: r) K h w hL hl (by simp only [List.all_cons, Bool.and_eq_true]; exact ⟨rfl, hs.2.2⟩) (hb.go hc))
theorem s_lushr  (C : Cx p l R s m args meth c D cA A sp L xs μ) (K : Nx X9 p l e R s m args below meth c D cA A sp L xs ad0 n0 μ Q g o) (w : Wd D cA A sp L xs s ad0 n0 (hdl μ = []) ad (n, S, Rf, I, J, Df) H locs) (fr : Fm ad μ LS ls st n) (hb : Bu X9 R μ pc (n, S, Rf, I, J, Df) cells slots) (hd : decode (byt μ) pc = .ok (.lushr, 1)) (hc : cle (cst μ (pc + 1)) (cst μ pc) = true)  (h : acK f g c0 (stA μ pc ls st n S Rf I J Df (.lushr) 1 fm tm a b cc k) = some o) : W p l e R s m args below meth c H locs cells slots Q (F0 m pc LS (st.map (rv ad))) := by
  obtain ⟨v, w1, r, rfl, h⟩ := ak_f2 h
  obtain ⟨y, rfl, h⟩ := ak_fI h
  obtain ⟨x, rfl, h⟩ := ak_fL h
  obtain ⟨hL, hl, hs⟩ := fr
  simp only [List.all_cons, Bool.and_eq_true] at hs
  exact lv_lushr C.ex C.by hd rfl (K1 (st' := .long ((x.toUInt64 >>> (y.toInt64.toUInt64 &&& Int64.toUInt64 63)).toInt64) :: r) K h w hL hl (by simp only [List.all_cons, Bool.and_eq_true]; exact ⟨rfl, hs.2.2⟩) (hb.go hc))
theorem s_lcmp  (C : Cx p l R s m args meth c D cA A sp L xs μ) (K : Nx X9 p l e R s m args below meth c D cA A sp L xs ad0 n0 μ Q g o) (w : Wd D cA A sp L xs s ad0 n0 (hdl μ = []) ad (n, S, Rf, I, J, Df) H locs) (fr : Fm ad μ LS ls st n) (hb : Bu X9 R μ pc (n, S, Rf, I, J, Df) cells slots) (hd : decode (byt μ) pc = .ok (.lcmp, 1)) (hc : cle (cst μ (pc + 1)) (cst μ pc) = true)  (h : acK f g c0 (stA μ pc ls st n S Rf I J Df (.lcmp) 1 fm tm a b cc k) = some o) : W p l e R s m args below meth c H locs cells slots Q (F0 m pc LS (st.map (rv ad))) := by
  obtain ⟨x, y, r, rfl, h⟩ := ak_l2 h
  obtain ⟨hL, hl, hs⟩ := fr
  simp only [List.all_cons, Bool.and_eq_true] at hs
  exact W.lcmp C.ex C.by hd (K1 (st' := .int (lg_cmp x y) :: r) K h w hL hl (by simp only [List.all_cons, Bool.and_eq_true]; exact ⟨rfl, hs.2.2⟩) (hb.go hc))
theorem s_i2l  (C : Cx p l R s m args meth c D cA A sp L xs μ) (K : Nx X9 p l e R s m args below meth c D cA A sp L xs ad0 n0 μ Q g o) (w : Wd D cA A sp L xs s ad0 n0 (hdl μ = []) ad (n, S, Rf, I, J, Df) H locs) (fr : Fm ad μ LS ls st n) (hb : Bu X9 R μ pc (n, S, Rf, I, J, Df) cells slots) (hd : decode (byt μ) pc = .ok (.i2l, 1)) (hc : cle (cst μ (pc + 1)) (cst μ pc) = true)  (h : acK f g c0 (stA μ pc ls st n S Rf I J Df (.i2l) 1 fm tm a b cc k) = some o) : W p l e R s m args below meth c H locs cells slots Q (F0 m pc LS (st.map (rv ad))) := by
  obtain ⟨x, r, rfl, h⟩ := ak_i1 h
  obtain ⟨hL, hl, hs⟩ := fr
  simp only [List.all_cons, Bool.and_eq_true] at hs
  exact lv_i2l C.ex C.by hd rfl (K1 (st' := .long x.toInt64 :: r) K h w hL hl (by simp only [List.all_cons, Bool.and_eq_true]; exact ⟨rfl, hs.2⟩) (hb.go hc))
theorem s_l2i  (C : Cx p l R s m args meth c D cA A sp L xs μ) (K : Nx X9 p l e R s m args below meth c D cA A sp L xs ad0 n0 μ Q g o) (w : Wd D cA A sp L xs s ad0 n0 (hdl μ = []) ad (n, S, Rf, I, J, Df) H locs) (fr : Fm ad μ LS ls st n) (hb : Bu X9 R μ pc (n, S, Rf, I, J, Df) cells slots) (hd : decode (byt μ) pc = .ok (.l2i, 1)) (hc : cle (cst μ (pc + 1)) (cst μ pc) = true)  (h : acK f g c0 (stA μ pc ls st n S Rf I J Df (.l2i) 1 fm tm a b cc k) = some o) : W p l e R s m args below meth c H locs cells slots Q (F0 m pc LS (st.map (rv ad))) := by
  obtain ⟨x, r, rfl, h⟩ := ak_l1 h
  obtain ⟨hL, hl, hs⟩ := fr
  simp only [List.all_cons, Bool.and_eq_true] at hs
  exact lv_l2i C.ex C.by hd rfl (K1 (st' := .int x.toInt32 :: r) K h w hL hl (by simp only [List.all_cons, Bool.and_eq_true]; exact ⟨rfl, hs.2⟩) (hb.go hc))
theorem s_i2c  (C : Cx p l R s m args meth c D cA A sp L xs μ) (K : Nx X9 p l e R s m args below meth c D cA A sp L xs ad0 n0 μ Q g o) (w : Wd D cA A sp L xs s ad0 n0 (hdl μ = []) ad (n, S, Rf, I, J, Df) H locs) (fr : Fm ad μ LS ls st n) (hb : Bu X9 R μ pc (n, S, Rf, I, J, Df) cells slots) (hd : decode (byt μ) pc = .ok (.i2c, 1)) (hc : cle (cst μ (pc + 1)) (cst μ pc) = true)  (h : acK f g c0 (stA μ pc ls st n S Rf I J Df (.i2c) 1 fm tm a b cc k) = some o) : W p l e R s m args below meth c H locs cells slots Q (F0 m pc LS (st.map (rv ad))) := by
  obtain ⟨x, r, rfl, h⟩ := ak_i1 h
  obtain ⟨hL, hl, hs⟩ := fr
  simp only [List.all_cons, Bool.and_eq_true] at hs
  exact lv_i2c C.ex C.by hd rfl (K1 (st' := .int ((x.toUInt32 % 65536).toInt32) :: r) K h w hL hl (by simp only [List.all_cons, Bool.and_eq_true]; exact ⟨rfl, hs.2⟩) (hb.go hc))
theorem s_i2d  (C : Cx p l R s m args meth c D cA A sp L xs μ) (K : Nx X9 p l e R s m args below meth c D cA A sp L xs ad0 n0 μ Q g o) (w : Wd D cA A sp L xs s ad0 n0 (hdl μ = []) ad (n, S, Rf, I, J, Df) H locs) (fr : Fm ad μ LS ls st n) (hb : Bu X9 R μ pc (n, S, Rf, I, J, Df) cells slots) (hd : decode (byt μ) pc = .ok (.i2d, 1)) (hc : cle (cst μ (pc + 1)) (cst μ pc) = true)  (h : acK f g c0 (stA μ pc ls st n S Rf I J Df (.i2d) 1 fm tm a b cc k) = some o) : W p l e R s m args below meth c H locs cells slots Q (F0 m pc LS (st.map (rv ad))) := by
  obtain ⟨x, r, rfl, h⟩ := ak_i1 h
  obtain ⟨hL, hl, hs⟩ := fr
  simp only [List.all_cons, Bool.and_eq_true] at hs
  exact lv_i2d C.ex C.by hd (K1 (st' := .double (FP.i2d x) :: r) K h w hL hl (by simp only [List.all_cons, Bool.and_eq_true]; exact ⟨rfl, hs.2⟩) (hb.go hc))
theorem s_i2f  (C : Cx p l R s m args meth c D cA A sp L xs μ) (K : Nx X9 p l e R s m args below meth c D cA A sp L xs ad0 n0 μ Q g o) (w : Wd D cA A sp L xs s ad0 n0 (hdl μ = []) ad (n, S, Rf, I, J, Df) H locs) (fr : Fm ad μ LS ls st n) (hb : Bu X9 R μ pc (n, S, Rf, I, J, Df) cells slots) (hd : decode (byt μ) pc = .ok (.i2f, 1)) (hc : cle (cst μ (pc + 1)) (cst μ pc) = true)  (h : acK f g c0 (stA μ pc ls st n S Rf I J Df (.i2f) 1 fm tm a b cc k) = some o) : W p l e R s m args below meth c H locs cells slots Q (F0 m pc LS (st.map (rv ad))) := by
  obtain ⟨x, r, rfl, h⟩ := ak_i1 h
  obtain ⟨hL, hl, hs⟩ := fr
  simp only [List.all_cons, Bool.and_eq_true] at hs
  exact lv_i2f C.ex C.by hd (K1 (st' := .float (FP.i2f x) :: r) K h w hL hl (by simp only [List.all_cons, Bool.and_eq_true]; exact ⟨rfl, hs.2⟩) (hb.go hc))
theorem s_f2d  (C : Cx p l R s m args meth c D cA A sp L xs μ) (K : Nx X9 p l e R s m args below meth c D cA A sp L xs ad0 n0 μ Q g o) (w : Wd D cA A sp L xs s ad0 n0 (hdl μ = []) ad (n, S, Rf, I, J, Df) H locs) (fr : Fm ad μ LS ls st n) (hb : Bu X9 R μ pc (n, S, Rf, I, J, Df) cells slots) (hd : decode (byt μ) pc = .ok (.f2d, 1)) (hc : cle (cst μ (pc + 1)) (cst μ pc) = true)  (h : acK f g c0 (stA μ pc ls st n S Rf I J Df (.f2d) 1 fm tm a b cc k) = some o) : W p l e R s m args below meth c H locs cells slots Q (F0 m pc LS (st.map (rv ad))) := by
  obtain ⟨v, r, rfl, h⟩ := ak_f1 h
  obtain ⟨x, rfl, h⟩ := ak_fF h
  obtain ⟨hy, h⟩ := ak_gd h
  obtain ⟨hL, hl, hs⟩ := fr
  simp only [List.all_cons, Bool.and_eq_true] at hs
  exact lv_f2d C.ex C.by hd (ok64_n hy) (K1 (st' := .double (FP.f2d x) :: r) K h w hL hl (by simp only [List.all_cons, Bool.and_eq_true]; exact ⟨rfl, hs.2⟩) (hb.go hc))
theorem s_ddiv  (C : Cx p l R s m args meth c D cA A sp L xs μ) (K : Nx X9 p l e R s m args below meth c D cA A sp L xs ad0 n0 μ Q g o) (w : Wd D cA A sp L xs s ad0 n0 (hdl μ = []) ad (n, S, Rf, I, J, Df) H locs) (fr : Fm ad μ LS ls st n) (hb : Bu X9 R μ pc (n, S, Rf, I, J, Df) cells slots) (hd : decode (byt μ) pc = .ok (.ddiv, 1)) (hc : cle (cst μ (pc + 1)) (cst μ pc) = true)  (h : acK f g c0 (stA μ pc ls st n S Rf I J Df (.ddiv) 1 fm tm a b cc k) = some o) : W p l e R s m args below meth c H locs cells slots Q (F0 m pc LS (st.map (rv ad))) := by
  obtain ⟨v, w1, r, rfl, h⟩ := ak_f2 h
  obtain ⟨y, rfl, h⟩ := ak_fD h
  obtain ⟨x, rfl, h⟩ := ak_fD h
  obtain ⟨hy, h⟩ := ak_gd h
  obtain ⟨hL, hl, hs⟩ := fr
  simp only [List.all_cons, Bool.and_eq_true] at hs
  exact lv_ddiv C.ex C.by hd (ok64_n hy) (K1 (st' := .double (FP.ddiv x y) :: r) K h w hL hl (by simp only [List.all_cons, Bool.and_eq_true]; exact ⟨rfl, hs.2.2⟩) (hb.go hc))
theorem s_fdiv  (C : Cx p l R s m args meth c D cA A sp L xs μ) (K : Nx X9 p l e R s m args below meth c D cA A sp L xs ad0 n0 μ Q g o) (w : Wd D cA A sp L xs s ad0 n0 (hdl μ = []) ad (n, S, Rf, I, J, Df) H locs) (fr : Fm ad μ LS ls st n) (hb : Bu X9 R μ pc (n, S, Rf, I, J, Df) cells slots) (hd : decode (byt μ) pc = .ok (.fdiv, 1)) (hc : cle (cst μ (pc + 1)) (cst μ pc) = true)  (h : acK f g c0 (stA μ pc ls st n S Rf I J Df (.fdiv) 1 fm tm a b cc k) = some o) : W p l e R s m args below meth c H locs cells slots Q (F0 m pc LS (st.map (rv ad))) := by
  obtain ⟨v, w1, r, rfl, h⟩ := ak_f2 h
  obtain ⟨y, rfl, h⟩ := ak_fF h
  obtain ⟨x, rfl, h⟩ := ak_fF h
  obtain ⟨hy, h⟩ := ak_gd h
  obtain ⟨hL, hl, hs⟩ := fr
  simp only [List.all_cons, Bool.and_eq_true] at hs
  exact lv_fdiv C.ex C.by hd (ok32_n hy) (K1 (st' := .float (FP.fdiv x y) :: r) K h w hL hl (by simp only [List.all_cons, Bool.and_eq_true]; exact ⟨rfl, hs.2.2⟩) (hb.go hc))
theorem s_dcmp {op : CmpOp} (C : Cx p l R s m args meth c D cA A sp L xs μ) (K : Nx X9 p l e R s m args below meth c D cA A sp L xs ad0 n0 μ Q g o) (w : Wd D cA A sp L xs s ad0 n0 (hdl μ = []) ad (n, S, Rf, I, J, Df) H locs) (fr : Fm ad μ LS ls st n) (hb : Bu X9 R μ pc (n, S, Rf, I, J, Df) cells slots) (hd : decode (byt μ) pc = .ok (.dcmp op, 1)) (hc : cle (cst μ (pc + 1)) (cst μ pc) = true)  (h : acK f g c0 (stA μ pc ls st n S Rf I J Df (.dcmp op) 1 fm tm a b cc k) = some o) : W p l e R s m args below meth c H locs cells slots Q (F0 m pc LS (st.map (rv ad))) := by
  obtain ⟨v, w1, r, rfl, h⟩ := ak_f2 h
  obtain ⟨y, rfl, h⟩ := ak_fD h
  obtain ⟨x, rfl, h⟩ := ak_fD h
  obtain ⟨hL, hl, hs⟩ := fr
  simp only [List.all_cons, Bool.and_eq_true] at hs
  exact lv_dcmp C.ex C.by hd (K1 (st' := .int (Op.cmpValue (FP.dcmp x y) op) :: r) K h w hL hl (by simp only [List.all_cons, Bool.and_eq_true]; exact ⟨rfl, hs.2.2⟩) (hb.go hc))
theorem s_iconst {q : Int} (C : Cx p l R s m args meth c D cA A sp L xs μ) (K : Nx X9 p l e R s m args below meth c D cA A sp L xs ad0 n0 μ Q g o) (w : Wd D cA A sp L xs s ad0 n0 (hdl μ = []) ad (n, S, Rf, I, J, Df) H locs) (fr : Fm ad μ LS ls st n) (hb : Bu X9 R μ pc (n, S, Rf, I, J, Df) cells slots) (hd : decode (byt μ) pc = .ok (.iconst q, 1)) (hc : cle (cst μ (pc + 1)) (cst μ pc) = true) (hk : Int32.ofInt q = k) (h : acK f g c0 (stA μ pc ls st n S Rf I J Df (.iconst q) 1 fm tm a b cc k) = some o) : W p l e R s m args below meth c H locs cells slots Q (F0 m pc LS (st.map (rv ad))) := by
  obtain ⟨hL, hl, hs⟩ := fr
  exact lv_iconst C.ex C.by hd hk (K1 (st' := .int k :: st) K h w hL hl (by simp only [List.all_cons, Bool.and_eq_true]; exact ⟨rfl, hs⟩) (hb.go hc))
theorem s_bipush {q : Int} (C : Cx p l R s m args meth c D cA A sp L xs μ) (K : Nx X9 p l e R s m args below meth c D cA A sp L xs ad0 n0 μ Q g o) (w : Wd D cA A sp L xs s ad0 n0 (hdl μ = []) ad (n, S, Rf, I, J, Df) H locs) (fr : Fm ad μ LS ls st n) (hb : Bu X9 R μ pc (n, S, Rf, I, J, Df) cells slots) (hd : decode (byt μ) pc = .ok (.bipush q, 2)) (hc : cle (cst μ (pc + 2)) (cst μ pc) = true) (hk : (Int8.ofInt q).toInt32 = k) (h : acK f g c0 (stA μ pc ls st n S Rf I J Df (.bipush q) 2 fm tm a b cc k) = some o) : W p l e R s m args below meth c H locs cells slots Q (F0 m pc LS (st.map (rv ad))) := by
  obtain ⟨hL, hl, hs⟩ := fr
  exact lv_bipush C.ex C.by hd hk (K1 (st' := .int k :: st) K h w hL hl (by simp only [List.all_cons, Bool.and_eq_true]; exact ⟨rfl, hs⟩) (hb.go hc))
theorem s_sipush {q : Int} (C : Cx p l R s m args meth c D cA A sp L xs μ) (K : Nx X9 p l e R s m args below meth c D cA A sp L xs ad0 n0 μ Q g o) (w : Wd D cA A sp L xs s ad0 n0 (hdl μ = []) ad (n, S, Rf, I, J, Df) H locs) (fr : Fm ad μ LS ls st n) (hb : Bu X9 R μ pc (n, S, Rf, I, J, Df) cells slots) (hd : decode (byt μ) pc = .ok (.sipush q, 3)) (hc : cle (cst μ (pc + 3)) (cst μ pc) = true) (hk : (Int16.ofInt q).toInt32 = k) (h : acK f g c0 (stA μ pc ls st n S Rf I J Df (.sipush q) 3 fm tm a b cc k) = some o) : W p l e R s m args below meth c H locs cells slots Q (F0 m pc LS (st.map (rv ad))) := by
  obtain ⟨hL, hl, hs⟩ := fr
  exact lv_sipush C.ex C.by hd hk (K1 (st' := .int k :: st) K h w hL hl (by simp only [List.all_cons, Bool.and_eq_true]; exact ⟨rfl, hs⟩) (hb.go hc))
theorem s_lconst {q : Fin 2} (C : Cx p l R s m args meth c D cA A sp L xs μ) (K : Nx X9 p l e R s m args below meth c D cA A sp L xs ad0 n0 μ Q g o) (w : Wd D cA A sp L xs s ad0 n0 (hdl μ = []) ad (n, S, Rf, I, J, Df) H locs) (fr : Fm ad μ LS ls st n) (hb : Bu X9 R μ pc (n, S, Rf, I, J, Df) cells slots) (hd : decode (byt μ) pc = .ok (.lconst q, 1)) (hc : cle (cst μ (pc + 1)) (cst μ pc) = true)  (h : acK f g c0 (stA μ pc ls st n S Rf I J Df (.lconst q) 1 fm tm a b cc k) = some o) : W p l e R s m args below meth c H locs cells slots Q (F0 m pc LS (st.map (rv ad))) := by
  obtain ⟨hL, hl, hs⟩ := fr
  exact lv_lconst C.ex C.by hd rfl (K1 (st' := .long (Int64.ofNat q.val) :: st) K h w hL hl (by simp only [List.all_cons, Bool.and_eq_true]; exact ⟨rfl, hs⟩) (hb.go hc))
theorem s_fconst {q : Fin 3} (C : Cx p l R s m args meth c D cA A sp L xs μ) (K : Nx X9 p l e R s m args below meth c D cA A sp L xs ad0 n0 μ Q g o) (w : Wd D cA A sp L xs s ad0 n0 (hdl μ = []) ad (n, S, Rf, I, J, Df) H locs) (fr : Fm ad μ LS ls st n) (hb : Bu X9 R μ pc (n, S, Rf, I, J, Df) cells slots) (hd : decode (byt μ) pc = .ok (.fconst q, 1)) (hc : cle (cst μ (pc + 1)) (cst μ pc) = true) (hq : q = 0) (h : acK f g c0 (stA μ pc ls st n S Rf I J Df (.fconst q) 1 fm tm a b cc k) = some o) : W p l e R s m args below meth c H locs cells slots Q (F0 m pc LS (st.map (rv ad))) := by
  subst hq
  obtain ⟨-, h⟩ := ak_ifh h
  obtain ⟨hL, hl, hs⟩ := fr
  exact lv_fconst0 C.ex C.by hd (K1 (st' := .float FP.fconst0 :: st) K h w hL hl (by simp only [List.all_cons, Bool.and_eq_true]; exact ⟨rfl, hs⟩) (hb.go hc))
theorem s_ldc2_w {q : Nat} (C : Cx p l R s m args meth c D cA A sp L xs μ) (K : Nx X9 p l e R s m args below meth c D cA A sp L xs ad0 n0 μ Q g o) (w : Wd D cA A sp L xs s ad0 n0 (hdl μ = []) ad (n, S, Rf, I, J, Df) H locs) (fr : Fm ad μ LS ls st n) (hb : Bu X9 R μ pc (n, S, Rf, I, J, Df) cells slots) (hd : decode (byt μ) pc = .ok (.ldc2_w q, 3)) (hc : cle (cst μ (pc + 3)) (cst μ pc) = true) (hk : (Jvm.Cond.constantLong (onm (ow μ)) q (lcs b)).before args s = true) (h : acK f g c0 (stA μ pc ls st n S Rf I J Df (.ldc2_w q) 3 fm tm a b cc k) = some o) : W p l e R s m args below meth c H locs cells slots Q (F0 m pc LS (st.map (rv ad))) := by
  obtain ⟨hL, hl, hs⟩ := fr
  exact lv_ldc2 C.ex C.by C.own hk hd (K1 (st' := .long (lcs b) :: st) K h w hL hl (by simp only [List.all_cons, Bool.and_eq_true]; exact ⟨rfl, hs⟩) (hb.go hc))
theorem s_iload_n {q : Fin 4} (C : Cx p l R s m args meth c D cA A sp L xs μ) (K : Nx X9 p l e R s m args below meth c D cA A sp L xs ad0 n0 μ Q g o) (w : Wd D cA A sp L xs s ad0 n0 (hdl μ = []) ad (n, S, Rf, I, J, Df) H locs) (fr : Fm ad μ LS ls st n) (hb : Bu X9 R μ pc (n, S, Rf, I, J, Df) cells slots) (hd : decode (byt μ) pc = .ok (.iload_n q, 1)) (hc : cle (cst μ (pc + 1)) (cst μ pc) = true)  (h : acK f g c0 (stA μ pc ls st n S Rf I J Df (.iload_n q) 1 fm tm a b cc k) = some o) : W p l e R s m args below meth c H locs cells slots Q (F0 m pc LS (st.map (rv ad))) := by
  obtain ⟨v, hv, h⟩ := ak_lk h
  obtain ⟨x, rfl, h⟩ := ak_fI h
  obtain ⟨hL, hl, hs⟩ := fr
  exact lv_iload_n C.ex C.by hd rfl (hL.at hv rfl) (K1 (st' := .int x :: st) K h w hL hl (by simp only [List.all_cons, Bool.and_eq_true]; exact ⟨all_at hl hv, hs⟩) (hb.go hc))
theorem s_iload {q : Nat} (C : Cx p l R s m args meth c D cA A sp L xs μ) (K : Nx X9 p l e R s m args below meth c D cA A sp L xs ad0 n0 μ Q g o) (w : Wd D cA A sp L xs s ad0 n0 (hdl μ = []) ad (n, S, Rf, I, J, Df) H locs) (fr : Fm ad μ LS ls st n) (hb : Bu X9 R μ pc (n, S, Rf, I, J, Df) cells slots) (hd : decode (byt μ) pc = .ok (.iload q, 2)) (hc : cle (cst μ (pc + 2)) (cst μ pc) = true)  (h : acK f g c0 (stA μ pc ls st n S Rf I J Df (.iload q) 2 fm tm a b cc k) = some o) : W p l e R s m args below meth c H locs cells slots Q (F0 m pc LS (st.map (rv ad))) := by
  obtain ⟨v, hv, h⟩ := ak_lk h
  obtain ⟨x, rfl, h⟩ := ak_fI h
  obtain ⟨hL, hl, hs⟩ := fr
  exact lv_iload C.ex C.by hd (hL.at hv rfl) (K1 (st' := .int x :: st) K h w hL hl (by simp only [List.all_cons, Bool.and_eq_true]; exact ⟨all_at hl hv, hs⟩) (hb.go hc))
theorem s_lload_n {q : Fin 4} (C : Cx p l R s m args meth c D cA A sp L xs μ) (K : Nx X9 p l e R s m args below meth c D cA A sp L xs ad0 n0 μ Q g o) (w : Wd D cA A sp L xs s ad0 n0 (hdl μ = []) ad (n, S, Rf, I, J, Df) H locs) (fr : Fm ad μ LS ls st n) (hb : Bu X9 R μ pc (n, S, Rf, I, J, Df) cells slots) (hd : decode (byt μ) pc = .ok (.lload_n q, 1)) (hc : cle (cst μ (pc + 1)) (cst μ pc) = true)  (h : acK f g c0 (stA μ pc ls st n S Rf I J Df (.lload_n q) 1 fm tm a b cc k) = some o) : W p l e R s m args below meth c H locs cells slots Q (F0 m pc LS (st.map (rv ad))) := by
  obtain ⟨v, hv, h⟩ := ak_lk h
  obtain ⟨x, rfl, h⟩ := ak_fL h
  obtain ⟨hL, hl, hs⟩ := fr
  exact lv_lload_n C.ex C.by hd rfl (hL.at hv rfl) (K1 (st' := .long x :: st) K h w hL hl (by simp only [List.all_cons, Bool.and_eq_true]; exact ⟨all_at hl hv, hs⟩) (hb.go hc))
theorem s_lload {q : Nat} (C : Cx p l R s m args meth c D cA A sp L xs μ) (K : Nx X9 p l e R s m args below meth c D cA A sp L xs ad0 n0 μ Q g o) (w : Wd D cA A sp L xs s ad0 n0 (hdl μ = []) ad (n, S, Rf, I, J, Df) H locs) (fr : Fm ad μ LS ls st n) (hb : Bu X9 R μ pc (n, S, Rf, I, J, Df) cells slots) (hd : decode (byt μ) pc = .ok (.lload q, 2)) (hc : cle (cst μ (pc + 2)) (cst μ pc) = true)  (h : acK f g c0 (stA μ pc ls st n S Rf I J Df (.lload q) 2 fm tm a b cc k) = some o) : W p l e R s m args below meth c H locs cells slots Q (F0 m pc LS (st.map (rv ad))) := by
  obtain ⟨v, hv, h⟩ := ak_lk h
  obtain ⟨x, rfl, h⟩ := ak_fL h
  obtain ⟨hL, hl, hs⟩ := fr
  exact lv_lload C.ex C.by hd (hL.at hv rfl) (K1 (st' := .long x :: st) K h w hL hl (by simp only [List.all_cons, Bool.and_eq_true]; exact ⟨all_at hl hv, hs⟩) (hb.go hc))
theorem s_dload {q : Nat} (C : Cx p l R s m args meth c D cA A sp L xs μ) (K : Nx X9 p l e R s m args below meth c D cA A sp L xs ad0 n0 μ Q g o) (w : Wd D cA A sp L xs s ad0 n0 (hdl μ = []) ad (n, S, Rf, I, J, Df) H locs) (fr : Fm ad μ LS ls st n) (hb : Bu X9 R μ pc (n, S, Rf, I, J, Df) cells slots) (hd : decode (byt μ) pc = .ok (.dload q, 2)) (hc : cle (cst μ (pc + 2)) (cst μ pc) = true)  (h : acK f g c0 (stA μ pc ls st n S Rf I J Df (.dload q) 2 fm tm a b cc k) = some o) : W p l e R s m args below meth c H locs cells slots Q (F0 m pc LS (st.map (rv ad))) := by
  obtain ⟨v, hv, h⟩ := ak_lk h
  obtain ⟨x, rfl, h⟩ := ak_fD h
  obtain ⟨hL, hl, hs⟩ := fr
  exact lv_dload C.ex C.by hd (hL.at hv rfl) (K1 (st' := .double x :: st) K h w hL hl (by simp only [List.all_cons, Bool.and_eq_true]; exact ⟨all_at hl hv, hs⟩) (hb.go hc))
theorem s_aload_n {q : Fin 4} (C : Cx p l R s m args meth c D cA A sp L xs μ) (K : Nx X9 p l e R s m args below meth c D cA A sp L xs ad0 n0 μ Q g o) (w : Wd D cA A sp L xs s ad0 n0 (hdl μ = []) ad (n, S, Rf, I, J, Df) H locs) (fr : Fm ad μ LS ls st n) (hb : Bu X9 R μ pc (n, S, Rf, I, J, Df) cells slots) (hd : decode (byt μ) pc = .ok (.aload_n q, 1)) (hc : cle (cst μ (pc + 1)) (cst μ pc) = true)  (h : acK f g c0 (stA μ pc ls st n S Rf I J Df (.aload_n q) 1 fm tm a b cc k) = some o) : W p l e R s m args below meth c H locs cells slots Q (F0 m pc LS (st.map (rv ad))) := by
  obtain ⟨v, hv, h⟩ := ak_lk h
  obtain ⟨x, rfl, h⟩ := ak_fR h
  obtain ⟨hL, hl, hs⟩ := fr
  exact lv_aload_n C.ex C.by hd rfl (hL.at hv rfl) (K1 (st' := .ref x :: st) K h w hL hl (by simp only [List.all_cons, Bool.and_eq_true]; exact ⟨all_at hl hv, hs⟩) (hb.go hc))
theorem s_aload {q : Nat} (C : Cx p l R s m args meth c D cA A sp L xs μ) (K : Nx X9 p l e R s m args below meth c D cA A sp L xs ad0 n0 μ Q g o) (w : Wd D cA A sp L xs s ad0 n0 (hdl μ = []) ad (n, S, Rf, I, J, Df) H locs) (fr : Fm ad μ LS ls st n) (hb : Bu X9 R μ pc (n, S, Rf, I, J, Df) cells slots) (hd : decode (byt μ) pc = .ok (.aload q, 2)) (hc : cle (cst μ (pc + 2)) (cst μ pc) = true)  (h : acK f g c0 (stA μ pc ls st n S Rf I J Df (.aload q) 2 fm tm a b cc k) = some o) : W p l e R s m args below meth c H locs cells slots Q (F0 m pc LS (st.map (rv ad))) := by
  obtain ⟨v, hv, h⟩ := ak_lk h
  obtain ⟨x, rfl, h⟩ := ak_fR h
  obtain ⟨hL, hl, hs⟩ := fr
  exact lv_aload C.ex C.by hd (hL.at hv rfl) (K1 (st' := .ref x :: st) K h w hL hl (by simp only [List.all_cons, Bool.and_eq_true]; exact ⟨all_at hl hv, hs⟩) (hb.go hc))
theorem s_istore_n {q : Fin 4} (C : Cx p l R s m args meth c D cA A sp L xs μ) (K : Nx X9 p l e R s m args below meth c D cA A sp L xs ad0 n0 μ Q g o) (w : Wd D cA A sp L xs s ad0 n0 (hdl μ = []) ad (n, S, Rf, I, J, Df) H locs) (fr : Fm ad μ LS ls st n) (hb : Bu X9 R μ pc (n, S, Rf, I, J, Df) cells slots) (hd : decode (byt μ) pc = .ok (.istore_n q, 1)) (hc : cle (cst μ (pc + 1)) (cst μ pc) = true)  (h : acK f g c0 (stA μ pc ls st n S Rf I J Df (.istore_n q) 1 fm tm a b cc k) = some o) : W p l e R s m args below meth c H locs cells slots Q (F0 m pc LS (st.map (rv ad))) := by
  obtain ⟨x, r, rfl, h⟩ := ak_i1 h
  obtain ⟨hq, h⟩ := ak_gd h
  obtain ⟨hL, hl, hs⟩ := fr
  simp only [List.all_cons, Bool.and_eq_true] at hs
  have hq : q.val < mxl μ := by rw [← hL.2.2.1]; simpa using hq
  exact lv_istore_n (x := x) C.ex C.by hd rfl hL.has hq rfl (fun LS' hLS => K1 (st' := r) K h w (LR.st1 hL.2.2.1 hq hLS) (all_sto _ hl hs.1) hs.2 (hb.go hc))
theorem s_istore {q : Nat} (C : Cx p l R s m args meth c D cA A sp L xs μ) (K : Nx X9 p l e R s m args below meth c D cA A sp L xs ad0 n0 μ Q g o) (w : Wd D cA A sp L xs s ad0 n0 (hdl μ = []) ad (n, S, Rf, I, J, Df) H locs) (fr : Fm ad μ LS ls st n) (hb : Bu X9 R μ pc (n, S, Rf, I, J, Df) cells slots) (hd : decode (byt μ) pc = .ok (.istore q, 2)) (hc : cle (cst μ (pc + 2)) (cst μ pc) = true)  (h : acK f g c0 (stA μ pc ls st n S Rf I J Df (.istore q) 2 fm tm a b cc k) = some o) : W p l e R s m args below meth c H locs cells slots Q (F0 m pc LS (st.map (rv ad))) := by
  obtain ⟨x, r, rfl, h⟩ := ak_i1 h
  obtain ⟨hq, h⟩ := ak_gd h
  obtain ⟨hL, hl, hs⟩ := fr
  simp only [List.all_cons, Bool.and_eq_true] at hs
  have hq : q < mxl μ := by rw [← hL.2.2.1]; simpa using hq
  exact lv_istore (x := x) C.ex C.by hd hL.has hq rfl (fun LS' hLS => K1 (st' := r) K h w (LR.st1 hL.2.2.1 hq hLS) (all_sto _ hl hs.1) hs.2 (hb.go hc))
theorem s_astore_n {q : Fin 4} (C : Cx p l R s m args meth c D cA A sp L xs μ) (K : Nx X9 p l e R s m args below meth c D cA A sp L xs ad0 n0 μ Q g o) (w : Wd D cA A sp L xs s ad0 n0 (hdl μ = []) ad (n, S, Rf, I, J, Df) H locs) (fr : Fm ad μ LS ls st n) (hb : Bu X9 R μ pc (n, S, Rf, I, J, Df) cells slots) (hd : decode (byt μ) pc = .ok (.astore_n q, 1)) (hc : cle (cst μ (pc + 1)) (cst μ pc) = true)  (h : acK f g c0 (stA μ pc ls st n S Rf I J Df (.astore_n q) 1 fm tm a b cc k) = some o) : W p l e R s m args below meth c H locs cells slots Q (F0 m pc LS (st.map (rv ad))) := by
  obtain ⟨v, r, rfl, h⟩ := ak_f1 h
  obtain ⟨x, rfl, h⟩ := ak_fR h
  obtain ⟨hq, h⟩ := ak_gd h
  obtain ⟨hL, hl, hs⟩ := fr
  simp only [List.all_cons, Bool.and_eq_true] at hs
  have hq : q.val < mxl μ := by rw [← hL.2.2.1]; simpa using hq
  exact lv_astore_n (x := ad x) C.ex C.by hd rfl hL.has hq rfl (fun LS' hLS => K1 (st' := r) K h w (LR.st1 hL.2.2.1 hq hLS) (all_sto _ hl hs.1) hs.2 (hb.go hc))
theorem s_astore {q : Nat} (C : Cx p l R s m args meth c D cA A sp L xs μ) (K : Nx X9 p l e R s m args below meth c D cA A sp L xs ad0 n0 μ Q g o) (w : Wd D cA A sp L xs s ad0 n0 (hdl μ = []) ad (n, S, Rf, I, J, Df) H locs) (fr : Fm ad μ LS ls st n) (hb : Bu X9 R μ pc (n, S, Rf, I, J, Df) cells slots) (hd : decode (byt μ) pc = .ok (.astore q, 2)) (hc : cle (cst μ (pc + 2)) (cst μ pc) = true)  (h : acK f g c0 (stA μ pc ls st n S Rf I J Df (.astore q) 2 fm tm a b cc k) = some o) : W p l e R s m args below meth c H locs cells slots Q (F0 m pc LS (st.map (rv ad))) := by
  obtain ⟨v, r, rfl, h⟩ := ak_f1 h
  obtain ⟨x, rfl, h⟩ := ak_fR h
  obtain ⟨hq, h⟩ := ak_gd h
  obtain ⟨hL, hl, hs⟩ := fr
  simp only [List.all_cons, Bool.and_eq_true] at hs
  have hq : q < mxl μ := by rw [← hL.2.2.1]; simpa using hq
  exact lv_astore (x := ad x) C.ex C.by hd hL.has hq rfl (fun LS' hLS => K1 (st' := r) K h w (LR.st1 hL.2.2.1 hq hLS) (all_sto _ hl hs.1) hs.2 (hb.go hc))
theorem s_lstore_n {q : Fin 4} (C : Cx p l R s m args meth c D cA A sp L xs μ) (K : Nx X9 p l e R s m args below meth c D cA A sp L xs ad0 n0 μ Q g o) (w : Wd D cA A sp L xs s ad0 n0 (hdl μ = []) ad (n, S, Rf, I, J, Df) H locs) (fr : Fm ad μ LS ls st n) (hb : Bu X9 R μ pc (n, S, Rf, I, J, Df) cells slots) (hd : decode (byt μ) pc = .ok (.lstore_n q, 1)) (hc : cle (cst μ (pc + 1)) (cst μ pc) = true)  (h : acK f g c0 (stA μ pc ls st n S Rf I J Df (.lstore_n q) 1 fm tm a b cc k) = some o) : W p l e R s m args below meth c H locs cells slots Q (F0 m pc LS (st.map (rv ad))) := by
  obtain ⟨x, r, rfl, h⟩ := ak_l1 h
  obtain ⟨hq, h⟩ := ak_gd h
  obtain ⟨hL, hl, hs⟩ := fr
  simp only [List.all_cons, Bool.and_eq_true] at hs
  have hq : q.val + 1 < mxl μ := by rw [← hL.2.2.1]; simpa using hq
  exact lv_lstore_n (x := x) C.ex C.by hd rfl hL.has hq rfl (fun LS' hLS => K1 (st' := r) K h w (LR.st2 hL.2.2.1 hq hLS) (all_sto2 _ hl hs.1) hs.2 (hb.go hc))
theorem s_lstore {q : Nat} (C : Cx p l R s m args meth c D cA A sp L xs μ) (K : Nx X9 p l e R s m args below meth c D cA A sp L xs ad0 n0 μ Q g o) (w : Wd D cA A sp L xs s ad0 n0 (hdl μ = []) ad (n, S, Rf, I, J, Df) H locs) (fr : Fm ad μ LS ls st n) (hb : Bu X9 R μ pc (n, S, Rf, I, J, Df) cells slots) (hd : decode (byt μ) pc = .ok (.lstore q, 2)) (hc : cle (cst μ (pc + 2)) (cst μ pc) = true)  (h : acK f g c0 (stA μ pc ls st n S Rf I J Df (.lstore q) 2 fm tm a b cc k) = some o) : W p l e R s m args below meth c H locs cells slots Q (F0 m pc LS (st.map (rv ad))) := by
  obtain ⟨x, r, rfl, h⟩ := ak_l1 h
  obtain ⟨hq, h⟩ := ak_gd h
  obtain ⟨hL, hl, hs⟩ := fr
  simp only [List.all_cons, Bool.and_eq_true] at hs
  have hq : q + 1 < mxl μ := by rw [← hL.2.2.1]; simpa using hq
  exact lv_lstore (x := x) C.ex C.by hd hL.has hq rfl (fun LS' hLS => K1 (st' := r) K h w (LR.st2 hL.2.2.1 hq hLS) (all_sto2 _ hl hs.1) hs.2 (hb.go hc))
theorem s_dstore {q : Nat} (C : Cx p l R s m args meth c D cA A sp L xs μ) (K : Nx X9 p l e R s m args below meth c D cA A sp L xs ad0 n0 μ Q g o) (w : Wd D cA A sp L xs s ad0 n0 (hdl μ = []) ad (n, S, Rf, I, J, Df) H locs) (fr : Fm ad μ LS ls st n) (hb : Bu X9 R μ pc (n, S, Rf, I, J, Df) cells slots) (hd : decode (byt μ) pc = .ok (.dstore q, 2)) (hc : cle (cst μ (pc + 2)) (cst μ pc) = true)  (h : acK f g c0 (stA μ pc ls st n S Rf I J Df (.dstore q) 2 fm tm a b cc k) = some o) : W p l e R s m args below meth c H locs cells slots Q (F0 m pc LS (st.map (rv ad))) := by
  obtain ⟨v, r, rfl, h⟩ := ak_f1 h
  obtain ⟨x, rfl, h⟩ := ak_fD h
  obtain ⟨hq, h⟩ := ak_gd h
  obtain ⟨hL, hl, hs⟩ := fr
  simp only [List.all_cons, Bool.and_eq_true] at hs
  have hq : q + 1 < mxl μ := by rw [← hL.2.2.1]; simpa using hq
  exact lv_dstore (x := x) C.ex C.by hd hL.has hq rfl (fun LS' hLS => K1 (st' := r) K h w (LR.st2 hL.2.2.1 hq hLS) (all_sto2 _ hl hs.1) hs.2 (hb.go hc))
theorem s_iinc {q : Nat} {z : Int} (C : Cx p l R s m args meth c D cA A sp L xs μ) (K : Nx X9 p l e R s m args below meth c D cA A sp L xs ad0 n0 μ Q g o) (w : Wd D cA A sp L xs s ad0 n0 (hdl μ = []) ad (n, S, Rf, I, J, Df) H locs) (fr : Fm ad μ LS ls st n) (hb : Bu X9 R μ pc (n, S, Rf, I, J, Df) cells slots) (hd : decode (byt μ) pc = .ok (.iinc q z, 3)) (hc : cle (cst μ (pc + 3)) (cst μ pc) = true) (hk : Int32.ofInt z = k) (h : acK f g c0 (stA μ pc ls st n S Rf I J Df (.iinc q z) 3 fm tm a b cc k) = some o) : W p l e R s m args below meth c H locs cells slots Q (F0 m pc LS (st.map (rv ad))) := by
  obtain ⟨v, hv, h⟩ := ak_lk h
  obtain ⟨x, rfl, h⟩ := ak_fI h
  obtain ⟨hL, hl, hs⟩ := fr
  have hq : q < mxl μ := by rw [← hL.2.2.1]; exact (List.getElem?_eq_some_iff.mp hv).1
  obtain ⟨i, hi⟩ := List.getElem?_of_mem ((lvl_mem (ad := ad) ls 0 (q, .int x)).mpr ⟨q, .int x, hv, rfl, by rw [Nat.zero_add]; rfl⟩)
  exact lv_iinc (v := x + k) C.ex C.by hd hL.has hi (by rw [hk]) hq rfl (fun LS' hLS => K1 (st' := st) K h w (LR.st1 (v := .int (x + k)) hL.2.2.1 hq hLS) (all_sto _ hl rfl) hs (hb.go hc))
theorem s_dup  (C : Cx p l R s m args meth c D cA A sp L xs μ) (K : Nx X9 p l e R s m args below meth c D cA A sp L xs ad0 n0 μ Q g o) (w : Wd D cA A sp L xs s ad0 n0 (hdl μ = []) ad (n, S, Rf, I, J, Df) H locs) (fr : Fm ad μ LS ls st n) (hb : Bu X9 R μ pc (n, S, Rf, I, J, Df) cells slots) (hd : decode (byt μ) pc = .ok (.dup, 1)) (hc : cle (cst μ (pc + 1)) (cst μ pc) = true)  (h : acK f g c0 (stA μ pc ls st n S Rf I J Df (.dup) 1 fm tm a b cc k) = some o) : W p l e R s m args below meth c H locs cells slots Q (F0 m pc LS (st.map (rv ad))) := by
  obtain ⟨v, r, rfl, h⟩ := ak_f1 h
  obtain ⟨hv, h⟩ := ak_ifh h
  obtain ⟨hL, hl, hs⟩ := fr
  have hc1 : (rv ad v).category = 1 := by rw [rv_cat]; cases v <;> first | rfl | cases hv
  exact lv_dup C.ex C.by hd hc1 (K1 (st' := v :: v :: r) K h w hL hl (by simp only [List.all_cons, Bool.and_eq_true] at hs ⊢; exact ⟨hs.1, hs⟩) (hb.go hc))
theorem s_dup2  (C : Cx p l R s m args meth c D cA A sp L xs μ) (K : Nx X9 p l e R s m args below meth c D cA A sp L xs ad0 n0 μ Q g o) (w : Wd D cA A sp L xs s ad0 n0 (hdl μ = []) ad (n, S, Rf, I, J, Df) H locs) (fr : Fm ad μ LS ls st n) (hb : Bu X9 R μ pc (n, S, Rf, I, J, Df) cells slots) (hd : decode (byt μ) pc = .ok (.dup2, 1)) (hc : cle (cst μ (pc + 1)) (cst μ pc) = true)  (h : acK f g c0 (stA μ pc ls st n S Rf I J Df (.dup2) 1 fm tm a b cc k) = some o) : W p l e R s m args below meth c H locs cells slots Q (F0 m pc LS (st.map (rv ad))) := by
  obtain ⟨v, z, r, rfl, h⟩ := ak_f2 h
  obtain ⟨hv, h⟩ := ak_ifh h
  obtain ⟨hL, hl, hs⟩ := fr
  simp only [Bool.and_eq_true] at hv
  have hc1 : (rv ad v).category = 1 := by rw [rv_cat]; cases v <;> first | rfl | cases hv.1
  have hc2 : (rv ad z).category = 1 := by rw [rv_cat]; cases z <;> first | rfl | cases hv.2
  exact lv_dup2_11 C.ex C.by hd hc1 hc2 (K1 (st' := v :: z :: v :: z :: r) K h w hL hl (by simp only [List.all_cons, Bool.and_eq_true] at hs ⊢; exact ⟨hs.1, hs.2.1, hs⟩) (hb.go hc))
theorem s_if_eq {off : Int} (C : Cx p l R s m args meth c D cA A sp L xs μ) (K : Nx X9 p l e R s m args below meth c D cA A sp L xs ad0 n0 μ Q g o) (w : Wd D cA A sp L xs s ad0 n0 (hdl μ = []) ad (n, S, Rf, I, J, Df) H locs) (fr : Fm ad μ LS ls st n) (hb : Bu X9 R μ pc (n, S, Rf, I, J, Df) cells slots) (hd : decode (byt μ) pc = .ok (.ifCond .eq off, 3)) (hc : cle (cst μ (pc + 3)) (cst μ pc) = true) (ht : (pc : Int) + off = (a : Int)) (hc2 : cle (cst μ a) (cst μ pc) = true) (h : acK f g c0 (stA μ pc ls st n S Rf I J Df (.ifCond .eq off) 3 fm tm a b cc k) = some o) : W p l e R s m args below meth c H locs cells slots Q (F0 m pc LS (st.map (rv ad))) := by
  obtain ⟨x, r, rfl, h⟩ := ak_i1 h
  obtain ⟨hL, hl, hs⟩ := fr
  simp only [List.all_cons, Bool.and_eq_true] at hs
  have key : ∀ q : Bool, (icc .eq x 0 = q) → (q = true → x = 0) ∧ (q = false → ¬ (x = 0)) := fun q e => ⟨fun e2 => of_decide_eq_true (e.trans e2), fun e2 => of_decide_eq_false (e.trans e2)⟩
  exact lv_if_eq C.ex C.by hd ht (fun hx => K1 (st' := r) K ((ak_br h).elim (fun z => z.2) (fun z => absurd hx ((key _ rfl).2 z.1))) w hL hl hs.2 (hb.go hc2)) (fun hx => K1 (st' := r) K ((ak_br h).elim (fun z => absurd ((key _ rfl).1 z.1) hx) (fun z => z.2)) w hL hl hs.2 (hb.go hc))
theorem s_icmp_eq {off : Int} (C : Cx p l R s m args meth c D cA A sp L xs μ) (K : Nx X9 p l e R s m args below meth c D cA A sp L xs ad0 n0 μ Q g o) (w : Wd D cA A sp L xs s ad0 n0 (hdl μ = []) ad (n, S, Rf, I, J, Df) H locs) (fr : Fm ad μ LS ls st n) (hb : Bu X9 R μ pc (n, S, Rf, I, J, Df) cells slots) (hd : decode (byt μ) pc = .ok (.if_icmp .eq off, 3)) (hc : cle (cst μ (pc + 3)) (cst μ pc) = true) (ht : (pc : Int) + off = (a : Int)) (hc2 : cle (cst μ a) (cst μ pc) = true) (h : acK f g c0 (stA μ pc ls st n S Rf I J Df (.if_icmp .eq off) 3 fm tm a b cc k) = some o) : W p l e R s m args below meth c H locs cells slots Q (F0 m pc LS (st.map (rv ad))) := by
  obtain ⟨x, y, r, rfl, h⟩ := ak_i2 h
  obtain ⟨hL, hl, hs⟩ := fr
  simp only [List.all_cons, Bool.and_eq_true] at hs
  have key : ∀ q : Bool, (icc .eq x y = q) → (q = true → x = y) ∧ (q = false → ¬ (x = y)) := fun q e => ⟨fun e2 => of_decide_eq_true (e.trans e2), fun e2 => of_decide_eq_false (e.trans e2)⟩
  exact lv_icmp_eq C.ex C.by hd ht (fun hx => K1 (st' := r) K ((ak_br h).elim (fun z => z.2) (fun z => absurd hx ((key _ rfl).2 z.1))) w hL hl hs.2.2 (hb.go hc2)) (fun hx => K1 (st' := r) K ((ak_br h).elim (fun z => absurd ((key _ rfl).1 z.1) hx) (fun z => z.2)) w hL hl hs.2.2 (hb.go hc))
theorem s_if_ne {off : Int} (C : Cx p l R s m args meth c D cA A sp L xs μ) (K : Nx X9 p l e R s m args below meth c D cA A sp L xs ad0 n0 μ Q g o) (w : Wd D cA A sp L xs s ad0 n0 (hdl μ = []) ad (n, S, Rf, I, J, Df) H locs) (fr : Fm ad μ LS ls st n) (hb : Bu X9 R μ pc (n, S, Rf, I, J, Df) cells slots) (hd : decode (byt μ) pc = .ok (.ifCond .ne off, 3)) (hc : cle (cst μ (pc + 3)) (cst μ pc) = true) (ht : (pc : Int) + off = (a : Int)) (hc2 : cle (cst μ a) (cst μ pc) = true) (h : acK f g c0 (stA μ pc ls st n S Rf I J Df (.ifCond .ne off) 3 fm tm a b cc k) = some o) : W p l e R s m args below meth c H locs cells slots Q (F0 m pc LS (st.map (rv ad))) := by
  obtain ⟨x, r, rfl, h⟩ := ak_i1 h
  obtain ⟨hL, hl, hs⟩ := fr
  simp only [List.all_cons, Bool.and_eq_true] at hs
  have key : ∀ q : Bool, (icc .ne x 0 = q) → (q = true → x ≠ 0) ∧ (q = false → ¬ (x ≠ 0)) := fun q e => ⟨fun e2 => of_decide_eq_true (e.trans e2), fun e2 => of_decide_eq_false (e.trans e2)⟩
  exact lv_if_ne C.ex C.by hd ht (fun hx => K1 (st' := r) K ((ak_br h).elim (fun z => z.2) (fun z => absurd hx ((key _ rfl).2 z.1))) w hL hl hs.2 (hb.go hc2)) (fun hx => K1 (st' := r) K ((ak_br h).elim (fun z => absurd ((key _ rfl).1 z.1) (fun q => q hx)) (fun z => z.2)) w hL hl hs.2 (hb.go hc))
theorem s_icmp_ne {off : Int} (C : Cx p l R s m args meth c D cA A sp L xs μ) (K : Nx X9 p l e R s m args below meth c D cA A sp L xs ad0 n0 μ Q g o) (w : Wd D cA A sp L xs s ad0 n0 (hdl μ = []) ad (n, S, Rf, I, J, Df) H locs) (fr : Fm ad μ LS ls st n) (hb : Bu X9 R μ pc (n, S, Rf, I, J, Df) cells slots) (hd : decode (byt μ) pc = .ok (.if_icmp .ne off, 3)) (hc : cle (cst μ (pc + 3)) (cst μ pc) = true) (ht : (pc : Int) + off = (a : Int)) (hc2 : cle (cst μ a) (cst μ pc) = true) (h : acK f g c0 (stA μ pc ls st n S Rf I J Df (.if_icmp .ne off) 3 fm tm a b cc k) = some o) : W p l e R s m args below meth c H locs cells slots Q (F0 m pc LS (st.map (rv ad))) := by
  obtain ⟨x, y, r, rfl, h⟩ := ak_i2 h
  obtain ⟨hL, hl, hs⟩ := fr
  simp only [List.all_cons, Bool.and_eq_true] at hs
  have key : ∀ q : Bool, (icc .ne x y = q) → (q = true → x ≠ y) ∧ (q = false → ¬ (x ≠ y)) := fun q e => ⟨fun e2 => of_decide_eq_true (e.trans e2), fun e2 => of_decide_eq_false (e.trans e2)⟩
  exact lv_icmp_ne C.ex C.by hd ht (fun hx => K1 (st' := r) K ((ak_br h).elim (fun z => z.2) (fun z => absurd hx ((key _ rfl).2 z.1))) w hL hl hs.2.2 (hb.go hc2)) (fun hx => K1 (st' := r) K ((ak_br h).elim (fun z => absurd ((key _ rfl).1 z.1) (fun q => q hx)) (fun z => z.2)) w hL hl hs.2.2 (hb.go hc))
theorem s_if_lt {off : Int} (C : Cx p l R s m args meth c D cA A sp L xs μ) (K : Nx X9 p l e R s m args below meth c D cA A sp L xs ad0 n0 μ Q g o) (w : Wd D cA A sp L xs s ad0 n0 (hdl μ = []) ad (n, S, Rf, I, J, Df) H locs) (fr : Fm ad μ LS ls st n) (hb : Bu X9 R μ pc (n, S, Rf, I, J, Df) cells slots) (hd : decode (byt μ) pc = .ok (.ifCond .lt off, 3)) (hc : cle (cst μ (pc + 3)) (cst μ pc) = true) (ht : (pc : Int) + off = (a : Int)) (hc2 : cle (cst μ a) (cst μ pc) = true) (h : acK f g c0 (stA μ pc ls st n S Rf I J Df (.ifCond .lt off) 3 fm tm a b cc k) = some o) : W p l e R s m args below meth c H locs cells slots Q (F0 m pc LS (st.map (rv ad))) := by
  obtain ⟨x, r, rfl, h⟩ := ak_i1 h
  obtain ⟨hL, hl, hs⟩ := fr
  simp only [List.all_cons, Bool.and_eq_true] at hs
  have key : ∀ q : Bool, (icc .lt x 0 = q) → (q = true → x < 0) ∧ (q = false → ¬ (x < 0)) := fun q e => ⟨fun e2 => of_decide_eq_true (e.trans e2), fun e2 => of_decide_eq_false (e.trans e2)⟩
  exact lv_if_lt C.ex C.by hd ht (fun hx => K1 (st' := r) K ((ak_br h).elim (fun z => z.2) (fun z => absurd hx ((key _ rfl).2 z.1))) w hL hl hs.2 (hb.go hc2)) (fun hx => K1 (st' := r) K ((ak_br h).elim (fun z => absurd ((key _ rfl).1 z.1) hx) (fun z => z.2)) w hL hl hs.2 (hb.go hc))
theorem s_icmp_lt {off : Int} (C : Cx p l R s m args meth c D cA A sp L xs μ) (K : Nx X9 p l e R s m args below meth c D cA A sp L xs ad0 n0 μ Q g o) (w : Wd D cA A sp L xs s ad0 n0 (hdl μ = []) ad (n, S, Rf, I, J, Df) H locs) (fr : Fm ad μ LS ls st n) (hb : Bu X9 R μ pc (n, S, Rf, I, J, Df) cells slots) (hd : decode (byt μ) pc = .ok (.if_icmp .lt off, 3)) (hc : cle (cst μ (pc + 3)) (cst μ pc) = true) (ht : (pc : Int) + off = (a : Int)) (hc2 : cle (cst μ a) (cst μ pc) = true) (h : acK f g c0 (stA μ pc ls st n S Rf I J Df (.if_icmp .lt off) 3 fm tm a b cc k) = some o) : W p l e R s m args below meth c H locs cells slots Q (F0 m pc LS (st.map (rv ad))) := by
  obtain ⟨x, y, r, rfl, h⟩ := ak_i2 h
  obtain ⟨hL, hl, hs⟩ := fr
  simp only [List.all_cons, Bool.and_eq_true] at hs
  have key : ∀ q : Bool, (icc .lt x y = q) → (q = true → x < y) ∧ (q = false → ¬ (x < y)) := fun q e => ⟨fun e2 => of_decide_eq_true (e.trans e2), fun e2 => of_decide_eq_false (e.trans e2)⟩
  exact lv_icmp_lt C.ex C.by hd ht (fun hx => K1 (st' := r) K ((ak_br h).elim (fun z => z.2) (fun z => absurd hx ((key _ rfl).2 z.1))) w hL hl hs.2.2 (hb.go hc2)) (fun hx => K1 (st' := r) K ((ak_br h).elim (fun z => absurd ((key _ rfl).1 z.1) hx) (fun z => z.2)) w hL hl hs.2.2 (hb.go hc))
theorem s_if_ge {off : Int} (C : Cx p l R s m args meth c D cA A sp L xs μ) (K : Nx X9 p l e R s m args below meth c D cA A sp L xs ad0 n0 μ Q g o) (w : Wd D cA A sp L xs s ad0 n0 (hdl μ = []) ad (n, S, Rf, I, J, Df) H locs) (fr : Fm ad μ LS ls st n) (hb : Bu X9 R μ pc (n, S, Rf, I, J, Df) cells slots) (hd : decode (byt μ) pc = .ok (.ifCond .ge off, 3)) (hc : cle (cst μ (pc + 3)) (cst μ pc) = true) (ht : (pc : Int) + off = (a : Int)) (hc2 : cle (cst μ a) (cst μ pc) = true) (h : acK f g c0 (stA μ pc ls st n S Rf I J Df (.ifCond .ge off) 3 fm tm a b cc k) = some o) : W p l e R s m args below meth c H locs cells slots Q (F0 m pc LS (st.map (rv ad))) := by
  obtain ⟨x, r, rfl, h⟩ := ak_i1 h
  obtain ⟨hL, hl, hs⟩ := fr
  simp only [List.all_cons, Bool.and_eq_true] at hs
  have key : ∀ q : Bool, (icc .ge x 0 = q) → (q = true → 0 ≤ x) ∧ (q = false → ¬ (0 ≤ x)) := fun q e => ⟨fun e2 => of_decide_eq_true (e.trans e2), fun e2 => of_decide_eq_false (e.trans e2)⟩
  exact lv_if_ge C.ex C.by hd ht (fun hx => K1 (st' := r) K ((ak_br h).elim (fun z => z.2) (fun z => absurd hx ((key _ rfl).2 z.1))) w hL hl hs.2 (hb.go hc2)) (fun hx => K1 (st' := r) K ((ak_br h).elim (fun z => absurd ((key _ rfl).1 z.1) hx) (fun z => z.2)) w hL hl hs.2 (hb.go hc))
theorem s_icmp_ge {off : Int} (C : Cx p l R s m args meth c D cA A sp L xs μ) (K : Nx X9 p l e R s m args below meth c D cA A sp L xs ad0 n0 μ Q g o) (w : Wd D cA A sp L xs s ad0 n0 (hdl μ = []) ad (n, S, Rf, I, J, Df) H locs) (fr : Fm ad μ LS ls st n) (hb : Bu X9 R μ pc (n, S, Rf, I, J, Df) cells slots) (hd : decode (byt μ) pc = .ok (.if_icmp .ge off, 3)) (hc : cle (cst μ (pc + 3)) (cst μ pc) = true) (ht : (pc : Int) + off = (a : Int)) (hc2 : cle (cst μ a) (cst μ pc) = true) (h : acK f g c0 (stA μ pc ls st n S Rf I J Df (.if_icmp .ge off) 3 fm tm a b cc k) = some o) : W p l e R s m args below meth c H locs cells slots Q (F0 m pc LS (st.map (rv ad))) := by
  obtain ⟨x, y, r, rfl, h⟩ := ak_i2 h
  obtain ⟨hL, hl, hs⟩ := fr
  simp only [List.all_cons, Bool.and_eq_true] at hs
  have key : ∀ q : Bool, (icc .ge x y = q) → (q = true → y ≤ x) ∧ (q = false → ¬ (y ≤ x)) := fun q e => ⟨fun e2 => of_decide_eq_true (e.trans e2), fun e2 => of_decide_eq_false (e.trans e2)⟩
  exact lv_icmp_ge C.ex C.by hd ht (fun hx => K1 (st' := r) K ((ak_br h).elim (fun z => z.2) (fun z => absurd hx ((key _ rfl).2 z.1))) w hL hl hs.2.2 (hb.go hc2)) (fun hx => K1 (st' := r) K ((ak_br h).elim (fun z => absurd ((key _ rfl).1 z.1) hx) (fun z => z.2)) w hL hl hs.2.2 (hb.go hc))
theorem s_if_gt {off : Int} (C : Cx p l R s m args meth c D cA A sp L xs μ) (K : Nx X9 p l e R s m args below meth c D cA A sp L xs ad0 n0 μ Q g o) (w : Wd D cA A sp L xs s ad0 n0 (hdl μ = []) ad (n, S, Rf, I, J, Df) H locs) (fr : Fm ad μ LS ls st n) (hb : Bu X9 R μ pc (n, S, Rf, I, J, Df) cells slots) (hd : decode (byt μ) pc = .ok (.ifCond .gt off, 3)) (hc : cle (cst μ (pc + 3)) (cst μ pc) = true) (ht : (pc : Int) + off = (a : Int)) (hc2 : cle (cst μ a) (cst μ pc) = true) (h : acK f g c0 (stA μ pc ls st n S Rf I J Df (.ifCond .gt off) 3 fm tm a b cc k) = some o) : W p l e R s m args below meth c H locs cells slots Q (F0 m pc LS (st.map (rv ad))) := by
  obtain ⟨x, r, rfl, h⟩ := ak_i1 h
  obtain ⟨hL, hl, hs⟩ := fr
  simp only [List.all_cons, Bool.and_eq_true] at hs
  have key : ∀ q : Bool, (icc .gt x 0 = q) → (q = true → 0 < x) ∧ (q = false → ¬ (0 < x)) := fun q e => ⟨fun e2 => of_decide_eq_true (e.trans e2), fun e2 => of_decide_eq_false (e.trans e2)⟩
  exact lv_if_gt C.ex C.by hd ht (fun hx => K1 (st' := r) K ((ak_br h).elim (fun z => z.2) (fun z => absurd hx ((key _ rfl).2 z.1))) w hL hl hs.2 (hb.go hc2)) (fun hx => K1 (st' := r) K ((ak_br h).elim (fun z => absurd ((key _ rfl).1 z.1) hx) (fun z => z.2)) w hL hl hs.2 (hb.go hc))
theorem s_icmp_gt {off : Int} (C : Cx p l R s m args meth c D cA A sp L xs μ) (K : Nx X9 p l e R s m args below meth c D cA A sp L xs ad0 n0 μ Q g o) (w : Wd D cA A sp L xs s ad0 n0 (hdl μ = []) ad (n, S, Rf, I, J, Df) H locs) (fr : Fm ad μ LS ls st n) (hb : Bu X9 R μ pc (n, S, Rf, I, J, Df) cells slots) (hd : decode (byt μ) pc = .ok (.if_icmp .gt off, 3)) (hc : cle (cst μ (pc + 3)) (cst μ pc) = true) (ht : (pc : Int) + off = (a : Int)) (hc2 : cle (cst μ a) (cst μ pc) = true) (h : acK f g c0 (stA μ pc ls st n S Rf I J Df (.if_icmp .gt off) 3 fm tm a b cc k) = some o) : W p l e R s m args below meth c H locs cells slots Q (F0 m pc LS (st.map (rv ad))) := by
  obtain ⟨x, y, r, rfl, h⟩ := ak_i2 h
  obtain ⟨hL, hl, hs⟩ := fr
  simp only [List.all_cons, Bool.and_eq_true] at hs
  have key : ∀ q : Bool, (icc .gt x y = q) → (q = true → y < x) ∧ (q = false → ¬ (y < x)) := fun q e => ⟨fun e2 => of_decide_eq_true (e.trans e2), fun e2 => of_decide_eq_false (e.trans e2)⟩
  exact lv_icmp_gt C.ex C.by hd ht (fun hx => K1 (st' := r) K ((ak_br h).elim (fun z => z.2) (fun z => absurd hx ((key _ rfl).2 z.1))) w hL hl hs.2.2 (hb.go hc2)) (fun hx => K1 (st' := r) K ((ak_br h).elim (fun z => absurd ((key _ rfl).1 z.1) hx) (fun z => z.2)) w hL hl hs.2.2 (hb.go hc))
theorem s_if_le {off : Int} (C : Cx p l R s m args meth c D cA A sp L xs μ) (K : Nx X9 p l e R s m args below meth c D cA A sp L xs ad0 n0 μ Q g o) (w : Wd D cA A sp L xs s ad0 n0 (hdl μ = []) ad (n, S, Rf, I, J, Df) H locs) (fr : Fm ad μ LS ls st n) (hb : Bu X9 R μ pc (n, S, Rf, I, J, Df) cells slots) (hd : decode (byt μ) pc = .ok (.ifCond .le off, 3)) (hc : cle (cst μ (pc + 3)) (cst μ pc) = true) (ht : (pc : Int) + off = (a : Int)) (hc2 : cle (cst μ a) (cst μ pc) = true) (h : acK f g c0 (stA μ pc ls st n S Rf I J Df (.ifCond .le off) 3 fm tm a b cc k) = some o) : W p l e R s m args below meth c H locs cells slots Q (F0 m pc LS (st.map (rv ad))) := by
  obtain ⟨x, r, rfl, h⟩ := ak_i1 h
  obtain ⟨hL, hl, hs⟩ := fr
  simp only [List.all_cons, Bool.and_eq_true] at hs
  have key : ∀ q : Bool, (icc .le x 0 = q) → (q = true → x ≤ 0) ∧ (q = false → ¬ (x ≤ 0)) := fun q e => ⟨fun e2 => of_decide_eq_true (e.trans e2), fun e2 => of_decide_eq_false (e.trans e2)⟩
  exact lv_if_le C.ex C.by hd ht (fun hx => K1 (st' := r) K ((ak_br h).elim (fun z => z.2) (fun z => absurd hx ((key _ rfl).2 z.1))) w hL hl hs.2 (hb.go hc2)) (fun hx => K1 (st' := r) K ((ak_br h).elim (fun z => absurd ((key _ rfl).1 z.1) hx) (fun z => z.2)) w hL hl hs.2 (hb.go hc))
theorem s_icmp_le {off : Int} (C : Cx p l R s m args meth c D cA A sp L xs μ) (K : Nx X9 p l e R s m args below meth c D cA A sp L xs ad0 n0 μ Q g o) (w : Wd D cA A sp L xs s ad0 n0 (hdl μ = []) ad (n, S, Rf, I, J, Df) H locs) (fr : Fm ad μ LS ls st n) (hb : Bu X9 R μ pc (n, S, Rf, I, J, Df) cells slots) (hd : decode (byt μ) pc = .ok (.if_icmp .le off, 3)) (hc : cle (cst μ (pc + 3)) (cst μ pc) = true) (ht : (pc : Int) + off = (a : Int)) (hc2 : cle (cst μ a) (cst μ pc) = true) (h : acK f g c0 (stA μ pc ls st n S Rf I J Df (.if_icmp .le off) 3 fm tm a b cc k) = some o) : W p l e R s m args below meth c H locs cells slots Q (F0 m pc LS (st.map (rv ad))) := by
  obtain ⟨x, y, r, rfl, h⟩ := ak_i2 h
  obtain ⟨hL, hl, hs⟩ := fr
  simp only [List.all_cons, Bool.and_eq_true] at hs
  have key : ∀ q : Bool, (icc .le x y = q) → (q = true → x ≤ y) ∧ (q = false → ¬ (x ≤ y)) := fun q e => ⟨fun e2 => of_decide_eq_true (e.trans e2), fun e2 => of_decide_eq_false (e.trans e2)⟩
  exact lv_icmp_le C.ex C.by hd ht (fun hx => K1 (st' := r) K ((ak_br h).elim (fun z => z.2) (fun z => absurd hx ((key _ rfl).2 z.1))) w hL hl hs.2.2 (hb.go hc2)) (fun hx => K1 (st' := r) K ((ak_br h).elim (fun z => absurd ((key _ rfl).1 z.1) hx) (fun z => z.2)) w hL hl hs.2.2 (hb.go hc))
theorem s_ifnull {off : Int} (C : Cx p l R s m args meth c D cA A sp L xs μ) (K : Nx X9 p l e R s m args below meth c D cA A sp L xs ad0 n0 μ Q g o) (w : Wd D cA A sp L xs s ad0 n0 (hdl μ = []) ad (n, S, Rf, I, J, Df) H locs) (fr : Fm ad μ LS ls st n) (hb : Bu X9 R μ pc (n, S, Rf, I, J, Df) cells slots) (hd : decode (byt μ) pc = .ok (.ifnull off, 3)) (hc : cle (cst μ (pc + 3)) (cst μ pc) = true)  (h : acK f g c0 (stA μ pc ls st n S Rf I J Df (.ifnull off) 3 fm tm a b cc k) = some o) : W p l e R s m args below meth c H locs cells slots Q (F0 m pc LS (st.map (rv ad))) := by
  obtain ⟨v, r, rfl, h⟩ := ak_f1 h
  obtain ⟨x, rfl, h⟩ := ak_fR h
  obtain ⟨hL, hl, hs⟩ := fr
  simp only [List.all_cons, Bool.and_eq_true] at hs
  exact lv_ifnull C.ex C.by hd (K1 (st' := r) K h w hL hl hs.2 (hb.go hc))
theorem s_goto {off : Int} (C : Cx p l R s m args meth c D cA A sp L xs μ) (K : Nx X9 p l e R s m args below meth c D cA A sp L xs ad0 n0 μ Q g o) (w : Wd D cA A sp L xs s ad0 n0 (hdl μ = []) ad (n, S, Rf, I, J, Df) H locs) (fr : Fm ad μ LS ls st n) (hb : Bu X9 R μ pc (n, S, Rf, I, J, Df) cells slots) (hd : decode (byt μ) pc = .ok (.goto off, 3)) (ht : (pc : Int) + off = (a : Int)) (hc2 : cle (cst μ a) (cst μ pc) = true) (h : acK f g c0 (stA μ pc ls st n S Rf I J Df (.goto off) 3 fm tm a b cc k) = some o) : W p l e R s m args below meth c H locs cells slots Q (F0 m pc LS (st.map (rv ad))) := by
  obtain ⟨hL, hl, hs⟩ := fr
  exact lv_goto C.ex C.by hd ht (K1 (st' := st) K h w hL hl hs (hb.go hc2))
theorem s_tsw {len : Nat} {d lo hi : Int} {offs : Array Int} (C : Cx p l R s m args meth c D cA A sp L xs μ) (K : Nx X9 p l e R s m args below meth c D cA A sp L xs ad0 n0 μ Q g o) (w : Wd D cA A sp L xs s ad0 n0 (hdl μ = []) ad (n, S, Rf, I, J, Df) H locs) (fr : Fm ad μ LS ls st n) (hb : Bu X9 R μ pc (n, S, Rf, I, J, Df) cells slots) (hd : decode (byt μ) pc = .ok (.tableswitch d lo hi offs, len)) (hc : cle (cst μ ((pc : Int) + d).toNat) (cst μ pc) = true) (hc2 : offs.toList.all (fun o => cle (cst μ ((pc : Int) + o).toNat) (cst μ pc)) = true)
    (h : acK f g c0 (stA μ pc ls st n S Rf I J Df (.tableswitch d lo hi offs) len fm tm a b cc k) = some o) : W p l e R s m args below meth c H locs cells slots Q (F0 m pc LS (st.map (rv ad))) := by
  obtain ⟨x, r, rfl, h⟩ := ak_i1 h
  obtain ⟨hg, h⟩ := ak_gd h
  obtain ⟨hL, hl, hs⟩ := fr
  simp only [List.all_cons, Bool.and_eq_true] at hs
  unfold swg at hg
  unfold swt at h
  by_cases hx : x.toInt < lo ∨ hi < x.toInt
  · rw [if_pos hx] at hg h
    have hg := of_decide_eq_true hg
    exact lv_tableOut C.ex C.by hd hx (by rw [Int.toNat_of_nonneg hg]) (K1 (st' := r) K h w hL hl hs.2 (hb.go hc))
  · rw [if_neg hx] at hg h
    simp only [Bool.and_eq_true, decide_eq_true_eq] at hg
    obtain ⟨hg, hi2⟩ := hg
    obtain ⟨off, ho⟩ := Option.isSome_iff_exists.mp hi2
    rw [ho] at hg h
    have hg : 0 ≤ (pc : Int) + off := hg
    have h : g (μ, ((pc : Int) + off).toNat, mk tm ls, r, (n, S, Rf, I, J, Df)) = some o := h
    exact lv_tableIn C.ex C.by hd (fun q => hx (Or.inl q)) (fun q => hx (Or.inr q)) ho (by rw [Int.toNat_of_nonneg hg]) (K1 (st' := r) K h w hL hl hs.2 (hb.go (List.all_eq_true.mp hc2 off (by rw [← Array.getElem?_toList] at ho; exact List.mem_of_getElem? ho))))
end STEP
