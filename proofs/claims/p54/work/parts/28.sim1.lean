/-! what holds of the machine while the clean machine runs -/
def vok (n : Nat) (v : Value) : Bool := match v with
  | .ref x => Nat.blt x n || Nat.blt 900000 x
  | _ => true
theorem vok_mono {n n' : Nat} (h : n ≤ n') {v : Value} (hv : vok n v = true) : vok n' v = true := by
  cases v with
  | ref x =>
    simp only [vok, Bool.or_eq_true, Nat.blt_eq] at hv ⊢
    omega
  | _ => rfl
theorem vok_rv {n : Nat} {ad ad' : Nat → Nat} (h : ∀ x, x < n → ad' x = ad x) (h2 : ∀ x, 900000 < x → ad' x = ad x) {v : Value} (hv : vok n v = true) : rv ad' v = rv ad v := by
  cases v with
  | ref x =>
    simp only [vok, Bool.or_eq_true, Nat.blt_eq] at hv
    show Value.ref (ad' x) = Value.ref (ad x)
    rcases hv with q | q
    · rw [h x q]
    · rw [h2 x q]
  | _ => rfl
theorem vok_map {n : Nat} {ad ad' : Nat → Nat} (h : ∀ x, x < n → ad' x = ad x) (h2 : ∀ x, 900000 < x → ad' x = ad x) {vs : List Value} (hv : vs.all (vok n) = true) : vs.map (rv ad') = vs.map (rv ad) :=
  List.map_congr_left fun v hm => vok_rv h h2 (List.all_eq_true.mp hv v hm)
theorem all_mono {n n' : Nat} (h : n ≤ n') {vs : List Value} (hv : vs.all (vok n) = true) : vs.all (vok n') = true :=
  List.all_eq_true.mpr fun v hm => vok_mono h (List.all_eq_true.mp hv v hm)
theorem all_mk {n : Nat} : ∀ (f : List Bool) (L : List Value), L.all (vok n) = true → (mk f L).all (vok n) = true
  | [], L, h => by cases L <;> exact h
  | b :: f, [], h => h
  | b :: f, v :: L, h => by
    simp only [List.all_cons, Bool.and_eq_true] at h
    show ((bif b then v else dv) :: mk f L).all (vok n) = true
    simp only [List.all_cons, Bool.and_eq_true]
    refine ⟨?_, all_mk f L h.2⟩
    cases b with
    | true => exact h.1
    | false => rfl
theorem all_set {n : Nat} {L : List Value} (i : Nat) {v : Value} (h : L.all (vok n) = true) (hv : vok n v = true) : (L.set i v).all (vok n) = true := by
  refine List.all_eq_true.mpr fun w hw => ?_
  rcases List.mem_or_eq_of_mem_set hw with h1 | h1
  · exact List.all_eq_true.mp h w h1
  · rw [h1]; exact hv
theorem all_kill {n : Nat} {L : List Value} (i : Nat) (h : L.all (vok n) = true) : (kill L i).all (vok n) = true := by
  cases i with
  | zero => exact h
  | succ i =>
    rw [kill_s]
    split
    · exact all_set i h rfl
    · exact all_set i h rfl
    · exact h
theorem all_sto {n : Nat} {L : List Value} (i : Nat) {v : Value} (h : L.all (vok n) = true) (hv : vok n v = true) : (sto L i v).all (vok n) = true := all_set i (all_kill i h) hv
theorem all_sto2 {n : Nat} {L : List Value} (i : Nat) {v : Value} (h : L.all (vok n) = true) (hv : vok n v = true) : (sto2 L i v).all (vok n) = true := all_set (i + 1) (all_set i (all_kill i h) hv) rfl
theorem all_ent {n : Nat} : ∀ as : List Value, as.all (vok n) = true → (ent as).all (vok n) = true
  | [], _ => rfl
  | v :: r, h => by
    simp only [List.all_cons, Bool.and_eq_true] at h
    have ih := all_ent r h.2
    have ih2 : ∀ w : Value, vok n w = true → (w :: ent r).all (vok n) = true := fun w hw => by simp only [List.all_cons, Bool.and_eq_true]; exact ⟨hw, ih⟩
    have ih3 : ∀ w : Value, vok n w = true → (w :: dv :: ent r).all (vok n) = true := fun w hw => by simp only [List.all_cons, Bool.and_eq_true]; exact ⟨hw, rfl, ih⟩
    cases v with
    | long x => exact ih3 _ h.1
    | double x => exact ih3 _ h.1
    | _ => exact ih2 _ h.1
theorem all_at {n : Nat} {L : List Value} (h : L.all (vok n) = true) {i : Nat} {v : Value} (hi : L[i]? = some v) : vok n v = true := List.all_eq_true.mp h v (List.mem_of_getElem? hi)
theorem inb_in {i : Int32} {n : Nat} (h : inb i n = true) : vp_in i n := by
  intro q
  simp only [inb, Bool.not_eq_true', Bool.or_eq_false_iff, decide_eq_false_iff_not] at h
  rcases q with q | q
  · exact h.1 q
  · have := Nat.ble_eq.mpr q
    rw [h.2] at this
    cases this
def slen : List Nat := [5, 4, 2, 4, 4, 5, 0, 10, 11, 8, 8, 7, 19, 10, 9, 3, 1]
def sbyt : List (List Int32) := [[108, 101, 97, 115, 116], [109, 111, 115, 116], [111, 110], [98, 97, 110, 100], [100, 97, 116, 101], [108, 97, 121, 101, 114], [], [108, 101, 115, 116, 32, 49, 32, 50, 32, 51], [108, 101, 97, 115, 116, 32, 49, 32, 120, 32, 51], [109, 111, 115, 116, 32, 49, 32, 50], [111, 110, 32, 49, 32, 50, 32, 51], [108, 97, 121, 101, 114, 32, 52], [100, 97, 116, 101, 32, 48, 32, 48, 32, 50, 49, 52, 55, 52, 56, 51, 54, 52, 56], [98, 97, 110, 100, 32, 45, 32, 49, 32, 49], [32, 32, 98, 97, 110, 100, 32, 48, 32], [32, 43, 48], [32]]
/-- the texts' places -/
def stp (i : Nat) : Nat := if i < 6 then 1000020 + i else 1000040 + 20 * ((i - 6) / 10) + (i - 6) % 10
theorem stp_b {i : Nat} (h : i < 17) : 1000020 ≤ stp i ∧ stp i ≤ 1000060 := by unfold stp; split <;> omega
theorem castable_moved {C T : String} {a : Array Value} {u U : State} (hvm : u.vm.Alike U.vm) (h : (Cond.castable C T).before a u = true) : (Cond.castable C T).before a U = true := by
  simp only [Cond.before, Cond.holds, Cond.value] at h ⊢
  rw [hvm.findClass, hvm.findClass]
  simp only [hvm.assignable]
  exact h
theorem superclass_moved {C T : String} {a : Array Value} {u U : State} (hvm : u.vm.Alike U.vm) (h : (Cond.superclass C T).before a u = true) : (Cond.superclass C T).before a U = true := by
  cases hc : u.vm.findClass C with
  | none => simp [Cond.before, Cond.holds, Cond.value, hc] at h
  | some c =>
    obtain ⟨p, k, kp, h1, h2, h3, h4, h5, h6, h7⟩ := Cond.superclass_spec hc h
    obtain ⟨k', hk', he⟩ := hvm.2.2 _ _ h2
    obtain ⟨kp', hkp', hep⟩ := hvm.2.2 _ _ h3
    have f1 : U.vm.findClass C = some c := by rw [hvm.findClass]; exact hc
    have f2 : U.vm.findClass T = some p := by rw [hvm.findClass]; exact h1
    have g1 : k'.super = some p := by rw [he]; exact h4
    have g2 : k'.kind = .ordinary := by rw [he]; exact h5
    have g3 : kp'.kind = .ordinary := by rw [hep]; exact h6
    have g4 : k'.isInterface = false := by rw [he]; exact h7
    simp [Cond.before, Cond.holds, Cond.value, f1, f2, hk', hkp', g1, g2, g3, g4]
theorem declares_moved {x : MethodName} {a : Array Value} {u U : State} (hvm : u.vm.Alike U.vm) (h : (Cond.declares x).before a u = true) : (Cond.declares x).before a U = true := by
  have h1 := Cond.declares_setVm (args := a) hvm x
  rw [h] at h1
  exact va_tabs rfl (rfl : (u.setVm U.vm).vm = U.vm) h1
/-- words of an exception's making that aren't kept as they stand -/
def BW : List Cond := .superclass "java/lang/Throwable" "java/lang/Object" :: ([.declares ⟨"java/lang/RuntimeException", "<init>", "(Ljava/lang/String;)V"⟩, .declares ⟨"java/lang/Exception", "<init>", "(Ljava/lang/String;)V"⟩, .declares ⟨"java/lang/Throwable", "<init>", "(Ljava/lang/String;)V"⟩] ++ (List.range 4).map (fun E => .castable (exn E) (exn E)))
theorem BW_moved {u U : State} (hvm : u.vm.Alike U.vm) (h : ∀ w ∈ BW, w.before #[] u = true) : ∀ w ∈ BW, w.before #[] U = true := by
  intro w hw
  have h1 := h w hw
  rcases List.mem_cons.mp hw with rfl | hw
  · exact superclass_moved hvm h1
  rcases List.mem_append.mp hw with hw | hw
  · simp only [List.mem_cons, List.not_mem_nil, or_false] at hw
    rcases hw with rfl | rfl | rfl <;> exact declares_moved hvm h1
  · obtain ⟨E, -, rfl⟩ := List.mem_map.mp hw
    exact castable_moved hvm h1
theorem aoa_spec {ty : FieldType} {s : State} (h : va_AOA ty s) : ∃ comp c k, s.vm.findClass (FieldType.array ty).toString = some comp ∧ (s.vm.classes.findIdx? fun (x : Class) => match x.kind with | .array component _ => component == comp | _ => false) = some c ∧ s.vm.classes[c]? = some k ∧ k.kind = .array comp (.array ty) ∧
    s.vm.findClass ("[" ++ (FieldType.array ty).toString) = some c := by
  unfold va_AOA Cond.before at h
  simp only [Cond.holds, Cond.value, beq_iff_eq] at h
  cases hc : s.vm.findClass (FieldType.array ty).toString with
  | none => simp [hc] at h
  | some comp =>
    simp only [hc, Option.bind_some, Option.bind_eq_some_iff, Option.map_eq_some_iff] at h
    obtain ⟨c, hi, k, hk, hb⟩ := h
    obtain ⟨hlt, hp, -⟩ := Array.findIdx?_eq_some_iff_getElem.mp hi
    have hkk : s.vm.classes[c] = k := (Array.getElem?_eq_some_iff.mp hk).2
    rw [hkk] at hp
    cases hkind : k.kind with
    | array component t9 =>
      rw [hkind] at hb hp
      simp at hb hp
      exact ⟨comp, c, k, rfl, hi, hk, by rw [hkind, hp, hb.1], hb.2⟩
    | _ => rw [hkind] at hb; simp at hb
theorem va_AOA.moved {ty : FieldType} {u U : State} (hvm : u.vm.Alike U.vm) (h : va_AOA ty u) : va_AOA ty U := by
  obtain ⟨comp, c, k, h1, h2, h3, h4, h5⟩ := aoa_spec h
  obtain ⟨k', hk', he⟩ := hvm.2.2 _ _ h3
  have hi : (U.vm.classes.findIdx? fun (x : Class) => match x.kind with | .array component _ => component == comp | _ => false) = some c := by
    have e1 := va_idx_bare U.vm comp
    have e2 := va_idx_bare u.vm comp
    first | (rw [hvm.bare_eq] at e1; exact e1.symm.trans (e2.trans h2)) | (rw [← hvm.bare_eq] at e1; exact e1.symm.trans (e2.trans h2))
  have hkind : k'.kind = .array comp (.array ty) := by rw [he]; exact h4
  have f1 : U.vm.findClass (FieldType.array ty).toString = some comp := by rw [hvm.findClass]; exact h1
  have f2 : U.vm.findClass ("[" ++ (FieldType.array ty).toString) = some c := by rw [hvm.findClass]; exact h5
  unfold va_AOA Cond.before Cond.holds
  simp only [Cond.value]
  rw [f1, Option.bind_some]
  refine (congrArg (fun o : Option Nat => (o.bind (fun c => (U.vm.classes[c]?).map fun (k : Class) => match k.kind with | .array _ t9 => decide (t9 = FieldType.array ty) && decide (U.vm.findClass ("[" ++ (FieldType.array ty).toString) = some c) | _ => false) == some true)) hi).trans ?_
  simp [hk', hkind, f2]
/-- what the making of texts needs -/
def SBG (sp : Nat → Nat) (A : Nat → Prop) (U : State) (H : Heap) : Prop := ((Cond.superclass "java/lang/StringBuilder" "java/lang/AbstractStringBuilder").before #[] U = true ∧ ∀ y ∈ [nm 367, nm 369, nm 372], (Cond.selects "java/lang/StringBuilder" y y).before #[] U = true) ∧ va_Z "java/lang/Integer" "DigitOnes" "[B" (.ref (sp 1000014)) A U H ∧ va_T .byte (sp 1000014) 100 (fun j => .int (sta 1000014 j)) A U H
/-- what stays: classes, the script, static rows, texts, what exceptions need -/
def GS (D : va_G) (cA : Nat → ClassId) (A : Nat → Prop) (sp : Nat → Nat) (L : Nat) (xs : Nat → Int32) (U : State) (H : Heap) : Prop :=
  va_K D clsv (tyl cA) U ∧
  (L ≤ 2560 → va_X (sp iSCR) L xs U H ∧ sp iSCR < H.size ∧ ¬ A (sp iSCR)) ∧
  (∀ i : Nat, i < 3 → va_Z (stn (1000011 + i)).1 (stn (1000011 + i)).2.1 (stn (1000011 + i)).2.2 (.ref (sp (1000011 + i))) A U H ∧ va_T .int (sp (1000011 + i)) (ssp (1000011 + i)).2 (fun j => .int (sta (1000011 + i) j)) A U H) ∧
  va_Z "java/lang/String" "COMPACT_STRINGS" "Z" (.int 1) A U H ∧
  vk_S 17 slen sbyt (fun i => sp (stp i)) (fun i => sp (stp i + 10)) A U H ∧
  (∀ e ∈ pS, (e.1 = 9 ∨ e.1 = 12) → ∃ tx, vk_R (onm e.1) e.2.1 tx (sp e.2.2.1) U) ∧
  (∀ e ∈ pTx, e.1 = 10 → ∃ sa, vk_R (onm 10) e.2.1 e.2.2 sa U) ∧
  (vx_Zq Bundle.tN "UNASSIGNED_STACK" Bundle.steD A U H ∧ vx_Zq Bundle.tN "SUPPRESSED_SENTINEL" Bundle.listD A U H ∧ (∀ w ∈ BW, w.before #[] U = true) ∧ va_AO "GlacierBook$Page" U ∧ va_AOA .int U ∧ va_AOA .long U ∧ (∀ e ∈ pN, va_Nw (.methodLinkNest (onm e.1) e.2.1 (nm e.2.2.1) "GlacierBook") U) ∧ va_AOA .boolean U ∧ va_AO "java/lang/String" U ∧ SBG sp A U H) ∧
  (∀ E F : Nat, E < 4 → (F = 0 ∨ F = 3) → E ≠ F → va_Nc (exn E) (exn F) U) ∧
  va_Zq "jdk/internal/util/Preconditions" "SIOOBE_FORMATTER" "Ljava/util/function/BiFunction;" A U H ∧ (∀ q : Nat, H.size ≤ q → A q)
theorem GS.go {D : va_G} {cA : Nat → ClassId} {A : Nat → Prop} {sp : Nat → Nat} {L : Nat} {xs : Nat → Int32} {s U : State} {H0 H : Heap} (g : GS D cA A sp L xs s H0) (hW : s.WarmedH U.vm) (hz : H0.size ≤ H.size)
    (hk : ∀ q : Nat, q < H0.size → ¬ A q → H[q]? = H0[q]?) : GS D cA A sp L xs U H := by
  obtain ⟨g1, g2, g5, g6, g7, g8, g9, ⟨g10, g11, g15, g16, g17, g18, g19, g20, g21, g22⟩, g12, g13, g14⟩ := g
  have hv := hW.alike
  exact ⟨va_K.moved hv g1, fun hq => ⟨(va_X.moved hv (g2 hq).1).kept (hk _ (g2 hq).2.1 (g2 hq).2.2), Nat.lt_of_lt_of_le (g2 hq).2.1 hz, (g2 hq).2.2⟩, fun i hi => ⟨(va_Z.moved hv (g5 i hi).1).kept hk, (va_T.moved hv (g5 i hi).2).kept hk⟩, (va_Z.moved hv g6).kept hk,
    (vk_S.moved hv g7).kept hk, fun e he h9 => (g8 e he h9).imp fun _ h => h.warm hW, fun e he h9 => (g9 e he h9).imp fun _ h => h.warm hW, ⟨(vx_Zq.moved hv g10).kept hk, (vx_Zq.moved hv g11).kept hk, BW_moved hv g15, g16.moved hv, g17.moved hv, g18.moved hv, fun e he => (g19 e he).warmM hW, g20.moved hv, g21.moved hv, ⟨superclass_moved hv g22.1.1, fun y hy => word_at hW (Or.inl (by first | rfl | simp [Cond.onTables, Cond.keeps, Cond.steady])) (g22.1.2 y hy)⟩, (va_Z.moved hv g22.2.1).kept hk, (va_T.moved hv g22.2.2).kept hk⟩,
    fun E F hE hF hne => (g12 E F hE hF hne).moved hv, (va_Zq.moved hv g13).kept hk, fun q hq => g14 q (Nat.le_trans hz hq)⟩
/-- a method's fixed facts -/
def Cx (p : Program) (l : Launch) (R : Room) (s : State) (m : MethodId) (args : Array Value) (meth : Method) (c : Code) (D : va_G) (cA : Nat → ClassId) (A : Nat → Prop) (sp : Nat → Nat) (L : Nat) (xs : Nat → Int32) (μ : Nat) : Prop :=
  p.tables.exec = Jvm.exec ∧ c.code = byt μ ∧ meth.sig.returnType = rtt μ ∧ c.maxLocals = mxl μ ∧ s.vm.findClass (onm (ow μ)) = some m.cls ∧ (∀ w ∈ WALL, w.before args s = true) ∧ meth.locks = false ∧
  (μ ≠ 358 → c.exceptionTable.toList = tableOf (hdl μ)) ∧ ((nm μ).name = "<init>" → meth.name = "<init>") ∧ fr μ ≤ R.frames ∧ lc μ ≤ R.locals ∧ l.stackTraces = false ∧ GS D cA A sp L xs s s.heap ∧ True
/-- the special places; the script is read only where its length is a script's -/
def ssL (L p : Nat) : Nat × Nat := bif Nat.beq p iSCR && Nat.blt 2560 L then (0, 0) else ssp p
/-- the shapes of places: objects, rows -/
def kOK (k : Nat) : Prop := k < 15 ∨ (20 ≤ k ∧ k ≤ 30 ∧ k ≠ 24)
/-- what a place may point to: a place, or a text that stands from the start -/
def rOK (n q : Nat) : Prop := q < n ∨ (1000020 ≤ q ∧ q ≤ 1000060)
theorem rOK_mono {n n' q : Nat} (h : n ≤ n') (hq : rOK n q) : rOK n' q := hq.imp (fun h1 => Nat.lt_of_lt_of_le h1 h) id
theorem rOK_vok {n q : Nat} (h : rOK n q) : vok n (.ref q) = true := by
  simp only [vok, Bool.or_eq_true, Nat.blt_eq]
  rcases h with h | h
  · exact Or.inl h
  · exact Or.inr (by omega)
def wfM (L : Nat) (xs : Nat → Int32) (M : Mm) : Prop :=
  M.1 ≤ 900000 ∧ (∀ p, M.1 ≤ p → M.2.1 p = ssL L p) ∧ (∀ p, p < M.1 → kOK (M.2.1 p).1) ∧ (∀ p j q, p < M.1 → M.2.2.1 p j = some q → rOK M.1 q) ∧
  M.2.2.2.1 iSCL 0 = Int32.ofNat L ∧ ∀ j, j < L → M.2.2.2.1 iSCR j = xs j
/-- the heap holds the memory -/
def Wd (D : va_G) (cA : Nat → ClassId) (A : Nat → Prop) (sp : Nat → Nat) (L : Nat) (xs : Nat → Int32) (s : State) (ad0 : Nat → Nat) (n0 : Nat) (hx : Prop) (ad : Nat → Nat) (M : Mm) (H : Heap) (locs : List Loc) : Prop :=
  va_P D clsv (wsl cA ad M) H ∧ va_D A (wsl cA ad M) ∧ va_S A s.heap H locs ∧ wfM L xs M ∧ (∀ q, 900000 < q → q ≠ iEXC → ad q = sp q) ∧ n0 ≤ M.1 ∧ (∀ q, q < n0 → ad q = ad0 q) ∧ (hx → ad iEXC = ad0 iEXC)
def Fm (ad : Nat → Nat) (μ : Nat) (LS : Array Slot) (ls st : List Value) (n : Nat) : Prop := LR ad LS (mxl μ) ls ∧ ls.all (vok n) = true ∧ st.all (vok n) = true
/-- what is left of calls -/
def kr (μ : Nat) (M : Mm) : Nat := bif Nat.ble 318 μ then (M.2.2.2.1 iCRD 0).toNatClampNeg else 0
def Bu (X9 : Nat × Nat) (R : Room) (μ pc : Nat) (M : Mm) (cells slots : Nat) : Prop := cells + ((cst μ pc).1 + X9.1 + 4 * kr μ M) ≤ R.cells ∧ slots + ((cst μ pc).2 + X9.2 + 24 * kr μ M) ≤ R.slots
theorem kr_eq {μ : Nat} {M M' : Mm} (h : M'.2.2.2.1 iCRD 0 = M.2.2.2.1 iCRD 0) : kr μ M' = kr μ M := by unfold kr; rw [h]
/-- from here on the rest of this method's run is known -/
def Nx (X9 : Nat × Nat) (p : Program) (l : Launch) (e : Env) (R : Room) (s : State) (m : MethodId) (args : Array Value) (below : List Frame) (meth : Method) (c : Code) (D : va_G) (cA : Nat → ClassId) (A : Nat → Prop) (sp : Nat → Nat) (L : Nat) (xs : Nat → Int32)
    (ad0 : Nat → Nat) (n0 : Nat) (μ : Nat) (Q : State → Prop) (g : Cf → Option Ou) (o : Ou) : Prop :=
  ∀ (pc : Nat) (ls st : List Value) (M : Mm) (ad : Nat → Nat) (LS : Array Slot) (H : Heap) (locs : List Loc) (cells slots : Nat), g (μ, pc, ls, st, M) = some o → Wd D cA A sp L xs s ad0 n0 (hdl μ = []) ad M H locs → Fm ad μ LS ls st M.1 → Bu X9 R μ pc M cells slots →
    W p l e R s m args below meth c H locs cells slots Q (F0 m pc LS (st.map (rv ad)))
/-! inversions of the clean step -/
section AK
variable {f g : Cf → Option Ou} {c0 : Cf} {u : Ou}
theorem ak_hl (h : acK f g c0 hl = some u) : False := by cases h
theorem ak_lk {x : Option Value} {F : Value → Ac} (h : acK f g c0 (lk x F) = some u) : ∃ v, x = some v ∧ acK f g c0 (F v) = some u := by
  cases x with
  | none => exact (ak_hl h).elim
  | some v => exact ⟨v, rfl, h⟩
theorem ak_fI {v : Value} {F : Int32 → Ac} (h : acK f g c0 (fI v F) = some u) : ∃ x, v = .int x ∧ acK f g c0 (F x) = some u := by
  cases v with
  | int x => exact ⟨x, rfl, h⟩
  | _ => exact (ak_hl h).elim
theorem ak_fL {v : Value} {F : Int64 → Ac} (h : acK f g c0 (fL v F) = some u) : ∃ x, v = .long x ∧ acK f g c0 (F x) = some u := by
  cases v with
  | long x => exact ⟨x, rfl, h⟩
  | _ => exact (ak_hl h).elim
theorem ak_fF {v : Value} {F : UInt32 → Ac} (h : acK f g c0 (fF v F) = some u) : ∃ x, v = .float x ∧ acK f g c0 (F x) = some u := by
  cases v with
  | float x => exact ⟨x, rfl, h⟩
  | _ => exact (ak_hl h).elim
theorem ak_fD {v : Value} {F : UInt64 → Ac} (h : acK f g c0 (fD v F) = some u) : ∃ x, v = .double x ∧ acK f g c0 (F x) = some u := by
  cases v with
  | double x => exact ⟨x, rfl, h⟩
  | _ => exact (ak_hl h).elim
theorem ak_fR {v : Value} {F : Nat → Ac} (h : acK f g c0 (fR v F) = some u) : ∃ x, v = .ref x ∧ acK f g c0 (F x) = some u := by
  cases v with
  | ref x => exact ⟨x, rfl, h⟩
  | _ => exact (ak_hl h).elim
theorem ak_f1 {st : List Value} {F : Value → List Value → Ac} (h : acK f g c0 (f1 st F) = some u) : ∃ v r, st = v :: r ∧ acK f g c0 (F v r) = some u := by
  match st, h with
  | v :: r, h => exact ⟨v, r, rfl, h⟩
  | [], h => exact (ak_hl h).elim
theorem ak_f2 {st : List Value} {F : Value → Value → List Value → Ac} (h : acK f g c0 (f2 st F) = some u) : ∃ v w r, st = v :: w :: r ∧ acK f g c0 (F v w r) = some u := by
  match st, h with
  | v :: w :: r, h => exact ⟨v, w, r, rfl, h⟩
  | [_], h => exact (ak_hl h).elim
  | [], h => exact (ak_hl h).elim
theorem ak_f3 {st : List Value} {F : Value → Value → Value → List Value → Ac} (h : acK f g c0 (f3 st F) = some u) : ∃ v w z r, st = v :: w :: z :: r ∧ acK f g c0 (F v w z r) = some u := by
  match st, h with
  | v :: w :: z :: r, h => exact ⟨v, w, z, r, rfl, h⟩
  | [_, _], h => exact (ak_hl h).elim
  | [_], h => exact (ak_hl h).elim
  | [], h => exact (ak_hl h).elim
theorem ak_i2 {st : List Value} {F : Int32 → Int32 → List Value → Ac} (h : acK f g c0 (i2 st F) = some u) : ∃ x y r, st = .int y :: .int x :: r ∧ acK f g c0 (F x y r) = some u := by
  obtain ⟨v, w, r, rfl, h⟩ := ak_f2 h
  obtain ⟨y, rfl, h⟩ := ak_fI h
  obtain ⟨x, rfl, h⟩ := ak_fI h
  exact ⟨x, y, r, rfl, h⟩
theorem ak_i1 {st : List Value} {F : Int32 → List Value → Ac} (h : acK f g c0 (i1 st F) = some u) : ∃ x r, st = .int x :: r ∧ acK f g c0 (F x r) = some u := by
  obtain ⟨v, r, rfl, h⟩ := ak_f1 h
  obtain ⟨x, rfl, h⟩ := ak_fI h
  exact ⟨x, r, rfl, h⟩
theorem ak_l2 {st : List Value} {F : Int64 → Int64 → List Value → Ac} (h : acK f g c0 (l2 st F) = some u) : ∃ x y r, st = .long y :: .long x :: r ∧ acK f g c0 (F x y r) = some u := by
  obtain ⟨v, w, r, rfl, h⟩ := ak_f2 h
  obtain ⟨y, rfl, h⟩ := ak_fL h
  obtain ⟨x, rfl, h⟩ := ak_fL h
  exact ⟨x, y, r, rfl, h⟩
theorem ak_l1 {st : List Value} {F : Int64 → List Value → Ac} (h : acK f g c0 (l1 st F) = some u) : ∃ x r, st = .long x :: r ∧ acK f g c0 (F x r) = some u := by
  obtain ⟨v, r, rfl, h⟩ := ak_f1 h
  obtain ⟨x, rfl, h⟩ := ak_fL h
  exact ⟨x, r, rfl, h⟩
theorem ak_gd {b : Bool} {μ pc : Nat} {ls st : List Value} {M : Mm} (h : acK f g c0 (gd b μ pc ls st M) = some u) : b = true ∧ g (μ, pc, ls, st, M) = some u := by
  cases b with
  | true => exact ⟨rfl, h⟩
  | false => cases h
theorem ak_br {b : Bool} {μ pt pf : Nat} {lt lf st : List Value} {M : Mm} (h : acK f g c0 (br b μ pt pf lt lf st M) = some u) : (b = true ∧ g (μ, pt, lt, st, M) = some u) ∨ (b = false ∧ g (μ, pf, lf, st, M) = some u) := by
  cases b with
  | true => exact Or.inl ⟨rfl, h⟩
  | false => exact Or.inr ⟨rfl, h⟩
theorem ak_if {b : Bool} {x y : Ac} (h : acK f g c0 (bif b then x else y) = some u) : (b = true ∧ acK f g c0 x = some u) ∨ (b = false ∧ acK f g c0 y = some u) := by
  cases b with
  | true => exact Or.inl ⟨rfl, h⟩
  | false => exact Or.inr ⟨rfl, h⟩
theorem ak_ifh {b : Bool} {x : Ac} (h : acK f g c0 (bif b then x else hl) = some u) : b = true ∧ acK f g c0 x = some u := by
  rcases ak_if h with h | h
  · exact h
  · exact (ak_hl h.2).elim
end AK
theorem cle_1 {a b : Nat × Nat} (h : cle a b = true) : a.1 ≤ b.1 ∧ a.2 ≤ b.2 := by
  simp only [cle, Bool.and_eq_true, Nat.ble_eq] at h
  exact h
theorem Bu.go {X9 : Nat × Nat} {R : Room} {μ pc pc' cells slots : Nat} {M : Mm} (h : Bu X9 R μ pc M cells slots) (hc : cle (cst μ pc') (cst μ pc) = true) : Bu X9 R μ pc' M cells slots := by
  obtain ⟨h1, h2⟩ := cle_1 hc
  obtain ⟨h3, h4⟩ := h
  exact ⟨by omega, by omega⟩
theorem Bu.mv {X9 : Nat × Nat} {R : Room} {μ pc cells slots : Nat} {M M' : Mm} (h : Bu X9 R μ pc M cells slots) (hi : M'.2.2.2.1 iCRD 0 = M.2.2.2.1 iCRD 0) : Bu X9 R μ pc M' cells slots := by
  unfold Bu at h ⊢
  rw [kr_eq hi]
  exact h
