/-! the steps that make cells -/
theorem cel_ad {cA : Nat → ClassId} {ad ad' : Nat → Nat} {S S' : Nat → Nat × Nat} {R R' : Nat → Nat → Option Nat} {I I' : Nat → Nat → Int32} {J J' : Nat → Nat → Int64} {D D' : Nat → Nat → UInt64} {p : Nat} (hS : S' p = S p) (hR : R' p = R p) (hI : I' p = I p) (hJ : J' p = J p) (hD : D' p = D p)
    (ha : ∀ j z, R p j = some z → ad' z = ad z) : cel cA ad' S' R' I' J' D' p = cel cA ad S R I J D p := by
  unfold cel
  rw [hS, hR, hI, hJ, hD]
  have e : ∀ j, (R p j).map ad' = (R p j).map ad := fun j => by
    cases h : R p j with
    | none => rfl
    | some z => show some _ = some _; rw [ha j z h]
  have e2 : ∀ k j i9 j9, fcl k (R p j) i9 j9 ad' = fcl k (R p j) i9 j9 ad := fun k j i9 j9 => by unfold fcl; rw [e j]
  simp only [e, e2]
section WD
variable {D : va_G} {cA : Nat → ClassId} {A : Nat → Prop} {sp : Nat → Nat} {L : Nat} {xs : Nat → Int32} {s : State} {ad0 : Nat → Nat} {n0 : Nat} {hx : Prop} {ad ad' : Nat → Nat} {n n' : Nat} {S S' : Nat → Nat × Nat} {Rf R' : Nat → Nat → Option Nat} {I I' : Nat → Nat → Int32} {J J' : Nat → Nat → Int64} {Df D' : Nat → Nat → UInt64} {H H1 : Heap} {locs locs1 : List Loc} {a9 : Nat}
/-- more places: the old ones as they were -/
theorem Wd.grow (w : Wd D cA A sp L xs s ad0 n0 hx ad (n, S, Rf, I, J, Df) H locs) (hn : n' ≤ 900000) (hnn : n ≤ n') (hS : ∀ q, (q < n ∨ n' ≤ q) → S' q = S q) (hI : ∀ q, (q < n ∨ n' ≤ q) → I' q = I q)
    (hk : ∀ q, n ≤ q → q < n' → kOK (S' q).1) (hR : ∀ q, q < n → R' q = Rf q) (hRn : ∀ q j z, n ≤ q → q < n' → R' q j = some z → rOK n' z) (ha : ∀ q, (q < n ∨ n' ≤ q) → ad' q = ad q)
    (hP : va_P D clsv (wsl cA ad' (n', S', R', I', J', D')) H1) (hD : va_D A (wsl cA ad' (n', S', R', I', J', D'))) (hSS : va_S A s.heap H1 locs1) : Wd D cA A sp L xs s ad0 n0 hx ad' (n', S', R', I', J', D') H1 locs1 := by
  obtain ⟨-, -, -, ⟨h1, h2, h3, h4, h5, h6⟩, h7, h8, h9, h10⟩ := w
  dsimp only at h1 h2 h3 h4 h5 h6 h8
  refine ⟨hP, hD, hSS, ⟨hn, fun q hq => (hS q (Or.inr hq)).trans (h2 q (Nat.le_trans hnn hq)), fun q hq => ?_, fun q j z hq hz => ?_, ?_, fun j hj => ?_⟩, fun q h q2 => (ha q (Or.inr (by omega))).trans (h7 q h q2), Nat.le_trans h8 hnn, fun q hq => (ha q (Or.inl (by omega))).trans (h9 q hq), fun q => (ha iEXC (Or.inr (by show n' ≤ 1000000; omega))).trans (h10 q)⟩
  · by_cases hqn : q < n
    · show kOK (S' q).1
      rw [hS q (Or.inl hqn)]; exact h3 q hqn
    · exact hk q (by omega) hq
  · by_cases hqn : q < n
    · have hz : R' q j = some z := hz
      rw [hR q hqn] at hz
      exact rOK_mono hnn (h4 q j z hqn hz)
    · exact hRn q j z (by omega) hq hz
  · show I' iSCL 0 = _
    rw [hI iSCL (Or.inr (by show n' ≤ 1000001; omega))]; exact h5
  · show I' iSCR j = _
    rw [hI iSCR (Or.inr (by show n' ≤ 1000002; omega))]; exact h6 j hj
theorem Wd.push (w : Wd D cA A sp L xs s ad0 n0 hx ad (n, S, Rf, I, J, Df) H locs) (hn : n < 900000) {k len : Nat} (hk : kOK k) {e : va_E} (hS : S' = upR S n (k, len)) (hR : R' = upR Rf n (fun _ => none)) (hI : ∀ q, q ≠ n → I' q = I q) (hJ : ∀ q, q ≠ n → J' q = J q) (hDf : ∀ q, q ≠ n → D' q = Df q)
    (he : cel cA (upR ad n a9) S' R' I' J' D' n = e) (hP : va_P D clsv (wsl cA ad (n, S, Rf, I, J, Df) ++ [(a9, e)]) H1) (hD : va_D A (wsl cA ad (n, S, Rf, I, J, Df) ++ [(a9, e)])) (hSS : va_S A s.heap H1 locs1) : Wd D cA A sp L xs s ad0 n0 hx (upR ad n a9) (n + 1, S', R', I', J', D') H1 locs1 := by
  have hw := w.2.2.2.1.2.2.2.1
  rw [wsl_push he (fun q hq => cel_ad (by rw [hS, upR_n (Nat.ne_of_lt hq)]) (by rw [hR, upR_n (Nat.ne_of_lt hq)]) (hI q (Nat.ne_of_lt hq)) (hJ q (Nat.ne_of_lt hq)) (hDf q (Nat.ne_of_lt hq)) (fun j z hz => upR_n (by have := hw q j z hq hz; unfold rOK at this; omega)))] at hP hD
  refine w.grow hn (Nat.le_succ n) (fun q hq => by rw [hS, upR_n (by omega)]) (fun q hq => hI q (by omega)) (fun q h1 h2 => ?_) (fun q hq => by rw [hR, upR_n (by omega)]) (fun q j z h1 h2 hz => ?_) (fun q hq => upR_n (by omega)) hP hD hSS
  · have : q = n := by omega
    subst this
    rw [hS, upR_s]; exact hk
  · have : q = n := by omega
    subst this
    rw [hR, upR_s] at hz
    cases hz
end WD
section STEP
variable {X9 : Nat × Nat} {p : Program} {l : Launch} {e : Env} {R : Room} {s : State} {m : MethodId} {args : Array Value} {below : List Frame} {meth : Method} {c : Code} {D : va_G} {cA : Nat → ClassId} {A : Nat → Prop} {sp : Nat → Nat} {L : Nat} {xs : Nat → Int32} {ad0 : Nat → Nat} {n0 : Nat} {μ : Nat} {Q : State → Prop} {f g : Cf → Option Ou} {c0 : Cf} {o : Ou}
variable {pc : Nat} {ls st : List Value} {n : Nat} {S : Nat → Nat × Nat} {Rf : Nat → Nat → Option Nat} {I : Nat → Nat → Int32} {J : Nat → Nat → Int64} {Df : Nat → Nat → UInt64} {ad : Nat → Nat} {LS : Array Slot} {H : Heap} {locs : List Loc} {cells slots : Nat}
variable {fm tm : List Bool} {a b cc : Nat} {k : Int32}
theorem K3 (K : Nx X9 p l e R s m args below meth c D cA A sp L xs ad0 n0 μ Q g o) {pc' : Nat} {st' : List Value} {M' : Mm} {ad' : Nat → Nat} (h : g (μ, pc', mk fm ls, st', M') = some o) (w : Wd D cA A sp L xs s ad0 n0 (hdl μ = []) ad' M' H locs) (hL : LR ad LS (mxl μ) ls) (hl : ls.all (vok n) = true) (hn : n ≤ M'.1) (ha1 : ∀ x, x < n → ad' x = ad x) (ha2 : ∀ x, 900000 < x → ad' x = ad x) (hs : st'.all (vok M'.1) = true) (hb : Bu X9 R μ pc' M' cells slots) :
    W p l e R s m args below meth c H locs cells slots Q (F0 m pc' LS (st'.map (rv ad'))) :=
  K1 K h w (hL.ad fun v hv => vok_rv ha1 ha2 (List.all_eq_true.mp hl v hv)) (all_mono hn hl) hs hb
theorem upr_crd {I : Nat → Nat → Int32} {p : Nat} {F : Nat → Int32} (hp : p < 900000) : upR I p F iCRD 0 = I iCRD 0 := by
  rw [upR_n (show iCRD ≠ p by show 1000005 ≠ p; omega)]
theorem Bu.use {X9 : Nat × Nat} {R : Room} {μ pc pc' cells slots x y : Nat} {M M' : Mm} (h : Bu X9 R μ pc M cells slots) (hc : cle (ada (x, y) (cst μ pc')) (cst μ pc) = true) (hi : M'.2.2.2.1 iCRD 0 = M.2.2.2.1 iCRD 0) : (cells + x ≤ R.cells ∧ slots + y ≤ R.slots) ∧ Bu X9 R μ pc' M' (cells + x) (slots + y) := by
  obtain ⟨h1, h2⟩ := cle_1 hc
  obtain ⟨h3, h4⟩ := h
  simp only [ada] at h1 h2
  exact ⟨⟨by omega, by omega⟩, by unfold Bu; rw [kr_eq hi]; omega⟩
theorem ini_ok : (List.range 15).all (fun c => decide (Cond.initialized (clq c).1 ∈ lw_tbl) && (decide (Cond.instantiable (clq c).1 (clq c).2.2 ∈ lw_tbl) && (goodWord (Cond.initialized (clq c).1) && goodWord (Cond.instantiable (clq c).1 (clq c).2.2)))) = true := by decide +kernel
theorem dfv_ok : (List.range 15).all (fun c => (List.range (nfl c)).all (fun k => decide (defaultValue (clt c k) = bif Nat.beq (fkd c k) 1 then .null else bif Nat.beq (fkd c k) 2 then .long 0 else .int 0))) = true := by decide +kernel
theorem s_new0 {x : Nat} (C : Cx p l R s m args meth c D cA A sp L xs μ) (K : Nx X9 p l e R s m args below meth c D cA A sp L xs ad0 n0 μ Q g o) (w : Wd D cA A sp L xs s ad0 n0 (hdl μ = []) ad (n, S, Rf, I, J, Df) H locs) (fr : Fm ad μ LS ls st n) (hb : Bu X9 R μ pc (n, S, Rf, I, J, Df) cells slots) (hd : decode (byt μ) pc = .ok (.new x, 3)) (ha : Nat.beq a 0 = true) (hk : (a3 pK (ow μ) x b && (Nat.blt b 15 && cle (ada (1, nfl b) (cst μ (pc + 3))) (cst μ pc))) = true) (h : acK f g c0 (stA μ pc ls st n S Rf I J Df (.new x) 3 fm tm a b cc k) = some o) : W p l e R s m args below meth c H locs cells slots Q (F0 m pc LS (st.map (rv ad))) := by
  obtain ⟨hL, hl, hs⟩ := fr
  simp only [Bool.and_eq_true, Nat.blt_eq] at hk
  obtain ⟨k1, k2, k3⟩ := hk
  have h : acK f g c0 (bif Nat.beq a 0 then _ else _) = some o := h
  rw [ha] at h
  obtain ⟨hg, h⟩ := ak_gd h
  have hg := Nat.blt_eq.mp hg
  obtain ⟨e9, he9, q1, q2, q3⟩ := a3_in k1
  have hw9 := inWb_mem (List.all_eq_true.mp okK e9 he9)
  unfold wK at hw9
  rw [q1, q2, q3] at hw9
  have hio := List.all_eq_true.mp ini_ok b (List.mem_range.mpr k2)
  simp only [Bool.and_eq_true, decide_eq_true_eq] at hio
  obtain ⟨⟨b1, b2⟩, b3⟩ := hb.use (M' := (n + 1, upR S n (b, 0), upR Rf n (fun _ => none), upR I n (fun _ => 0), upR J n (fun _ => 0), Df)) k3 (upr_crd hg)
  have hN := clq_n b k2
  refine va_new (fs := (List.range (nfl b)).map (fun j => fcl (fkd b j) none 0 0 ad)) C.ex C.by (fun w h => C.wd h) (u_in k2) (clt b) (clt_ok b k2) C.own (C.wd hw9) (C.wd (List.mem_filter.mpr ⟨hio.2.1, hio.2.2.2⟩)) (C.wd (List.mem_filter.mpr ⟨hio.1, hio.2.2.1⟩)) C.kk w.1 w.2.1 w.2.2.1 C.gs.2.2.2.2.2.2.2.2.2.2 (clsv_at b k2) ?_ b1 (by rw [hN]; exact b2) hd ?_
  · intro j hj
    rw [hN] at hj
    have h9 := of_decide_eq_true (List.all_eq_true.mp (List.all_eq_true.mp dfv_ok b (List.mem_range.mpr k2)) j (List.mem_range.mpr hj))
    rw [h9]
    simp only [vp_V, List.getD, List.getElem?_map, List.getElem?_range hj, Option.map_some, Option.getD_some]
    unfold fcl
    cases Nat.beq (fkd b j) 1 with
    | true => rfl
    | false => cases Nat.beq (fkd b j) 2 <;> rfl
  · intro q H1 hP hD hS
    have hle := w.le
    rw [hN]
    have w2 := w.push (a9 := q) (k := b) (len := 0) hg (Or.inl k2) rfl rfl (fun q hq => upR_n hq) (fun q hq => upR_n hq) (fun q hq => rfl) (I' := upR I n (fun _ => 0)) (J' := upR J n (fun _ => 0)) (by
      rw [cel_c (c := b) (by rw [upR_s]) k2]
      congr 2
      refine List.map_congr_left fun j _ => ?_
      rw [upR_s, upR_s, upR_s]
      unfold fcl
      cases Nat.beq (fkd b j) 1 <;> rfl) hP hD hS
    have e1 : st.map (rv ad) = st.map (rv (upR ad n q)) := (vok_map (ad := ad) (fun x hx => upR_n (Nat.ne_of_lt hx)) (fun x hx => upR_n (by omega)) hs).symm
    rw [e1]
    have e2 : Value.ref q = rv (upR ad n q) (.ref n) := by show _ = Value.ref _; rw [upR_s]
    rw [e2]
    exact K3 (st' := .ref n :: st) K h w2 hL hl (Nat.le_succ n) (fun x hx => upR_n (Nat.ne_of_lt hx)) (fun x hx => upR_n (by omega)) (by simp only [List.all_cons, Bool.and_eq_true]; exact ⟨by simp only [vok, Bool.or_eq_true, Nat.blt_eq]; exact Or.inl (Nat.lt_succ_self n), all_mono (Nat.le_succ n) hs⟩) b3
theorem s_na1 (C : Cx p l R s m args meth c D cA A sp L xs μ) (K : Nx X9 p l e R s m args below meth c D cA A sp L xs ad0 n0 μ Q g o) (w : Wd D cA A sp L xs s ad0 n0 (hdl μ = []) ad (n, S, Rf, I, J, Df) H locs) (fr : Fm ad μ LS ls st n) (hb : Bu X9 R μ pc (n, S, Rf, I, J, Df) cells slots) {t : ArrayType} {ty : FieldType} (hty : newarray.typeOf t = ty) {k9 t0 : Nat} (ht : (tyl cA)[t0]? = some (cA k9, ty)) (hu : ∀ c1 c2 : ClassId, va_RA s c1 ty → va_RA s c2 ty → c1 = c2) (hk9 : 20 ≤ k9 ∧ k9 ≤ 30 ∧ k9 ≠ 24) (harr : Cond.arrayClass ty ∈ WALL) {x : Int32} {r : List Value} (hst : st = .int x :: r) {a0 : vp_A} (hcel : ∀ q, cel cA (upR ad n q) (upR S n (k9, b)) (upR Rf n (fun _ => none)) (upR I n (fun _ => 0)) (upR J n (fun _ => 0)) (upR Df n (fun _ => 0)) n = .inl (cA k9, a0))
    (ha : ∀ cA : ClassId, vp_cell cA a0 = arrV cA b (fun _ => defaultValue ty)) (hx : ¬ x < 0) (hN : x.toNatClampNeg = b) (hbytes : b * componentBytes ty ≤ 536870912) (hn : n < 900000) (hcost : cle (ada (1, b) (cst μ (pc + 2))) (cst μ pc) = true) (hd : decode (byt μ) pc = .ok (.newarray t, 2))
    (h : g (μ, pc + 2, mk fm ls, .ref n :: r, (n + 1, upR S n (k9, b), upR Rf n (fun _ => none), upR I n (fun _ => 0), upR J n (fun _ => 0), upR Df n (fun _ => 0))) = some o) : W p l e R s m args below meth c H locs cells slots Q (F0 m pc LS (st.map (rv ad))) := by
  subst hst
  obtain ⟨hL, hl, hs⟩ := fr
  simp only [List.all_cons, Bool.and_eq_true] at hs
  obtain ⟨⟨b1, b2⟩, b3⟩ := hb.use (M' := (n + 1, upR S n (k9, b), upR Rf n (fun _ => none), upR I n (fun _ => 0), upR J n (fun _ => 0), upR Df n (fun _ => 0))) hcost (upr_crd hn)
  refine va_newa C.ex C.by (by rw [hty]; exact C.wd harr) hty C.kk w.1 w.2.1 w.2.2.1 C.gs.2.2.2.2.2.2.2.2.2.2 ha hx hN hbytes b1 b2 hd ?_
  intro q cA1 H1 hK hP hD hS
  have hle := w.le
  have hc1 : cA1 = cA k9 := hu _ _ (hK.2 10 _ rfl).2 (C.kk.2 t0 _ ht).2
  rw [hc1] at hP hD
  have w2 := w.push (a9 := q) (k := k9) (len := b) hn (Or.inr hk9) rfl rfl (fun q hq => upR_n hq) (fun q hq => upR_n hq) (fun q hq => upR_n hq) (hcel q) hP hD hS
  have e1 : r.map (rv ad) = r.map (rv (upR ad n q)) := (vok_map (ad := ad) (fun x hx => upR_n (Nat.ne_of_lt hx)) (fun x hx => upR_n (by omega)) hs.2).symm
  show W p l e R s m args below meth c H1 locs (cells + 1) (slots + b) Q (F0 m (pc + 2) LS (.ref q :: r.map (rv ad)))
  rw [e1]
  have e2 : Value.ref q = rv (upR ad n q) (.ref n) := by show _ = Value.ref _; rw [upR_s]
  rw [e2]
  exact K3 (st' := .ref n :: r) K h w2 hL hl (Nat.le_succ n) (fun x hx => upR_n (Nat.ne_of_lt hx)) (fun x hx => upR_n (by omega)) (by simp only [List.all_cons, Bool.and_eq_true]; exact ⟨by simp only [vok, Bool.or_eq_true, Nat.blt_eq]; exact Or.inl (Nat.lt_succ_self n), all_mono (Nat.le_succ n) hs.2⟩) b3
theorem ra_u {ty : FieldType} (h : ∀ c : ClassId, va_RA s c ty = (s.vm.findClass ("[" ++ ty.toString) = some c)) : ∀ c1 c2 : ClassId, va_RA s c1 ty → va_RA s c2 ty → c1 = c2 := by
  intro c1 c2 h1 h2
  rw [h] at h1 h2
  exact Option.some.inj (h1.symm.trans h2)
theorem arr_ok : [FieldType.int, .boolean, .char, .long, .byte].all (fun t => decide (Cond.arrayClass t ∈ lw_tbl) && goodWord (Cond.arrayClass t)) = true := by decide +kernel
theorem arr_in {t : FieldType} (h : t ∈ [FieldType.int, .boolean, .char, .long, .byte]) : Cond.arrayClass t ∈ WALL := by
  have h1 := List.all_eq_true.mp arr_ok t h
  simp only [Bool.and_eq_true, decide_eq_true_eq] at h1
  exact List.mem_filter.mpr h1
theorem s_newarray {t : ArrayType} (C : Cx p l R s m args meth c D cA A sp L xs μ) (K : Nx X9 p l e R s m args below meth c D cA A sp L xs ad0 n0 μ Q g o) (w : Wd D cA A sp L xs s ad0 n0 (hdl μ = []) ad (n, S, Rf, I, J, Df) H locs) (fr : Fm ad μ LS ls st n) (hb : Bu X9 R μ pc (n, S, Rf, I, J, Df) cells slots) (hd : decode (byt μ) pc = .ok (.newarray t, 2)) (hk : (chA t cc && (Nat.ble b 20000 && cle (ada (1, b) (cst μ (pc + 2))) (cst μ pc))) = true) (h : acK f g c0 (stA μ pc ls st n S Rf I J Df (.newarray t) 2 fm tm a b cc k) = some o) : W p l e R s m args below meth c H locs cells slots Q (F0 m pc LS (st.map (rv ad))) := by
  obtain ⟨x, r, rfl, h5⟩ := ak_i1 h
  clear h
  obtain ⟨hg, hF⟩ := ak_gd h5
  clear h5
  simp only [Bool.and_eq_true, Nat.ble_eq, Nat.blt_eq, decide_eq_true_eq] at hk hg
  obtain ⟨k1, k2, k3⟩ := hk
  obtain ⟨g1, g2, g3⟩ := hg
  have hx : ¬ x < 0 := Int32.not_lt.mpr g2
  have hN := beq_e g3
  rw [hN] at hF
  cases t with
  | int =>
    have hcc : cc = 20 := beq_e k1
    subst hcc
    exact s_na1 C K w fr hb (ty := .int) (k9 := 20) (t0 := 0) rfl rfl (ra_u fun _ => rfl) (by omega) (arr_in (t := .int) (by simp)) rfl (a0 := (b, .inl (fun _ => 0))) (fun q => by rw [cel_i (c := 20) (by rw [upR_s]) (by omega), upR_s, upR_s]) (fun _ => rfl) hx hN (by show b * 4 ≤ _; omega) g1 k3 hd hF
  | boolean =>
    have hcc : cc = 21 := beq_e k1
    subst hcc
    exact s_na1 C K w fr hb (ty := .boolean) (k9 := 21) (t0 := 1) rfl rfl (ra_u fun _ => rfl) (by omega) (arr_in (t := .boolean) (by simp)) rfl (a0 := (b, .inl (fun _ => 0))) (fun q => by rw [cel_i (c := 21) (by rw [upR_s]) (by omega), upR_s, upR_s]) (fun _ => rfl) hx hN (by show b * 1 ≤ _; omega) g1 k3 hd hF
  | char =>
    have hcc : cc = 22 := beq_e k1
    subst hcc
    exact s_na1 C K w fr hb (ty := .char) (k9 := 22) (t0 := 2) rfl rfl (ra_u fun _ => rfl) (by omega) (arr_in (t := .char) (by simp)) rfl (a0 := (b, .inl (fun _ => 0))) (fun q => by rw [cel_i (c := 22) (by rw [upR_s]) (by omega), upR_s, upR_s]) (fun _ => rfl) hx hN (by show b * 2 ≤ _; omega) g1 k3 hd hF
  | long =>
    have hcc : cc = 23 := beq_e k1
    subst hcc
    exact s_na1 C K w fr hb (ty := .long) (k9 := 23) (t0 := 3) rfl rfl (ra_u fun _ => rfl) (by omega) (arr_in (t := .long) (by simp)) rfl (a0 := (b, .inr (.inl (fun _ => 0)))) (fun q => by rw [cel_j (by rw [upR_s]), upR_s, upR_s]) (fun _ => rfl) hx hN (by show b * 8 ≤ _; omega) g1 k3 hd hF
  | byte =>
    have hcc : cc = 29 := beq_e k1
    subst hcc
    exact s_na1 C K w fr hb (ty := .byte) (k9 := 29) (t0 := 4) rfl rfl (ra_u fun _ => rfl) (by omega) (arr_in (t := .byte) (by simp)) rfl (a0 := (b, .inl (fun _ => 0))) (fun q => by rw [cel_b (by rw [upR_s]), upR_s, upR_s]) (fun _ => rfl) hx hN (by show b * 1 ≤ _; omega) g1 k3 hd hF
  | _ => cases k1
theorem ao_ok : ((decide (Cond.classLink "GlacierBook" 7 "GlacierBook$Page" ∈ lw_tbl) && goodWord (Cond.classLink "GlacierBook" 7 "GlacierBook$Page")) && (decide (Cond.classLink "GlacierBookLaw" 233 "java/lang/String" ∈ lw_tbl) && goodWord (Cond.classLink "GlacierBookLaw" 233 "java/lang/String"))) = true := by decide +kernel
theorem s_anewarray {x : Nat} (C : Cx p l R s m args meth c D cA A sp L xs μ) (K : Nx X9 p l e R s m args below meth c D cA A sp L xs ad0 n0 μ Q g o) (w : Wd D cA A sp L xs s ad0 n0 (hdl μ = []) ad (n, S, Rf, I, J, Df) H locs) (fr : Fm ad μ LS ls st n) (hb : Bu X9 R μ pc (n, S, Rf, I, J, Df) cells slots) (hd : decode (byt μ) pc = .ok (.anewarray x, 3)) (hk : (((Nat.beq (ow μ) 10 && (Nat.beq x 7 && Nat.beq cc 0)) || (Nat.beq (ow μ) 12 && (Nat.beq x 233 && Nat.beq cc 30))) && (Nat.ble b 20000 && cle (ada (1, b) (cst μ (pc + 3))) (cst μ pc))) = true) (h : acK f g c0 (stA μ pc ls st n S Rf I J Df (.anewarray x) 3 fm tm a b cc k) = some o) : W p l e R s m args below meth c H locs cells slots Q (F0 m pc LS (st.map (rv ad))) := by
  obtain ⟨x9, r, rfl, h5⟩ := ak_i1 h
  clear h
  obtain ⟨hg, hF⟩ := ak_gd h5
  clear h5
  simp only [Bool.and_eq_true, Nat.ble_eq, Nat.blt_eq, decide_eq_true_eq, Bool.or_eq_true] at hk hg
  obtain ⟨k0, k2, k3⟩ := hk
  obtain ⟨g1, g2, g3⟩ := hg
  have hx : ¬ x9 < 0 := Int32.not_lt.mpr g2
  have hN := beq_e g3
  rw [hN] at hF
  obtain ⟨hL, hl, hs⟩ := fr
  simp only [List.all_cons, Bool.and_eq_true] at hs
  have key : ∀ (own CN : String) (kO t0 : Nat), s.vm.findClass own = some m.cls → (Cond.classLink own x CN).before args s = true → va_AO CN s → (tyl cA)[t0]? = some (cA kO, .object CN) → (25 ≤ kO ∧ kO ≠ 29 ∧ kO ≤ 30) → (bif Nat.beq cc 0 then 25 else cc) = kO → W p l e R s m args below meth c H locs cells slots Q (F0 m pc LS ((.int x9 :: r).map (rv ad))) := by
    intro own CN kO t0 hown hcl hover ht hkO hcO
    rw [hcO] at hF
    obtain ⟨⟨b1, b2⟩, b3⟩ := hb.use (M' := (n + 1, upR S n (kO, b), upR Rf n (fun _ => none), I, J, Df)) k3 rfl
    refine va_newq C.ex C.by (own := own) hown hcl hover C.kk w.1 w.2.1 w.2.2.1 C.gs.2.2.2.2.2.2.2.2.2.2 hx hN (by omega) b1 b2 hd ?_
    intro q cA1 H1 hK hP hD hS
    have hle := w.le
    have hc1 : cA1 = cA kO := by
      obtain ⟨k1, c1, r1, r2, r3, r4⟩ := (hK.2 10 _ rfl).2
      obtain ⟨k2, c2, t1, t2, t3, t4⟩ := (C.kk.2 t0 _ ht).2
      exact Option.some.inj (r4.symm.trans t4)
    rw [hc1] at hP hD
    have w2 := w.push (a9 := q) (k := kO) (len := b) g1 (Or.inr (by omega)) rfl rfl (fun q hq => rfl) (fun q hq => rfl) (fun q hq => rfl) (by rw [cel_r (c := kO) (by rw [upR_s]) (by omega), upR_s, upR_s]; rfl) hP hD hS
    have e1 : r.map (rv ad) = r.map (rv (upR ad n q)) := (vok_map (ad := ad) (fun x hx => upR_n (Nat.ne_of_lt hx)) (fun x hx => upR_n (by omega)) hs.2).symm
    show W p l e R s m args below meth c H1 locs (cells + 1) (slots + b) Q (F0 m (pc + 3) LS (.ref q :: r.map (rv ad)))
    rw [e1]
    have e2 : Value.ref q = rv (upR ad n q) (.ref n) := by show _ = Value.ref _; rw [upR_s]
    rw [e2]
    exact K3 (st' := .ref n :: r) K hF w2 hL hl (Nat.le_succ n) (fun x hx => upR_n (Nat.ne_of_lt hx)) (fun x hx => upR_n (by omega)) (by simp only [List.all_cons, Bool.and_eq_true]; exact ⟨by simp only [vok, Bool.or_eq_true, Nat.blt_eq]; exact Or.inl (Nat.lt_succ_self n), all_mono (Nat.le_succ n) hs.2⟩) b3
  have hao := ao_ok
  simp only [Bool.and_eq_true, decide_eq_true_eq] at hao
  rcases k0 with ⟨k0, k1, kc⟩ | ⟨k0, k1, kc⟩
  · have hx7 := beq_e k1
    subst hx7
    exact key "GlacierBook" "GlacierBook$Page" 25 5 (by have := C.own; rw [beq_e k0] at this; exact this) (C.wd (List.mem_filter.mpr hao.1)) C.gs.2.2.2.2.2.2.2.1.2.2.2.1 rfl (by omega) (by rw [kc]; rfl)
  · have hx7 := beq_e k1
    subst hx7
    exact key "GlacierBookLaw" "java/lang/String" 30 9 (by have := C.own; rw [beq_e k0] at this; exact this) (C.wd (List.mem_filter.mpr hao.2)) C.gs.2.2.2.2.2.2.2.1.2.2.2.2.2.2.2.2.1 rfl (by omega) (by rw [beq_e kc]; rfl)
theorem mul_ok : ([(1, 9, FieldType.int), (4, 9, FieldType.int), (4, 16, FieldType.long), (12, 26, FieldType.int), (12, 119, FieldType.boolean)].all (fun e => decide (Cond.classLink (onm e.1) e.2.1 ("[" ++ (FieldType.array e.2.2).toString) ∈ lw_tbl) && goodWord (Cond.classLink (onm e.1) e.2.1 ("[" ++ (FieldType.array e.2.2).toString)))) = true := by decide +kernel
/-- the places of an outer row and of its inner ones -/
def adm (ad : Nat → Nat) (n N q : Nat) (r : Nat → Nat) : Nat → Nat := fun p => if p < n then ad p else if p = n then q else if p ≤ n + N then r (p - n - 1) else ad p
theorem wsl_mul {cA : Nat → ClassId} {ad : Nat → Nat} {n N q : Nat} {r : Nat → Nat} {S S' : Nat → Nat × Nat} {R R' : Nat → Nat → Option Nat} {I I' : Nat → Nat → Int32} {J J' : Nat → Nat → Int64} {D D' : Nat → Nat → UInt64} {e1 e2 : va_E}
    (h1 : cel cA (adm ad n N q r) S' R' I' J' D' n = e1) (h2 : ∀ i, i < N → cel cA (adm ad n N q r) S' R' I' J' D' (n + 1 + i) = e2) (h0 : ∀ p, p < n → cel cA (adm ad n N q r) S' R' I' J' D' p = cel cA ad S R I J D p) (f : Nat → va_E) :
    (wsl cA ad (n, S, R, I, J, D) ++ [(q, e1)]) ++ va_pl ([] ++ (List.range N).map r) (vr_up f ((List.range N).map r) e2) = wsl cA (adm ad n N q r) (n + 1 + N, S', R', I', J', D') := by
  rw [List.nil_append]
  unfold wsl va_pl
  dsimp only
  rw [List.range_add, List.map_append, List.range_succ, List.map_append, List.map_map, List.map_map]
  congr 1
  · congr 1
    · refine List.map_congr_left fun p hp => ?_
      have hp := List.mem_range.mp hp
      rw [h0 p hp]
      congr 1
      unfold adm
      rw [if_pos hp]
    · rw [List.map_cons, List.map_nil, h1]
      unfold adm
      rw [if_neg (Nat.lt_irrefl n), if_pos rfl]
  · refine List.map_congr_left fun i hi => ?_
    have hi := List.mem_range.mp hi
    show (r i, vr_up f ((List.range N).map r) e2 (r i)) = (adm ad n N q r (n + 1 + i), cel cA (adm ad n N q r) S' R' I' J' D' (n + 1 + i))
    rw [h2 i hi, vr_up_in (List.mem_map.mpr ⟨i, List.mem_range.mpr hi, rfl⟩)]
    congr 1
    unfold adm
    rw [if_neg (by omega), if_neg (by omega), if_pos (by omega)]
    congr 1
    omega
theorem s_mul1 (C : Cx p l R s m args meth c D cA A sp L xs μ) (K : Nx X9 p l e R s m args below meth c D cA A sp L xs ad0 n0 μ Q g o) (w : Wd D cA A sp L xs s ad0 n0 (hdl μ = []) ad (n, S, Rf, I, J, Df) H locs) (fr : Fm ad μ LS ls st n) (hb : Bu X9 R μ pc (n, S, Rf, I, J, Df) cells slots) {x : Nat} {ty : FieldType} {k9 t1 t2 kO : Nat} (ht1 : (tyl cA)[t1]? = some (cA k9, ty)) (ht2 : (tyl cA)[t2]? = some (cA kO, .array ty)) (hcy : s.vm.findClass (FieldType.array ty).toString = some (cA k9)) (hk9 : 20 ≤ k9 ∧ k9 ≤ 23) (hkO : 25 ≤ kO ∧ kO ≤ 28) (harr : Cond.arrayClass ty ∈ WALL)
    (hcl : Cond.classLink (onm (ow μ)) x ("[" ++ (FieldType.array ty).toString) ∈ WALL) (hover : va_AOA ty s) {x9 y9 : Int32} {r : List Value} (hst : st = .int y9 :: .int x9 :: r) {N K9 : Nat} {z9 : Nat → vp_A}
    (hx : ¬ x9 < 0) (hy : ¬ y9 < 0) (hN : x9.toNatClampNeg = N) (hM : y9.toNatClampNeg = K9) (hb0 : N ≤ 20000 ∧ K9 ≤ 20000) (hb2 : K9 * componentBytes ty ≤ 536870912) (hdf : fits ty (defaultValue ty) = true) (hdd : (defaultValue ty).isDefault = true) (hn : n < 800000) {z : vp_A} (hz : ∀ c : ClassId, Jvm.Free.Multi.innerC c K9 (defaultValue ty) = vp_cell c z)
    {S' : Nat → Nat × Nat} {R' : Nat → Nat → Option Nat} {I' : Nat → Nat → Int32} {J' : Nat → Nat → Int64} (hS' : S' = fun q => bif Nat.beq q n then (kO, N) else bif Nat.blt n q && Nat.ble q (n + N) then (k9, K9) else S q) (hR' : R' = fun q => bif Nat.beq q n then (fun j => if j < N then some (n + 1 + j) else none) else bif Nat.blt n q && Nat.ble q (n + N) then (fun _ => none) else Rf q)
    (hI' : I' = fun q => bif Nat.blt n q && Nat.ble q (n + N) then (fun _ => 0) else I q) (hJ' : J' = fun q => bif Nat.blt n q && Nat.ble q (n + N) then (fun _ => 0) else J q) (hcel : ∀ (ad' : Nat → Nat) i, i < N → cel cA ad' S' R' I' J' Df (n + 1 + i) = .inl (cA k9, z))
    (hcost : cle (ada (1 + N, N + N * K9) (cst μ (pc + 4))) (cst μ pc) = true) (hd : decode (byt μ) pc = .ok (.multianewarray x 2, 4)) (h : g (μ, pc + 4, mk fm ls, .ref n :: r, (n + 1 + N, S', R', I', J', Df)) = some o) : W p l e R s m args below meth c H locs cells slots Q (F0 m pc LS (st.map (rv ad))) := by
  subst hst
  obtain ⟨hL, hl, hs⟩ := fr
  simp only [List.all_cons, Bool.and_eq_true] at hs
  obtain ⟨⟨b1, b2⟩, b3⟩ := hb.use (M' := (n + 1 + N, S', R', I', J', Df)) hcost (by show I' iCRD 0 = I iCRD 0; rw [hI']; dsimp only; rw [show (Nat.blt n iCRD && Nat.ble iCRD (n + N)) = false from by cases hb : (Nat.blt n iCRD && Nat.ble iCRD (n + N)) with | false => rfl | true => (simp only [Bool.and_eq_true, Nat.blt_eq, Nat.ble_eq] at hb; have : iCRD = 1000005 := rfl; omega)]; rfl)
  have hP0 : va_P D clsv (wsl cA ad (n, S, Rf, I, J, Df) ++ va_pl [] (fun _ => .inr (0, []))) H := by show va_P D clsv (_ ++ []) H; rw [List.append_nil]; exact w.1
  have hD0 : va_D A (wsl cA ad (n, S, Rf, I, J, Df) ++ va_pl [] (fun _ => .inr (0, []))) := by show va_D A (_ ++ []); rw [List.append_nil]; exact w.2.1
  refine va_mna C.ex C.by C.own (C.wd hcl) hover (C.wd harr) hcy C.kk hP0 hD0 w.2.2.1 C.gs.2.2.2.2.2.2.2.2.2.2 hx hy hN hM (by omega) hb2 (by omega) hdf hdd (by omega) (by omega) hz hd ?_
  intro q rr cA1 H1 hinj hfr hK hP hD hS
  have hle := w.le
  have hc1 : cA1 = cA kO := Option.some.inj ((hK.2 10 _ rfl).2.symm.trans (C.kk.2 t2 _ ht2).2)
  have n1 : ∀ q, q ≠ n → Nat.beq q n = false := fun q hq => by cases hb : Nat.beq q n with | false => rfl | true => exact absurd (beq_e hb) hq
  have n2 : ∀ q, (q < n ∨ n + 1 + N ≤ q) → (Nat.blt n q && Nat.ble q (n + N)) = false := fun q hq => by
    cases hb : (Nat.blt n q && Nat.ble q (n + N)) with
    | false => rfl
    | true => simp only [Bool.and_eq_true, Nat.blt_eq, Nat.ble_eq] at hb; omega
  have n3 : (Nat.blt n n && Nat.ble n (n + N)) = false := by
    cases hb : (Nat.blt n n && Nat.ble n (n + N)) with
    | false => rfl
    | true => simp only [Bool.and_eq_true, Nat.blt_eq, Nat.ble_eq] at hb; omega
  have n4 : ∀ q, n < q → q < n + 1 + N → (Nat.blt n q && Nat.ble q (n + N)) = true := fun q h1 h2 => by
    simp only [Bool.and_eq_true, Nat.blt_eq, Nat.ble_eq]; omega
  have hSo : ∀ q, (q < n ∨ n + 1 + N ≤ q) → S' q = S q := fun q hq => by rw [hS']; dsimp only; rw [n1 q (by omega), n2 q hq]; rfl
  have hRo : ∀ q, (q < n ∨ n + 1 + N ≤ q) → R' q = Rf q := fun q hq => by rw [hR']; dsimp only; rw [n1 q (by omega), n2 q hq]; rfl
  have hIo : ∀ q, (q < n ∨ n + 1 + N ≤ q) → I' q = I q := fun q hq => by rw [hI']; dsimp only; rw [n2 q hq]; rfl
  have hJo : ∀ q, (q < n ∨ n + 1 + N ≤ q) → J' q = J q := fun q hq => by rw [hJ']; dsimp only; rw [n2 q hq]; rfl
  have hSn : S' n = (kO, N) := by rw [hS']; dsimp only; rw [show Nat.beq n n = true by simp]; rfl
  have hRn : R' n = (fun j => if j < N then some (n + 1 + j) else none) := by rw [hR']; dsimp only; rw [show Nat.beq n n = true by simp]; rfl
  have hadm : ∀ i, i < N → adm ad n N q rr (n + 1 + i) = rr i := fun i hi => by
    unfold adm
    rw [if_neg (by omega), if_neg (by omega), if_pos (by omega)]
    congr 1; omega
  have ha1 : ∀ x, x < n → adm ad n N q rr x = ad x := fun x hx => by unfold adm; rw [if_pos hx]
  have ha2 : ∀ x, n + 1 + N ≤ x → adm ad n N q rr x = ad x := fun x hx => by unfold adm; rw [if_neg (by omega), if_neg (by omega), if_neg (by omega)]
  have ha3 : adm ad n N q rr n = q := by unfold adm; rw [if_neg (Nat.lt_irrefl n), if_pos rfl]
  have hw := w.2.2.2.1.2.2.2.1
  rw [hc1] at hP hD
  have ew := wsl_mul (cA := cA) (ad := ad) (n := n) (N := N) (q := q) (r := rr) (S := S) (S' := S') (R := Rf) (R' := R') (I := I) (I' := I') (J := J) (J' := J') (D := Df) (D' := Df) (e1 := .inl (cA kO, N, .inr (.inr (.inr (.inr (fun i => if i < N then some (rr i) else none)))))) (e2 := .inl (cA k9, z)) (by
      rw [cel_r (c := kO) (by rw [hSn]) (by omega), hSn, hRn]
      refine congrArg (fun z : Nat → Option Nat => (Sum.inl (cA kO, N, .inr (.inr (.inr (.inr z)))) : va_E)) (funext fun i => ?_)
      dsimp only
      by_cases hi : i < N
      · rw [if_pos hi, if_pos hi]; show some _ = some _; rw [hadm i hi]
      · rw [if_neg hi, if_neg hi]; rfl) (fun i hi => hcel _ i hi) (fun p hp => cel_ad (hSo p (Or.inl hp)) (hRo p (Or.inl hp)) (hIo p (Or.inl hp)) (hJo p (Or.inl hp)) rfl (fun j z hz => (hw p j z hp hz).elim (ha1 z) (fun h => ha2 z (by omega)))) (fun _ => .inr (0, []))
  rw [ew] at hP hD
  have w2 : Wd D cA A sp L xs s ad0 n0 (hdl μ = []) (adm ad n N q rr) (n + 1 + N, S', R', I', J', Df) H1 locs := by
    refine w.grow (by omega) (by omega) hSo hIo (fun q h1 h2 => ?_) (fun q hq => hRo q (Or.inl hq)) (fun q j z h1 h2 hz => ?_) (fun q hq => hq.elim (ha1 q) (ha2 q)) hP hD hS
    · by_cases hqn : q = n
      · subst hqn; rw [hSn]; exact Or.inr ⟨by show 20 ≤ kO; omega, by show kO ≤ 30; omega, by show kO ≠ 24; omega⟩
      · rw [hS']; dsimp only; rw [n1 q hqn, n4 q (by omega) h2]; exact Or.inr ⟨by show 20 ≤ k9; omega, by show k9 ≤ 30; omega, by show k9 ≠ 24; omega⟩
    · by_cases hqn : q = n
      · subst hqn
        rw [hRn] at hz
        dsimp only at hz
        by_cases hj : j < N
        · rw [if_pos hj] at hz; cases hz; exact Or.inl (by omega)
        · rw [if_neg hj] at hz; cases hz
      · rw [hR'] at hz; dsimp only at hz; rw [n1 q hqn, n4 q (by omega) h2] at hz; cases hz
  have e1 : r.map (rv ad) = r.map (rv (adm ad n N q rr)) := (vok_map (ad := ad) ha1 (fun x hx => ha2 x (by omega)) hs.2.2).symm
  show W p l e R s m args below meth c H1 locs (cells + 1 + N) (slots + N + N * K9) Q (F0 m (pc + 4) LS (.ref q :: r.map (rv ad)))
  rw [e1, show cells + 1 + N = cells + (1 + N) by omega, show slots + N + N * K9 = slots + (N + N * K9) by omega]
  have e2 : Value.ref q = rv (adm ad n N q rr) (.ref n) := by show _ = Value.ref _; rw [ha3]
  rw [e2]
  exact K3 (st' := .ref n :: r) K h w2 hL hl (by show n ≤ n + 1 + N; omega) ha1 (fun x hx => ha2 x (by omega)) (by simp only [List.all_cons, Bool.and_eq_true]; exact ⟨by simp only [vok, Bool.or_eq_true, Nat.blt_eq]; exact Or.inl (by show n < n + 1 + N; omega), all_mono (by show n ≤ n + 1 + N; omega) hs.2.2⟩) b3
theorem s_mul {x : Nat} (C : Cx p l R s m args meth c D cA A sp L xs μ) (K : Nx X9 p l e R s m args below meth c D cA A sp L xs ad0 n0 μ Q g o) (w : Wd D cA A sp L xs s ad0 n0 (hdl μ = []) ad (n, S, Rf, I, J, Df) H locs) (fr : Fm ad μ LS ls st n) (hb : Bu X9 R μ pc (n, S, Rf, I, J, Df) cells slots) (hd : decode (byt μ) pc = .ok (.multianewarray x 2, 4)) (hk : ((bif Nat.beq a 20 then Nat.beq cc 26 else bif Nat.beq a 21 then Nat.beq cc 28 else (Nat.beq a 23 && Nat.beq cc 27)) && ((Nat.ble b 20000 && decide (0 ≤ k)) && (Nat.ble k.toNatClampNeg 20000 && (((Nat.beq (ow μ) 1 && (Nat.beq x 9 && Nat.beq a 20)) || (Nat.beq (ow μ) 12 && ((Nat.beq x 26 && Nat.beq a 20) || (Nat.beq x 119 && Nat.beq a 21))) || (Nat.beq (ow μ) 4 && ((Nat.beq x 9 && Nat.beq a 20) || (Nat.beq x 16 && Nat.beq a 23)))) && cle (ada (1 + b, b + b * k.toNatClampNeg) (cst μ (pc + 4))) (cst μ pc))))) = true) (h : acK f g c0 (stA μ pc ls st n S Rf I J Df (.multianewarray x 2) 4 fm tm a b cc k) = some o) : W p l e R s m args below meth c H locs cells slots Q (F0 m pc LS (st.map (rv ad))) := by
  obtain ⟨x9, y9, r, rfl, h5⟩ := ak_i2 h
  clear h
  obtain ⟨hg, hF⟩ := ak_gd h5
  clear h5
  simp only [Bool.and_eq_true, Nat.ble_eq, Nat.blt_eq, decide_eq_true_eq, Bool.or_eq_true] at hk hg
  obtain ⟨k1, ⟨k2, k3⟩, k4, k5, k6⟩ := hk
  obtain ⟨⟨g1, g2, g3⟩, g4, g5⟩ := hg
  have hx : ¬ x9 < 0 := Int32.not_lt.mpr g2
  have hy : ¬ y9 < 0 := Int32.not_lt.mpr g4
  have hN := beq_e g3
  subst g5
  rw [hN] at hF
  have nb : ∀ i, (Nat.beq (n + 1 + i) n) = false := fun i => by cases hb : Nat.beq (n + 1 + i) n with | false => rfl | true => exact absurd (beq_e hb) (by omega)
  have nc : ∀ i, i < b → (Nat.blt n (n + 1 + i) && Nat.ble (n + 1 + i) (n + b)) = true := fun i hi => by simp only [Bool.and_eq_true, Nat.blt_eq, Nat.ble_eq]; omega
  have two : ∀ e ∈ [(1, 9, FieldType.int), (4, 9, FieldType.int), (4, 16, FieldType.long), (12, 26, FieldType.int), (12, 119, FieldType.boolean)], ow μ = e.1 → x = e.2.1 → Cond.classLink (onm (ow μ)) x ("[" ++ (FieldType.array e.2.2).toString) ∈ WALL := by
    intro e9 he9 h1 h2
    have h3 := List.all_eq_true.mp mul_ok e9 he9
    simp only [Bool.and_eq_true, decide_eq_true_eq] at h3
    rw [h1, h2]
    exact List.mem_filter.mpr h3
  cases ha : Nat.beq a 20 with
  | true =>
    rw [ha] at k1
    have ha := beq_e ha
    have hcc : cc = 26 := beq_e k1
    subst ha; subst hcc
    have h4 : Cond.classLink (onm (ow μ)) x ("[" ++ (FieldType.array .int).toString) ∈ WALL := by
      rcases k5 with (⟨q1, q2, -⟩ | ⟨q1, ⟨q2, -⟩ | ⟨-, q3⟩⟩) | ⟨q1, ⟨q2, -⟩ | ⟨-, q3⟩⟩
      · exact two (1, 9, .int) (by simp) (beq_e q1) (beq_e q2)
      · exact two (12, 26, .int) (by simp) (beq_e q1) (beq_e q2)
      · cases q3
      · exact two (4, 9, .int) (by simp) (beq_e q1) (beq_e q2)
      · cases q3
    exact s_mul1 C K w fr hb (ty := .int) (k9 := 20) (kO := 26) (t1 := 0) (t2 := 6) rfl rfl (C.kk.2 0 _ rfl).2 (by omega) (by omega) (arr_in (t := .int) (by simp)) h4 C.gs.2.2.2.2.2.2.2.1.2.2.2.2.1 rfl (z9 := fun _ => (0, .inl (fun _ => 0))) hx hy hN rfl ⟨k2, k4⟩ (by show _ * 4 ≤ _; omega) rfl rfl g1 (z := (y9.toNatClampNeg, .inl (fun _ => 0))) (fun _ => by rw [vp_cell_i, ← arrV_new]; rfl) rfl rfl rfl rfl (fun ad' i hi => by rw [cel_i (c := 20) (by rw [nb, nc i hi]; rfl) (by omega)]; rw [nb, nc i hi]; rfl) k6 hd hF
  | false =>
    rw [ha] at k1
    cases ha2 : Nat.beq a 21 with
    | true =>
      rw [ha2] at k1
      have ha := beq_e ha2
      have hcc : cc = 28 := beq_e k1
      subst ha; subst hcc
      have h4 : Cond.classLink (onm (ow μ)) x ("[" ++ (FieldType.array .boolean).toString) ∈ WALL := by
        rcases k5 with (⟨q1, q2, q3⟩ | ⟨q1, ⟨q2, q3⟩ | ⟨q2, -⟩⟩) | ⟨q1, ⟨q2, q3⟩ | ⟨q2, q3⟩⟩
        · cases q3
        · cases q3
        · exact two (12, 119, .boolean) (by simp) (beq_e q1) (beq_e q2)
        · cases q3
        · cases q3
      exact s_mul1 C K w fr hb (ty := .boolean) (k9 := 21) (kO := 28) (t1 := 1) (t2 := 8) rfl rfl (C.kk.2 1 _ rfl).2 (by omega) (by omega) (arr_in (t := .boolean) (by simp)) h4 C.gs.2.2.2.2.2.2.2.1.2.2.2.2.2.2.2.1 rfl (z9 := fun _ => (0, .inl (fun _ => 0))) hx hy hN rfl ⟨k2, k4⟩ (by show _ * 1 ≤ _; omega) rfl rfl g1 (z := (y9.toNatClampNeg, .inl (fun _ => 0))) (fun _ => by rw [vp_cell_i, ← arrV_new]; rfl) rfl rfl rfl rfl (fun ad' i hi => by rw [cel_i (c := 21) (by rw [nb, nc i hi]; rfl) (by omega)]; rw [nb, nc i hi]; rfl) k6 hd hF
    | false =>
      rw [ha2] at k1
      simp only [cond_false, Bool.and_eq_true] at k1
      have ha := beq_e k1.1
      have hcc := beq_e k1.2
      subst ha; subst hcc
      have h4 : Cond.classLink (onm (ow μ)) x ("[" ++ (FieldType.array .long).toString) ∈ WALL := by
        rcases k5 with (⟨q1, q2, q3⟩ | ⟨q1, ⟨q2, q3⟩ | ⟨q2, q3⟩⟩) | ⟨q1, ⟨q2, q3⟩ | ⟨q2, -⟩⟩
        · cases q3
        · cases q3
        · cases q3
        · cases q3
        · exact two (4, 16, .long) (by simp) (beq_e q1) (beq_e q2)
      exact s_mul1 C K w fr hb (ty := .long) (k9 := 23) (kO := 27) (t1 := 3) (t2 := 7) rfl rfl (C.kk.2 3 _ rfl).2 (by omega) (by omega) (arr_in (t := .long) (by simp)) h4 C.gs.2.2.2.2.2.2.2.1.2.2.2.2.2.1 rfl (z9 := fun _ => (0, .inl (fun _ => 0))) hx hy hN rfl ⟨k2, k4⟩ (by show _ * 8 ≤ _; omega) rfl rfl g1 (z := (y9.toNatClampNeg, .inr (.inl (fun _ => 0)))) (fun _ => by rw [vp_cell_l, ← arrV_new]; rfl) rfl rfl rfl rfl (fun ad' i hi => by rw [cel_j (by rw [nb, nc i hi]; rfl)]; rw [nb, nc i hi]; rfl) k6 hd hF
end STEP
