/-! the law's constructor: its draws stir the script's cells -/
theorem w_us {I : Nat → Nat → Int32} {p k : Nat} {x : Int32} : ups I p k x p k = x := by
  show upR I p (upd (I p) k x) p k = x
  rw [upR_s, pk_us]
theorem w_un {I : Nat → Nat → Int32} {p k q : Nat} {x : Int32} (h : q ≠ p) : ups I p k x q = I q := upR_n (f := I) (x := upd (I p) k x) h
theorem w_uk {I : Nat → Nat → Int32} {p k j : Nat} {x : Int32} (h : j ≠ k) : ups I p k x p j = I p j := by
  show upR I p (upd (I p) k x) p j = _
  rw [upR_s, pk_un h]
theorem w_uu {I : Nat → Nat → Int32} {p k : Nat} {x y : Int32} : ups (ups I p k x) p k y = ups I p k y := by
  funext q j
  by_cases hq : q = p
  · subst hq
    by_cases hj : j = k
    · subst hj; rw [w_us, w_us]
    · rw [w_uk hj, w_uk hj, w_uk hj]
  · rw [w_un hq, w_un hq, w_un hq]
def stir (x c : Int32) : Int32 := (x ^^^ c) * 16777619 + 1
def stirs (xs : Nat → Int32) : Nat → Int32
  | 0 => 17
  | k + 1 => stir (stirs xs k) (xs k)
theorem stirs_s {xs : Nat → Int32} {k : Nat} : stirs xs (k + 1) = stir (stirs xs k) (xs k) := rfl
theorem draws_loop {L : Nat} {xs : Nat → Int32} (hL : L ≤ 2560) {I : Nat → Nat → Int32} {J : Nat → Nat → Int64} {D : Nat → Nat → UInt64} (hs : I iSCL 0 = Int32.ofNat L) (hx : ∀ j, j < L → I iSCR j = xs j) : ∀ (r k : Nat), k + r = L → ex (318, 18, [.ref 328, dv, .ref 1000002, .int (Int32.ofNat L), .int (Int32.ofNat k), dv], [], mZ (ups I 328 0 (stirs xs k)) J D) = some (.inl none, mZ (ups I 328 0 (stirs xs L)) J D) := by
  intro r
  induction r with
  | zero =>
    intro k hk
    have hk : k = L := by omega
    subst hk
    rw [eZ_318_18, decide_eq_true (Int32.le_refl _), cond_true, eZ_318_52]
  | succ r ih =>
    intro k hk
    have hlt : Int32.ofNat k < Int32.ofNat L := nI_lt (by omega) (by omega)
    have hnle : ¬ Int32.ofNat L ≤ Int32.ofNat k := fun h => by
      rw [Int32.le_iff_toInt_le] at h
      rw [Int32.lt_iff_toInt_lt] at hlt
      omega
    have e0 : (0 : Int32) ≤ Int32.ofNat k := Int32.not_lt.mp (nI_pos (n := k) (by omega))
    have ec : (Int32.ofNat k).toNatClampNeg = k := nI_clamp (by omega)
    have e1 : (ups I 328 0 (stirs xs k)) iSCL 0 = Int32.ofNat L := by rw [w_un (by decide)]; exact hs
    have e2 : (ups I 328 0 (stirs xs k)) 1000002 k = xs k := by rw [w_un (by decide)]; exact hx k (by omega)
    have e3 : Int32.ofNat k + 1 = Int32.ofNat (k + 1) := by rw [Int32.ofNat_add]; rfl
    rw [eZ_318_18, decide_eq_false hnle, cond_false, eZ_318_24, e1, decide_eq_true e0, decide_eq_true hlt, Bool.and_self, cond_true, ec, e2, w_us, w_uu, e3]
    have := ih (k + 1) (by omega)
    rw [stirs_s] at this
    exact this
theorem draws_init {L : Nat} {xs : Nat → Int32} (hL : L ≤ 2560) {I : Nat → Nat → Int32} {J : Nat → Nat → Int64} {D : Nat → Nat → UInt64} (hs : I iSCL 0 = Int32.ofNat L) (hx : ∀ j, j < L → I iSCR j = xs j) : ex (318, 0, [.ref 328, .ref 1000002, dv, dv, dv, dv], [], mZ I J D) = some (.inl none, mZ (ups I 328 0 (stirs xs L)) J D) := by
  rw [eZ_318_0]
  have e1 : (ups I 328 0 17) iSCL 0 = Int32.ofNat L := by rw [w_un (by decide)]; exact hs
  rw [e1]
  exact draws_loop hL hs hx L 0 (by omega)
theorem R53_put : upR R53 0 (va_up (R53 0) 1 (some 328)) = R54 := by
  funext p j
  by_cases hp : p = 0
  · subst hp
    rw [upR_s]
    unfold va_up
    by_cases hj : j = 1
    · subst hj; rfl
    · rw [if_neg hj]
      unfold R53
      rw [show (Nat.beq 0 0 && Nat.beq j 1) = false from by
        cases hb : Nat.beq j 1 with
        | false => rfl
        | true => exact absurd (beq_e hb) hj]
      rfl
  · rw [upR_n hp]
    unfold R53
    rw [show (Nat.beq p 0 && Nat.beq j 1) = false from by
      cases hb : Nat.beq p 0 with
      | false => rfl
      | true => exact absurd (beq_e hb) hp]
    rfl
theorem e_320_99 (I : Nat → Nat → Int32) (J : Nat → Nat → Int64) (D : Nat → Nat → UInt64) : ex (320, 99, [.ref 0, .ref 1000002], [.ref 1000002, .ref 328, .ref 328, .ref 0], mZ I J D) = bif cG 320 318 I then calK 320 102 [dv, dv] [.ref 328, .ref 0] (mZ (cI 320 318 I) J D) (ex (318, 0, [.ref 328, .ref 1000002, dv, dv, dv, dv], [], cIn 318 (mZ (cI 320 318 I) J D))) else none := ex_cb (x := .inr (.inl (318, [.ref 328, .ref 1000002], (320, 102, [dv, dv], [.ref 328, .ref 0], mZ (cI 320 318 I) J D), [.ref 0, .ref 1000002]))) rfl
theorem e_320_102 (I : Nat → Nat → Int32) (J : Nat → Nat → Int64) (D : Nat → Nat → UInt64) : ex (320, 102, [dv, dv], [.ref 328, .ref 0], mZ I J D) = some (.inl none, (329, S54, upR R53 0 (va_up (R53 0) 1 (some 328)), I, J, D)) := (ex_itr 2 _).trans rfl
/-- the law's numbers as it begins: the draws are stirred, the rest as laid -/
def Q1 (L : Nat) (xs : Nat → Int32) (c : Int32) : Nat → Nat → Int32 := ups (ups (Q0 L xs) 328 0 (stirs xs L)) iCRD 0 c
/-- the law's memory as 'holds' begins, but for what it has left of calls -/
def M1 (L : Nat) (xs : Nat → Int32) (c : Int32) : Mm := Tm 329 S54 R54 (Q1 L xs c) Me.2.2.2.2.1 Me.2.2.2.2.2 I0 J0 D0
theorem ovr_ups2 {I Q : Nat → Nat → Int32} {p k : Nat} {x : Int32} (h : (Nat.ble 1 p && Nat.ble p 316) = false) : ups (ovr I Q) p k x = ovr I (ups Q p k x) := by
  funext q j
  by_cases hq : q = p
  · subst hq
    show upR (ovr I Q) q (upd (ovr I Q q) k x) q j = _
    rw [upR_s]
    unfold ovr
    rw [h]
    show upd (Q q) k x j = upR Q q (upd (Q q) k x) q j
    rw [upR_s]
  · rw [w_un hq]
    unfold ovr
    cases hb : (Nat.ble 1 q && Nat.ble q 316) with
    | true => rfl
    | false => exact (congrFun (w_un (I := Q) hq) j).symm
theorem ovr_o {α : Type} {I Q : Nat → Nat → α} {p : Nat} (h : (Nat.ble 1 p && Nat.ble p 316) = false) : ovr I Q p = Q p := by unfold ovr; rw [h]; rfl
theorem me_crd : Me.2.2.2.1 iCRD 0 = 4 := by decide +kernel
theorem q_crd {L : Nat} {xs : Nat → Int32} : Q0 L xs iCRD 0 = 4 := by
  unfold Q0
  rw [show Nat.beq iCRD iSCL = false from by decide, show Nat.beq iCRD iSCR = false from by decide, cond_false, cond_false]
  exact me_crd
theorem q_scl {L : Nat} {xs : Nat → Int32} : Q0 L xs iSCL 0 = Int32.ofNat L := by
  unfold Q0
  rw [show Nat.beq iSCL iSCL = true from by decide, cond_true]
theorem q_scr {L j : Nat} {xs : Nat → Int32} : Q0 L xs iSCR j = xs j := by
  unfold Q0
  rw [show Nat.beq iSCR iSCL = false from by decide, show Nat.beq iSCR iSCR = true from by decide, cond_false, cond_true]
theorem li_gen {L : Nat} {xs : Nat → Int32} (hL : L ≤ 2560) {QI : Nat → Nat → Int32} {QJ : Nat → Nat → Int64} {QD : Nat → Nat → UInt64} {I : Nat → Nat → Int32} {J : Nat → Nat → Int64} {D : Nat → Nat → UInt64} (hc : QI iCRD 0 = 4) (hs : QI iSCL 0 = Int32.ofNat L) (hx : ∀ j, j < L → QI iSCR j = xs j) : ∃ c, ex (320, 99, [.ref 0, .ref 1000002], [.ref 1000002, .ref 328, .ref 328, .ref 0], Tm 329 S54 R53 QI QJ QD I J D) = some (.inl none, Tm 329 S54 R54 (ups (ups QI 328 0 (stirs xs L)) iCRD 0 c) QJ QD I J D) := by
  have hg : cG 320 318 (ovr I QI) = true := by
    unfold cG
    rw [ovr_o (by decide), hc]
    decide +kernel
  obtain ⟨c, hc1⟩ : ∃ c, cI 320 318 (ovr I QI) = ovr I (ups QI iCRD 0 c) := ⟨ovr I QI iCRD 0 - Int32.ofNat (cK 318), by
    rw [← ovr_ups2 (by decide)]
    rfl⟩
  refine ⟨c, ?_⟩
  unfold Tm
  rw [show (fun q => bif Nat.ble 1 q && Nat.ble q 316 then D (q - 1) else QD q) = ovr D QD from rfl]
  generalize ovr D QD = D9
  generalize ovr J QJ = J9
  rw [e_320_99, hg, cond_true, hc1]
  have hin : cIn 318 (mZ (ovr I (ups QI iCRD 0 c)) J9 D9) = mZ (ovr I (ups QI iCRD 0 (Int32.ofNat (cK 318)))) J9 D9 := by
    show mZ (ups (ovr I (ups QI iCRD 0 c)) iCRD 0 (Int32.ofNat (cK 318))) _ _ = _
    rw [ovr_ups2 (by decide), w_uu]
  rw [hin, draws_init hL (xs := xs) (by rw [ovr_o (by decide), w_un (by decide)]; exact hs) (fun j hj => by rw [ovr_o (by decide), w_un (by decide)]; exact hx j hj)]
  have hout : cOut 320 (mZ (ovr I (ups QI iCRD 0 c)) J9 D9) (mZ (ups (ovr I (ups QI iCRD 0 (Int32.ofNat (cK 318)))) 328 0 (stirs xs L)) J9 D9) = mZ (ovr I (ups (ups QI 328 0 (stirs xs L)) iCRD 0 c)) J9 D9 := by
    show mZ (ups (ups (ovr I (ups QI iCRD 0 (Int32.ofNat (cK 318)))) 328 0 (stirs xs L)) iCRD 0 (ovr I (ups QI iCRD 0 c) iCRD 0)) _ _ = _
    rw [ovr_o (by decide), w_us, ovr_ups2 (by decide), ovr_ups2 (by decide)]
    have e : ups (ups (ups QI iCRD 0 (Int32.ofNat (cK 318))) 328 0 (stirs xs L)) iCRD 0 c = ups (ups QI 328 0 (stirs xs L)) iCRD 0 c := by
      funext q j
      by_cases h1 : q = iCRD
      · subst h1
        by_cases h2 : j = 0
        · subst h2; rw [w_us, w_us]
        · rw [w_uk h2, w_uk h2, w_un (by decide), w_uk h2, w_un (by decide)]
      · rw [w_un h1, w_un h1]
        by_cases h3 : q = 328
        · subst h3
          by_cases h2 : j = 0
          · subst h2; rw [w_us, w_us]
          · rw [w_uk h2, w_uk h2, w_un h1]
        · rw [w_un h3, w_un h3, w_un h1]
    rw [e]
  show ex (320, 102, [dv, dv], [.ref 328, .ref 0], cOut 320 (mZ (ovr I (ups QI iCRD 0 c)) J9 D9) (mZ (ups (ovr I (ups QI iCRD 0 (Int32.ofNat (cK 318)))) 328 0 (stirs xs L)) J9 D9)) = _
  rw [hout, e_320_102, R53_put]
theorem li_ex {L : Nat} {xs : Nat → Int32} (hL : L ≤ 2560) : ∃ c, ex (320, 99, [.ref 0, .ref 1000002], [.ref 1000002, .ref 328, .ref 328, .ref 0], M54 L xs) = some (.inl none, M1 L xs c) := by
  unfold M54 M1 Q1
  exact li_gen hL q_crd q_scl (fun j _ => q_scr)
section STEP
variable {X9 : Nat × Nat} {p : Program} {l : Launch} {e : Env} {R : Room} {s : State} {m : MethodId} {args : Array Value} {below : List Frame} {meth : Method} {c : Code} {D : va_G} {cA : Nat → ClassId} {A : Nat → Prop} {sp : Nat → Nat} {L : Nat} {xs : Nat → Int32} {ad0 : Nat → Nat} {n0 : Nat} {μ : Nat} {Q : State → Prop} {f g : Cf → Option Ou} {c0 : Cf} {o : Ou}
variable {pc : Nat} {ls st : List Value} {n : Nat} {S : Nat → Nat × Nat} {Rf : Nat → Nat → Option Nat} {I : Nat → Nat → Int32} {J : Nat → Nat → Int64} {Df : Nat → Nat → UInt64} {ad : Nat → Nat} {LS : Array Slot} {H : Heap} {locs : List Loc} {cells slots : Nat}
variable {fm tm : List Bool} {a b cc : Nat} {k : Int32}
variable {pc : Nat} {ls st : List Value} {n : Nat} {S : Nat → Nat × Nat} {Rf : Nat → Nat → Option Nat} {I : Nat → Nat → Int32} {J : Nat → Nat → Int64} {Df : Nat → Nat → UInt64} {ad : Nat → Nat} {LS : Array Slot} {H : Heap} {locs : List Loc} {cells slots : Nat}
theorem li_met (hl : l.stackTraces = false) (hL : L ≤ 2560) (ad : Nat → Nat) {M : Mm} (h1 : M.1 = 1) (hS : M.2.1 0 = (12, 0)) (hR : ∀ j, j < 13 → M.2.2.1 0 j = none) (hI : M.2.2.2.1 0 = fun _ => 0) (hJ : M.2.2.2.2.1 0 = fun _ => 0) (hD : M.2.2.2.2.2 0 = fun _ => 0) : ∃ c, vx_Met l (nm 320) (cwd 320 :: WALL) rmL (PcS D cA A sp L xs [.ref 0, .ref 1000002] M ad) (QcS D cA A sp L xs 320 M ad (.inl none, M1 L xs c)) (XcS D cA A sp L xs M ad (.inl none, M1 L xs c)) 1000 170000 A := by
  obtain ⟨⟨q0, q12⟩, q99, q9⟩ := c320
  obtain ⟨y1, y2, y3, y4⟩ := okn (a := 320) r320 h320
  have hnil : hdl 320 = [] := k320.2.2.2.2
  obtain ⟨c9, hex⟩ := li_ex (xs := xs) hL
  obtain ⟨N9, hN9⟩ := ex_run hex
  refine ⟨c9, ?_⟩
  refine vx_ofW (cc := byt 320) (maxL := mxl 320) (ret := rtt 320) (ws' := WALL) y4 (by rw [cwd_nil hnil]) ?_
  intro p e s m args below meth c s₁ B hml htab hP
  obtain ⟨rfl, hall, hG, hS1, hS2, hS3, hS4⟩ := hP
  have hw := atoms_spec (ws := cwd 320 :: WALL) B.pre
  have hnl : tableOf (hdl 320) = [] := by rw [hnil]; rfl
  have C : Cx p l rmL s m (([.ref 0, .ref 1000002] : List Value).map (rv ad)).toArray meth c D cA A sp L xs 320 :=
    ⟨B.exec, B.bytes, B.returns, hml, by rw [← y1]; exact findClass_of_methodNamed B.named, fun w h => hw w (List.mem_cons_of_mem _ h), B.notSynchronized, fun _ => (by
      rw [hnil]
      cases hc9 : c.exceptionTable.toList with
      | nil => rfl
      | cons z zs => exact (htab z (by rw [hc9]; exact List.mem_cons_self)).elim), fun h => (name_of_methodNamed B.named B.method).1.trans h, Nat.le_refl _, Nat.le_refl _, hl, hG, trivial⟩
  have Cu : Cx p l rmL s m (([.ref 0, .ref 1000002] : List Value).map (rv ad)).toArray meth c D cA A sp 5000 (fun _ => 0) 320 :=
    ⟨C.1, C.2.1, C.2.2.1, C.2.2.2.1, C.2.2.2.2.1, C.2.2.2.2.2.1, C.2.2.2.2.2.2.1, C.2.2.2.2.2.2.2.1, C.2.2.2.2.2.2.2.2.1, C.2.2.2.2.2.2.2.2.2.1, C.2.2.2.2.2.2.2.2.2.2.1, C.2.2.2.2.2.2.2.2.2.2.2.1, GS.un hG, trivial⟩
  have w0 : Wd D cA A sp L xs s ad 1 (hdl 320 = []) ad M s.heap [] := ⟨hS1, hS2, va_S.rf, hS3, hS4, by rw [h1]; exact Nat.le_refl _, fun _ _ => rfl, fun _ => rfl⟩
  have w1 : Wd D cA A sp 5000 (fun _ => 0) s ad 1 (hdl 320 = []) ad Ma s.heap [] := by
    refine w0.sw (M' := Ma) h1.symm (fun q hq => ?_) ⟨by decide, fun p hp => ?_, fun p hp => ?_, (fun p j q hp hq => by cases hq), rfl, fun j hj => rfl⟩
    · rw [h1] at hq
      obtain rfl : q = 0 := by omega
      refine ⟨hS.symm, ?_, hJ.symm, hD.symm, fun j hj => ?_⟩
      · rw [hI]; rfl
      · rw [hS] at hj
        exact (hR j hj).symm
    · have hp : p ≠ 0 := by have : 1 ≤ p := hp; omega
      show upR (ssL 5000) 0 (12, 0) p = _
      rw [upR_n hp]
    · have hp : p < 1 := hp
      obtain rfl : p = 0 := by omega
      exact Or.inl (by decide)
  refine li_pre hl Cu rfl w1 fun ad1 LS1 H1 locs1 cells1 slots1 w9 fr9 hb9 => ?_
  have w10 := wd_real (xs := xs) hL w9
  have fr10 : Fm ad1 320 LS1 [.ref 0, .ref 1000002] [.ref 1000002, .ref 328, .ref 328, .ref 0] (M54 L xs).1 := by rw [nE] at fr9; exact fr9
  have ke : kr 320 Me = 4 := by decide +kernel
  have k54 : kr 320 (M54 L xs) = 4 := by
    have e1 : (M54 L xs).2.2.2.1 iCRD 0 = Me.2.2.2.1 iCRD 0 := by
      rw [me_crd]
      unfold M54 Tm
      dsimp only
      rw [ovr_o (by decide)]
      exact q_crd
    rw [kr_eq e1]
    exact ke
  have hb10 : Bu (0, 0) rmL 320 99 (M54 L xs) cells1 slots1 := by
    unfold Bu at hb9 ⊢
    rw [ke, q99] at hb9
    rw [k54, q99]
    obtain ⟨u1, u2⟩ := hb9
    have u1 : cells1 + (0 + 200 + 4 * 4) ≤ 1000 := u1
    have u2 : slots1 + (0 + 9000 + 24 * 4) ≤ 170000 := u2
    exact ⟨by show cells1 + (0 + 0 + 4 * 4) ≤ 1000; omega, by show slots1 + (0 + 0 + 24 * 4) ≤ 170000; omega⟩
  have n0e : Wd D cA A sp L xs s ad M.1 (hdl 320 = []) ad1 (M54 L xs) H1 locs1 := by rw [h1]; exact w10
  exact sim_nx (X9 := (0, 0)) N9 (fun k _ => sim_call hl k) C (th_norm C r320 h320) (fin_norm C r320 h320 hns9) r320 y1 99 _ _ _ ad1 LS1 H1 locs1 cells1 slots1 hN9 n0e fr10 hb10
end STEP
