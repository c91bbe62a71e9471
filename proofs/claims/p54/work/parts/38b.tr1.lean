/-! a step over both memories -/
abbrev hlA : Ac := hl
def Bas (n' : Nat) (S' : Nat → Nat × Nat) (R' : Nat → Nat → Option Nat) : Prop := 317 ≤ n' ∧ (∀ p, p < 316 → S' (p + 1) = S0 p) ∧ (∀ p, gp p → ¬ p < 316 → S' p = S0 p) ∧ ∀ p j, p < 316 → j < 20 → R' (p + 1) j = (R0 p j).map (fun q => q + 1)
abbrev Rs : Type := Option Value ⊕ Nat ⊕ (Nat × List Value × List Value)
def tR (r : Rs) : Rs := match r with
  | .inl v => .inl (v.map tv)
  | .inr (.inl E) => .inr (.inl E)
  | .inr (.inr (pc, ls, st)) => .inr (.inr (pc, ls.map tv, st.map tv))
def rGood (r : Rs) : Prop := ∀ v, r = .inl (some v) → gv v
section TR
variable (n' : Nat) (S' : Nat → Nat × Nat) (R' : Nat → Nat → Option Nat) (QI : Nat → Nat → Int32) (QJ : Nat → Nat → Int64) (QD : Nat → Nat → UInt64)
def Tm (I : Nat → Nat → Int32) (J : Nat → Nat → Int64) (D : Nat → Nat → UInt64) : Mm := (n', S', R', ovr I QI, ovr J QJ, fun q => bif Nat.ble 1 q && Nat.ble q 316 then D (q - 1) else QD q)
def Cn (u : Ou) (x : Option Ou) : Prop := ∃ r I2 J2 D2, u = (r, mm I2 J2 D2) ∧ rGood r ∧ x = some (tR r, Tm n' S' R' QI QJ QD I2 J2 D2)
def Rel (μ : Nat) (g g' : Cf → Option Ou) (u : Ou) : Prop := ∀ pc ls st I J D, gl ls → gl st → g (μ, pc, ls, st, mm I J D) = some u → Cn n' S' R' QI QJ QD u (g' (μ, pc, ls.map tv, st.map tv, Tm n' S' R' QI QJ QD I J D))
def RelC (f f' : Cf → Option Ou) : Prop := ∀ a as I J D u, bk a = true → gl as → f (a, 0, pad (mxl a) (ent as), [], mm I J D) = some u → (∀ z, u.1 ≠ .inr (.inr z)) → Cn n' S' R' QI QJ QD u (f' (a, 0, pad (mxl a) (ent (as.map tv)), [], Tm n' S' R' QI QJ QD I J D))
end TR
section TS
variable {n' : Nat} {S' : Nat → Nat × Nat} {R' : Nat → Nat → Option Nat} {QI : Nat → Nat → Int32} {QJ : Nat → Nat → Int64} {QD : Nat → Nat → UInt64} {μ pc len : Nat} {f f' g g' : Cf → Option Ou} {u : Ou} {c0 c0' : Cf}
variable {ls st : List Value} {I : Nat → Nat → Int32} {J : Nat → Nat → Int64} {D : Nat → Nat → UInt64} {fm tm : List Bool} {a b c : Nat} {k : Int32}
theorem Bas.S (B : Bas n' S' R') {p : Nat} (h : gp p) : S' (tq p) = S0 p := by
  by_cases hp : p < 316
  · rw [tq_lt hp]; exact B.2.1 p hp
  · rw [tq_ge hp]; exact B.2.2.1 p h hp
theorem Bas.n (B : Bas n' S' R') {p : Nat} (hp : p < 316) : Nat.blt (tq p) n' = true := by
  rw [tq_lt hp]
  have := B.1
  exact Nat.blt_eq.mpr (by omega)
theorem Bas.R (B : Bas n' S' R') {p j : Nat} (hp : p < 316) (hj : j < 20) : orf (R' (tq p) j) = tv (orf (R0 p j)) ∧ gv (orf (R0 p j)) := by
  rw [tq_lt hp, B.2.2.2 p j hp hj]
  cases h : R0 p j with
  | none => exact ⟨rfl, trivial⟩
  | some q =>
    have hq := r0_lt hp hj h
    refine ⟨?_, Or.inl hq⟩
    show Value.ref (q + 1) = Value.ref (tq q)
    rw [tq_lt hq]
theorem trK (hg : Rel n' S' R' QI QJ QD μ g g' u) {pc' : Nat} {F : List Bool} {L ST L' ST' : List Value} {I : Nat → Nat → Int32} {J : Nat → Nat → Int64} {D : Nat → Nat → UInt64} {M' : Mm} (h : g (μ, pc', mk F L, ST, mm I J D) = some u) (hl : gl L) (hs : gl ST) (e1 : L' = L.map tv) (e2 : ST' = ST.map tv) (e3 : M' = Tm n' S' R' QI QJ QD I J D) : Cn n' S' R' QI QJ QD u (g' (μ, pc', mk F L', ST', M')) := by
  subst e1; subst e2; subst e3
  rw [mk_tv]
  exact hg pc' _ _ I J D (gl_mk F L hl) hs h
theorem Tm_I {p : Nat} (hp : p < 316) {k : Nat} {x : Int32} : (n', S', R', ups (ovr I QI) (tq p) k x, ovr J QJ, fun q => bif Nat.ble 1 q && Nat.ble q 316 then D (q - 1) else QD q) = Tm n' S' R' QI QJ QD (ups I p k x) J D := by
  unfold Tm; rw [ovr_ups hp]
theorem Tm_J {p : Nat} (hp : p < 316) {k : Nat} {x : Int64} : (n', S', R', ovr I QI, upsL (ovr J QJ) (tq p) k x, fun q => bif Nat.ble 1 q && Nat.ble q 316 then D (q - 1) else QD q) = Tm n' S' R' QI QJ QD I (upsL J p k x) D := by
  unfold Tm; rw [ovr_upsL hp]
theorem Tm_R {p : Nat} (hp : p < 316) {F : Nat → Int32} : (n', S', R', upR (ovr I QI) (tq p) F, ovr J QJ, fun q => bif Nat.ble 1 q && Nat.ble q 316 then D (q - 1) else QD q) = Tm n' S' R' QI QJ QD (upR I p F) J D := by
  unfold Tm; rw [ovr_upR hp]
theorem Tm_D {p : Nat} (hp : p < 316) {F : Nat → UInt64} : (n', S', R', ovr I QI, ovr J QJ, upR (fun q => bif Nat.ble 1 q && Nat.ble q 316 then D (q - 1) else QD q) (tq p) F) = Tm n' S' R' QI QJ QD I J (upR D p F) := by
  unfold Tm
  rw [show (fun q => bif Nat.ble 1 q && Nat.ble q 316 then D (q - 1) else QD q) = ovr D QD from rfl, ovr_upR hp]
  rfl
theorem cI_bk (h : μ < 318) : cI μ a I = I := by
  unfold cI
  rw [show Nat.ble 318 μ = false from by cases hb : Nat.ble 318 μ with | false => rfl | true => have := Nat.ble_eq.mp hb; omega]
  rfl
theorem cG_bk (h : μ < 318) : cG μ a I = true := by
  unfold cG
  rw [show Nat.ble 318 μ = false from by cases hb : Nat.ble 318 μ with | false => rfl | true => have := Nat.ble_eq.mp hb; omega]
  rfl
theorem trC (hf : RelC n' S' R' QI QJ QD f f') (hg : Rel n' S' R' QI QJ QD μ g g' u) (hns : ∀ z, u.1 ≠ .inr (.inr z)) (hb : bk μ = true) (ha : bk a = true) {as L ST : List Value} {pc' : Nat} {F : List Bool} {st1 : List Value} (h : acK f g (μ, pc, ls, st1, mm I J D) (.inr (.inl (a, as, (μ, pc', mk F L, ST, mm I J D), L))) = some u) (h1 : gl as) (h2 : gl L) (h3 : gl ST) :
    Cn n' S' R' QI QJ QD u (acK f' g' (μ, pc, ls.map tv, st1.map tv, Tm n' S' R' QI QJ QD I J D) (.inr (.inl (a, as.map tv, (μ, pc', mk F (L.map tv), ST.map tv, Tm n' S' R' QI QJ QD I J D), L.map tv)))) := by
  have hc : ∀ E, ctc μ pc E = none := fun E => by unfold ctc; rw [bk_h0 hb]; rfl
  have hi : ∀ M : Mm, cIn a M = M := fun M => by
    unfold cIn
    rw [show Nat.ble 318 a = false from by cases hb : Nat.ble 318 a with | false => rfl | true => have := Nat.ble_eq.mp hb; have := bk_lt ha; omega]
    rfl
  have ho : ∀ M M9 : Mm, cOut μ M M9 = M9 := fun M M9 => by
    unfold cOut
    rw [show Nat.ble 318 μ = false from by cases hb9 : Nat.ble 318 μ with | false => rfl | true => have := Nat.ble_eq.mp hb9; have := bk_lt hb; omega]
    rfl
  simp only [acK, hi, ho] at h ⊢
  generalize hx : f (a, 0, pad (mxl a) (ent as), [], mm I J D) = x at h
  cases x with
  | none => cases h
  | some o1 =>
    rcases o1 with ⟨v | E | s, M1⟩
    · obtain ⟨r, I2, J2, D2, q1, q2, q3⟩ := hf a as I J D _ ha h1 hx (fun z q => by cases q)
      cases q1
      rw [q3]
      have h : g (μ, pc', mk F L, v.toList ++ ST, mm I2 J2 D2) = some u := h
      refine trK hg h h2 (gl_app.mpr ⟨fun w hw => ?_, h3⟩) rfl ?_ rfl
      · cases v with
        | none => cases hw
        | some v =>
          have : w = v := by simpa using hw
          subst this
          exact q2 _ rfl
      · cases v <;> simp [tR]
    · obtain ⟨r, I2, J2, D2, q1, q2, q3⟩ := hf a as I J D _ ha h1 hx (fun z q => by cases q)
      cases q1
      rw [q3]
      dsimp only [tR] at h ⊢
      rw [hc] at h ⊢
      cases h
      exact ⟨_, _, _, _, rfl, (fun v q => by cases q), rfl⟩
    · cases h
theorem cat1_tv (v : Value) : cat1 (tv v) = cat1 v := by cases v <;> rfl
theorem tv_int (x : Int32) : tv (.int x) = .int x := rfl
theorem tr_iconst {q : Int} (B : Bas n' S' R') (hf : RelC n' S' R' QI QJ QD f f') (hg : Rel n' S' R' QI QJ QD μ g g' u) (hb : bk μ = true) (hns : ∀ z, u.1 ≠ .inr (.inr z)) (hl : gl ls) (hs : gl st) (h : acK f g (μ, pc, ls, st, mm I J D) (stA μ pc ls st 337 S0 R0 I J D (.iconst q) len fm tm a b c k) = some u) : Cn n' S' R' QI QJ QD u (acK f' g' (μ, pc, ls.map tv, st.map tv, Tm n' S' R' QI QJ QD I J D) (stA μ pc (ls.map tv) (st.map tv) n' S' R' (ovr I QI) (ovr J QJ) (fun q => bif Nat.ble 1 q && Nat.ble q 316 then D (q - 1) else QD q) (.iconst q) len fm tm a b c k)) := by
  exact trK hg h hl (gl_cons.mpr ⟨trivial, hs⟩) rfl rfl rfl
theorem tr_bipush {q : Int} (B : Bas n' S' R') (hf : RelC n' S' R' QI QJ QD f f') (hg : Rel n' S' R' QI QJ QD μ g g' u) (hb : bk μ = true) (hns : ∀ z, u.1 ≠ .inr (.inr z)) (hl : gl ls) (hs : gl st) (h : acK f g (μ, pc, ls, st, mm I J D) (stA μ pc ls st 337 S0 R0 I J D (.bipush q) len fm tm a b c k) = some u) : Cn n' S' R' QI QJ QD u (acK f' g' (μ, pc, ls.map tv, st.map tv, Tm n' S' R' QI QJ QD I J D) (stA μ pc (ls.map tv) (st.map tv) n' S' R' (ovr I QI) (ovr J QJ) (fun q => bif Nat.ble 1 q && Nat.ble q 316 then D (q - 1) else QD q) (.bipush q) len fm tm a b c k)) := by
  exact trK hg h hl (gl_cons.mpr ⟨trivial, hs⟩) rfl rfl rfl
theorem tr_sipush {q : Int} (B : Bas n' S' R') (hf : RelC n' S' R' QI QJ QD f f') (hg : Rel n' S' R' QI QJ QD μ g g' u) (hb : bk μ = true) (hns : ∀ z, u.1 ≠ .inr (.inr z)) (hl : gl ls) (hs : gl st) (h : acK f g (μ, pc, ls, st, mm I J D) (stA μ pc ls st 337 S0 R0 I J D (.sipush q) len fm tm a b c k) = some u) : Cn n' S' R' QI QJ QD u (acK f' g' (μ, pc, ls.map tv, st.map tv, Tm n' S' R' QI QJ QD I J D) (stA μ pc (ls.map tv) (st.map tv) n' S' R' (ovr I QI) (ovr J QJ) (fun q => bif Nat.ble 1 q && Nat.ble q 316 then D (q - 1) else QD q) (.sipush q) len fm tm a b c k)) := by
  exact trK hg h hl (gl_cons.mpr ⟨trivial, hs⟩) rfl rfl rfl
theorem tr_lconst {q : Fin 2} (B : Bas n' S' R') (hf : RelC n' S' R' QI QJ QD f f') (hg : Rel n' S' R' QI QJ QD μ g g' u) (hb : bk μ = true) (hns : ∀ z, u.1 ≠ .inr (.inr z)) (hl : gl ls) (hs : gl st) (h : acK f g (μ, pc, ls, st, mm I J D) (stA μ pc ls st 337 S0 R0 I J D (.lconst q) len fm tm a b c k) = some u) : Cn n' S' R' QI QJ QD u (acK f' g' (μ, pc, ls.map tv, st.map tv, Tm n' S' R' QI QJ QD I J D) (stA μ pc (ls.map tv) (st.map tv) n' S' R' (ovr I QI) (ovr J QJ) (fun q => bif Nat.ble 1 q && Nat.ble q 316 then D (q - 1) else QD q) (.lconst q) len fm tm a b c k)) := by
  exact trK hg h hl (gl_cons.mpr ⟨trivial, hs⟩) rfl rfl rfl
theorem tr_ldc2_w {q : Nat} (B : Bas n' S' R') (hf : RelC n' S' R' QI QJ QD f f') (hg : Rel n' S' R' QI QJ QD μ g g' u) (hb : bk μ = true) (hns : ∀ z, u.1 ≠ .inr (.inr z)) (hl : gl ls) (hs : gl st) (h : acK f g (μ, pc, ls, st, mm I J D) (stA μ pc ls st 337 S0 R0 I J D (.ldc2_w q) len fm tm a b c k) = some u) : Cn n' S' R' QI QJ QD u (acK f' g' (μ, pc, ls.map tv, st.map tv, Tm n' S' R' QI QJ QD I J D) (stA μ pc (ls.map tv) (st.map tv) n' S' R' (ovr I QI) (ovr J QJ) (fun q => bif Nat.ble 1 q && Nat.ble q 316 then D (q - 1) else QD q) (.ldc2_w q) len fm tm a b c k)) := by
  exact trK hg h hl (gl_cons.mpr ⟨trivial, hs⟩) rfl rfl rfl
theorem tr_fconst {q : Fin 3} (B : Bas n' S' R') (hf : RelC n' S' R' QI QJ QD f f') (hg : Rel n' S' R' QI QJ QD μ g g' u) (hb : bk μ = true) (hns : ∀ z, u.1 ≠ .inr (.inr z)) (hl : gl ls) (hs : gl st) (h : acK f g (μ, pc, ls, st, mm I J D) (stA μ pc ls st 337 S0 R0 I J D (.fconst q) len fm tm a b c k) = some u) : Cn n' S' R' QI QJ QD u (acK f' g' (μ, pc, ls.map tv, st.map tv, Tm n' S' R' QI QJ QD I J D) (stA μ pc (ls.map tv) (st.map tv) n' S' R' (ovr I QI) (ovr J QJ) (fun q => bif Nat.ble 1 q && Nat.ble q 316 then D (q - 1) else QD q) (.fconst q) len fm tm a b c k)) := by
  obtain ⟨ha, h⟩ := ak_ifh h
  show Cn _ _ _ _ _ _ u (acK f' g' _ (bif Nat.beq a 0 then _ else _))
  rw [ha]
  exact trK hg h hl (gl_cons.mpr ⟨trivial, hs⟩) rfl rfl rfl
theorem tr_ldc {q : Nat} (B : Bas n' S' R') (hf : RelC n' S' R' QI QJ QD f f') (hg : Rel n' S' R' QI QJ QD μ g g' u) (hb : bk μ = true) (hns : ∀ z, u.1 ≠ .inr (.inr z)) (hl : gl ls) (hs : gl st) (hc : (Nat.beq a 0 || (Nat.ble 1000020 b && Nat.ble b 1000025)) = true) (h : acK f g (μ, pc, ls, st, mm I J D) (stA μ pc ls st 337 S0 R0 I J D (.ldc q) len fm tm a b c k) = some u) : Cn n' S' R' QI QJ QD u (acK f' g' (μ, pc, ls.map tv, st.map tv, Tm n' S' R' QI QJ QD I J D) (stA μ pc (ls.map tv) (st.map tv) n' S' R' (ovr I QI) (ovr J QJ) (fun q => bif Nat.ble 1 q && Nat.ble q 316 then D (q - 1) else QD q) (.ldc q) len fm tm a b c k)) := by
  cases ha : Nat.beq a 0 with
  | true =>
    have h : g (μ, pc + len, mk fm ls, (bif Nat.beq a 0 then .int k else .ref b) :: st, mm I J D) = some u := h
    show Cn _ _ _ _ _ _ u (g' (μ, pc + len, mk fm (ls.map tv), (bif Nat.beq a 0 then .int k else .ref b) :: st.map tv, _))
    rw [ha] at h ⊢
    exact trK hg h hl (gl_cons.mpr ⟨trivial, hs⟩) rfl rfl rfl
  | false =>
    have h : g (μ, pc + len, mk fm ls, (bif Nat.beq a 0 then .int k else .ref b) :: st, mm I J D) = some u := h
    show Cn _ _ _ _ _ _ u (g' (μ, pc + len, mk fm (ls.map tv), (bif Nat.beq a 0 then .int k else .ref b) :: st.map tv, _))
    rw [ha, Bool.false_or, Bool.and_eq_true, Nat.ble_eq, Nat.ble_eq] at hc
    rw [ha] at h ⊢
    refine trK hg h hl (gl_cons.mpr ⟨Or.inr (Or.inr (Or.inl hc)), hs⟩) rfl ?_ rfl
    show Value.ref b :: _ = Value.ref (tq b) :: _
    rw [tq_ge (by omega)]
theorem tr_ldc_w {q : Nat} (B : Bas n' S' R') (hf : RelC n' S' R' QI QJ QD f f') (hg : Rel n' S' R' QI QJ QD μ g g' u) (hb : bk μ = true) (hns : ∀ z, u.1 ≠ .inr (.inr z)) (hl : gl ls) (hs : gl st) (hc : (Nat.beq a 0) = true) (h : acK f g (μ, pc, ls, st, mm I J D) (stA μ pc ls st 337 S0 R0 I J D (.ldc_w q) len fm tm a b c k) = some u) : Cn n' S' R' QI QJ QD u (acK f' g' (μ, pc, ls.map tv, st.map tv, Tm n' S' R' QI QJ QD I J D) (stA μ pc (ls.map tv) (st.map tv) n' S' R' (ovr I QI) (ovr J QJ) (fun q => bif Nat.ble 1 q && Nat.ble q 316 then D (q - 1) else QD q) (.ldc_w q) len fm tm a b c k)) := by
  have h : g (μ, pc + len, mk fm ls, (bif Nat.beq a 0 then .int k else .ref b) :: st, mm I J D) = some u := h
  show Cn _ _ _ _ _ _ u (g' (μ, pc + len, mk fm (ls.map tv), (bif Nat.beq a 0 then .int k else .ref b) :: st.map tv, _))
  rw [hc] at h ⊢
  exact trK hg h hl (gl_cons.mpr ⟨trivial, hs⟩) rfl rfl rfl
theorem tr_iload_n {q : Fin 4} (B : Bas n' S' R') (hf : RelC n' S' R' QI QJ QD f f') (hg : Rel n' S' R' QI QJ QD μ g g' u) (hb : bk μ = true) (hns : ∀ z, u.1 ≠ .inr (.inr z)) (hl : gl ls) (hs : gl st) (h : acK f g (μ, pc, ls, st, mm I J D) (stA μ pc ls st 337 S0 R0 I J D (.iload_n q) len fm tm a b c k) = some u) : Cn n' S' R' QI QJ QD u (acK f' g' (μ, pc, ls.map tv, st.map tv, Tm n' S' R' QI QJ QD I J D) (stA μ pc (ls.map tv) (st.map tv) n' S' R' (ovr I QI) (ovr J QJ) (fun q => bif Nat.ble 1 q && Nat.ble q 316 then D (q - 1) else QD q) (.iload_n q) len fm tm a b c k)) := by
  obtain ⟨v, hv, h⟩ := ak_lk h
  obtain ⟨x, rfl, h⟩ := ak_fI h
  have e : (ls.map tv)[q.val]? = some (tv (.int x)) := by rw [List.getElem?_map, hv]; rfl
  show Cn _ _ _ _ _ _ u (acK f' g' _ (lk (ls.map tv)[q.val]? _))
  rw [e]
  exact trK hg h hl (gl_cons.mpr ⟨trivial, hs⟩) rfl rfl rfl
theorem tr_iload {q : Nat} (B : Bas n' S' R') (hf : RelC n' S' R' QI QJ QD f f') (hg : Rel n' S' R' QI QJ QD μ g g' u) (hb : bk μ = true) (hns : ∀ z, u.1 ≠ .inr (.inr z)) (hl : gl ls) (hs : gl st) (h : acK f g (μ, pc, ls, st, mm I J D) (stA μ pc ls st 337 S0 R0 I J D (.iload q) len fm tm a b c k) = some u) : Cn n' S' R' QI QJ QD u (acK f' g' (μ, pc, ls.map tv, st.map tv, Tm n' S' R' QI QJ QD I J D) (stA μ pc (ls.map tv) (st.map tv) n' S' R' (ovr I QI) (ovr J QJ) (fun q => bif Nat.ble 1 q && Nat.ble q 316 then D (q - 1) else QD q) (.iload q) len fm tm a b c k)) := by
  obtain ⟨v, hv, h⟩ := ak_lk h
  obtain ⟨x, rfl, h⟩ := ak_fI h
  have e : (ls.map tv)[q]? = some (tv (.int x)) := by rw [List.getElem?_map, hv]; rfl
  show Cn _ _ _ _ _ _ u (acK f' g' _ (lk (ls.map tv)[q]? _))
  rw [e]
  exact trK hg h hl (gl_cons.mpr ⟨trivial, hs⟩) rfl rfl rfl
theorem tr_lload_n {q : Fin 4} (B : Bas n' S' R') (hf : RelC n' S' R' QI QJ QD f f') (hg : Rel n' S' R' QI QJ QD μ g g' u) (hb : bk μ = true) (hns : ∀ z, u.1 ≠ .inr (.inr z)) (hl : gl ls) (hs : gl st) (h : acK f g (μ, pc, ls, st, mm I J D) (stA μ pc ls st 337 S0 R0 I J D (.lload_n q) len fm tm a b c k) = some u) : Cn n' S' R' QI QJ QD u (acK f' g' (μ, pc, ls.map tv, st.map tv, Tm n' S' R' QI QJ QD I J D) (stA μ pc (ls.map tv) (st.map tv) n' S' R' (ovr I QI) (ovr J QJ) (fun q => bif Nat.ble 1 q && Nat.ble q 316 then D (q - 1) else QD q) (.lload_n q) len fm tm a b c k)) := by
  obtain ⟨v, hv, h⟩ := ak_lk h
  obtain ⟨x, rfl, h⟩ := ak_fL h
  have e : (ls.map tv)[q.val]? = some (tv (.long x)) := by rw [List.getElem?_map, hv]; rfl
  show Cn _ _ _ _ _ _ u (acK f' g' _ (lk (ls.map tv)[q.val]? _))
  rw [e]
  exact trK hg h hl (gl_cons.mpr ⟨trivial, hs⟩) rfl rfl rfl
theorem tr_lload {q : Nat} (B : Bas n' S' R') (hf : RelC n' S' R' QI QJ QD f f') (hg : Rel n' S' R' QI QJ QD μ g g' u) (hb : bk μ = true) (hns : ∀ z, u.1 ≠ .inr (.inr z)) (hl : gl ls) (hs : gl st) (h : acK f g (μ, pc, ls, st, mm I J D) (stA μ pc ls st 337 S0 R0 I J D (.lload q) len fm tm a b c k) = some u) : Cn n' S' R' QI QJ QD u (acK f' g' (μ, pc, ls.map tv, st.map tv, Tm n' S' R' QI QJ QD I J D) (stA μ pc (ls.map tv) (st.map tv) n' S' R' (ovr I QI) (ovr J QJ) (fun q => bif Nat.ble 1 q && Nat.ble q 316 then D (q - 1) else QD q) (.lload q) len fm tm a b c k)) := by
  obtain ⟨v, hv, h⟩ := ak_lk h
  obtain ⟨x, rfl, h⟩ := ak_fL h
  have e : (ls.map tv)[q]? = some (tv (.long x)) := by rw [List.getElem?_map, hv]; rfl
  show Cn _ _ _ _ _ _ u (acK f' g' _ (lk (ls.map tv)[q]? _))
  rw [e]
  exact trK hg h hl (gl_cons.mpr ⟨trivial, hs⟩) rfl rfl rfl
theorem tr_dload {q : Nat} (B : Bas n' S' R') (hf : RelC n' S' R' QI QJ QD f f') (hg : Rel n' S' R' QI QJ QD μ g g' u) (hb : bk μ = true) (hns : ∀ z, u.1 ≠ .inr (.inr z)) (hl : gl ls) (hs : gl st) (h : acK f g (μ, pc, ls, st, mm I J D) (stA μ pc ls st 337 S0 R0 I J D (.dload q) len fm tm a b c k) = some u) : Cn n' S' R' QI QJ QD u (acK f' g' (μ, pc, ls.map tv, st.map tv, Tm n' S' R' QI QJ QD I J D) (stA μ pc (ls.map tv) (st.map tv) n' S' R' (ovr I QI) (ovr J QJ) (fun q => bif Nat.ble 1 q && Nat.ble q 316 then D (q - 1) else QD q) (.dload q) len fm tm a b c k)) := by
  obtain ⟨v, hv, h⟩ := ak_lk h
  obtain ⟨x, rfl, h⟩ := ak_fD h
  have e : (ls.map tv)[q]? = some (tv (.double x)) := by rw [List.getElem?_map, hv]; rfl
  show Cn _ _ _ _ _ _ u (acK f' g' _ (lk (ls.map tv)[q]? _))
  rw [e]
  exact trK hg h hl (gl_cons.mpr ⟨trivial, hs⟩) rfl rfl rfl
theorem tr_aload_n {q : Fin 4} (B : Bas n' S' R') (hf : RelC n' S' R' QI QJ QD f f') (hg : Rel n' S' R' QI QJ QD μ g g' u) (hb : bk μ = true) (hns : ∀ z, u.1 ≠ .inr (.inr z)) (hl : gl ls) (hs : gl st) (h : acK f g (μ, pc, ls, st, mm I J D) (stA μ pc ls st 337 S0 R0 I J D (.aload_n q) len fm tm a b c k) = some u) : Cn n' S' R' QI QJ QD u (acK f' g' (μ, pc, ls.map tv, st.map tv, Tm n' S' R' QI QJ QD I J D) (stA μ pc (ls.map tv) (st.map tv) n' S' R' (ovr I QI) (ovr J QJ) (fun q => bif Nat.ble 1 q && Nat.ble q 316 then D (q - 1) else QD q) (.aload_n q) len fm tm a b c k)) := by
  obtain ⟨v, hv, h⟩ := ak_lk h
  obtain ⟨x, rfl, h⟩ := ak_fR h
  have e : (ls.map tv)[q.val]? = some (tv (.ref x)) := by rw [List.getElem?_map, hv]; rfl
  show Cn _ _ _ _ _ _ u (acK f' g' _ (lk (ls.map tv)[q.val]? _))
  rw [e]
  exact trK hg h hl (gl_cons.mpr ⟨(gl_at hl hv : gv (.ref x)), hs⟩) rfl rfl rfl
theorem tr_aload {q : Nat} (B : Bas n' S' R') (hf : RelC n' S' R' QI QJ QD f f') (hg : Rel n' S' R' QI QJ QD μ g g' u) (hb : bk μ = true) (hns : ∀ z, u.1 ≠ .inr (.inr z)) (hl : gl ls) (hs : gl st) (h : acK f g (μ, pc, ls, st, mm I J D) (stA μ pc ls st 337 S0 R0 I J D (.aload q) len fm tm a b c k) = some u) : Cn n' S' R' QI QJ QD u (acK f' g' (μ, pc, ls.map tv, st.map tv, Tm n' S' R' QI QJ QD I J D) (stA μ pc (ls.map tv) (st.map tv) n' S' R' (ovr I QI) (ovr J QJ) (fun q => bif Nat.ble 1 q && Nat.ble q 316 then D (q - 1) else QD q) (.aload q) len fm tm a b c k)) := by
  obtain ⟨v, hv, h⟩ := ak_lk h
  obtain ⟨x, rfl, h⟩ := ak_fR h
  have e : (ls.map tv)[q]? = some (tv (.ref x)) := by rw [List.getElem?_map, hv]; rfl
  show Cn _ _ _ _ _ _ u (acK f' g' _ (lk (ls.map tv)[q]? _))
  rw [e]
  exact trK hg h hl (gl_cons.mpr ⟨(gl_at hl hv : gv (.ref x)), hs⟩) rfl rfl rfl
theorem tr_istore_n {q : Fin 4} (B : Bas n' S' R') (hf : RelC n' S' R' QI QJ QD f f') (hg : Rel n' S' R' QI QJ QD μ g g' u) (hb : bk μ = true) (hns : ∀ z, u.1 ≠ .inr (.inr z)) (hl : gl ls) (hs : gl st) (h : acK f g (μ, pc, ls, st, mm I J D) (stA μ pc ls st 337 S0 R0 I J D (.istore_n q) len fm tm a b c k) = some u) : Cn n' S' R' QI QJ QD u (acK f' g' (μ, pc, ls.map tv, st.map tv, Tm n' S' R' QI QJ QD I J D) (stA μ pc (ls.map tv) (st.map tv) n' S' R' (ovr I QI) (ovr J QJ) (fun q => bif Nat.ble 1 q && Nat.ble q 316 then D (q - 1) else QD q) (.istore_n q) len fm tm a b c k)) := by
  obtain ⟨x, r, rfl, h⟩ := ak_i1 h
  obtain ⟨hq, h⟩ := ak_gd h
  show Cn _ _ _ _ _ _ u (acK f' g' _ (gd (Nat.blt _ (ls.map tv).length) _ _ _ _ _))
  rw [List.length_map, hq]
  exact trK hg h (gl_sto hl _ (gl_cons.mp hs).1) (gl_cons.mp hs).2 (sto_tv ls _ (.int x)) rfl rfl
theorem tr_istore {q : Nat} (B : Bas n' S' R') (hf : RelC n' S' R' QI QJ QD f f') (hg : Rel n' S' R' QI QJ QD μ g g' u) (hb : bk μ = true) (hns : ∀ z, u.1 ≠ .inr (.inr z)) (hl : gl ls) (hs : gl st) (h : acK f g (μ, pc, ls, st, mm I J D) (stA μ pc ls st 337 S0 R0 I J D (.istore q) len fm tm a b c k) = some u) : Cn n' S' R' QI QJ QD u (acK f' g' (μ, pc, ls.map tv, st.map tv, Tm n' S' R' QI QJ QD I J D) (stA μ pc (ls.map tv) (st.map tv) n' S' R' (ovr I QI) (ovr J QJ) (fun q => bif Nat.ble 1 q && Nat.ble q 316 then D (q - 1) else QD q) (.istore q) len fm tm a b c k)) := by
  obtain ⟨x, r, rfl, h⟩ := ak_i1 h
  obtain ⟨hq, h⟩ := ak_gd h
  show Cn _ _ _ _ _ _ u (acK f' g' _ (gd (Nat.blt _ (ls.map tv).length) _ _ _ _ _))
  rw [List.length_map, hq]
  exact trK hg h (gl_sto hl _ (gl_cons.mp hs).1) (gl_cons.mp hs).2 (sto_tv ls _ (.int x)) rfl rfl
theorem tr_lstore_n {q : Fin 4} (B : Bas n' S' R') (hf : RelC n' S' R' QI QJ QD f f') (hg : Rel n' S' R' QI QJ QD μ g g' u) (hb : bk μ = true) (hns : ∀ z, u.1 ≠ .inr (.inr z)) (hl : gl ls) (hs : gl st) (h : acK f g (μ, pc, ls, st, mm I J D) (stA μ pc ls st 337 S0 R0 I J D (.lstore_n q) len fm tm a b c k) = some u) : Cn n' S' R' QI QJ QD u (acK f' g' (μ, pc, ls.map tv, st.map tv, Tm n' S' R' QI QJ QD I J D) (stA μ pc (ls.map tv) (st.map tv) n' S' R' (ovr I QI) (ovr J QJ) (fun q => bif Nat.ble 1 q && Nat.ble q 316 then D (q - 1) else QD q) (.lstore_n q) len fm tm a b c k)) := by
  obtain ⟨x, r, rfl, h⟩ := ak_l1 h
  obtain ⟨hq, h⟩ := ak_gd h
  show Cn _ _ _ _ _ _ u (acK f' g' _ (gd (Nat.blt _ (ls.map tv).length) _ _ _ _ _))
  rw [List.length_map, hq]
  exact trK hg h (gl_sto2 hl _ (gl_cons.mp hs).1) (gl_cons.mp hs).2 (sto2_tv ls _ (.long x)) rfl rfl
theorem tr_lstore {q : Nat} (B : Bas n' S' R') (hf : RelC n' S' R' QI QJ QD f f') (hg : Rel n' S' R' QI QJ QD μ g g' u) (hb : bk μ = true) (hns : ∀ z, u.1 ≠ .inr (.inr z)) (hl : gl ls) (hs : gl st) (h : acK f g (μ, pc, ls, st, mm I J D) (stA μ pc ls st 337 S0 R0 I J D (.lstore q) len fm tm a b c k) = some u) : Cn n' S' R' QI QJ QD u (acK f' g' (μ, pc, ls.map tv, st.map tv, Tm n' S' R' QI QJ QD I J D) (stA μ pc (ls.map tv) (st.map tv) n' S' R' (ovr I QI) (ovr J QJ) (fun q => bif Nat.ble 1 q && Nat.ble q 316 then D (q - 1) else QD q) (.lstore q) len fm tm a b c k)) := by
  obtain ⟨x, r, rfl, h⟩ := ak_l1 h
  obtain ⟨hq, h⟩ := ak_gd h
  show Cn _ _ _ _ _ _ u (acK f' g' _ (gd (Nat.blt _ (ls.map tv).length) _ _ _ _ _))
  rw [List.length_map, hq]
  exact trK hg h (gl_sto2 hl _ (gl_cons.mp hs).1) (gl_cons.mp hs).2 (sto2_tv ls _ (.long x)) rfl rfl
theorem tr_dstore {q : Nat} (B : Bas n' S' R') (hf : RelC n' S' R' QI QJ QD f f') (hg : Rel n' S' R' QI QJ QD μ g g' u) (hb : bk μ = true) (hns : ∀ z, u.1 ≠ .inr (.inr z)) (hl : gl ls) (hs : gl st) (h : acK f g (μ, pc, ls, st, mm I J D) (stA μ pc ls st 337 S0 R0 I J D (.dstore q) len fm tm a b c k) = some u) : Cn n' S' R' QI QJ QD u (acK f' g' (μ, pc, ls.map tv, st.map tv, Tm n' S' R' QI QJ QD I J D) (stA μ pc (ls.map tv) (st.map tv) n' S' R' (ovr I QI) (ovr J QJ) (fun q => bif Nat.ble 1 q && Nat.ble q 316 then D (q - 1) else QD q) (.dstore q) len fm tm a b c k)) := by
  obtain ⟨v, r, rfl, h⟩ := ak_f1 h
  obtain ⟨x, rfl, h⟩ := ak_fD h
  obtain ⟨hq, h⟩ := ak_gd h
  show Cn _ _ _ _ _ _ u (acK f' g' _ (gd (Nat.blt _ (ls.map tv).length) _ _ _ _ _))
  rw [List.length_map, hq]
  exact trK hg h (gl_sto2 hl _ (gl_cons.mp hs).1) (gl_cons.mp hs).2 (sto2_tv ls _ (.double x)) rfl rfl
theorem tr_astore_n {q : Fin 4} (B : Bas n' S' R') (hf : RelC n' S' R' QI QJ QD f f') (hg : Rel n' S' R' QI QJ QD μ g g' u) (hb : bk μ = true) (hns : ∀ z, u.1 ≠ .inr (.inr z)) (hl : gl ls) (hs : gl st) (h : acK f g (μ, pc, ls, st, mm I J D) (stA μ pc ls st 337 S0 R0 I J D (.astore_n q) len fm tm a b c k) = some u) : Cn n' S' R' QI QJ QD u (acK f' g' (μ, pc, ls.map tv, st.map tv, Tm n' S' R' QI QJ QD I J D) (stA μ pc (ls.map tv) (st.map tv) n' S' R' (ovr I QI) (ovr J QJ) (fun q => bif Nat.ble 1 q && Nat.ble q 316 then D (q - 1) else QD q) (.astore_n q) len fm tm a b c k)) := by
  obtain ⟨v, r, rfl, h⟩ := ak_f1 h
  obtain ⟨x, rfl, h⟩ := ak_fR h
  obtain ⟨hq, h⟩ := ak_gd h
  show Cn _ _ _ _ _ _ u (acK f' g' _ (gd (Nat.blt _ (ls.map tv).length) _ _ _ _ _))
  rw [List.length_map, hq]
  exact trK hg h (gl_sto hl _ (gl_cons.mp hs).1) (gl_cons.mp hs).2 (sto_tv ls _ (.ref x)) rfl rfl
theorem tr_astore {q : Nat} (B : Bas n' S' R') (hf : RelC n' S' R' QI QJ QD f f') (hg : Rel n' S' R' QI QJ QD μ g g' u) (hb : bk μ = true) (hns : ∀ z, u.1 ≠ .inr (.inr z)) (hl : gl ls) (hs : gl st) (h : acK f g (μ, pc, ls, st, mm I J D) (stA μ pc ls st 337 S0 R0 I J D (.astore q) len fm tm a b c k) = some u) : Cn n' S' R' QI QJ QD u (acK f' g' (μ, pc, ls.map tv, st.map tv, Tm n' S' R' QI QJ QD I J D) (stA μ pc (ls.map tv) (st.map tv) n' S' R' (ovr I QI) (ovr J QJ) (fun q => bif Nat.ble 1 q && Nat.ble q 316 then D (q - 1) else QD q) (.astore q) len fm tm a b c k)) := by
  obtain ⟨v, r, rfl, h⟩ := ak_f1 h
  obtain ⟨x, rfl, h⟩ := ak_fR h
  obtain ⟨hq, h⟩ := ak_gd h
  show Cn _ _ _ _ _ _ u (acK f' g' _ (gd (Nat.blt _ (ls.map tv).length) _ _ _ _ _))
  rw [List.length_map, hq]
  exact trK hg h (gl_sto hl _ (gl_cons.mp hs).1) (gl_cons.mp hs).2 (sto_tv ls _ (.ref x)) rfl rfl
theorem tr_iinc {q : Nat} {z : Int} (B : Bas n' S' R') (hf : RelC n' S' R' QI QJ QD f f') (hg : Rel n' S' R' QI QJ QD μ g g' u) (hb : bk μ = true) (hns : ∀ z, u.1 ≠ .inr (.inr z)) (hl : gl ls) (hs : gl st) (h : acK f g (μ, pc, ls, st, mm I J D) (stA μ pc ls st 337 S0 R0 I J D (.iinc q z) len fm tm a b c k) = some u) : Cn n' S' R' QI QJ QD u (acK f' g' (μ, pc, ls.map tv, st.map tv, Tm n' S' R' QI QJ QD I J D) (stA μ pc (ls.map tv) (st.map tv) n' S' R' (ovr I QI) (ovr J QJ) (fun q => bif Nat.ble 1 q && Nat.ble q 316 then D (q - 1) else QD q) (.iinc q z) len fm tm a b c k)) := by
  obtain ⟨v, hv, h⟩ := ak_lk h
  obtain ⟨x, rfl, h⟩ := ak_fI h
  have e : (ls.map tv)[q]? = some (tv (.int x)) := by rw [List.getElem?_map, hv]; rfl
  show Cn _ _ _ _ _ _ u (acK f' g' _ (lk (ls.map tv)[q]? _))
  rw [e]
  exact trK hg h (gl_sto hl _ (v := .int (x + k)) trivial) hs (sto_tv ls _ (.int (x + k))) rfl rfl
theorem tr_iadd  (B : Bas n' S' R') (hf : RelC n' S' R' QI QJ QD f f') (hg : Rel n' S' R' QI QJ QD μ g g' u) (hb : bk μ = true) (hns : ∀ z, u.1 ≠ .inr (.inr z)) (hl : gl ls) (hs : gl st) (h : acK f g (μ, pc, ls, st, mm I J D) (stA μ pc ls st 337 S0 R0 I J D (.iadd) len fm tm a b c k) = some u) : Cn n' S' R' QI QJ QD u (acK f' g' (μ, pc, ls.map tv, st.map tv, Tm n' S' R' QI QJ QD I J D) (stA μ pc (ls.map tv) (st.map tv) n' S' R' (ovr I QI) (ovr J QJ) (fun q => bif Nat.ble 1 q && Nat.ble q 316 then D (q - 1) else QD q) (.iadd) len fm tm a b c k)) := by
  obtain ⟨x, y, r, rfl, h⟩ := ak_i2 h
  exact trK hg h hl (gl_cons.mpr ⟨trivial, (gl_cons.mp (gl_cons.mp hs).2).2⟩) rfl rfl rfl
theorem tr_isub  (B : Bas n' S' R') (hf : RelC n' S' R' QI QJ QD f f') (hg : Rel n' S' R' QI QJ QD μ g g' u) (hb : bk μ = true) (hns : ∀ z, u.1 ≠ .inr (.inr z)) (hl : gl ls) (hs : gl st) (h : acK f g (μ, pc, ls, st, mm I J D) (stA μ pc ls st 337 S0 R0 I J D (.isub) len fm tm a b c k) = some u) : Cn n' S' R' QI QJ QD u (acK f' g' (μ, pc, ls.map tv, st.map tv, Tm n' S' R' QI QJ QD I J D) (stA μ pc (ls.map tv) (st.map tv) n' S' R' (ovr I QI) (ovr J QJ) (fun q => bif Nat.ble 1 q && Nat.ble q 316 then D (q - 1) else QD q) (.isub) len fm tm a b c k)) := by
  obtain ⟨x, y, r, rfl, h⟩ := ak_i2 h
  exact trK hg h hl (gl_cons.mpr ⟨trivial, (gl_cons.mp (gl_cons.mp hs).2).2⟩) rfl rfl rfl
theorem tr_imul  (B : Bas n' S' R') (hf : RelC n' S' R' QI QJ QD f f') (hg : Rel n' S' R' QI QJ QD μ g g' u) (hb : bk μ = true) (hns : ∀ z, u.1 ≠ .inr (.inr z)) (hl : gl ls) (hs : gl st) (h : acK f g (μ, pc, ls, st, mm I J D) (stA μ pc ls st 337 S0 R0 I J D (.imul) len fm tm a b c k) = some u) : Cn n' S' R' QI QJ QD u (acK f' g' (μ, pc, ls.map tv, st.map tv, Tm n' S' R' QI QJ QD I J D) (stA μ pc (ls.map tv) (st.map tv) n' S' R' (ovr I QI) (ovr J QJ) (fun q => bif Nat.ble 1 q && Nat.ble q 316 then D (q - 1) else QD q) (.imul) len fm tm a b c k)) := by
  obtain ⟨x, y, r, rfl, h⟩ := ak_i2 h
  exact trK hg h hl (gl_cons.mpr ⟨trivial, (gl_cons.mp (gl_cons.mp hs).2).2⟩) rfl rfl rfl
theorem tr_iand  (B : Bas n' S' R') (hf : RelC n' S' R' QI QJ QD f f') (hg : Rel n' S' R' QI QJ QD μ g g' u) (hb : bk μ = true) (hns : ∀ z, u.1 ≠ .inr (.inr z)) (hl : gl ls) (hs : gl st) (h : acK f g (μ, pc, ls, st, mm I J D) (stA μ pc ls st 337 S0 R0 I J D (.iand) len fm tm a b c k) = some u) : Cn n' S' R' QI QJ QD u (acK f' g' (μ, pc, ls.map tv, st.map tv, Tm n' S' R' QI QJ QD I J D) (stA μ pc (ls.map tv) (st.map tv) n' S' R' (ovr I QI) (ovr J QJ) (fun q => bif Nat.ble 1 q && Nat.ble q 316 then D (q - 1) else QD q) (.iand) len fm tm a b c k)) := by
  obtain ⟨x, y, r, rfl, h⟩ := ak_i2 h
  exact trK hg h hl (gl_cons.mpr ⟨trivial, (gl_cons.mp (gl_cons.mp hs).2).2⟩) rfl rfl rfl
theorem tr_ior  (B : Bas n' S' R') (hf : RelC n' S' R' QI QJ QD f f') (hg : Rel n' S' R' QI QJ QD μ g g' u) (hb : bk μ = true) (hns : ∀ z, u.1 ≠ .inr (.inr z)) (hl : gl ls) (hs : gl st) (h : acK f g (μ, pc, ls, st, mm I J D) (stA μ pc ls st 337 S0 R0 I J D (.ior) len fm tm a b c k) = some u) : Cn n' S' R' QI QJ QD u (acK f' g' (μ, pc, ls.map tv, st.map tv, Tm n' S' R' QI QJ QD I J D) (stA μ pc (ls.map tv) (st.map tv) n' S' R' (ovr I QI) (ovr J QJ) (fun q => bif Nat.ble 1 q && Nat.ble q 316 then D (q - 1) else QD q) (.ior) len fm tm a b c k)) := by
  obtain ⟨x, y, r, rfl, h⟩ := ak_i2 h
  exact trK hg h hl (gl_cons.mpr ⟨trivial, (gl_cons.mp (gl_cons.mp hs).2).2⟩) rfl rfl rfl
theorem tr_ixor  (B : Bas n' S' R') (hf : RelC n' S' R' QI QJ QD f f') (hg : Rel n' S' R' QI QJ QD μ g g' u) (hb : bk μ = true) (hns : ∀ z, u.1 ≠ .inr (.inr z)) (hl : gl ls) (hs : gl st) (h : acK f g (μ, pc, ls, st, mm I J D) (stA μ pc ls st 337 S0 R0 I J D (.ixor) len fm tm a b c k) = some u) : Cn n' S' R' QI QJ QD u (acK f' g' (μ, pc, ls.map tv, st.map tv, Tm n' S' R' QI QJ QD I J D) (stA μ pc (ls.map tv) (st.map tv) n' S' R' (ovr I QI) (ovr J QJ) (fun q => bif Nat.ble 1 q && Nat.ble q 316 then D (q - 1) else QD q) (.ixor) len fm tm a b c k)) := by
  obtain ⟨x, y, r, rfl, h⟩ := ak_i2 h
  exact trK hg h hl (gl_cons.mpr ⟨trivial, (gl_cons.mp (gl_cons.mp hs).2).2⟩) rfl rfl rfl
theorem tr_ishl  (B : Bas n' S' R') (hf : RelC n' S' R' QI QJ QD f f') (hg : Rel n' S' R' QI QJ QD μ g g' u) (hb : bk μ = true) (hns : ∀ z, u.1 ≠ .inr (.inr z)) (hl : gl ls) (hs : gl st) (h : acK f g (μ, pc, ls, st, mm I J D) (stA μ pc ls st 337 S0 R0 I J D (.ishl) len fm tm a b c k) = some u) : Cn n' S' R' QI QJ QD u (acK f' g' (μ, pc, ls.map tv, st.map tv, Tm n' S' R' QI QJ QD I J D) (stA μ pc (ls.map tv) (st.map tv) n' S' R' (ovr I QI) (ovr J QJ) (fun q => bif Nat.ble 1 q && Nat.ble q 316 then D (q - 1) else QD q) (.ishl) len fm tm a b c k)) := by
  obtain ⟨x, y, r, rfl, h⟩ := ak_i2 h
  exact trK hg h hl (gl_cons.mpr ⟨trivial, (gl_cons.mp (gl_cons.mp hs).2).2⟩) rfl rfl rfl
theorem tr_ishr  (B : Bas n' S' R') (hf : RelC n' S' R' QI QJ QD f f') (hg : Rel n' S' R' QI QJ QD μ g g' u) (hb : bk μ = true) (hns : ∀ z, u.1 ≠ .inr (.inr z)) (hl : gl ls) (hs : gl st) (h : acK f g (μ, pc, ls, st, mm I J D) (stA μ pc ls st 337 S0 R0 I J D (.ishr) len fm tm a b c k) = some u) : Cn n' S' R' QI QJ QD u (acK f' g' (μ, pc, ls.map tv, st.map tv, Tm n' S' R' QI QJ QD I J D) (stA μ pc (ls.map tv) (st.map tv) n' S' R' (ovr I QI) (ovr J QJ) (fun q => bif Nat.ble 1 q && Nat.ble q 316 then D (q - 1) else QD q) (.ishr) len fm tm a b c k)) := by
  obtain ⟨x, y, r, rfl, h⟩ := ak_i2 h
  exact trK hg h hl (gl_cons.mpr ⟨trivial, (gl_cons.mp (gl_cons.mp hs).2).2⟩) rfl rfl rfl
theorem tr_iushr  (B : Bas n' S' R') (hf : RelC n' S' R' QI QJ QD f f') (hg : Rel n' S' R' QI QJ QD μ g g' u) (hb : bk μ = true) (hns : ∀ z, u.1 ≠ .inr (.inr z)) (hl : gl ls) (hs : gl st) (h : acK f g (μ, pc, ls, st, mm I J D) (stA μ pc ls st 337 S0 R0 I J D (.iushr) len fm tm a b c k) = some u) : Cn n' S' R' QI QJ QD u (acK f' g' (μ, pc, ls.map tv, st.map tv, Tm n' S' R' QI QJ QD I J D) (stA μ pc (ls.map tv) (st.map tv) n' S' R' (ovr I QI) (ovr J QJ) (fun q => bif Nat.ble 1 q && Nat.ble q 316 then D (q - 1) else QD q) (.iushr) len fm tm a b c k)) := by
  obtain ⟨x, y, r, rfl, h⟩ := ak_i2 h
  exact trK hg h hl (gl_cons.mpr ⟨trivial, (gl_cons.mp (gl_cons.mp hs).2).2⟩) rfl rfl rfl
theorem tr_ladd  (B : Bas n' S' R') (hf : RelC n' S' R' QI QJ QD f f') (hg : Rel n' S' R' QI QJ QD μ g g' u) (hb : bk μ = true) (hns : ∀ z, u.1 ≠ .inr (.inr z)) (hl : gl ls) (hs : gl st) (h : acK f g (μ, pc, ls, st, mm I J D) (stA μ pc ls st 337 S0 R0 I J D (.ladd) len fm tm a b c k) = some u) : Cn n' S' R' QI QJ QD u (acK f' g' (μ, pc, ls.map tv, st.map tv, Tm n' S' R' QI QJ QD I J D) (stA μ pc (ls.map tv) (st.map tv) n' S' R' (ovr I QI) (ovr J QJ) (fun q => bif Nat.ble 1 q && Nat.ble q 316 then D (q - 1) else QD q) (.ladd) len fm tm a b c k)) := by
  obtain ⟨x, y, r, rfl, h⟩ := ak_l2 h
  exact trK hg h hl (gl_cons.mpr ⟨trivial, (gl_cons.mp (gl_cons.mp hs).2).2⟩) rfl rfl rfl
theorem tr_lsub  (B : Bas n' S' R') (hf : RelC n' S' R' QI QJ QD f f') (hg : Rel n' S' R' QI QJ QD μ g g' u) (hb : bk μ = true) (hns : ∀ z, u.1 ≠ .inr (.inr z)) (hl : gl ls) (hs : gl st) (h : acK f g (μ, pc, ls, st, mm I J D) (stA μ pc ls st 337 S0 R0 I J D (.lsub) len fm tm a b c k) = some u) : Cn n' S' R' QI QJ QD u (acK f' g' (μ, pc, ls.map tv, st.map tv, Tm n' S' R' QI QJ QD I J D) (stA μ pc (ls.map tv) (st.map tv) n' S' R' (ovr I QI) (ovr J QJ) (fun q => bif Nat.ble 1 q && Nat.ble q 316 then D (q - 1) else QD q) (.lsub) len fm tm a b c k)) := by
  obtain ⟨x, y, r, rfl, h⟩ := ak_l2 h
  exact trK hg h hl (gl_cons.mpr ⟨trivial, (gl_cons.mp (gl_cons.mp hs).2).2⟩) rfl rfl rfl
theorem tr_lmul  (B : Bas n' S' R') (hf : RelC n' S' R' QI QJ QD f f') (hg : Rel n' S' R' QI QJ QD μ g g' u) (hb : bk μ = true) (hns : ∀ z, u.1 ≠ .inr (.inr z)) (hl : gl ls) (hs : gl st) (h : acK f g (μ, pc, ls, st, mm I J D) (stA μ pc ls st 337 S0 R0 I J D (.lmul) len fm tm a b c k) = some u) : Cn n' S' R' QI QJ QD u (acK f' g' (μ, pc, ls.map tv, st.map tv, Tm n' S' R' QI QJ QD I J D) (stA μ pc (ls.map tv) (st.map tv) n' S' R' (ovr I QI) (ovr J QJ) (fun q => bif Nat.ble 1 q && Nat.ble q 316 then D (q - 1) else QD q) (.lmul) len fm tm a b c k)) := by
  obtain ⟨x, y, r, rfl, h⟩ := ak_l2 h
  exact trK hg h hl (gl_cons.mpr ⟨trivial, (gl_cons.mp (gl_cons.mp hs).2).2⟩) rfl rfl rfl
theorem tr_land  (B : Bas n' S' R') (hf : RelC n' S' R' QI QJ QD f f') (hg : Rel n' S' R' QI QJ QD μ g g' u) (hb : bk μ = true) (hns : ∀ z, u.1 ≠ .inr (.inr z)) (hl : gl ls) (hs : gl st) (h : acK f g (μ, pc, ls, st, mm I J D) (stA μ pc ls st 337 S0 R0 I J D (.land) len fm tm a b c k) = some u) : Cn n' S' R' QI QJ QD u (acK f' g' (μ, pc, ls.map tv, st.map tv, Tm n' S' R' QI QJ QD I J D) (stA μ pc (ls.map tv) (st.map tv) n' S' R' (ovr I QI) (ovr J QJ) (fun q => bif Nat.ble 1 q && Nat.ble q 316 then D (q - 1) else QD q) (.land) len fm tm a b c k)) := by
  obtain ⟨x, y, r, rfl, h⟩ := ak_l2 h
  exact trK hg h hl (gl_cons.mpr ⟨trivial, (gl_cons.mp (gl_cons.mp hs).2).2⟩) rfl rfl rfl
theorem tr_lor  (B : Bas n' S' R') (hf : RelC n' S' R' QI QJ QD f f') (hg : Rel n' S' R' QI QJ QD μ g g' u) (hb : bk μ = true) (hns : ∀ z, u.1 ≠ .inr (.inr z)) (hl : gl ls) (hs : gl st) (h : acK f g (μ, pc, ls, st, mm I J D) (stA μ pc ls st 337 S0 R0 I J D (.lor) len fm tm a b c k) = some u) : Cn n' S' R' QI QJ QD u (acK f' g' (μ, pc, ls.map tv, st.map tv, Tm n' S' R' QI QJ QD I J D) (stA μ pc (ls.map tv) (st.map tv) n' S' R' (ovr I QI) (ovr J QJ) (fun q => bif Nat.ble 1 q && Nat.ble q 316 then D (q - 1) else QD q) (.lor) len fm tm a b c k)) := by
  obtain ⟨x, y, r, rfl, h⟩ := ak_l2 h
  exact trK hg h hl (gl_cons.mpr ⟨trivial, (gl_cons.mp (gl_cons.mp hs).2).2⟩) rfl rfl rfl
theorem tr_lcmp  (B : Bas n' S' R') (hf : RelC n' S' R' QI QJ QD f f') (hg : Rel n' S' R' QI QJ QD μ g g' u) (hb : bk μ = true) (hns : ∀ z, u.1 ≠ .inr (.inr z)) (hl : gl ls) (hs : gl st) (h : acK f g (μ, pc, ls, st, mm I J D) (stA μ pc ls st 337 S0 R0 I J D (.lcmp) len fm tm a b c k) = some u) : Cn n' S' R' QI QJ QD u (acK f' g' (μ, pc, ls.map tv, st.map tv, Tm n' S' R' QI QJ QD I J D) (stA μ pc (ls.map tv) (st.map tv) n' S' R' (ovr I QI) (ovr J QJ) (fun q => bif Nat.ble 1 q && Nat.ble q 316 then D (q - 1) else QD q) (.lcmp) len fm tm a b c k)) := by
  obtain ⟨x, y, r, rfl, h⟩ := ak_l2 h
  exact trK hg h hl (gl_cons.mpr ⟨trivial, (gl_cons.mp (gl_cons.mp hs).2).2⟩) rfl rfl rfl
theorem tr_idiv  (B : Bas n' S' R') (hf : RelC n' S' R' QI QJ QD f f') (hg : Rel n' S' R' QI QJ QD μ g g' u) (hb : bk μ = true) (hns : ∀ z, u.1 ≠ .inr (.inr z)) (hl : gl ls) (hs : gl st) (h : acK f g (μ, pc, ls, st, mm I J D) (stA μ pc ls st 337 S0 R0 I J D (.idiv) len fm tm a b c k) = some u) : Cn n' S' R' QI QJ QD u (acK f' g' (μ, pc, ls.map tv, st.map tv, Tm n' S' R' QI QJ QD I J D) (stA μ pc (ls.map tv) (st.map tv) n' S' R' (ovr I QI) (ovr J QJ) (fun q => bif Nat.ble 1 q && Nat.ble q 316 then D (q - 1) else QD q) (.idiv) len fm tm a b c k)) := by
  obtain ⟨x, y, r, rfl, h⟩ := ak_i2 h
  obtain ⟨hy, h⟩ := ak_gd h
  show Cn _ _ _ _ _ _ u (acK f' g' _ (gd (decide _) _ _ _ _ _))
  rw [hy]
  exact trK hg h hl (gl_cons.mpr ⟨trivial, (gl_cons.mp (gl_cons.mp hs).2).2⟩) rfl rfl rfl
theorem tr_irem  (B : Bas n' S' R') (hf : RelC n' S' R' QI QJ QD f f') (hg : Rel n' S' R' QI QJ QD μ g g' u) (hb : bk μ = true) (hns : ∀ z, u.1 ≠ .inr (.inr z)) (hl : gl ls) (hs : gl st) (h : acK f g (μ, pc, ls, st, mm I J D) (stA μ pc ls st 337 S0 R0 I J D (.irem) len fm tm a b c k) = some u) : Cn n' S' R' QI QJ QD u (acK f' g' (μ, pc, ls.map tv, st.map tv, Tm n' S' R' QI QJ QD I J D) (stA μ pc (ls.map tv) (st.map tv) n' S' R' (ovr I QI) (ovr J QJ) (fun q => bif Nat.ble 1 q && Nat.ble q 316 then D (q - 1) else QD q) (.irem) len fm tm a b c k)) := by
  obtain ⟨x, y, r, rfl, h⟩ := ak_i2 h
  obtain ⟨hy, h⟩ := ak_gd h
  show Cn _ _ _ _ _ _ u (acK f' g' _ (gd (decide _) _ _ _ _ _))
  rw [hy]
  exact trK hg h hl (gl_cons.mpr ⟨trivial, (gl_cons.mp (gl_cons.mp hs).2).2⟩) rfl rfl rfl
theorem tr_ineg  (B : Bas n' S' R') (hf : RelC n' S' R' QI QJ QD f f') (hg : Rel n' S' R' QI QJ QD μ g g' u) (hb : bk μ = true) (hns : ∀ z, u.1 ≠ .inr (.inr z)) (hl : gl ls) (hs : gl st) (h : acK f g (μ, pc, ls, st, mm I J D) (stA μ pc ls st 337 S0 R0 I J D (.ineg) len fm tm a b c k) = some u) : Cn n' S' R' QI QJ QD u (acK f' g' (μ, pc, ls.map tv, st.map tv, Tm n' S' R' QI QJ QD I J D) (stA μ pc (ls.map tv) (st.map tv) n' S' R' (ovr I QI) (ovr J QJ) (fun q => bif Nat.ble 1 q && Nat.ble q 316 then D (q - 1) else QD q) (.ineg) len fm tm a b c k)) := by
  obtain ⟨x, r, rfl, h⟩ := ak_i1 h
  exact trK hg h hl (gl_cons.mpr ⟨trivial, (gl_cons.mp hs).2⟩) rfl rfl rfl
theorem tr_i2l  (B : Bas n' S' R') (hf : RelC n' S' R' QI QJ QD f f') (hg : Rel n' S' R' QI QJ QD μ g g' u) (hb : bk μ = true) (hns : ∀ z, u.1 ≠ .inr (.inr z)) (hl : gl ls) (hs : gl st) (h : acK f g (μ, pc, ls, st, mm I J D) (stA μ pc ls st 337 S0 R0 I J D (.i2l) len fm tm a b c k) = some u) : Cn n' S' R' QI QJ QD u (acK f' g' (μ, pc, ls.map tv, st.map tv, Tm n' S' R' QI QJ QD I J D) (stA μ pc (ls.map tv) (st.map tv) n' S' R' (ovr I QI) (ovr J QJ) (fun q => bif Nat.ble 1 q && Nat.ble q 316 then D (q - 1) else QD q) (.i2l) len fm tm a b c k)) := by
  obtain ⟨x, r, rfl, h⟩ := ak_i1 h
  exact trK hg h hl (gl_cons.mpr ⟨trivial, (gl_cons.mp hs).2⟩) rfl rfl rfl
theorem tr_i2c  (B : Bas n' S' R') (hf : RelC n' S' R' QI QJ QD f f') (hg : Rel n' S' R' QI QJ QD μ g g' u) (hb : bk μ = true) (hns : ∀ z, u.1 ≠ .inr (.inr z)) (hl : gl ls) (hs : gl st) (h : acK f g (μ, pc, ls, st, mm I J D) (stA μ pc ls st 337 S0 R0 I J D (.i2c) len fm tm a b c k) = some u) : Cn n' S' R' QI QJ QD u (acK f' g' (μ, pc, ls.map tv, st.map tv, Tm n' S' R' QI QJ QD I J D) (stA μ pc (ls.map tv) (st.map tv) n' S' R' (ovr I QI) (ovr J QJ) (fun q => bif Nat.ble 1 q && Nat.ble q 316 then D (q - 1) else QD q) (.i2c) len fm tm a b c k)) := by
  obtain ⟨x, r, rfl, h⟩ := ak_i1 h
  exact trK hg h hl (gl_cons.mpr ⟨trivial, (gl_cons.mp hs).2⟩) rfl rfl rfl
theorem tr_i2d  (B : Bas n' S' R') (hf : RelC n' S' R' QI QJ QD f f') (hg : Rel n' S' R' QI QJ QD μ g g' u) (hb : bk μ = true) (hns : ∀ z, u.1 ≠ .inr (.inr z)) (hl : gl ls) (hs : gl st) (h : acK f g (μ, pc, ls, st, mm I J D) (stA μ pc ls st 337 S0 R0 I J D (.i2d) len fm tm a b c k) = some u) : Cn n' S' R' QI QJ QD u (acK f' g' (μ, pc, ls.map tv, st.map tv, Tm n' S' R' QI QJ QD I J D) (stA μ pc (ls.map tv) (st.map tv) n' S' R' (ovr I QI) (ovr J QJ) (fun q => bif Nat.ble 1 q && Nat.ble q 316 then D (q - 1) else QD q) (.i2d) len fm tm a b c k)) := by
  obtain ⟨x, r, rfl, h⟩ := ak_i1 h
  exact trK hg h hl (gl_cons.mpr ⟨trivial, (gl_cons.mp hs).2⟩) rfl rfl rfl
theorem tr_i2f  (B : Bas n' S' R') (hf : RelC n' S' R' QI QJ QD f f') (hg : Rel n' S' R' QI QJ QD μ g g' u) (hb : bk μ = true) (hns : ∀ z, u.1 ≠ .inr (.inr z)) (hl : gl ls) (hs : gl st) (h : acK f g (μ, pc, ls, st, mm I J D) (stA μ pc ls st 337 S0 R0 I J D (.i2f) len fm tm a b c k) = some u) : Cn n' S' R' QI QJ QD u (acK f' g' (μ, pc, ls.map tv, st.map tv, Tm n' S' R' QI QJ QD I J D) (stA μ pc (ls.map tv) (st.map tv) n' S' R' (ovr I QI) (ovr J QJ) (fun q => bif Nat.ble 1 q && Nat.ble q 316 then D (q - 1) else QD q) (.i2f) len fm tm a b c k)) := by
  obtain ⟨x, r, rfl, h⟩ := ak_i1 h
  exact trK hg h hl (gl_cons.mpr ⟨trivial, (gl_cons.mp hs).2⟩) rfl rfl rfl
theorem tr_lneg  (B : Bas n' S' R') (hf : RelC n' S' R' QI QJ QD f f') (hg : Rel n' S' R' QI QJ QD μ g g' u) (hb : bk μ = true) (hns : ∀ z, u.1 ≠ .inr (.inr z)) (hl : gl ls) (hs : gl st) (h : acK f g (μ, pc, ls, st, mm I J D) (stA μ pc ls st 337 S0 R0 I J D (.lneg) len fm tm a b c k) = some u) : Cn n' S' R' QI QJ QD u (acK f' g' (μ, pc, ls.map tv, st.map tv, Tm n' S' R' QI QJ QD I J D) (stA μ pc (ls.map tv) (st.map tv) n' S' R' (ovr I QI) (ovr J QJ) (fun q => bif Nat.ble 1 q && Nat.ble q 316 then D (q - 1) else QD q) (.lneg) len fm tm a b c k)) := by
  obtain ⟨x, r, rfl, h⟩ := ak_l1 h
  exact trK hg h hl (gl_cons.mpr ⟨trivial, (gl_cons.mp hs).2⟩) rfl rfl rfl
theorem tr_l2i  (B : Bas n' S' R') (hf : RelC n' S' R' QI QJ QD f f') (hg : Rel n' S' R' QI QJ QD μ g g' u) (hb : bk μ = true) (hns : ∀ z, u.1 ≠ .inr (.inr z)) (hl : gl ls) (hs : gl st) (h : acK f g (μ, pc, ls, st, mm I J D) (stA μ pc ls st 337 S0 R0 I J D (.l2i) len fm tm a b c k) = some u) : Cn n' S' R' QI QJ QD u (acK f' g' (μ, pc, ls.map tv, st.map tv, Tm n' S' R' QI QJ QD I J D) (stA μ pc (ls.map tv) (st.map tv) n' S' R' (ovr I QI) (ovr J QJ) (fun q => bif Nat.ble 1 q && Nat.ble q 316 then D (q - 1) else QD q) (.l2i) len fm tm a b c k)) := by
  obtain ⟨x, r, rfl, h⟩ := ak_l1 h
  exact trK hg h hl (gl_cons.mpr ⟨trivial, (gl_cons.mp hs).2⟩) rfl rfl rfl
theorem tr_lshl  (B : Bas n' S' R') (hf : RelC n' S' R' QI QJ QD f f') (hg : Rel n' S' R' QI QJ QD μ g g' u) (hb : bk μ = true) (hns : ∀ z, u.1 ≠ .inr (.inr z)) (hl : gl ls) (hs : gl st) (h : acK f g (μ, pc, ls, st, mm I J D) (stA μ pc ls st 337 S0 R0 I J D (.lshl) len fm tm a b c k) = some u) : Cn n' S' R' QI QJ QD u (acK f' g' (μ, pc, ls.map tv, st.map tv, Tm n' S' R' QI QJ QD I J D) (stA μ pc (ls.map tv) (st.map tv) n' S' R' (ovr I QI) (ovr J QJ) (fun q => bif Nat.ble 1 q && Nat.ble q 316 then D (q - 1) else QD q) (.lshl) len fm tm a b c k)) := by
  obtain ⟨v, w, r, rfl, h⟩ := ak_f2 h
  obtain ⟨y, rfl, h⟩ := ak_fI h
  obtain ⟨x, rfl, h⟩ := ak_fL h
  exact trK hg h hl (gl_cons.mpr ⟨trivial, (gl_cons.mp (gl_cons.mp hs).2).2⟩) rfl rfl rfl
theorem tr_lshr  (B : Bas n' S' R') (hf : RelC n' S' R' QI QJ QD f f') (hg : Rel n' S' R' QI QJ QD μ g g' u) (hb : bk μ = true) (hns : ∀ z, u.1 ≠ .inr (.inr z)) (hl : gl ls) (hs : gl st) (h : acK f g (μ, pc, ls, st, mm I J D) (stA μ pc ls st 337 S0 R0 I J D (.lshr) len fm tm a b c k) = some u) : Cn n' S' R' QI QJ QD u (acK f' g' (μ, pc, ls.map tv, st.map tv, Tm n' S' R' QI QJ QD I J D) (stA μ pc (ls.map tv) (st.map tv) n' S' R' (ovr I QI) (ovr J QJ) (fun q => bif Nat.ble 1 q && Nat.ble q 316 then D (q - 1) else QD q) (.lshr) len fm tm a b c k)) := by
  obtain ⟨v, w, r, rfl, h⟩ := ak_f2 h
  obtain ⟨y, rfl, h⟩ := ak_fI h
  obtain ⟨x, rfl, h⟩ := ak_fL h
  exact trK hg h hl (gl_cons.mpr ⟨trivial, (gl_cons.mp (gl_cons.mp hs).2).2⟩) rfl rfl rfl
theorem tr_lushr  (B : Bas n' S' R') (hf : RelC n' S' R' QI QJ QD f f') (hg : Rel n' S' R' QI QJ QD μ g g' u) (hb : bk μ = true) (hns : ∀ z, u.1 ≠ .inr (.inr z)) (hl : gl ls) (hs : gl st) (h : acK f g (μ, pc, ls, st, mm I J D) (stA μ pc ls st 337 S0 R0 I J D (.lushr) len fm tm a b c k) = some u) : Cn n' S' R' QI QJ QD u (acK f' g' (μ, pc, ls.map tv, st.map tv, Tm n' S' R' QI QJ QD I J D) (stA μ pc (ls.map tv) (st.map tv) n' S' R' (ovr I QI) (ovr J QJ) (fun q => bif Nat.ble 1 q && Nat.ble q 316 then D (q - 1) else QD q) (.lushr) len fm tm a b c k)) := by
  obtain ⟨v, w, r, rfl, h⟩ := ak_f2 h
  obtain ⟨y, rfl, h⟩ := ak_fI h
  obtain ⟨x, rfl, h⟩ := ak_fL h
  exact trK hg h hl (gl_cons.mpr ⟨trivial, (gl_cons.mp (gl_cons.mp hs).2).2⟩) rfl rfl rfl
theorem tr_f2d  (B : Bas n' S' R') (hf : RelC n' S' R' QI QJ QD f f') (hg : Rel n' S' R' QI QJ QD μ g g' u) (hb : bk μ = true) (hns : ∀ z, u.1 ≠ .inr (.inr z)) (hl : gl ls) (hs : gl st) (h : acK f g (μ, pc, ls, st, mm I J D) (stA μ pc ls st 337 S0 R0 I J D (.f2d) len fm tm a b c k) = some u) : Cn n' S' R' QI QJ QD u (acK f' g' (μ, pc, ls.map tv, st.map tv, Tm n' S' R' QI QJ QD I J D) (stA μ pc (ls.map tv) (st.map tv) n' S' R' (ovr I QI) (ovr J QJ) (fun q => bif Nat.ble 1 q && Nat.ble q 316 then D (q - 1) else QD q) (.f2d) len fm tm a b c k)) := by
  obtain ⟨v, r, rfl, h⟩ := ak_f1 h
  obtain ⟨x, rfl, h⟩ := ak_fF h
  obtain ⟨hy, h⟩ := ak_gd h
  show Cn _ _ _ _ _ _ u (acK f' g' _ (gd (ok64 _) _ _ _ _ _))
  rw [hy]
  exact trK hg h hl (gl_cons.mpr ⟨trivial, (gl_cons.mp hs).2⟩) rfl rfl rfl
theorem tr_ddiv  (B : Bas n' S' R') (hf : RelC n' S' R' QI QJ QD f f') (hg : Rel n' S' R' QI QJ QD μ g g' u) (hb : bk μ = true) (hns : ∀ z, u.1 ≠ .inr (.inr z)) (hl : gl ls) (hs : gl st) (h : acK f g (μ, pc, ls, st, mm I J D) (stA μ pc ls st 337 S0 R0 I J D (.ddiv) len fm tm a b c k) = some u) : Cn n' S' R' QI QJ QD u (acK f' g' (μ, pc, ls.map tv, st.map tv, Tm n' S' R' QI QJ QD I J D) (stA μ pc (ls.map tv) (st.map tv) n' S' R' (ovr I QI) (ovr J QJ) (fun q => bif Nat.ble 1 q && Nat.ble q 316 then D (q - 1) else QD q) (.ddiv) len fm tm a b c k)) := by
  obtain ⟨v, w, r, rfl, h⟩ := ak_f2 h
  obtain ⟨y, rfl, h⟩ := ak_fD h
  obtain ⟨x, rfl, h⟩ := ak_fD h
  obtain ⟨hy, h⟩ := ak_gd h
  show Cn _ _ _ _ _ _ u (acK f' g' _ (gd (ok64 _) _ _ _ _ _))
  rw [hy]
  exact trK hg h hl (gl_cons.mpr ⟨trivial, (gl_cons.mp (gl_cons.mp hs).2).2⟩) rfl rfl rfl
theorem tr_fdiv  (B : Bas n' S' R') (hf : RelC n' S' R' QI QJ QD f f') (hg : Rel n' S' R' QI QJ QD μ g g' u) (hb : bk μ = true) (hns : ∀ z, u.1 ≠ .inr (.inr z)) (hl : gl ls) (hs : gl st) (h : acK f g (μ, pc, ls, st, mm I J D) (stA μ pc ls st 337 S0 R0 I J D (.fdiv) len fm tm a b c k) = some u) : Cn n' S' R' QI QJ QD u (acK f' g' (μ, pc, ls.map tv, st.map tv, Tm n' S' R' QI QJ QD I J D) (stA μ pc (ls.map tv) (st.map tv) n' S' R' (ovr I QI) (ovr J QJ) (fun q => bif Nat.ble 1 q && Nat.ble q 316 then D (q - 1) else QD q) (.fdiv) len fm tm a b c k)) := by
  obtain ⟨v, w, r, rfl, h⟩ := ak_f2 h
  obtain ⟨y, rfl, h⟩ := ak_fF h
  obtain ⟨x, rfl, h⟩ := ak_fF h
  obtain ⟨hy, h⟩ := ak_gd h
  show Cn _ _ _ _ _ _ u (acK f' g' _ (gd (ok32 _) _ _ _ _ _))
  rw [hy]
  exact trK hg h hl (gl_cons.mpr ⟨trivial, (gl_cons.mp (gl_cons.mp hs).2).2⟩) rfl rfl rfl
theorem tr_dcmp {op : CmpOp} (B : Bas n' S' R') (hf : RelC n' S' R' QI QJ QD f f') (hg : Rel n' S' R' QI QJ QD μ g g' u) (hb : bk μ = true) (hns : ∀ z, u.1 ≠ .inr (.inr z)) (hl : gl ls) (hs : gl st) (h : acK f g (μ, pc, ls, st, mm I J D) (stA μ pc ls st 337 S0 R0 I J D (.dcmp op) len fm tm a b c k) = some u) : Cn n' S' R' QI QJ QD u (acK f' g' (μ, pc, ls.map tv, st.map tv, Tm n' S' R' QI QJ QD I J D) (stA μ pc (ls.map tv) (st.map tv) n' S' R' (ovr I QI) (ovr J QJ) (fun q => bif Nat.ble 1 q && Nat.ble q 316 then D (q - 1) else QD q) (.dcmp op) len fm tm a b c k)) := by
  obtain ⟨v, w, r, rfl, h⟩ := ak_f2 h
  obtain ⟨y, rfl, h⟩ := ak_fD h
  obtain ⟨x, rfl, h⟩ := ak_fD h
  exact trK hg h hl (gl_cons.mpr ⟨trivial, (gl_cons.mp (gl_cons.mp hs).2).2⟩) rfl rfl rfl
theorem tr_dup  (B : Bas n' S' R') (hf : RelC n' S' R' QI QJ QD f f') (hg : Rel n' S' R' QI QJ QD μ g g' u) (hb : bk μ = true) (hns : ∀ z, u.1 ≠ .inr (.inr z)) (hl : gl ls) (hs : gl st) (h : acK f g (μ, pc, ls, st, mm I J D) (stA μ pc ls st 337 S0 R0 I J D (.dup) len fm tm a b c k) = some u) : Cn n' S' R' QI QJ QD u (acK f' g' (μ, pc, ls.map tv, st.map tv, Tm n' S' R' QI QJ QD I J D) (stA μ pc (ls.map tv) (st.map tv) n' S' R' (ovr I QI) (ovr J QJ) (fun q => bif Nat.ble 1 q && Nat.ble q 316 then D (q - 1) else QD q) (.dup) len fm tm a b c k)) := by
  obtain ⟨v, r, rfl, h⟩ := ak_f1 h
  obtain ⟨hv, h⟩ := ak_ifh h
  show Cn _ _ _ _ _ _ u (acK f' g' _ (bif cat1 (tv v) then _ else _))
  rw [cat1_tv, hv]
  exact trK hg h hl (gl_cons.mpr ⟨(gl_cons.mp hs).1, hs⟩) rfl rfl rfl
theorem tr_dup2  (B : Bas n' S' R') (hf : RelC n' S' R' QI QJ QD f f') (hg : Rel n' S' R' QI QJ QD μ g g' u) (hb : bk μ = true) (hns : ∀ z, u.1 ≠ .inr (.inr z)) (hl : gl ls) (hs : gl st) (h : acK f g (μ, pc, ls, st, mm I J D) (stA μ pc ls st 337 S0 R0 I J D (.dup2) len fm tm a b c k) = some u) : Cn n' S' R' QI QJ QD u (acK f' g' (μ, pc, ls.map tv, st.map tv, Tm n' S' R' QI QJ QD I J D) (stA μ pc (ls.map tv) (st.map tv) n' S' R' (ovr I QI) (ovr J QJ) (fun q => bif Nat.ble 1 q && Nat.ble q 316 then D (q - 1) else QD q) (.dup2) len fm tm a b c k)) := by
  obtain ⟨v, w, r, rfl, h⟩ := ak_f2 h
  obtain ⟨hv, h⟩ := ak_ifh h
  show Cn _ _ _ _ _ _ u (acK f' g' _ (bif cat1 (tv v) && cat1 (tv w) then _ else _))
  rw [cat1_tv, cat1_tv, hv]
  exact trK hg h hl (gl_cons.mpr ⟨(gl_cons.mp hs).1, gl_cons.mpr ⟨(gl_cons.mp (gl_cons.mp hs).2).1, hs⟩⟩) rfl rfl rfl
theorem tr_ifCond {q : ClassFile.Cond} {z : Int} (B : Bas n' S' R') (hf : RelC n' S' R' QI QJ QD f f') (hg : Rel n' S' R' QI QJ QD μ g g' u) (hb : bk μ = true) (hns : ∀ z, u.1 ≠ .inr (.inr z)) (hl : gl ls) (hs : gl st) (h : acK f g (μ, pc, ls, st, mm I J D) (stA μ pc ls st 337 S0 R0 I J D (.ifCond q z) len fm tm a b c k) = some u) : Cn n' S' R' QI QJ QD u (acK f' g' (μ, pc, ls.map tv, st.map tv, Tm n' S' R' QI QJ QD I J D) (stA μ pc (ls.map tv) (st.map tv) n' S' R' (ovr I QI) (ovr J QJ) (fun q => bif Nat.ble 1 q && Nat.ble q 316 then D (q - 1) else QD q) (.ifCond q z) len fm tm a b c k)) := by
  obtain ⟨x, r, rfl, h⟩ := ak_i1 h
  rcases ak_br h with ⟨hx, h⟩ | ⟨hx, h⟩
  · show Cn _ _ _ _ _ _ u (acK f' g' _ (br (icc _ _ _) _ _ _ _ _ _ _))
    rw [hx]
    exact trK hg h hl (gl_cons.mp hs).2 rfl rfl rfl
  · show Cn _ _ _ _ _ _ u (acK f' g' _ (br (icc _ _ _) _ _ _ _ _ _ _))
    rw [hx]
    exact trK hg h hl (gl_cons.mp hs).2 rfl rfl rfl
theorem tr_if_icmp {q : ClassFile.Cond} {z : Int} (B : Bas n' S' R') (hf : RelC n' S' R' QI QJ QD f f') (hg : Rel n' S' R' QI QJ QD μ g g' u) (hb : bk μ = true) (hns : ∀ z, u.1 ≠ .inr (.inr z)) (hl : gl ls) (hs : gl st) (h : acK f g (μ, pc, ls, st, mm I J D) (stA μ pc ls st 337 S0 R0 I J D (.if_icmp q z) len fm tm a b c k) = some u) : Cn n' S' R' QI QJ QD u (acK f' g' (μ, pc, ls.map tv, st.map tv, Tm n' S' R' QI QJ QD I J D) (stA μ pc (ls.map tv) (st.map tv) n' S' R' (ovr I QI) (ovr J QJ) (fun q => bif Nat.ble 1 q && Nat.ble q 316 then D (q - 1) else QD q) (.if_icmp q z) len fm tm a b c k)) := by
  obtain ⟨x, y, r, rfl, h⟩ := ak_i2 h
  rcases ak_br h with ⟨hx, h⟩ | ⟨hx, h⟩
  · show Cn _ _ _ _ _ _ u (acK f' g' _ (br (icc _ _ _) _ _ _ _ _ _ _))
    rw [hx]
    exact trK hg h hl (gl_cons.mp (gl_cons.mp hs).2).2 rfl rfl rfl
  · show Cn _ _ _ _ _ _ u (acK f' g' _ (br (icc _ _ _) _ _ _ _ _ _ _))
    rw [hx]
    exact trK hg h hl (gl_cons.mp (gl_cons.mp hs).2).2 rfl rfl rfl
theorem tr_ifnull {z : Int} (B : Bas n' S' R') (hf : RelC n' S' R' QI QJ QD f f') (hg : Rel n' S' R' QI QJ QD μ g g' u) (hb : bk μ = true) (hns : ∀ z, u.1 ≠ .inr (.inr z)) (hl : gl ls) (hs : gl st) (h : acK f g (μ, pc, ls, st, mm I J D) (stA μ pc ls st 337 S0 R0 I J D (.ifnull z) len fm tm a b c k) = some u) : Cn n' S' R' QI QJ QD u (acK f' g' (μ, pc, ls.map tv, st.map tv, Tm n' S' R' QI QJ QD I J D) (stA μ pc (ls.map tv) (st.map tv) n' S' R' (ovr I QI) (ovr J QJ) (fun q => bif Nat.ble 1 q && Nat.ble q 316 then D (q - 1) else QD q) (.ifnull z) len fm tm a b c k)) := by
  obtain ⟨v, r, rfl, h⟩ := ak_f1 h
  obtain ⟨x, rfl, h⟩ := ak_fR h
  exact trK hg h hl (gl_cons.mp hs).2 rfl rfl rfl
theorem tr_goto {z : Int} (B : Bas n' S' R') (hf : RelC n' S' R' QI QJ QD f f') (hg : Rel n' S' R' QI QJ QD μ g g' u) (hb : bk μ = true) (hns : ∀ z, u.1 ≠ .inr (.inr z)) (hl : gl ls) (hs : gl st) (h : acK f g (μ, pc, ls, st, mm I J D) (stA μ pc ls st 337 S0 R0 I J D (.goto z) len fm tm a b c k) = some u) : Cn n' S' R' QI QJ QD u (acK f' g' (μ, pc, ls.map tv, st.map tv, Tm n' S' R' QI QJ QD I J D) (stA μ pc (ls.map tv) (st.map tv) n' S' R' (ovr I QI) (ovr J QJ) (fun q => bif Nat.ble 1 q && Nat.ble q 316 then D (q - 1) else QD q) (.goto z) len fm tm a b c k)) := by
  exact trK hg h hl hs rfl rfl rfl
theorem tr_tableswitch {d lo hi : Int} {offs : Array Int} (B : Bas n' S' R') (hf : RelC n' S' R' QI QJ QD f f') (hg : Rel n' S' R' QI QJ QD μ g g' u) (hb : bk μ = true) (hns : ∀ z, u.1 ≠ .inr (.inr z)) (hl : gl ls) (hs : gl st) (h : acK f g (μ, pc, ls, st, mm I J D) (stA μ pc ls st 337 S0 R0 I J D (.tableswitch d lo hi offs) len fm tm a b c k) = some u) : Cn n' S' R' QI QJ QD u (acK f' g' (μ, pc, ls.map tv, st.map tv, Tm n' S' R' QI QJ QD I J D) (stA μ pc (ls.map tv) (st.map tv) n' S' R' (ovr I QI) (ovr J QJ) (fun q => bif Nat.ble 1 q && Nat.ble q 316 then D (q - 1) else QD q) (.tableswitch d lo hi offs) len fm tm a b c k)) := by
  obtain ⟨x, r, rfl, h⟩ := ak_i1 h
  obtain ⟨hy, h⟩ := ak_gd h
  show Cn _ _ _ _ _ _ u (acK f' g' _ (gd (swg _ _ _ _ _ _) _ _ _ _ _))
  rw [hy]
  exact trK hg h hl (gl_cons.mp hs).2 rfl rfl rfl
theorem tr_iaload  (B : Bas n' S' R') (hf : RelC n' S' R' QI QJ QD f f') (hg : Rel n' S' R' QI QJ QD μ g g' u) (hb : bk μ = true) (hns : ∀ z, u.1 ≠ .inr (.inr z)) (hl : gl ls) (hs : gl st) (h : acK f g (μ, pc, ls, st, mm I J D) (stA μ pc ls st 337 S0 R0 I J D (.iaload) len fm tm a b c k) = some u) : Cn n' S' R' QI QJ QD u (acK f' g' (μ, pc, ls.map tv, st.map tv, Tm n' S' R' QI QJ QD I J D) (stA μ pc (ls.map tv) (st.map tv) n' S' R' (ovr I QI) (ovr J QJ) (fun q => bif Nat.ble 1 q && Nat.ble q 316 then D (q - 1) else QD q) (.iaload) len fm tm a b c k)) := by
  obtain ⟨v, w, r, rfl, h⟩ := ak_f2 h
  obtain ⟨j, rfl, h⟩ := ak_fI h
  obtain ⟨p, rfl, h⟩ := ak_fR h
  have hp : gp p := (gl_cons.mp (gl_cons.mp hs).2).1
  have hr : gl r := (gl_cons.mp (gl_cons.mp hs).2).2
  rcases ak_if h with ⟨hk, h⟩ | ⟨hk, h⟩
  · have hp9 := gp_lt hp (Nat.eq_of_beq_eq_true hk) (by decide) (by decide) (by decide)
    obtain ⟨hq, h⟩ := ak_gd h
    rw [Bool.and_eq_true] at hq
    show Cn _ _ _ _ _ _ u (acK f' g' _ (bif Nat.beq (S' (tq p)).1 20 then gd (Nat.blt (tq p) n' && inb j (S' (tq p)).2) _ _ _ _ _ else _))
    rw [B.S hp, hk, B.n hp9, hq.2]
    exact trK hg h hl (gl_cons.mpr ⟨trivial, hr⟩) rfl (by show Value.int _ :: _ = Value.int _ :: _; rw [ovr_in hp9]) rfl
  · rcases ak_if h with ⟨hk2, h⟩ | ⟨hk2, h⟩
    · have hp9 := gp_ge hp (Nat.eq_of_beq_eq_true hk2) (by decide)
      obtain ⟨hq, h⟩ := ak_gd h
      show Cn _ _ _ _ _ _ u (acK f' g' _ (bif Nat.beq (S' (tq p)).1 20 then _ else bif Nat.beq (S' (tq p)).1 40 then gd (inb j (S' (tq p)).2) _ _ _ _ _ else _))
      rw [B.S hp, hk, hk2, hq]
      exact trK hg h hl (gl_cons.mpr ⟨trivial, hr⟩) rfl (by show Value.int _ :: _ = Value.int _ :: _; rw [tq_ge hp9]) rfl
    · obtain ⟨hk3, h⟩ := ak_ifh h
      exfalso
      have e := Nat.eq_of_beq_eq_true hk3
      exact gp_ge hp e (by decide) (gp_lt hp e (by decide) (by decide) (by decide))
theorem tr_baload  (B : Bas n' S' R') (hf : RelC n' S' R' QI QJ QD f f') (hg : Rel n' S' R' QI QJ QD μ g g' u) (hb : bk μ = true) (hns : ∀ z, u.1 ≠ .inr (.inr z)) (hl : gl ls) (hs : gl st) (h : acK f g (μ, pc, ls, st, mm I J D) (stA μ pc ls st 337 S0 R0 I J D (.baload) len fm tm a b c k) = some u) : Cn n' S' R' QI QJ QD u (acK f' g' (μ, pc, ls.map tv, st.map tv, Tm n' S' R' QI QJ QD I J D) (stA μ pc (ls.map tv) (st.map tv) n' S' R' (ovr I QI) (ovr J QJ) (fun q => bif Nat.ble 1 q && Nat.ble q 316 then D (q - 1) else QD q) (.baload) len fm tm a b c k)) := by
  obtain ⟨v, w, r, rfl, h⟩ := ak_f2 h
  obtain ⟨j, rfl, h⟩ := ak_fI h
  obtain ⟨p, rfl, h⟩ := ak_fR h
  have hp : gp p := (gl_cons.mp (gl_cons.mp hs).2).1
  have hr : gl r := (gl_cons.mp (gl_cons.mp hs).2).2
  rcases ak_if h with ⟨hk, h⟩ | ⟨hk, h⟩
  · have hp9 := gp_lt hp (Nat.eq_of_beq_eq_true hk) (by decide) (by decide) (by decide)
    obtain ⟨hq, h⟩ := ak_gd h
    rw [Bool.and_eq_true] at hq
    show Cn _ _ _ _ _ _ u (acK f' g' _ (bif Nat.beq (S' (tq p)).1 21 then gd (Nat.blt (tq p) n' && inb j (S' (tq p)).2) _ _ _ _ _ else _))
    rw [B.S hp, hk, B.n hp9, hq.2]
    exact trK hg h hl (gl_cons.mpr ⟨trivial, hr⟩) rfl (by show Value.int _ :: _ = Value.int _ :: _; rw [ovr_in hp9]) rfl
  · rcases ak_if h with ⟨hk2, h⟩ | ⟨hk2, h⟩
    · have hp9 := gp_ge hp (Nat.eq_of_beq_eq_true hk2) (by decide)
      obtain ⟨hq, h⟩ := ak_gd h
      show Cn _ _ _ _ _ _ u (acK f' g' _ (bif Nat.beq (S' (tq p)).1 21 then _ else bif Nat.beq (S' (tq p)).1 44 then gd (inb j (S' (tq p)).2) _ _ _ _ _ else _))
      rw [B.S hp, hk, hk2, hq]
      exact trK hg h hl (gl_cons.mpr ⟨trivial, hr⟩) rfl (by show Value.int _ :: _ = Value.int _ :: _; rw [tq_ge hp9]) rfl
    · obtain ⟨hk3, h⟩ := ak_ifh h
      exfalso
      have e := Nat.eq_of_beq_eq_true hk3
      exact gp_ge hp e (by decide) (gp_lt hp e (by decide) (by decide) (by decide))
theorem tr_caload  (B : Bas n' S' R') (hf : RelC n' S' R' QI QJ QD f f') (hg : Rel n' S' R' QI QJ QD μ g g' u) (hb : bk μ = true) (hns : ∀ z, u.1 ≠ .inr (.inr z)) (hl : gl ls) (hs : gl st) (h : acK f g (μ, pc, ls, st, mm I J D) (stA μ pc ls st 337 S0 R0 I J D (.caload) len fm tm a b c k) = some u) : Cn n' S' R' QI QJ QD u (acK f' g' (μ, pc, ls.map tv, st.map tv, Tm n' S' R' QI QJ QD I J D) (stA μ pc (ls.map tv) (st.map tv) n' S' R' (ovr I QI) (ovr J QJ) (fun q => bif Nat.ble 1 q && Nat.ble q 316 then D (q - 1) else QD q) (.caload) len fm tm a b c k)) := by
  obtain ⟨v, w, r, rfl, h⟩ := ak_f2 h
  obtain ⟨j, rfl, h⟩ := ak_fI h
  obtain ⟨p, rfl, h⟩ := ak_fR h
  have hp : gp p := (gl_cons.mp (gl_cons.mp hs).2).1
  have hr : gl r := (gl_cons.mp (gl_cons.mp hs).2).2
  obtain ⟨hk, h⟩ := ak_ifh h
  have hp9 := gp_lt hp (Nat.eq_of_beq_eq_true hk) (by decide) (by decide) (by decide)
  obtain ⟨hq, h⟩ := ak_gd h
  rw [Bool.and_eq_true] at hq
  show Cn _ _ _ _ _ _ u (acK f' g' _ (bif Nat.beq (S' (tq p)).1 22 then gd (Nat.blt (tq p) n' && inb j (S' (tq p)).2) _ _ _ _ _ else _))
  rw [B.S hp, hk, B.n hp9, hq.2]
  exact trK hg h hl (gl_cons.mpr ⟨trivial, hr⟩) rfl (by show Value.int _ :: _ = Value.int _ :: _; rw [ovr_in hp9]) rfl
theorem tr_laload  (B : Bas n' S' R') (hf : RelC n' S' R' QI QJ QD f f') (hg : Rel n' S' R' QI QJ QD μ g g' u) (hb : bk μ = true) (hns : ∀ z, u.1 ≠ .inr (.inr z)) (hl : gl ls) (hs : gl st) (h : acK f g (μ, pc, ls, st, mm I J D) (stA μ pc ls st 337 S0 R0 I J D (.laload) len fm tm a b c k) = some u) : Cn n' S' R' QI QJ QD u (acK f' g' (μ, pc, ls.map tv, st.map tv, Tm n' S' R' QI QJ QD I J D) (stA μ pc (ls.map tv) (st.map tv) n' S' R' (ovr I QI) (ovr J QJ) (fun q => bif Nat.ble 1 q && Nat.ble q 316 then D (q - 1) else QD q) (.laload) len fm tm a b c k)) := by
  obtain ⟨v, w, r, rfl, h⟩ := ak_f2 h
  obtain ⟨j, rfl, h⟩ := ak_fI h
  obtain ⟨p, rfl, h⟩ := ak_fR h
  have hp : gp p := (gl_cons.mp (gl_cons.mp hs).2).1
  have hr : gl r := (gl_cons.mp (gl_cons.mp hs).2).2
  obtain ⟨hk, h⟩ := ak_ifh h
  have hp9 := gp_lt hp (Nat.eq_of_beq_eq_true hk) (by decide) (by decide) (by decide)
  obtain ⟨hq, h⟩ := ak_gd h
  rw [Bool.and_eq_true] at hq
  show Cn _ _ _ _ _ _ u (acK f' g' _ (bif Nat.beq (S' (tq p)).1 23 then gd (Nat.blt (tq p) n' && inb j (S' (tq p)).2) _ _ _ _ _ else _))
  rw [B.S hp, hk, B.n hp9, hq.2]
  exact trK hg h hl (gl_cons.mpr ⟨trivial, hr⟩) rfl (by show Value.long _ :: _ = Value.long _ :: _; rw [ovr_in hp9]) rfl
theorem tr_daload  (B : Bas n' S' R') (hf : RelC n' S' R' QI QJ QD f f') (hg : Rel n' S' R' QI QJ QD μ g g' u) (hb : bk μ = true) (hns : ∀ z, u.1 ≠ .inr (.inr z)) (hl : gl ls) (hs : gl st) (h : acK f g (μ, pc, ls, st, mm I J D) (stA μ pc ls st 337 S0 R0 I J D (.daload) len fm tm a b c k) = some u) : Cn n' S' R' QI QJ QD u (acK f' g' (μ, pc, ls.map tv, st.map tv, Tm n' S' R' QI QJ QD I J D) (stA μ pc (ls.map tv) (st.map tv) n' S' R' (ovr I QI) (ovr J QJ) (fun q => bif Nat.ble 1 q && Nat.ble q 316 then D (q - 1) else QD q) (.daload) len fm tm a b c k)) := by
  obtain ⟨v, w, r, rfl, h⟩ := ak_f2 h
  obtain ⟨j, rfl, h⟩ := ak_fI h
  obtain ⟨p, rfl, h⟩ := ak_fR h
  have hp : gp p := (gl_cons.mp (gl_cons.mp hs).2).1
  have hr : gl r := (gl_cons.mp (gl_cons.mp hs).2).2
  obtain ⟨hk, h⟩ := ak_ifh h
  have hp9 := gp_lt hp (Nat.eq_of_beq_eq_true hk) (by decide) (by decide) (by decide)
  obtain ⟨hq, h⟩ := ak_gd h
  rw [Bool.and_eq_true] at hq
  show Cn _ _ _ _ _ _ u (acK f' g' _ (bif Nat.beq (S' (tq p)).1 24 then gd (Nat.blt (tq p) n' && inb j (S' (tq p)).2) _ _ _ _ _ else _))
  rw [B.S hp, hk, B.n hp9, hq.2]
  exact trK hg h hl (gl_cons.mpr ⟨trivial, hr⟩) rfl (by show Value.double ((bif Nat.ble 1 (tq p) && Nat.ble (tq p) 316 then D (tq p - 1) else QD (tq p)) _) :: _ = Value.double _ :: _; rw [show (bif Nat.ble 1 (tq p) && Nat.ble (tq p) 316 then D (tq p - 1) else QD (tq p)) = D p from ovr_in (I := D) (Q := QD) hp9]) rfl
theorem tr_aaload  (B : Bas n' S' R') (hf : RelC n' S' R' QI QJ QD f f') (hg : Rel n' S' R' QI QJ QD μ g g' u) (hb : bk μ = true) (hns : ∀ z, u.1 ≠ .inr (.inr z)) (hl : gl ls) (hs : gl st) (h : acK f g (μ, pc, ls, st, mm I J D) (stA μ pc ls st 337 S0 R0 I J D (.aaload) len fm tm a b c k) = some u) : Cn n' S' R' QI QJ QD u (acK f' g' (μ, pc, ls.map tv, st.map tv, Tm n' S' R' QI QJ QD I J D) (stA μ pc (ls.map tv) (st.map tv) n' S' R' (ovr I QI) (ovr J QJ) (fun q => bif Nat.ble 1 q && Nat.ble q 316 then D (q - 1) else QD q) (.aaload) len fm tm a b c k)) := by
  obtain ⟨v, w, r, rfl, h⟩ := ak_f2 h
  obtain ⟨j, rfl, h⟩ := ak_fI h
  obtain ⟨p, rfl, h⟩ := ak_fR h
  have hp : gp p := (gl_cons.mp (gl_cons.mp hs).2).1
  have hr : gl r := (gl_cons.mp (gl_cons.mp hs).2).2
  obtain ⟨hk, h⟩ := ak_ifh h
  obtain ⟨hq, h⟩ := ak_gd h
  rw [Bool.and_eq_true] at hq
  have hk' := hk
  simp only [Bool.or_eq_true] at hk'
  have hp9 : p < 316 := by
    rcases hk' with (q | q | q) | q | q <;> exact gp_lt hp (Nat.eq_of_beq_eq_true q) (by decide) (by decide) (by decide)
  have hj : j.toNatClampNeg < 20 := by
    have h1 := List.all_eq_true.mp s0_row p (List.mem_range.mpr hp9)
    have h2 : Nat.ble 25 (S0 p).1 = true := by
      rcases hk' with (q | q | q) | q | q <;> rw [Nat.eq_of_beq_eq_true q] <;> rfl
    rw [h2, Bool.not_true, Bool.false_or, Nat.blt_eq] at h1
    have h3 := inb_lt hq.2
    omega
  show Cn _ _ _ _ _ _ u (acK f' g' _ (bif (Nat.beq (S' (tq p)).1 25 || (Nat.beq (S' (tq p)).1 26 || Nat.beq (S' (tq p)).1 27)) || (Nat.beq (S' (tq p)).1 28 || Nat.beq (S' (tq p)).1 30) then gd (Nat.blt (tq p) n' && inb j (S' (tq p)).2) _ _ _ (orf (R' (tq p) j.toNatClampNeg) :: _) _ else _))
  rw [B.S hp, hk, B.n hp9, hq.2, (B.R hp9 hj).1]
  exact trK hg h hl (gl_cons.mpr ⟨(B.R hp9 hj).2, hr⟩) rfl rfl rfl
theorem tr_iastore  (B : Bas n' S' R') (hf : RelC n' S' R' QI QJ QD f f') (hg : Rel n' S' R' QI QJ QD μ g g' u) (hb : bk μ = true) (hns : ∀ z, u.1 ≠ .inr (.inr z)) (hl : gl ls) (hs : gl st) (h : acK f g (μ, pc, ls, st, mm I J D) (stA μ pc ls st 337 S0 R0 I J D (.iastore) len fm tm a b c k) = some u) : Cn n' S' R' QI QJ QD u (acK f' g' (μ, pc, ls.map tv, st.map tv, Tm n' S' R' QI QJ QD I J D) (stA μ pc (ls.map tv) (st.map tv) n' S' R' (ovr I QI) (ovr J QJ) (fun q => bif Nat.ble 1 q && Nat.ble q 316 then D (q - 1) else QD q) (.iastore) len fm tm a b c k)) := by
  obtain ⟨v0, v, w, r, rfl, h⟩ := ak_f3 h
  obtain ⟨x, rfl, h⟩ := ak_fI h
  obtain ⟨j, rfl, h⟩ := ak_fI h
  obtain ⟨p, rfl, h⟩ := ak_fR h
  have hp : gp p := (gl_cons.mp (gl_cons.mp (gl_cons.mp hs).2).2).1
  have hr : gl r := (gl_cons.mp (gl_cons.mp (gl_cons.mp hs).2).2).2
  obtain ⟨hk, h⟩ := ak_ifh h
  have hp9 := gp_lt hp (Nat.eq_of_beq_eq_true hk) (by decide) (by decide) (by decide)
  obtain ⟨hq, h⟩ := ak_gd h
  rw [Bool.and_eq_true] at hq
  show Cn _ _ _ _ _ _ u (acK f' g' _ (bif Nat.beq (S' (tq p)).1 20 then gd (Nat.blt (tq p) n' && inb j (S' (tq p)).2) _ _ _ _ _ else _))
  rw [B.S hp, hk, B.n hp9, hq.2]
  exact trK hg h hl hr rfl rfl (Tm_I hp9)
theorem tr_castore  (B : Bas n' S' R') (hf : RelC n' S' R' QI QJ QD f f') (hg : Rel n' S' R' QI QJ QD μ g g' u) (hb : bk μ = true) (hns : ∀ z, u.1 ≠ .inr (.inr z)) (hl : gl ls) (hs : gl st) (h : acK f g (μ, pc, ls, st, mm I J D) (stA μ pc ls st 337 S0 R0 I J D (.castore) len fm tm a b c k) = some u) : Cn n' S' R' QI QJ QD u (acK f' g' (μ, pc, ls.map tv, st.map tv, Tm n' S' R' QI QJ QD I J D) (stA μ pc (ls.map tv) (st.map tv) n' S' R' (ovr I QI) (ovr J QJ) (fun q => bif Nat.ble 1 q && Nat.ble q 316 then D (q - 1) else QD q) (.castore) len fm tm a b c k)) := by
  obtain ⟨v0, v, w, r, rfl, h⟩ := ak_f3 h
  obtain ⟨x, rfl, h⟩ := ak_fI h
  obtain ⟨j, rfl, h⟩ := ak_fI h
  obtain ⟨p, rfl, h⟩ := ak_fR h
  have hp : gp p := (gl_cons.mp (gl_cons.mp (gl_cons.mp hs).2).2).1
  have hr : gl r := (gl_cons.mp (gl_cons.mp (gl_cons.mp hs).2).2).2
  obtain ⟨hk, h⟩ := ak_ifh h
  have hp9 := gp_lt hp (Nat.eq_of_beq_eq_true hk) (by decide) (by decide) (by decide)
  obtain ⟨hq, h⟩ := ak_gd h
  rw [Bool.and_eq_true] at hq
  show Cn _ _ _ _ _ _ u (acK f' g' _ (bif Nat.beq (S' (tq p)).1 22 then gd (Nat.blt (tq p) n' && inb j (S' (tq p)).2) _ _ _ _ _ else _))
  rw [B.S hp, hk, B.n hp9, hq.2]
  exact trK hg h hl hr rfl rfl (Tm_I hp9)
theorem tr_lastore  (B : Bas n' S' R') (hf : RelC n' S' R' QI QJ QD f f') (hg : Rel n' S' R' QI QJ QD μ g g' u) (hb : bk μ = true) (hns : ∀ z, u.1 ≠ .inr (.inr z)) (hl : gl ls) (hs : gl st) (h : acK f g (μ, pc, ls, st, mm I J D) (stA μ pc ls st 337 S0 R0 I J D (.lastore) len fm tm a b c k) = some u) : Cn n' S' R' QI QJ QD u (acK f' g' (μ, pc, ls.map tv, st.map tv, Tm n' S' R' QI QJ QD I J D) (stA μ pc (ls.map tv) (st.map tv) n' S' R' (ovr I QI) (ovr J QJ) (fun q => bif Nat.ble 1 q && Nat.ble q 316 then D (q - 1) else QD q) (.lastore) len fm tm a b c k)) := by
  obtain ⟨v0, v, w, r, rfl, h⟩ := ak_f3 h
  obtain ⟨x, rfl, h⟩ := ak_fL h
  obtain ⟨j, rfl, h⟩ := ak_fI h
  obtain ⟨p, rfl, h⟩ := ak_fR h
  have hp : gp p := (gl_cons.mp (gl_cons.mp (gl_cons.mp hs).2).2).1
  have hr : gl r := (gl_cons.mp (gl_cons.mp (gl_cons.mp hs).2).2).2
  obtain ⟨hk, h⟩ := ak_ifh h
  have hp9 := gp_lt hp (Nat.eq_of_beq_eq_true hk) (by decide) (by decide) (by decide)
  obtain ⟨hq, h⟩ := ak_gd h
  rw [Bool.and_eq_true] at hq
  show Cn _ _ _ _ _ _ u (acK f' g' _ (bif Nat.beq (S' (tq p)).1 23 then gd (Nat.blt (tq p) n' && inb j (S' (tq p)).2) _ _ _ _ _ else _))
  rw [B.S hp, hk, B.n hp9, hq.2]
  exact trK hg h hl hr rfl rfl (Tm_J hp9)
theorem tr_dastore  (B : Bas n' S' R') (hf : RelC n' S' R' QI QJ QD f f') (hg : Rel n' S' R' QI QJ QD μ g g' u) (hb : bk μ = true) (hns : ∀ z, u.1 ≠ .inr (.inr z)) (hl : gl ls) (hs : gl st) (h : acK f g (μ, pc, ls, st, mm I J D) (stA μ pc ls st 337 S0 R0 I J D (.dastore) len fm tm a b c k) = some u) : Cn n' S' R' QI QJ QD u (acK f' g' (μ, pc, ls.map tv, st.map tv, Tm n' S' R' QI QJ QD I J D) (stA μ pc (ls.map tv) (st.map tv) n' S' R' (ovr I QI) (ovr J QJ) (fun q => bif Nat.ble 1 q && Nat.ble q 316 then D (q - 1) else QD q) (.dastore) len fm tm a b c k)) := by
  obtain ⟨v0, v, w, r, rfl, h⟩ := ak_f3 h
  obtain ⟨x, rfl, h⟩ := ak_fD h
  obtain ⟨j, rfl, h⟩ := ak_fI h
  obtain ⟨p, rfl, h⟩ := ak_fR h
  have hp : gp p := (gl_cons.mp (gl_cons.mp (gl_cons.mp hs).2).2).1
  have hr : gl r := (gl_cons.mp (gl_cons.mp (gl_cons.mp hs).2).2).2
  obtain ⟨hk, h⟩ := ak_ifh h
  have hp9 := gp_lt hp (Nat.eq_of_beq_eq_true hk) (by decide) (by decide) (by decide)
  obtain ⟨hq, h⟩ := ak_gd h
  rw [Bool.and_eq_true] at hq
  show Cn _ _ _ _ _ _ u (acK f' g' _ (bif Nat.beq (S' (tq p)).1 24 then gd (Nat.blt (tq p) n' && inb j (S' (tq p)).2) _ _ _ _ (n', S', R', ovr I QI, ovr J QJ, upR _ (tq p) (va_up (bif Nat.ble 1 (tq p) && Nat.ble (tq p) 316 then D (tq p - 1) else QD (tq p)) _ _)) else _))
  rw [B.S hp, hk, B.n hp9, hq.2, show (bif Nat.ble 1 (tq p) && Nat.ble (tq p) 316 then D (tq p - 1) else QD (tq p)) = D p from ovr_in (I := D) (Q := QD) hp9]
  exact trK hg h hl hr rfl rfl (Tm_D hp9)
theorem tr_bastore  (B : Bas n' S' R') (hf : RelC n' S' R' QI QJ QD f f') (hg : Rel n' S' R' QI QJ QD μ g g' u) (hb : bk μ = true) (hns : ∀ z, u.1 ≠ .inr (.inr z)) (hl : gl ls) (hs : gl st) (h : acK f g (μ, pc, ls, st, mm I J D) (stA μ pc ls st 337 S0 R0 I J D (.bastore) len fm tm a b c k) = some u) : Cn n' S' R' QI QJ QD u (acK f' g' (μ, pc, ls.map tv, st.map tv, Tm n' S' R' QI QJ QD I J D) (stA μ pc (ls.map tv) (st.map tv) n' S' R' (ovr I QI) (ovr J QJ) (fun q => bif Nat.ble 1 q && Nat.ble q 316 then D (q - 1) else QD q) (.bastore) len fm tm a b c k)) := by
  obtain ⟨v0, v, w, r, rfl, h⟩ := ak_f3 h
  obtain ⟨x, rfl, h⟩ := ak_fI h
  obtain ⟨j, rfl, h⟩ := ak_fI h
  obtain ⟨p, rfl, h⟩ := ak_fR h
  have hp : gp p := (gl_cons.mp (gl_cons.mp (gl_cons.mp hs).2).2).1
  have hr : gl r := (gl_cons.mp (gl_cons.mp (gl_cons.mp hs).2).2).2
  obtain ⟨hk, h⟩ := ak_ifh h
  have hp9 := gp_lt hp (Nat.eq_of_beq_eq_true hk) (by decide) (by decide) (by decide)
  obtain ⟨hq, h⟩ := ak_gd h
  rw [Bool.and_eq_true] at hq
  show Cn _ _ _ _ _ _ u (acK f' g' _ (bif Nat.beq (S' (tq p)).1 21 then gd (Nat.blt (tq p) n' && inb j (S' (tq p)).2) _ _ _ _ _ else _))
  rw [B.S hp, hk, B.n hp9, hq.2]
  exact trK hg h hl hr rfl rfl (Tm_I hp9)
theorem tr_arraylength  (B : Bas n' S' R') (hf : RelC n' S' R' QI QJ QD f f') (hg : Rel n' S' R' QI QJ QD μ g g' u) (hb : bk μ = true) (hns : ∀ z, u.1 ≠ .inr (.inr z)) (hl : gl ls) (hs : gl st) (h : acK f g (μ, pc, ls, st, mm I J D) (stA μ pc ls st 337 S0 R0 I J D (.arraylength) len fm tm a b c k) = some u) : Cn n' S' R' QI QJ QD u (acK f' g' (μ, pc, ls.map tv, st.map tv, Tm n' S' R' QI QJ QD I J D) (stA μ pc (ls.map tv) (st.map tv) n' S' R' (ovr I QI) (ovr J QJ) (fun q => bif Nat.ble 1 q && Nat.ble q 316 then D (q - 1) else QD q) (.arraylength) len fm tm a b c k)) := by
  obtain ⟨v, r, rfl, h⟩ := ak_f1 h
  obtain ⟨p, rfl, h⟩ := ak_fR h
  have hp : gp p := (gl_cons.mp hs).1
  rcases ak_if h with ⟨hk, h⟩ | ⟨hk, h⟩
  · have hp9 : p < 316 := by
      by_cases q : p < 316
      · exact q
      · exfalso
        rw [Bool.and_eq_true, Nat.ble_eq, Nat.ble_eq] at hk
        rcases (gp_sp hp q).2 with e | ⟨e, -⟩ | e <;> omega
    obtain ⟨hq, h⟩ := ak_gd h
    show Cn _ _ _ _ _ _ u (acK f' g' _ (bif Nat.ble 20 (S' (tq p)).1 && Nat.ble (S' (tq p)).1 30 then gd (Nat.blt (tq p) n') _ _ _ (.int (Int32.ofNat (S' (tq p)).2) :: _) _ else _))
    rw [B.S hp, hk, B.n hp9]
    exact trK hg h hl (gl_cons.mpr ⟨trivial, (gl_cons.mp hs).2⟩) rfl rfl rfl
  · rcases ak_if h with ⟨hk2, h⟩ | ⟨hk2, h⟩
    · show Cn _ _ _ _ _ _ u (acK f' g' _ (bif Nat.ble 20 (S' (tq p)).1 && Nat.ble (S' (tq p)).1 30 then _ else bif Nat.beq (S' (tq p)).1 40 || Nat.beq (S' (tq p)).1 44 then go _ _ _ (.int (Int32.ofNat (S' (tq p)).2) :: _) _ else _))
      rw [B.S hp, hk, hk2]
      exact trK hg h hl (gl_cons.mpr ⟨trivial, (gl_cons.mp hs).2⟩) rfl rfl rfl
    · obtain ⟨hk3, h⟩ := ak_ifh h
      exfalso
      have e := Nat.eq_of_beq_eq_true hk3
      exact gp_ge hp e (by decide) (gp_lt hp e (by decide) (by decide) (by decide))
theorem tr_getfield {q : Nat} (B : Bas n' S' R') (hf : RelC n' S' R' QI QJ QD f f') (hg : Rel n' S' R' QI QJ QD μ g g' u) (hb : bk μ = true) (hns : ∀ z, u.1 ≠ .inr (.inr z)) (hl : gl ls) (hs : gl st) (hc : (Nat.blt b 20) = true) (h : acK f g (μ, pc, ls, st, mm I J D) (stA μ pc ls st 337 S0 R0 I J D (.getfield q) len fm tm a b c k) = some u) : Cn n' S' R' QI QJ QD u (acK f' g' (μ, pc, ls.map tv, st.map tv, Tm n' S' R' QI QJ QD I J D) (stA μ pc (ls.map tv) (st.map tv) n' S' R' (ovr I QI) (ovr J QJ) (fun q => bif Nat.ble 1 q && Nat.ble q 316 then D (q - 1) else QD q) (.getfield q) len fm tm a b c k)) := by
  obtain ⟨v, r, rfl, h⟩ := ak_f1 h
  obtain ⟨p, rfl, h⟩ := ak_fR h
  have hp : gp p := (gl_cons.mp hs).1
  have hr : gl r := (gl_cons.mp hs).2
  rcases ak_if h with ⟨ha, h⟩ | ⟨ha, h⟩
  · rcases ak_if h with ⟨hk, h⟩ | ⟨hk, h⟩
    · have e := Nat.eq_of_beq_eq_true hk
      have hp9 := gp_ge hp e (by decide)
      show Cn _ _ _ _ _ _ u (acK f' g' _ (bif Nat.beq a 43 then (bif Nat.beq (S' (tq p)).1 43 then _ else _) else _))
      rw [B.S hp, ha, hk]
      have h : g (μ, pc + len, mk fm ls, (bif Nat.beq c 0 then .int 0 else .ref (p + 10)) :: r, mm I J D) = some u := h
      show Cn _ _ _ _ _ _ u (g' (μ, pc + len, mk fm (ls.map tv), (bif Nat.beq c 0 then .int 0 else .ref (tq p + 10)) :: r.map tv, _))
      cases hz : Nat.beq c 0 with
      | true =>
        rw [hz] at h
        exact trK hg h hl (gl_cons.mpr ⟨trivial, hr⟩) rfl rfl rfl
      | false =>
        rw [hz] at h
        rcases (gp_sp hp hp9).2 with e2 | ⟨-, e2, e3⟩ | e2
        · omega
        · refine trK hg h hl (gl_cons.mpr ⟨e2, hr⟩) rfl ?_ rfl
          show Value.ref _ :: _ = Value.ref _ :: _
          rw [tq_ge hp9, tq_ge e3]
        · omega
    · obtain ⟨hk3, h⟩ := ak_ifh h
      exfalso
      have e := Nat.eq_of_beq_eq_true hk3
      exact gp_ge hp e (by decide) (gp_lt hp e (by decide) (by decide) (by decide))
  · obtain ⟨hk, h⟩ := ak_ifh h
    obtain ⟨hq, h⟩ := ak_gd h
    have hp9 : p < 316 := by
      by_cases q : p < 316
      · exact q
      · exfalso
        have := (gp_sp hp q).1
        have := Nat.blt_eq.mp hq
        omega
    have hc := Nat.blt_eq.mp hc
    show Cn _ _ _ _ _ _ u (acK f' g' _ (bif Nat.beq a 43 then _ else bif Nat.beq (S' (tq p)).1 a then gd (Nat.blt (tq p) n') _ _ _ ((bif Nat.beq c 1 then orf (R' (tq p) b) else bif Nat.beq c 2 then .long (ovr J QJ (tq p) b) else .int (ovr I QI (tq p) b)) :: _) _ else _))
    rw [B.S hp, ha, hk, B.n hp9, (B.R hp9 hc).1, ovr_in hp9, ovr_in hp9]
    have h : g (μ, pc + len, mk fm ls, (bif Nat.beq c 1 then orf (R0 p b) else bif Nat.beq c 2 then .long (J p b) else .int (I p b)) :: r, mm I J D) = some u := h
    show Cn _ _ _ _ _ _ u (g' (μ, pc + len, mk fm (ls.map tv), (bif Nat.beq c 1 then tv (orf (R0 p b)) else bif Nat.beq c 2 then .long (J p b) else .int (I p b)) :: r.map tv, _))
    cases h1 : Nat.beq c 1 with
    | true =>
      rw [h1] at h
      exact trK hg h hl (gl_cons.mpr ⟨(B.R hp9 hc).2, hr⟩) rfl rfl rfl
    | false =>
      rw [h1] at h
      cases h2 : Nat.beq c 2 with
      | true =>
        rw [h2] at h
        exact trK hg h hl (gl_cons.mpr ⟨trivial, hr⟩) rfl rfl rfl
      | false =>
        rw [h2] at h
        exact trK hg h hl (gl_cons.mpr ⟨trivial, hr⟩) rfl rfl rfl
theorem tr_putfield {q : Nat} (B : Bas n' S' R') (hf : RelC n' S' R' QI QJ QD f f') (hg : Rel n' S' R' QI QJ QD μ g g' u) (hb : bk μ = true) (hns : ∀ z, u.1 ≠ .inr (.inr z)) (hl : gl ls) (hs : gl st) (hc : (Nat.beq c 0) = true) (h : acK f g (μ, pc, ls, st, mm I J D) (stA μ pc ls st 337 S0 R0 I J D (.putfield q) len fm tm a b c k) = some u) : Cn n' S' R' QI QJ QD u (acK f' g' (μ, pc, ls.map tv, st.map tv, Tm n' S' R' QI QJ QD I J D) (stA μ pc (ls.map tv) (st.map tv) n' S' R' (ovr I QI) (ovr J QJ) (fun q => bif Nat.ble 1 q && Nat.ble q 316 then D (q - 1) else QD q) (.putfield q) len fm tm a b c k)) := by
  obtain ⟨v, w, r, rfl, h⟩ := ak_f2 h
  obtain ⟨p, rfl, h⟩ := ak_fR h
  have hp : gp p := (gl_cons.mp (gl_cons.mp hs).2).1
  have hr : gl r := (gl_cons.mp (gl_cons.mp hs).2).2
  obtain ⟨hk, h⟩ := ak_ifh h
  rcases ak_if h with ⟨-, h⟩ | ⟨h0, h⟩
  · obtain ⟨x, rfl, h⟩ := ak_fI h
    obtain ⟨hq, h⟩ := ak_gd h
    have hp9 : p < 316 := by
      by_cases q : p < 316
      · exact q
      · exfalso
        have := (gp_sp hp q).1
        have := Nat.blt_eq.mp hq
        omega
    show Cn _ _ _ _ _ _ u (acK f' g' _ (bif Nat.beq (S' (tq p)).1 a then bif Nat.beq c 0 then gd (Nat.blt (tq p) n') _ _ _ _ _ else _ else _))
    rw [B.S hp, hk, hc, B.n hp9]
    exact trK hg h hl hr rfl rfl (Tm_I hp9)
  · rw [hc] at h0; cases h0
theorem tr_getstatic {q : Nat} (B : Bas n' S' R') (hf : RelC n' S' R' QI QJ QD f f') (hg : Rel n' S' R' QI QJ QD μ g g' u) (hb : bk μ = true) (hns : ∀ z, u.1 ≠ .inr (.inr z)) (hl : gl ls) (hs : gl st) (hc : (!(Nat.beq c 0) || (Nat.ble 1000011 b && Nat.ble b 1000013)) = true) (h : acK f g (μ, pc, ls, st, mm I J D) (stA μ pc ls st 337 S0 R0 I J D (.getstatic q) len fm tm a b c k) = some u) : Cn n' S' R' QI QJ QD u (acK f' g' (μ, pc, ls.map tv, st.map tv, Tm n' S' R' QI QJ QD I J D) (stA μ pc (ls.map tv) (st.map tv) n' S' R' (ovr I QI) (ovr J QJ) (fun q => bif Nat.ble 1 q && Nat.ble q 316 then D (q - 1) else QD q) (.getstatic q) len fm tm a b c k)) := by
  have h : g (μ, pc + len, mk fm ls, (bif Nat.beq c 0 then .ref b else .int k) :: st, mm I J D) = some u := h
  show Cn _ _ _ _ _ _ u (g' (μ, pc + len, mk fm (ls.map tv), (bif Nat.beq c 0 then .ref b else .int k) :: st.map tv, _))
  cases h0 : Nat.beq c 0 with
  | true =>
    rw [h0, Bool.not_true, Bool.false_or, Bool.and_eq_true, Nat.ble_eq, Nat.ble_eq] at hc
    rw [h0] at h
    refine trK hg h hl (gl_cons.mpr ⟨Or.inr (Or.inl hc), hs⟩) rfl ?_ rfl
    show Value.ref b :: _ = Value.ref (tq b) :: _
    rw [tq_ge (by omega)]
  | false =>
    rw [h0] at h
    exact trK hg h hl (gl_cons.mpr ⟨trivial, hs⟩) rfl rfl rfl
theorem tr_invokevirtual {q : Nat} (B : Bas n' S' R') (hf : RelC n' S' R' QI QJ QD f f') (hg : Rel n' S' R' QI QJ QD μ g g' u) (hb : bk μ = true) (hns : ∀ z, u.1 ≠ .inr (.inr z)) (hl : gl ls) (hs : gl st) (hc : (bk a) = true) (h : acK f g (μ, pc, ls, st, mm I J D) (stA μ pc ls st 337 S0 R0 I J D (.invokevirtual q) len fm tm a b c k) = some u) : Cn n' S' R' QI QJ QD u (acK f' g' (μ, pc, ls.map tv, st.map tv, Tm n' S' R' QI QJ QD I J D) (stA μ pc (ls.map tv) (st.map tv) n' S' R' (ovr I QI) (ovr J QJ) (fun q => bif Nat.ble 1 q && Nat.ble q 316 then D (q - 1) else QD q) (.invokevirtual q) len fm tm a b c k)) := by
  obtain ⟨v, hv, h⟩ := ak_lk h
  obtain ⟨p, rfl, h⟩ := ak_fR h
  obtain ⟨hk, h⟩ := ak_ifh h
  have hb9 := bk_lt hb
  rw [cI_bk hb9] at h
  have hp : gp p := gl_drop hs (b - 1) _ (List.mem_of_mem_head? hv)
  have e : ((st.map tv).drop (b - 1)).head? = some (.ref (tq p)) := by rw [← List.map_drop, List.head?_map, hv]; rfl
  show Cn _ _ _ _ _ _ u (acK f' g' _ (lk ((st.map tv).drop (b - 1)).head? (fun v => fR v (fun p => bif ((Nat.beq (S' p).1 c && (Nat.beq c 43 || Nat.blt p n')) || (Nat.beq c 43 && (Nat.beq (S' p).1 13 && Nat.blt p n'))) && ((Nat.ble (csm ((st.map tv).drop b)) 8 && Nat.ble (csm ((st.map tv).take b)) (mxl a)) && cG μ a (ovr I QI)) then .inr (.inl (a, ((st.map tv).take b).reverse, (μ, pc + len, mk fm (ls.map tv), (st.map tv).drop b, (n', S', R', cI μ a (ovr I QI), ovr J QJ, fun q => bif Nat.ble 1 q && Nat.ble q 316 then D (q - 1) else QD q)), ls.map tv)) else hlA))))
  rw [e]
  rw [cI_bk hb9, cG_bk hb9, ← List.map_drop, ← List.map_take, csm_tv, csm_tv, ← List.map_reverse]
  show Cn _ _ _ _ _ _ u (acK f' g' _ (bif ((Nat.beq (S' (tq p)).1 c && (Nat.beq c 43 || Nat.blt (tq p) n')) || (Nat.beq c 43 && (Nat.beq (S' (tq p)).1 13 && Nat.blt (tq p) n'))) && ((Nat.ble (csm (st.drop b)) 8 && Nat.ble (csm (st.take b)) (mxl a)) && true) then _ else hlA))
  rw [Bool.and_eq_true, Bool.and_eq_true] at hk
  obtain ⟨k1, k2, -⟩ := hk
  have k1' : ((Nat.beq (S' (tq p)).1 c && (Nat.beq c 43 || Nat.blt (tq p) n')) || (Nat.beq c 43 && (Nat.beq (S' (tq p)).1 13 && Nat.blt (tq p) n'))) = true := by
    rw [B.S hp]
    by_cases hp9 : p < 316
    · rw [B.n hp9, Bool.or_true]
      have hn : Nat.blt p 337 = true := Nat.blt_eq.mpr (Nat.lt_trans hp9 (by decide))
      rw [hn, Bool.or_true] at k1
      exact k1
    · rw [tq_ge hp9]
      have e13 : Nat.beq (S0 p).1 13 = false := by
        rcases (gp_sp hp hp9).2 with q | ⟨q, -⟩ | q <;> rw [q] <;> rfl
      have hn : Nat.blt p 337 = false := by
        have := (gp_sp hp hp9).1
        cases hb : Nat.blt p 337 with
        | false => rfl
        | true => have := Nat.blt_eq.mp hb; omega
      rw [e13, hn, Bool.false_and, Bool.and_false, Bool.or_false, Bool.or_false, Bool.and_eq_true] at k1
      rw [e13, Bool.false_and, Bool.and_false, Bool.or_false, k1.1, k1.2]; rfl
  rw [k1', k2]
  exact trC hf hg hns hb hc h (gl_rev (gl_take hs b)) hl (gl_drop hs b)
theorem tr_invokestatic {q : Nat} (B : Bas n' S' R') (hf : RelC n' S' R' QI QJ QD f f') (hg : Rel n' S' R' QI QJ QD μ g g' u) (hb : bk μ = true) (hns : ∀ z, u.1 ≠ .inr (.inr z)) (hl : gl ls) (hs : gl st) (hc : (Nat.beq a 1000 || (Nat.beq a 1005 || (Nat.beq a 1006 || (Nat.beq a 1007 || (Nat.beq a 1008 || (Nat.beq a 1004 || bk a)))))) = true) (h : acK f g (μ, pc, ls, st, mm I J D) (stA μ pc ls st 337 S0 R0 I J D (.invokestatic q) len fm tm a b c k) = some u) : Cn n' S' R' QI QJ QD u (acK f' g' (μ, pc, ls.map tv, st.map tv, Tm n' S' R' QI QJ QD I J D) (stA μ pc (ls.map tv) (st.map tv) n' S' R' (ovr I QI) (ovr J QJ) (fun q => bif Nat.ble 1 q && Nat.ble q 316 then D (q - 1) else QD q) (.invokestatic q) len fm tm a b c k)) := by
  have hb9 := bk_lt hb
  rcases ak_if h with ⟨ha, h⟩ | ⟨ha, h⟩
  · show Cn _ _ _ _ _ _ u (acK f' g' _ (bif Nat.beq a 1000 then _ else _))
    rw [ha]
    have h : acK f g (μ, pc, ls, st, mm I J D) (match (generalizing := false) st with
        | .int z :: .int dp :: .ref q :: .int sp :: .ref p :: r => bif Nat.beq (S0 p).1 20 && Nat.beq (S0 q).1 20 then
            gd ((decide (¬ sp < 0) && (decide (¬ dp < 0) && decide (¬ z < 0))) && ((Nat.ble (sp.toNatClampNeg + z.toNatClampNeg) (S0 p).2 && Nat.ble (dp.toNatClampNeg + z.toNatClampNeg) (S0 q).2) && ((Nat.blt p 337 && Nat.blt q 337) && Nat.ble (csm r) 8))) μ (pc + len) (mk fm ls) r (337, S0, R0, upR I q (va_cpy (I p) (I q) sp.toNatClampNeg dp.toNatClampNeg z.toNatClampNeg), J, D) else hlA
        | _ => hlA) = some u := h
    obtain ⟨z, dp, q, sp1, p1, r, rfl⟩ : ∃ z dp q sp1 p1 r, st = .int z :: .int dp :: .ref q :: .int sp1 :: .ref p1 :: r := by
      split at h
      · exact ⟨_, _, _, _, _, _, rfl⟩
      · exact (ak_hl h).elim
    dsimp only at h
    have h5 := (gl_cons.mp (gl_cons.mp hs).2).2
    have hq : gp q := (gl_cons.mp h5).1
    have h6 := (gl_cons.mp (gl_cons.mp h5).2).2
    have hp : gp p1 := (gl_cons.mp h6).1
    have hr : gl r := (gl_cons.mp h6).2
    obtain ⟨hk, h⟩ := ak_ifh h
    · obtain ⟨hgd, h⟩ := ak_gd h
      have hk' := hk
      rw [Bool.and_eq_true] at hk'
      have hp9 := gp_lt hp (Nat.eq_of_beq_eq_true hk'.1) (by decide) (by decide) (by decide)
      have hq9 := gp_lt hq (Nat.eq_of_beq_eq_true hk'.2) (by decide) (by decide) (by decide)
      show Cn _ _ _ _ _ _ u (acK f' g' _ (bif Nat.beq (S' (tq p1)).1 20 && Nat.beq (S' (tq q)).1 20 then
            gd ((decide (¬ sp1 < 0) && (decide (¬ dp < 0) && decide (¬ z < 0))) && ((Nat.ble (sp1.toNatClampNeg + z.toNatClampNeg) (S' (tq p1)).2 && Nat.ble (dp.toNatClampNeg + z.toNatClampNeg) (S' (tq q)).2) && ((Nat.blt (tq p1) n' && Nat.blt (tq q) n') && Nat.ble (csm (r.map tv)) 8))) μ (pc + len) (mk fm (ls.map tv)) (r.map tv) (n', S', R', upR (ovr I QI) (tq q) (va_cpy (ovr I QI (tq p1)) (ovr I QI (tq q)) sp1.toNatClampNeg dp.toNatClampNeg z.toNatClampNeg), ovr J QJ, fun q => bif Nat.ble 1 q && Nat.ble q 316 then D (q - 1) else QD q) else _))
      rw [B.S hp, B.S hq, hk, B.n hp9, B.n hq9, csm_tv, ovr_in hp9, ovr_in hq9]
      rw [show Nat.blt p1 337 = true from Nat.blt_eq.mpr (by omega), show Nat.blt q 337 = true from Nat.blt_eq.mpr (by omega)] at hgd
      rw [hgd]
      exact trK hg h hl hr rfl rfl (Tm_R hq9)
  · show Cn _ _ _ _ _ _ u (acK f' g' _ (bif Nat.beq a 1000 then _ else _))
    rw [ha]
    rcases ak_if h with ⟨h5, h⟩ | ⟨h5, h⟩
    · obtain ⟨x, y, r, rfl, h⟩ := ak_i2 h
      obtain ⟨hgd, h⟩ := ak_gd h
      show Cn _ _ _ _ _ _ u (acK f' g' _ (bif Nat.beq a 1005 then gd (Nat.ble (csm (r.map tv)) 8) _ _ _ _ _ else _))
      rw [h5, csm_tv, hgd]
      exact trK hg h hl (gl_cons.mpr ⟨trivial, (gl_cons.mp (gl_cons.mp hs).2).2⟩) rfl rfl rfl
    · show Cn _ _ _ _ _ _ u (acK f' g' _ (bif Nat.beq a 1005 then _ else _))
      rw [h5]
      rcases ak_if h with ⟨h6, h⟩ | ⟨h6, h⟩
      · obtain ⟨x, y, r, rfl, h⟩ := ak_i2 h
        obtain ⟨hgd, h⟩ := ak_gd h
        show Cn _ _ _ _ _ _ u (acK f' g' _ (bif Nat.beq a 1006 then gd (Nat.ble (csm (r.map tv)) 8) _ _ _ _ _ else _))
        rw [h6, csm_tv, hgd]
        exact trK hg h hl (gl_cons.mpr ⟨trivial, (gl_cons.mp (gl_cons.mp hs).2).2⟩) rfl rfl rfl
      · show Cn _ _ _ _ _ _ u (acK f' g' _ (bif Nat.beq a 1006 then _ else _))
        rw [h6]
        rcases ak_if h with ⟨h7, h⟩ | ⟨h7, h⟩
        · obtain ⟨x, r, rfl, h⟩ := ak_i1 h
          obtain ⟨hgd, h⟩ := ak_gd h
          show Cn _ _ _ _ _ _ u (acK f' g' _ (bif Nat.beq a 1007 then gd (Nat.ble (csm (r.map tv)) 8) _ _ _ _ _ else _))
          rw [h7, csm_tv, hgd]
          exact trK hg h hl (gl_cons.mpr ⟨trivial, (gl_cons.mp hs).2⟩) rfl rfl rfl
        · show Cn _ _ _ _ _ _ u (acK f' g' _ (bif Nat.beq a 1007 then _ else _))
          rw [h7]
          rcases ak_if h with ⟨h8, h⟩ | ⟨h8, h⟩
          · obtain ⟨x, y, r, rfl, h⟩ := ak_i2 h
            obtain ⟨hgd, h⟩ := ak_gd h
            show Cn _ _ _ _ _ _ u (acK f' g' _ (bif Nat.beq a 1008 then gd (Nat.ble (csm (r.map tv)) 8 && decide (¬ y = 0)) _ _ _ _ _ else _))
            rw [h8, csm_tv, hgd]
            exact trK hg h hl (gl_cons.mpr ⟨trivial, (gl_cons.mp (gl_cons.mp hs).2).2⟩) rfl rfl rfl
          · show Cn _ _ _ _ _ _ u (acK f' g' _ (bif Nat.beq a 1008 then _ else _))
            rw [h8]
            rcases ak_if h with ⟨h9, h⟩ | ⟨h9, h⟩
            · obtain ⟨x, y, r, rfl, h⟩ := ak_i2 h
              obtain ⟨hgd, h⟩ := ak_gd h
              show Cn _ _ _ _ _ _ u (acK f' g' _ (bif Nat.beq a 1004 then gd (Nat.ble (csm (r.map tv)) 8 && (decide (0 ≤ x) && decide (x < y))) _ _ _ _ _ else _))
              rw [h9, csm_tv, hgd]
              exact trK hg h hl (gl_cons.mp (gl_cons.mp hs).2).2 rfl rfl rfl
            · obtain ⟨hk, h⟩ := ak_ifh h
              rw [cI_bk hb9] at h
              show Cn _ _ _ _ _ _ u (acK f' g' _ (bif Nat.beq a 1004 then _ else bif ((Nat.ble (csm ((st.map tv).drop b)) 8 && Nat.ble (csm ((st.map tv).take b)) (mxl a)) && cG μ a (ovr I QI)) && Nat.ble b (st.map tv).length then .inr (.inl (a, ((st.map tv).take b).reverse, (μ, pc + len, mk fm (ls.map tv), (st.map tv).drop b, (n', S', R', cI μ a (ovr I QI), ovr J QJ, fun q => bif Nat.ble 1 q && Nat.ble q 316 then D (q - 1) else QD q)), ls.map tv)) else hlA))
              have ha2 : bk a = true := by
                rw [ha, h5, h6, h7, h8, h9] at hc
                exact hc
              rw [h9, cI_bk hb9, cG_bk hb9, ← List.map_drop, ← List.map_take, csm_tv, csm_tv, ← List.map_reverse, List.length_map]
              rw [cG_bk hb9] at hk
              rw [hk]
              exact trC hf hg hns hb ha2 h (gl_rev (gl_take hs b)) hl (gl_drop hs b)
theorem tr_new {q : Nat} (B : Bas n' S' R') (hf : RelC n' S' R' QI QJ QD f f') (hg : Rel n' S' R' QI QJ QD μ g g' u) (hb : bk μ = true) (hns : ∀ z, u.1 ≠ .inr (.inr z)) (hl : gl ls) (hs : gl st) (hc : (!(Nat.beq a 0)) = true) (h : acK f g (μ, pc, ls, st, mm I J D) (stA μ pc ls st 337 S0 R0 I J D (.new q) len fm tm a b c k) = some u) : Cn n' S' R' QI QJ QD u (acK f' g' (μ, pc, ls.map tv, st.map tv, Tm n' S' R' QI QJ QD I J D) (stA μ pc (ls.map tv) (st.map tv) n' S' R' (ovr I QI) (ovr J QJ) (fun q => bif Nat.ble 1 q && Nat.ble q 316 then D (q - 1) else QD q) (.new q) len fm tm a b c k)) := by
  rcases ak_if h with ⟨ha, h⟩ | ⟨ha, h⟩
  · rw [ha] at hc; cases hc
  · show Cn _ _ _ _ _ _ u (acK f' g' _ (bif Nat.beq a 0 then _ else .inr (.inr (Nat.ble (csm (st.map tv)) 8, _))))
    rw [ha, csm_tv]
    cases hz : Nat.ble (csm st) 8 with
    | true =>
      rw [hz] at h
      cases h
      exact ⟨_, _, _, _, rfl, (fun v q => by cases q), rfl⟩
    | false => rw [hz] at h; cases h
theorem tr_ireturn  (B : Bas n' S' R') (hf : RelC n' S' R' QI QJ QD f f') (hg : Rel n' S' R' QI QJ QD μ g g' u) (hb : bk μ = true) (hns : ∀ z, u.1 ≠ .inr (.inr z)) (hl : gl ls) (hs : gl st) (h : acK f g (μ, pc, ls, st, mm I J D) (stA μ pc ls st 337 S0 R0 I J D (.ireturn) len fm tm a b c k) = some u) : Cn n' S' R' QI QJ QD u (acK f' g' (μ, pc, ls.map tv, st.map tv, Tm n' S' R' QI QJ QD I J D) (stA μ pc (ls.map tv) (st.map tv) n' S' R' (ovr I QI) (ovr J QJ) (fun q => bif Nat.ble 1 q && Nat.ble q 316 then D (q - 1) else QD q) (.ireturn) len fm tm a b c k)) := by
  obtain ⟨x, r, rfl, h⟩ := ak_i1 h
  have h : (bif (r.isEmpty && (bif Nat.beq c 0 then true else bif Nat.beq c 1 then decide (x = 0 ∨ x = 1) else bif Nat.beq c 2 then decide (0 ≤ x ∧ x ≤ 65535) else decide (-128 ≤ x ∧ x ≤ 127))) then some ((.inl (some (.int x)), mm I J D) : Ou) else none) = some u := h
  show Cn _ _ _ _ _ _ u (bif ((r.map tv).isEmpty && (bif Nat.beq c 0 then true else bif Nat.beq c 1 then decide (x = 0 ∨ x = 1) else bif Nat.beq c 2 then decide (0 ≤ x ∧ x ≤ 65535) else decide (-128 ≤ x ∧ x ≤ 127))) then some ((.inl (some (.int x)), Tm n' S' R' QI QJ QD I J D) : Ou) else none)
  rw [List.isEmpty_map]
  cases hz : (r.isEmpty && (bif Nat.beq c 0 then true else bif Nat.beq c 1 then decide (x = 0 ∨ x = 1) else bif Nat.beq c 2 then decide (0 ≤ x ∧ x ≤ 65535) else decide (-128 ≤ x ∧ x ≤ 127))) with
  | true =>
    rw [hz] at h
    cases h
    exact ⟨_, _, _, _, rfl, (fun v q => by cases q; exact trivial), rfl⟩
  | false => rw [hz] at h; cases h
theorem tr_lreturn  (B : Bas n' S' R') (hf : RelC n' S' R' QI QJ QD f f') (hg : Rel n' S' R' QI QJ QD μ g g' u) (hb : bk μ = true) (hns : ∀ z, u.1 ≠ .inr (.inr z)) (hl : gl ls) (hs : gl st) (h : acK f g (μ, pc, ls, st, mm I J D) (stA μ pc ls st 337 S0 R0 I J D (.lreturn) len fm tm a b c k) = some u) : Cn n' S' R' QI QJ QD u (acK f' g' (μ, pc, ls.map tv, st.map tv, Tm n' S' R' QI QJ QD I J D) (stA μ pc (ls.map tv) (st.map tv) n' S' R' (ovr I QI) (ovr J QJ) (fun q => bif Nat.ble 1 q && Nat.ble q 316 then D (q - 1) else QD q) (.lreturn) len fm tm a b c k)) := by
  obtain ⟨x, r, rfl, h⟩ := ak_l1 h
  have h : (bif r.isEmpty then some ((.inl (some (.long x)), mm I J D) : Ou) else none) = some u := h
  show Cn _ _ _ _ _ _ u (bif (r.map tv).isEmpty then some ((.inl (some (.long x)), Tm n' S' R' QI QJ QD I J D) : Ou) else none)
  rw [List.isEmpty_map]
  cases hz : r.isEmpty with
  | true =>
    rw [hz] at h
    cases h
    exact ⟨_, _, _, _, rfl, (fun v q => by cases q; exact trivial), rfl⟩
  | false => rw [hz] at h; cases h
theorem tr_freturn  (B : Bas n' S' R') (hf : RelC n' S' R' QI QJ QD f f') (hg : Rel n' S' R' QI QJ QD μ g g' u) (hb : bk μ = true) (hns : ∀ z, u.1 ≠ .inr (.inr z)) (hl : gl ls) (hs : gl st) (h : acK f g (μ, pc, ls, st, mm I J D) (stA μ pc ls st 337 S0 R0 I J D (.freturn) len fm tm a b c k) = some u) : Cn n' S' R' QI QJ QD u (acK f' g' (μ, pc, ls.map tv, st.map tv, Tm n' S' R' QI QJ QD I J D) (stA μ pc (ls.map tv) (st.map tv) n' S' R' (ovr I QI) (ovr J QJ) (fun q => bif Nat.ble 1 q && Nat.ble q 316 then D (q - 1) else QD q) (.freturn) len fm tm a b c k)) := by
  obtain ⟨v, r, rfl, h⟩ := ak_f1 h
  obtain ⟨x, rfl, h⟩ := ak_fF h
  have h : (bif r.isEmpty then some ((.inl (some (.float x)), mm I J D) : Ou) else none) = some u := h
  show Cn _ _ _ _ _ _ u (bif (r.map tv).isEmpty then some ((.inl (some (.float x)), Tm n' S' R' QI QJ QD I J D) : Ou) else none)
  rw [List.isEmpty_map]
  cases hz : r.isEmpty with
  | true =>
    rw [hz] at h
    cases h
    exact ⟨_, _, _, _, rfl, (fun v q => by cases q; exact trivial), rfl⟩
  | false => rw [hz] at h; cases h
theorem tr_dreturn  (B : Bas n' S' R') (hf : RelC n' S' R' QI QJ QD f f') (hg : Rel n' S' R' QI QJ QD μ g g' u) (hb : bk μ = true) (hns : ∀ z, u.1 ≠ .inr (.inr z)) (hl : gl ls) (hs : gl st) (h : acK f g (μ, pc, ls, st, mm I J D) (stA μ pc ls st 337 S0 R0 I J D (.dreturn) len fm tm a b c k) = some u) : Cn n' S' R' QI QJ QD u (acK f' g' (μ, pc, ls.map tv, st.map tv, Tm n' S' R' QI QJ QD I J D) (stA μ pc (ls.map tv) (st.map tv) n' S' R' (ovr I QI) (ovr J QJ) (fun q => bif Nat.ble 1 q && Nat.ble q 316 then D (q - 1) else QD q) (.dreturn) len fm tm a b c k)) := by
  obtain ⟨v, r, rfl, h⟩ := ak_f1 h
  obtain ⟨x, rfl, h⟩ := ak_fD h
  have h : (bif r.isEmpty then some ((.inl (some (.double x)), mm I J D) : Ou) else none) = some u := h
  show Cn _ _ _ _ _ _ u (bif (r.map tv).isEmpty then some ((.inl (some (.double x)), Tm n' S' R' QI QJ QD I J D) : Ou) else none)
  rw [List.isEmpty_map]
  cases hz : r.isEmpty with
  | true =>
    rw [hz] at h
    cases h
    exact ⟨_, _, _, _, rfl, (fun v q => by cases q; exact trivial), rfl⟩
  | false => rw [hz] at h; cases h
theorem tr_areturn  (B : Bas n' S' R') (hf : RelC n' S' R' QI QJ QD f f') (hg : Rel n' S' R' QI QJ QD μ g g' u) (hb : bk μ = true) (hns : ∀ z, u.1 ≠ .inr (.inr z)) (hl : gl ls) (hs : gl st) (h : acK f g (μ, pc, ls, st, mm I J D) (stA μ pc ls st 337 S0 R0 I J D (.areturn) len fm tm a b c k) = some u) : Cn n' S' R' QI QJ QD u (acK f' g' (μ, pc, ls.map tv, st.map tv, Tm n' S' R' QI QJ QD I J D) (stA μ pc (ls.map tv) (st.map tv) n' S' R' (ovr I QI) (ovr J QJ) (fun q => bif Nat.ble 1 q && Nat.ble q 316 then D (q - 1) else QD q) (.areturn) len fm tm a b c k)) := by
  obtain ⟨v, r, rfl, h⟩ := ak_f1 h
  obtain ⟨x, rfl, h⟩ := ak_fR h
  have h : (bif r.isEmpty then some ((.inl (some (.ref x)), mm I J D) : Ou) else none) = some u := h
  show Cn _ _ _ _ _ _ u (bif (r.map tv).isEmpty then some ((.inl (some (.ref (tq x))), Tm n' S' R' QI QJ QD I J D) : Ou) else none)
  rw [List.isEmpty_map]
  cases hz : r.isEmpty with
  | true =>
    rw [hz] at h
    cases h
    exact ⟨_, _, _, _, rfl, (fun v q => by cases q; exact ((gl_cons.mp hs).1 : gp x)), rfl⟩
  | false => rw [hz] at h; cases h
theorem tr_return_  (B : Bas n' S' R') (hf : RelC n' S' R' QI QJ QD f f') (hg : Rel n' S' R' QI QJ QD μ g g' u) (hb : bk μ = true) (hns : ∀ z, u.1 ≠ .inr (.inr z)) (hl : gl ls) (hs : gl st) (h : acK f g (μ, pc, ls, st, mm I J D) (stA μ pc ls st 337 S0 R0 I J D (.return_) len fm tm a b c k) = some u) : Cn n' S' R' QI QJ QD u (acK f' g' (μ, pc, ls.map tv, st.map tv, Tm n' S' R' QI QJ QD I J D) (stA μ pc (ls.map tv) (st.map tv) n' S' R' (ovr I QI) (ovr J QJ) (fun q => bif Nat.ble 1 q && Nat.ble q 316 then D (q - 1) else QD q) (.return_) len fm tm a b c k)) := by
  have h : (bif st.isEmpty then some ((.inl none, mm I J D) : Ou) else none) = some u := h
  show Cn _ _ _ _ _ _ u (bif (st.map tv).isEmpty then some ((.inl none, Tm n' S' R' QI QJ QD I J D) : Ou) else none)
  rw [List.isEmpty_map]
  cases hz : st.isEmpty with
  | true =>
    rw [hz] at h
    cases h
    exact ⟨_, _, _, _, rfl, (fun v q => by cases q), rfl⟩
  | false => rw [hz] at h; cases h
theorem tr_step (B : Bas n' S' R') (hf : RelC n' S' R' QI QJ QD f f') (hg : Rel n' S' R' QI QJ QD μ g g' u) (hb : bk μ = true) (hns : ∀ z, u.1 ≠ .inr (.inr z)) (hl : gl ls) (hs : gl st) (h : acK f g (μ, pc, ls, st, mm I J D) (st1 (μ, pc, ls, st, mm I J D)) = some u) :
    Cn n' S' R' QI QJ QD u (acK f' g' (μ, pc, ls.map tv, st.map tv, Tm n' S' R' QI QJ QD I J D) (st1 (μ, pc, ls.map tv, st.map tv, Tm n' S' R' QI QJ QD I J D))) := by
  have hch := bk_ch hb pc
  unfold chBk at hch
  unfold st1 at h ⊢
  dsimp only [mm, Tm] at h ⊢
  cases he : cins μ pc with
  | none =>
    rw [he] at h
    cases h
    exact absurd rfl (hns _)
  | some e =>
    obtain ⟨i, len, fm, tm, a, b, c, k⟩ := e
    rw [he] at h hch
    dsimp only at h hch ⊢
    have hlo : μ < 359 := Nat.lt_trans (bk_lt hb) (by decide)
    rw [stX_lo hlo] at h ⊢
    cases i with
    | iconst q => exact tr_iconst B hf hg hb hns hl hs h
    | bipush q => exact tr_bipush B hf hg hb hns hl hs h
    | sipush q => exact tr_sipush B hf hg hb hns hl hs h
    | lconst q => exact tr_lconst B hf hg hb hns hl hs h
    | ldc2_w q => exact tr_ldc2_w B hf hg hb hns hl hs h
    | fconst q => exact tr_fconst B hf hg hb hns hl hs h
    | ldc q => exact tr_ldc B hf hg hb hns hl hs hch h
    | ldc_w q => exact tr_ldc_w B hf hg hb hns hl hs hch h
    | iload_n q => exact tr_iload_n B hf hg hb hns hl hs h
    | iload q => exact tr_iload B hf hg hb hns hl hs h
    | lload_n q => exact tr_lload_n B hf hg hb hns hl hs h
    | lload q => exact tr_lload B hf hg hb hns hl hs h
    | dload q => exact tr_dload B hf hg hb hns hl hs h
    | aload_n q => exact tr_aload_n B hf hg hb hns hl hs h
    | aload q => exact tr_aload B hf hg hb hns hl hs h
    | istore_n q => exact tr_istore_n B hf hg hb hns hl hs h
    | istore q => exact tr_istore B hf hg hb hns hl hs h
    | lstore_n q => exact tr_lstore_n B hf hg hb hns hl hs h
    | lstore q => exact tr_lstore B hf hg hb hns hl hs h
    | dstore q => exact tr_dstore B hf hg hb hns hl hs h
    | astore_n q => exact tr_astore_n B hf hg hb hns hl hs h
    | astore q => exact tr_astore B hf hg hb hns hl hs h
    | iinc q z => exact tr_iinc B hf hg hb hns hl hs h
    | iadd => exact tr_iadd B hf hg hb hns hl hs h
    | isub => exact tr_isub B hf hg hb hns hl hs h
    | imul => exact tr_imul B hf hg hb hns hl hs h
    | iand => exact tr_iand B hf hg hb hns hl hs h
    | ior => exact tr_ior B hf hg hb hns hl hs h
    | ixor => exact tr_ixor B hf hg hb hns hl hs h
    | ishl => exact tr_ishl B hf hg hb hns hl hs h
    | ishr => exact tr_ishr B hf hg hb hns hl hs h
    | iushr => exact tr_iushr B hf hg hb hns hl hs h
    | ladd => exact tr_ladd B hf hg hb hns hl hs h
    | lsub => exact tr_lsub B hf hg hb hns hl hs h
    | lmul => exact tr_lmul B hf hg hb hns hl hs h
    | land => exact tr_land B hf hg hb hns hl hs h
    | lor => exact tr_lor B hf hg hb hns hl hs h
    | lcmp => exact tr_lcmp B hf hg hb hns hl hs h
    | idiv => exact tr_idiv B hf hg hb hns hl hs h
    | irem => exact tr_irem B hf hg hb hns hl hs h
    | ineg => exact tr_ineg B hf hg hb hns hl hs h
    | i2l => exact tr_i2l B hf hg hb hns hl hs h
    | i2c => exact tr_i2c B hf hg hb hns hl hs h
    | i2d => exact tr_i2d B hf hg hb hns hl hs h
    | i2f => exact tr_i2f B hf hg hb hns hl hs h
    | lneg => exact tr_lneg B hf hg hb hns hl hs h
    | l2i => exact tr_l2i B hf hg hb hns hl hs h
    | lshl => exact tr_lshl B hf hg hb hns hl hs h
    | lshr => exact tr_lshr B hf hg hb hns hl hs h
    | lushr => exact tr_lushr B hf hg hb hns hl hs h
    | f2d => exact tr_f2d B hf hg hb hns hl hs h
    | ddiv => exact tr_ddiv B hf hg hb hns hl hs h
    | fdiv => exact tr_fdiv B hf hg hb hns hl hs h
    | dcmp op => exact tr_dcmp B hf hg hb hns hl hs h
    | dup => exact tr_dup B hf hg hb hns hl hs h
    | dup2 => exact tr_dup2 B hf hg hb hns hl hs h
    | ifCond q z => exact tr_ifCond B hf hg hb hns hl hs h
    | if_icmp q z => exact tr_if_icmp B hf hg hb hns hl hs h
    | ifnull z => exact tr_ifnull B hf hg hb hns hl hs h
    | goto z => exact tr_goto B hf hg hb hns hl hs h
    | tableswitch d lo hi offs => exact tr_tableswitch B hf hg hb hns hl hs h
    | iaload => exact tr_iaload B hf hg hb hns hl hs h
    | baload => exact tr_baload B hf hg hb hns hl hs h
    | caload => exact tr_caload B hf hg hb hns hl hs h
    | laload => exact tr_laload B hf hg hb hns hl hs h
    | daload => exact tr_daload B hf hg hb hns hl hs h
    | aaload => exact tr_aaload B hf hg hb hns hl hs h
    | iastore => exact tr_iastore B hf hg hb hns hl hs h
    | castore => exact tr_castore B hf hg hb hns hl hs h
    | lastore => exact tr_lastore B hf hg hb hns hl hs h
    | dastore => exact tr_dastore B hf hg hb hns hl hs h
    | bastore => exact tr_bastore B hf hg hb hns hl hs h
    | arraylength => exact tr_arraylength B hf hg hb hns hl hs h
    | getfield q => exact tr_getfield B hf hg hb hns hl hs hch h
    | putfield q => exact tr_putfield B hf hg hb hns hl hs hch h
    | getstatic q => exact tr_getstatic B hf hg hb hns hl hs hch h
    | invokevirtual q => exact tr_invokevirtual B hf hg hb hns hl hs hch h
    | invokestatic q => exact tr_invokestatic B hf hg hb hns hl hs hch h
    | new q => exact tr_new B hf hg hb hns hl hs hch h
    | ireturn => exact tr_ireturn B hf hg hb hns hl hs h
    | lreturn => exact tr_lreturn B hf hg hb hns hl hs h
    | freturn => exact tr_freturn B hf hg hb hns hl hs h
    | dreturn => exact tr_dreturn B hf hg hb hns hl hs h
    | areturn => exact tr_areturn B hf hg hb hns hl hs h
    | return_ => exact tr_return_ B hf hg hb hns hl hs h
    | newarray q => cases hch
    | anewarray q => cases hch
    | multianewarray q z => cases hch
    | aastore => cases hch
    | invokespecial q => cases hch
    | _ => exact (ak_hl h).elim
theorem tr_all (B : Bas n' S' R') : ∀ N μ, bk μ = true → ∀ u, (∀ z, u.1 ≠ .inr (.inr z)) → Rel n' S' R' QI QJ QD μ (run N) (run N) u
  | 0, _, _, _, _ => fun pc ls st I J D _ _ h => by cases h
  | N + 1, μ, hb, u, hns => fun pc ls st I J D hl hs h => by
    refine tr_step B (fun a as I J D u ha has h9 hn9 => ?_) (tr_all B N μ hb u hns) hb hns hl hs h
    have q := tr_all B N a ha u hn9 0 _ [] I J D (gl_pad (gl_ent as has)) gl_nil h9
    rw [ent_tv, pad_tv]
    exact q
/-- a call of the book's -/
theorem tr_ex (B : Bas n' S' R') (hb : bk μ = true) (hl : gl ls) {r : Rs} {I2 : Nat → Nat → Int32} {J2 : Nat → Nat → Int64} {D2 : Nat → Nat → UInt64} (hns : ∀ z, r ≠ .inr (.inr z)) (h : ex (μ, pc, ls, [], mm I J D) = some (r, mm I2 J2 D2)) :
    ex (μ, pc, ls.map tv, [], Tm n' S' R' QI QJ QD I J D) = some (tR r, Tm n' S' R' QI QJ QD I2 J2 D2) := by
  obtain ⟨N, hN⟩ := ex_run h
  obtain ⟨r9, I9, J9, D9, q1, q2, q3⟩ := tr_all B N μ hb _ hns pc ls [] I J D hl gl_nil hN
  have e : mm I2 J2 D2 = mm I9 J9 D9 := congrArg Prod.snd q1
  unfold mm at e
  injection e with _ e
  injection e with _ e
  injection e with _ e
  injection e with e1 e
  injection e with e2 e3
  have e4 : r = r9 := congrArg Prod.fst q1
  subst e1; subst e2; subst e3; subst e4
  exact ex_some q3
end TS
