/-! a run of the book's methods over the book's places, and over places one further on, in any memory -/
def bk (μ : Nat) : Bool := bif Nat.blt μ 318 then (bif Nat.ble μ 73 then (bif Nat.ble μ 43 then (bif Nat.ble μ 16 then (bif Nat.ble μ 6 then (bif Nat.ble μ 0 then (false) else (bif Nat.ble μ 5 then (true) else (false))) else (bif Nat.ble μ 11 then (true) else (bif Nat.ble μ 12 then (false) else (true)))) else (bif Nat.ble μ 27 then (bif Nat.ble μ 17 then (false) else (bif Nat.ble μ 26 then (true) else (false))) else (bif Nat.ble μ 33 then (true) else (bif Nat.ble μ 34 then (false) else (true))))) else (bif Nat.ble μ 53 then (bif Nat.ble μ 48 then (bif Nat.ble μ 44 then (false) else (bif Nat.ble μ 47 then (true) else (false))) else (bif Nat.ble μ 50 then (true) else (bif Nat.ble μ 52 then (false) else (true)))) else (bif Nat.ble μ 63 then (bif Nat.ble μ 54 then (false) else (bif Nat.ble μ 62 then (true) else (false))) else (bif Nat.ble μ 68 then (true) else (bif Nat.ble μ 69 then (false) else (true)))))) else (bif Nat.ble μ 111 then (bif Nat.ble μ 98 then (bif Nat.ble μ 78 then (bif Nat.ble μ 74 then (false) else (bif Nat.ble μ 77 then (true) else (false))) else (bif Nat.ble μ 88 then (true) else (bif Nat.ble μ 89 then (false) else (true)))) else (bif Nat.ble μ 102 then (bif Nat.ble μ 99 then (false) else (bif Nat.ble μ 101 then (true) else (false))) else (bif Nat.ble μ 109 then (true) else (bif Nat.ble μ 110 then (false) else (true))))) else (bif Nat.ble μ 124 then (bif Nat.ble μ 119 then (bif Nat.ble μ 112 then (false) else (bif Nat.ble μ 118 then (true) else (false))) else (bif Nat.ble μ 122 then (true) else (bif Nat.ble μ 123 then (false) else (true)))) else (bif Nat.ble μ 139 then (bif Nat.ble μ 125 then (false) else (bif Nat.ble μ 136 then (true) else (false))) else (bif Nat.ble μ 153 then (true) else (bif Nat.ble μ 309 then (false) else (true))))))) else false
def tq (x : Nat) : Nat := if x < 316 then x + 1 else x
def tv (v : Value) : Value := match v with
  | .ref x => .ref (tq x)
  | w => w
/-- a place of the book, or a row of numbers, a text or its bytes that stand from the start -/
def gp (x : Nat) : Prop := x < 316 ∨ (1000011 ≤ x ∧ x ≤ 1000013) ∨ (1000020 ≤ x ∧ x ≤ 1000025) ∨ (1000030 ≤ x ∧ x ≤ 1000035)
def gv (v : Value) : Prop := match v with
  | .ref x => gp x
  | _ => True
def gl (L : List Value) : Prop := ∀ v, v ∈ L → gv v
theorem gl_nil : gl [] := fun v h => by cases h
theorem gl_cons {v : Value} {L : List Value} : gl (v :: L) ↔ gv v ∧ gl L := ⟨fun h => ⟨h v List.mem_cons_self, fun w hw => h w (List.mem_cons_of_mem _ hw)⟩, fun h w hw => by
  rcases List.mem_cons.mp hw with rfl | hw
  · exact h.1
  · exact h.2 w hw⟩
theorem gl_app {A B : List Value} : gl (A ++ B) ↔ gl A ∧ gl B := ⟨fun h => ⟨fun v hv => h v (List.mem_append_left _ hv), fun v hv => h v (List.mem_append_right _ hv)⟩, fun h v hv => (List.mem_append.mp hv).elim (h.1 v) (h.2 v)⟩
theorem gl_at {L : List Value} (h : gl L) {i : Nat} {v : Value} (e : L[i]? = some v) : gv v := h v (List.mem_of_getElem? e)
theorem gl_set {L : List Value} (h : gl L) {i : Nat} {v : Value} (hv : gv v) : gl (L.set i v) := fun w hw => by
  rcases List.mem_or_eq_of_mem_set hw with h1 | h1
  · exact h w h1
  · rw [h1]; exact hv
theorem gl_kill {L : List Value} (h : gl L) (i : Nat) : gl (kill L i) := by
  cases i with
  | zero => exact h
  | succ i =>
    show gl (match (L)[i]? with
    | some (.long _) => (L).set i dv
    | some (.double _) => (L).set i dv
    | _ => L)
    split
    · exact gl_set (v := dv) h trivial
    · exact gl_set (v := dv) h trivial
    · exact h
theorem gl_sto {L : List Value} (h : gl L) (i : Nat) {v : Value} (hv : gv v) : gl (sto L i v) := gl_set (gl_kill h i) hv
theorem gl_sto2 {L : List Value} (h : gl L) (i : Nat) {v : Value} (hv : gv v) : gl (sto2 L i v) := gl_set (gl_set (gl_kill h i) hv) trivial
theorem gl_mk : ∀ (f : List Bool) (L : List Value), gl L → gl (mk f L)
  | [], L, h => by cases L <;> exact h
  | b :: f, [], h => h
  | b :: f, v :: L, h => by
    show gl ((bif b then v else dv) :: mk f L)
    rw [gl_cons] at h
    refine gl_cons.mpr ⟨?_, gl_mk f L h.2⟩
    cases b with
    | true => exact h.1
    | false => trivial
theorem gl_take {L : List Value} (h : gl L) (n : Nat) : gl (L.take n) := fun v hv => h v (List.mem_of_mem_take hv)
theorem gl_drop {L : List Value} (h : gl L) (n : Nat) : gl (L.drop n) := fun v hv => h v (List.mem_of_mem_drop hv)
theorem gl_rev {L : List Value} (h : gl L) : gl L.reverse := fun v hv => h v (List.mem_reverse.mp hv)
theorem gl_ent : ∀ as : List Value, gl as → gl (ent as)
  | [], _ => gl_nil
  | v :: r, h => by
    rw [gl_cons] at h
    have ih := gl_ent r h.2
    have one : gl (v :: ent r) := gl_cons.mpr ⟨h.1, ih⟩
    have two : gl (v :: dv :: ent r) := gl_cons.mpr ⟨h.1, gl_cons.mpr ⟨trivial, ih⟩⟩
    cases v with
    | long x => exact two
    | double x => exact two
    | _ => exact one
theorem gl_pad {n : Nat} {L : List Value} (h : gl L) : gl (pad n L) := gl_app.mpr ⟨h, fun v hv => by rw [(List.mem_replicate.mp hv).2]; trivial⟩
theorem tv_dv : tv dv = dv := rfl
theorem tv_cat (v : Value) : (tv v).category = v.category := by cases v <;> rfl
theorem csm_tv : ∀ L : List Value, csm (L.map tv) = csm L
  | [] => rfl
  | v :: r => by show (tv v).category + csm (r.map tv) = v.category + csm r; rw [csm_tv r, tv_cat]
theorem mk_tv : ∀ (f : List Bool) (L : List Value), mk f (L.map tv) = (mk f L).map tv
  | [], L => by cases L <;> rfl
  | b :: f, [] => rfl
  | b :: f, v :: L => by
    show (bif b then tv v else dv) :: mk f (L.map tv) = tv (bif b then v else dv) :: (mk f L).map tv
    rw [mk_tv f L]
    cases b <;> rfl
theorem kill_tv (L : List Value) (i : Nat) : kill (L.map tv) i = (kill L i).map tv := by
  cases i with
  | zero => rfl
  | succ i =>
    show (match (L.map tv)[i]? with
    | some (.long _) => (L.map tv).set i dv
    | some (.double _) => (L.map tv).set i dv
    | _ => L.map tv) = (match (L)[i]? with
    | some (.long _) => (L).set i dv
    | some (.double _) => (L).set i dv
    | _ => L).map tv
    rw [List.getElem?_map]
    cases h : L[i]? with
    | none => rfl
    | some v => cases v <;> first | rfl | (show (L.map tv).set i dv = (L.set i dv).map tv; rw [List.map_set]; rfl)
theorem sto_tv (L : List Value) (i : Nat) (v : Value) : sto (L.map tv) i (tv v) = (sto L i v).map tv := by unfold sto; rw [kill_tv, List.map_set]
theorem sto2_tv (L : List Value) (i : Nat) (v : Value) : sto2 (L.map tv) i (tv v) = (sto2 L i v).map tv := by unfold sto2; rw [kill_tv, List.map_set, List.map_set]; rfl
theorem ent_tv : ∀ as : List Value, ent (as.map tv) = (ent as).map tv
  | [] => rfl
  | v :: r => by
    have ih := ent_tv r
    cases v <;> (show _ :: _ = _ :: _) <;> first | (rw [ent_tv r]; done) | rw [ent_tv r] <;> rfl
theorem pad_tv {n : Nat} {L : List Value} : pad n (L.map tv) = (pad n L).map tv := by
  unfold pad
  rw [List.map_append, List.length_map, List.map_replicate]; rfl
/-! the shapes -/
def kBok (k : Nat) : Bool := Nat.blt k 12 || (Nat.ble 20 k && Nat.ble k 27)
theorem s0_bok : (List.range 316).all (fun p => kBok (S0 p).1) = true := by decide +kernel
theorem s0_a : (List.range 3).all (fun i => Nat.beq (S0 (1000011 + i)).1 40) = true := by decide +kernel
theorem s0_b : (List.range 6).all (fun i => Nat.beq (S0 (1000020 + i)).1 43) = true := by decide +kernel
theorem s0_c : (List.range 6).all (fun i => Nat.beq (S0 (1000030 + i)).1 44) = true := by decide +kernel
theorem s0_row : (List.range 316).all (fun p => !(Nat.ble 25 (S0 p).1) || Nat.blt (S0 p).2 20) = true := by decide +kernel
theorem r0_lt0 : (List.range 316).all (fun p => (List.range 20).all (fun j => match R0 p j with
    | some q => Nat.blt q 316
    | none => true)) = true := by decide +kernel
theorem s0_k {p : Nat} (h : p < 316) : kBok (S0 p).1 = true := List.all_eq_true.mp s0_bok p (List.mem_range.mpr h)
theorem r0_lt {p j q : Nat} (hp : p < 316) (hj : j < 20) (h : R0 p j = some q) : q < 316 := by
  have := List.all_eq_true.mp (List.all_eq_true.mp r0_lt0 p (List.mem_range.mpr hp)) j (List.mem_range.mpr hj)
  rw [h] at this
  exact Nat.blt_eq.mp this
theorem gp_sp {p : Nat} (h : gp p) (hp : ¬ p < 316) : 900000 < p ∧ ((S0 p).1 = 40 ∨ ((S0 p).1 = 43 ∧ gp (p + 10) ∧ ¬ p + 10 < 316) ∨ (S0 p).1 = 44) := by
  rcases h with h | ⟨h1, h2⟩ | ⟨h1, h2⟩ | ⟨h1, h2⟩
  · exact absurd h hp
  · obtain ⟨i, rfl⟩ : ∃ i, p = 1000011 + i := ⟨p - 1000011, by omega⟩
    exact ⟨by omega, Or.inl (Nat.eq_of_beq_eq_true (List.all_eq_true.mp s0_a i (List.mem_range.mpr (by omega))))⟩
  · obtain ⟨i, rfl⟩ : ∃ i, p = 1000020 + i := ⟨p - 1000020, by omega⟩
    exact ⟨by omega, Or.inr (Or.inl ⟨Nat.eq_of_beq_eq_true (List.all_eq_true.mp s0_b i (List.mem_range.mpr (by omega))), Or.inr (Or.inr (Or.inr ⟨by omega, by omega⟩)), by omega⟩)⟩
  · obtain ⟨i, rfl⟩ : ∃ i, p = 1000030 + i := ⟨p - 1000030, by omega⟩
    exact ⟨by omega, Or.inr (Or.inr (Nat.eq_of_beq_eq_true (List.all_eq_true.mp s0_c i (List.mem_range.mpr (by omega)))))⟩
/-- a shape that a book's place has -/
theorem gp_lt {p k : Nat} (h : gp p) (hk : (S0 p).1 = k) (h1 : k ≠ 40) (h2 : k ≠ 43) (h3 : k ≠ 44) : p < 316 := by
  by_cases hp : p < 316
  · exact hp
  · rcases (gp_sp h hp).2 with q | ⟨q, -⟩ | q <;> omega
theorem gp_ge {p k : Nat} (h : gp p) (hk : (S0 p).1 = k) (h1 : kBok k = false) : ¬ p < 316 := fun hp => by
  have := s0_k hp
  rw [hk, h1] at this
  cases this
theorem tq_lt {p : Nat} (h : p < 316) : tq p = p + 1 := if_pos h
theorem tq_ge {p : Nat} (h : ¬ p < 316) : tq p = p := if_neg h
def ovr {α : Type} (I Q : Nat → Nat → α) : Nat → Nat → α := fun q => bif Nat.ble 1 q && Nat.ble q 316 then I (q - 1) else Q q
theorem ovr_in {α : Type} {I Q : Nat → Nat → α} {p : Nat} (h : p < 316) : ovr I Q (tq p) = I p := by
  unfold ovr
  rw [tq_lt h, Nat.ble_eq.mpr (show 1 ≤ p + 1 by omega), Nat.ble_eq.mpr (show p + 1 ≤ 316 by omega)]
  rfl
theorem ovr_eq {α : Type} {I I2 Q : Nat → Nat → α} {p : Nat} {f : Nat → α} (h : p < 316) (h1 : I2 p = f) (h2 : ∀ q, q ≠ p → I2 q = I q) : ovr I2 Q = fun q => bif Nat.beq q (tq p) then f else ovr I Q q := by
  funext q
  rw [tq_lt h]
  unfold ovr
  by_cases e : q = p + 1
  · subst e
    rw [Nat.beq_refl, Nat.ble_eq.mpr (show 1 ≤ p + 1 by omega), Nat.ble_eq.mpr (show p + 1 ≤ 316 by omega)]
    exact h1
  · rw [nbeq e]
    cases hb : (Nat.ble 1 q && Nat.ble q 316) with
    | false => rfl
    | true =>
      simp only [Bool.and_eq_true, Nat.ble_eq] at hb
      exact h2 (q - 1) (by omega)
theorem ovr_ups {I Q : Nat → Nat → Int32} {p k : Nat} {x : Int32} (h : p < 316) : ups (ovr I Q) (tq p) k x = ovr (ups I p k x) Q := by
  rw [ovr_eq (I := I) (I2 := ups I p k x) (f := upd (I p) k x) h (by unfold ups; rw [nbeq_s]; rfl) (fun q hq => by unfold ups; rw [nbeq hq]; rfl)]
  unfold ups
  rw [ovr_in h]
theorem ovr_upsL {I Q : Nat → Nat → Int64} {p k : Nat} {x : Int64} (h : p < 316) : upsL (ovr I Q) (tq p) k x = ovr (upsL I p k x) Q := by
  rw [ovr_eq (I := I) (I2 := upsL I p k x) (f := vp_updL (I p) k x) h (by unfold upsL; rw [nbeq_s]; rfl) (fun q hq => by unfold upsL; rw [nbeq hq]; rfl)]
  unfold upsL
  rw [ovr_in h]
theorem ovr_upR {α : Type} {I Q : Nat → Nat → α} {p : Nat} {f : Nat → α} (h : p < 316) : upR (ovr I Q) (tq p) f = ovr (upR I p f) Q := by
  rw [ovr_eq (I := I) (I2 := upR I p f) (f := f) h upR_s (fun q hq => upR_n hq)]
  rfl
/-- what is asked of a code entry -/
def chBk (μ pc : Nat) : Bool := match cins μ pc with
  | none => true
  | some (i, _, _, _, a, b, c, _) => match i with
    | .getfield _ => Nat.blt b 20
    | .putfield _ => Nat.beq c 0
    | .new _ => !(Nat.beq a 0)
    | .newarray _ => false
    | .anewarray _ => false
    | .multianewarray _ _ => false
    | .aastore => false
    | .invokevirtual _ => bk a
    | .invokestatic _ => Nat.beq a 1000 || (Nat.beq a 1005 || (Nat.beq a 1006 || (Nat.beq a 1007 || (Nat.beq a 1008 || (Nat.beq a 1004 || bk a)))))
    | .invokespecial _ => false
    | .ldc _ => Nat.beq a 0 || (Nat.ble 1000020 b && Nat.ble b 1000025)
    | .ldc_w _ => Nat.beq a 0
    | .getstatic _ => !(Nat.beq c 0) || (Nat.ble 1000011 b && Nat.ble b 1000013)
    | _ => true
theorem bkG {i N : Nat} (h : (List.range N).all (fun pc => chBk i pc) = true) (hn : ∀ pc, Nat.blt pc N = false → cins i pc = none) : ∀ pc, chBk i pc = true := by
  intro pc
  cases hb : Nat.blt pc N with
  | true => exact List.all_eq_true.mp h pc (List.mem_range.mpr (Nat.blt_eq.mp hb))
  | false => unfold chBk; rw [hn pc hb]
theorem bk_hnd : (List.range 318).all (fun μ => !(bk μ) || (hnd μ).isEmpty) = true := by decide +kernel
theorem bk_lt {μ : Nat} (h : bk μ = true) : μ < 318 := by
  refine Nat.lt_of_not_le fun q => ?_
  have : Nat.blt μ 318 = false := by
    cases hb : Nat.blt μ 318 with
    | false => rfl
    | true => have := Nat.blt_eq.mp hb; omega
  unfold bk at h
  rw [this] at h
  cases h
theorem bk_h0 {μ : Nat} (h : bk μ = true) : hnd μ = [] := by
  have := List.all_eq_true.mp bk_hnd μ (List.mem_range.mpr (bk_lt h))
  rw [h, Bool.not_true, Bool.false_or] at this
  exact List.isEmpty_iff.mp this
theorem bkD_1 : (List.range 61).all (fun pc => chBk 1 pc) = true := by decide +kernel
theorem bkE_1 : ∀ pc, chBk 1 pc = true := bkG bkD_1 (fun pc h => by show (bif Nat.blt pc 61 then _ else none) = none; rw [h]; rfl)
theorem bkD_2 : (List.range 18).all (fun pc => chBk 2 pc) = true := by decide +kernel
theorem bkE_2 : ∀ pc, chBk 2 pc = true := bkG bkD_2 (fun pc h => by show (bif Nat.blt pc 18 then _ else none) = none; rw [h]; rfl)
theorem bkD_3 : (List.range 100).all (fun pc => chBk 3 pc) = true := by decide +kernel
theorem bkE_3 : ∀ pc, chBk 3 pc = true := bkG bkD_3 (fun pc h => by show (bif Nat.blt pc 100 then _ else none) = none; rw [h]; rfl)
theorem bkD_4 : (List.range 77).all (fun pc => chBk 4 pc) = true := by decide +kernel
theorem bkE_4 : ∀ pc, chBk 4 pc = true := bkG bkD_4 (fun pc h => by show (bif Nat.blt pc 77 then _ else none) = none; rw [h]; rfl)
theorem bkD_5 : (List.range 97).all (fun pc => chBk 5 pc) = true := by decide +kernel
theorem bkE_5 : ∀ pc, chBk 5 pc = true := bkG bkD_5 (fun pc h => by show (bif Nat.blt pc 97 then _ else none) = none; rw [h]; rfl)
theorem bkD_7 : (List.range 48).all (fun pc => chBk 7 pc) = true := by decide +kernel
theorem bkE_7 : ∀ pc, chBk 7 pc = true := bkG bkD_7 (fun pc h => by show (bif Nat.blt pc 48 then _ else none) = none; rw [h]; rfl)
theorem bkD_8 : (List.range 58).all (fun pc => chBk 8 pc) = true := by decide +kernel
theorem bkE_8 : ∀ pc, chBk 8 pc = true := bkG bkD_8 (fun pc h => by show (bif Nat.blt pc 58 then _ else none) = none; rw [h]; rfl)
theorem bkD_9 : (List.range 77).all (fun pc => chBk 9 pc) = true := by decide +kernel
theorem bkE_9 : ∀ pc, chBk 9 pc = true := bkG bkD_9 (fun pc h => by show (bif Nat.blt pc 77 then _ else none) = none; rw [h]; rfl)
theorem bkD_10 : (List.range 98).all (fun pc => chBk 10 pc) = true := by decide +kernel
theorem bkE_10 : ∀ pc, chBk 10 pc = true := bkG bkD_10 (fun pc h => by show (bif Nat.blt pc 98 then _ else none) = none; rw [h]; rfl)
theorem bkD_11 : (List.range 163).all (fun pc => chBk 11 pc) = true := by decide +kernel
theorem bkE_11 : ∀ pc, chBk 11 pc = true := bkG bkD_11 (fun pc h => by show (bif Nat.blt pc 163 then _ else none) = none; rw [h]; rfl)
theorem bkD_13 : (List.range 132).all (fun pc => chBk 13 pc) = true := by decide +kernel
theorem bkE_13 : ∀ pc, chBk 13 pc = true := bkG bkD_13 (fun pc h => by show (bif Nat.blt pc 132 then _ else none) = none; rw [h]; rfl)
theorem bkD_14 : (List.range 53).all (fun pc => chBk 14 pc) = true := by decide +kernel
theorem bkE_14 : ∀ pc, chBk 14 pc = true := bkG bkD_14 (fun pc h => by show (bif Nat.blt pc 53 then _ else none) = none; rw [h]; rfl)
theorem bkD_15 : (List.range 20).all (fun pc => chBk 15 pc) = true := by decide +kernel
theorem bkE_15 : ∀ pc, chBk 15 pc = true := bkG bkD_15 (fun pc h => by show (bif Nat.blt pc 20 then _ else none) = none; rw [h]; rfl)
theorem bkD_16 : (List.range 9).all (fun pc => chBk 16 pc) = true := by decide +kernel
theorem bkE_16 : ∀ pc, chBk 16 pc = true := bkG bkD_16 (fun pc h => by show (bif Nat.blt pc 9 then _ else none) = none; rw [h]; rfl)
theorem bkD_18 : (List.range 29).all (fun pc => chBk 18 pc) = true := by decide +kernel
theorem bkE_18 : ∀ pc, chBk 18 pc = true := bkG bkD_18 (fun pc h => by show (bif Nat.blt pc 29 then _ else none) = none; rw [h]; rfl)
theorem bkD_19 : (List.range 69).all (fun pc => chBk 19 pc) = true := by decide +kernel
theorem bkE_19 : ∀ pc, chBk 19 pc = true := bkG bkD_19 (fun pc h => by show (bif Nat.blt pc 69 then _ else none) = none; rw [h]; rfl)
theorem bkD_20 : (List.range 50).all (fun pc => chBk 20 pc) = true := by decide +kernel
theorem bkE_20 : ∀ pc, chBk 20 pc = true := bkG bkD_20 (fun pc h => by show (bif Nat.blt pc 50 then _ else none) = none; rw [h]; rfl)
theorem bkD_21 : (List.range 55).all (fun pc => chBk 21 pc) = true := by decide +kernel
theorem bkE_21 : ∀ pc, chBk 21 pc = true := bkG bkD_21 (fun pc h => by show (bif Nat.blt pc 55 then _ else none) = none; rw [h]; rfl)
theorem bkD_22 : (List.range 42).all (fun pc => chBk 22 pc) = true := by decide +kernel
theorem bkE_22 : ∀ pc, chBk 22 pc = true := bkG bkD_22 (fun pc h => by show (bif Nat.blt pc 42 then _ else none) = none; rw [h]; rfl)
theorem bkD_23 : (List.range 112).all (fun pc => chBk 23 pc) = true := by decide +kernel
theorem bkE_23 : ∀ pc, chBk 23 pc = true := bkG bkD_23 (fun pc h => by show (bif Nat.blt pc 112 then _ else none) = none; rw [h]; rfl)
theorem bkD_24 : (List.range 58).all (fun pc => chBk 24 pc) = true := by decide +kernel
theorem bkE_24 : ∀ pc, chBk 24 pc = true := bkG bkD_24 (fun pc h => by show (bif Nat.blt pc 58 then _ else none) = none; rw [h]; rfl)
theorem bkD_25 : (List.range 45).all (fun pc => chBk 25 pc) = true := by decide +kernel
theorem bkE_25 : ∀ pc, chBk 25 pc = true := bkG bkD_25 (fun pc h => by show (bif Nat.blt pc 45 then _ else none) = none; rw [h]; rfl)
theorem bkD_26 : (List.range 65).all (fun pc => chBk 26 pc) = true := by decide +kernel
theorem bkE_26 : ∀ pc, chBk 26 pc = true := bkG bkD_26 (fun pc h => by show (bif Nat.blt pc 65 then _ else none) = none; rw [h]; rfl)
theorem bkD_28 : (List.range 14).all (fun pc => chBk 28 pc) = true := by decide +kernel
theorem bkE_28 : ∀ pc, chBk 28 pc = true := bkG bkD_28 (fun pc h => by show (bif Nat.blt pc 14 then _ else none) = none; rw [h]; rfl)
theorem bkD_29 : (List.range 94).all (fun pc => chBk 29 pc) = true := by decide +kernel
theorem bkE_29 : ∀ pc, chBk 29 pc = true := bkG bkD_29 (fun pc h => by show (bif Nat.blt pc 94 then _ else none) = none; rw [h]; rfl)
theorem bkD_30 : (List.range 31).all (fun pc => chBk 30 pc) = true := by decide +kernel
theorem bkE_30 : ∀ pc, chBk 30 pc = true := bkG bkD_30 (fun pc h => by show (bif Nat.blt pc 31 then _ else none) = none; rw [h]; rfl)
theorem bkD_31 : (List.range 68).all (fun pc => chBk 31 pc) = true := by decide +kernel
theorem bkE_31 : ∀ pc, chBk 31 pc = true := bkG bkD_31 (fun pc h => by show (bif Nat.blt pc 68 then _ else none) = none; rw [h]; rfl)
theorem bkD_32 : (List.range 27).all (fun pc => chBk 32 pc) = true := by decide +kernel
theorem bkE_32 : ∀ pc, chBk 32 pc = true := bkG bkD_32 (fun pc h => by show (bif Nat.blt pc 27 then _ else none) = none; rw [h]; rfl)
theorem bkD_33 : (List.range 45).all (fun pc => chBk 33 pc) = true := by decide +kernel
theorem bkE_33 : ∀ pc, chBk 33 pc = true := bkG bkD_33 (fun pc h => by show (bif Nat.blt pc 45 then _ else none) = none; rw [h]; rfl)
theorem bkD_35 : (List.range 56).all (fun pc => chBk 35 pc) = true := by decide +kernel
theorem bkE_35 : ∀ pc, chBk 35 pc = true := bkG bkD_35 (fun pc h => by show (bif Nat.blt pc 56 then _ else none) = none; rw [h]; rfl)
theorem bkD_36 : (List.range 177).all (fun pc => chBk 36 pc) = true := by decide +kernel
theorem bkE_36 : ∀ pc, chBk 36 pc = true := bkG bkD_36 (fun pc h => by show (bif Nat.blt pc 177 then _ else none) = none; rw [h]; rfl)
theorem bkD_37 : (List.range 95).all (fun pc => chBk 37 pc) = true := by decide +kernel
theorem bkE_37 : ∀ pc, chBk 37 pc = true := bkG bkD_37 (fun pc h => by show (bif Nat.blt pc 95 then _ else none) = none; rw [h]; rfl)
theorem bkD_38 : (List.range 121).all (fun pc => chBk 38 pc) = true := by decide +kernel
theorem bkE_38 : ∀ pc, chBk 38 pc = true := bkG bkD_38 (fun pc h => by show (bif Nat.blt pc 121 then _ else none) = none; rw [h]; rfl)
theorem bkD_39 : (List.range 166).all (fun pc => chBk 39 pc) = true := by decide +kernel
theorem bkE_39 : ∀ pc, chBk 39 pc = true := bkG bkD_39 (fun pc h => by show (bif Nat.blt pc 166 then _ else none) = none; rw [h]; rfl)
theorem bkD_40 : (List.range 128).all (fun pc => chBk 40 pc) = true := by decide +kernel
theorem bkE_40 : ∀ pc, chBk 40 pc = true := bkG bkD_40 (fun pc h => by show (bif Nat.blt pc 128 then _ else none) = none; rw [h]; rfl)
theorem bkD_41 : (List.range 76).all (fun pc => chBk 41 pc) = true := by decide +kernel
theorem bkE_41 : ∀ pc, chBk 41 pc = true := bkG bkD_41 (fun pc h => by show (bif Nat.blt pc 76 then _ else none) = none; rw [h]; rfl)
theorem bkD_42 : (List.range 49).all (fun pc => chBk 42 pc) = true := by decide +kernel
theorem bkE_42 : ∀ pc, chBk 42 pc = true := bkG bkD_42 (fun pc h => by show (bif Nat.blt pc 49 then _ else none) = none; rw [h]; rfl)
theorem bkD_43 : (List.range 70).all (fun pc => chBk 43 pc) = true := by decide +kernel
theorem bkE_43 : ∀ pc, chBk 43 pc = true := bkG bkD_43 (fun pc h => by show (bif Nat.blt pc 70 then _ else none) = none; rw [h]; rfl)
theorem bkD_45 : (List.range 16).all (fun pc => chBk 45 pc) = true := by decide +kernel
theorem bkE_45 : ∀ pc, chBk 45 pc = true := bkG bkD_45 (fun pc h => by show (bif Nat.blt pc 16 then _ else none) = none; rw [h]; rfl)
theorem bkD_46 : (List.range 64).all (fun pc => chBk 46 pc) = true := by decide +kernel
theorem bkE_46 : ∀ pc, chBk 46 pc = true := bkG bkD_46 (fun pc h => by show (bif Nat.blt pc 64 then _ else none) = none; rw [h]; rfl)
theorem bkD_47 : (List.range 91).all (fun pc => chBk 47 pc) = true := by decide +kernel
theorem bkE_47 : ∀ pc, chBk 47 pc = true := bkG bkD_47 (fun pc h => by show (bif Nat.blt pc 91 then _ else none) = none; rw [h]; rfl)
theorem bkD_49 : (List.range 6).all (fun pc => chBk 49 pc) = true := by decide +kernel
theorem bkE_49 : ∀ pc, chBk 49 pc = true := bkG bkD_49 (fun pc h => by show (bif Nat.blt pc 6 then _ else none) = none; rw [h]; rfl)
theorem bkD_50 : (List.range 14).all (fun pc => chBk 50 pc) = true := by decide +kernel
theorem bkE_50 : ∀ pc, chBk 50 pc = true := bkG bkD_50 (fun pc h => by show (bif Nat.blt pc 14 then _ else none) = none; rw [h]; rfl)
theorem bkD_53 : (List.range 27).all (fun pc => chBk 53 pc) = true := by decide +kernel
theorem bkE_53 : ∀ pc, chBk 53 pc = true := bkG bkD_53 (fun pc h => by show (bif Nat.blt pc 27 then _ else none) = none; rw [h]; rfl)
theorem bkD_55 : (List.range 45).all (fun pc => chBk 55 pc) = true := by decide +kernel
theorem bkE_55 : ∀ pc, chBk 55 pc = true := bkG bkD_55 (fun pc h => by show (bif Nat.blt pc 45 then _ else none) = none; rw [h]; rfl)
theorem bkD_56 : (List.range 33).all (fun pc => chBk 56 pc) = true := by decide +kernel
theorem bkE_56 : ∀ pc, chBk 56 pc = true := bkG bkD_56 (fun pc h => by show (bif Nat.blt pc 33 then _ else none) = none; rw [h]; rfl)
theorem bkD_57 : (List.range 84).all (fun pc => chBk 57 pc) = true := by decide +kernel
theorem bkE_57 : ∀ pc, chBk 57 pc = true := bkG bkD_57 (fun pc h => by show (bif Nat.blt pc 84 then _ else none) = none; rw [h]; rfl)
theorem bkD_58 : (List.range 16).all (fun pc => chBk 58 pc) = true := by decide +kernel
theorem bkE_58 : ∀ pc, chBk 58 pc = true := bkG bkD_58 (fun pc h => by show (bif Nat.blt pc 16 then _ else none) = none; rw [h]; rfl)
theorem bkD_59 : (List.range 75).all (fun pc => chBk 59 pc) = true := by decide +kernel
theorem bkE_59 : ∀ pc, chBk 59 pc = true := bkG bkD_59 (fun pc h => by show (bif Nat.blt pc 75 then _ else none) = none; rw [h]; rfl)
theorem bkD_60 : (List.range 28).all (fun pc => chBk 60 pc) = true := by decide +kernel
theorem bkE_60 : ∀ pc, chBk 60 pc = true := bkG bkD_60 (fun pc h => by show (bif Nat.blt pc 28 then _ else none) = none; rw [h]; rfl)
theorem bkD_61 : (List.range 32).all (fun pc => chBk 61 pc) = true := by decide +kernel
theorem bkE_61 : ∀ pc, chBk 61 pc = true := bkG bkD_61 (fun pc h => by show (bif Nat.blt pc 32 then _ else none) = none; rw [h]; rfl)
theorem bkD_62 : (List.range 81).all (fun pc => chBk 62 pc) = true := by decide +kernel
theorem bkE_62 : ∀ pc, chBk 62 pc = true := bkG bkD_62 (fun pc h => by show (bif Nat.blt pc 81 then _ else none) = none; rw [h]; rfl)
theorem bkD_64 : (List.range 12).all (fun pc => chBk 64 pc) = true := by decide +kernel
theorem bkE_64 : ∀ pc, chBk 64 pc = true := bkG bkD_64 (fun pc h => by show (bif Nat.blt pc 12 then _ else none) = none; rw [h]; rfl)
theorem bkD_65 : (List.range 13).all (fun pc => chBk 65 pc) = true := by decide +kernel
theorem bkE_65 : ∀ pc, chBk 65 pc = true := bkG bkD_65 (fun pc h => by show (bif Nat.blt pc 13 then _ else none) = none; rw [h]; rfl)
theorem bkD_66 : (List.range 33).all (fun pc => chBk 66 pc) = true := by decide +kernel
theorem bkE_66 : ∀ pc, chBk 66 pc = true := bkG bkD_66 (fun pc h => by show (bif Nat.blt pc 33 then _ else none) = none; rw [h]; rfl)
theorem bkD_67 : (List.range 30).all (fun pc => chBk 67 pc) = true := by decide +kernel
theorem bkE_67 : ∀ pc, chBk 67 pc = true := bkG bkD_67 (fun pc h => by show (bif Nat.blt pc 30 then _ else none) = none; rw [h]; rfl)
theorem bkD_68 : (List.range 32).all (fun pc => chBk 68 pc) = true := by decide +kernel
theorem bkE_68 : ∀ pc, chBk 68 pc = true := bkG bkD_68 (fun pc h => by show (bif Nat.blt pc 32 then _ else none) = none; rw [h]; rfl)
theorem bkD_70 : (List.range 106).all (fun pc => chBk 70 pc) = true := by decide +kernel
theorem bkE_70 : ∀ pc, chBk 70 pc = true := bkG bkD_70 (fun pc h => by show (bif Nat.blt pc 106 then _ else none) = none; rw [h]; rfl)
theorem bkD_71 : (List.range 34).all (fun pc => chBk 71 pc) = true := by decide +kernel
theorem bkE_71 : ∀ pc, chBk 71 pc = true := bkG bkD_71 (fun pc h => by show (bif Nat.blt pc 34 then _ else none) = none; rw [h]; rfl)
theorem bkD_72 : (List.range 49).all (fun pc => chBk 72 pc) = true := by decide +kernel
theorem bkE_72 : ∀ pc, chBk 72 pc = true := bkG bkD_72 (fun pc h => by show (bif Nat.blt pc 49 then _ else none) = none; rw [h]; rfl)
theorem bkD_73 : (List.range 28).all (fun pc => chBk 73 pc) = true := by decide +kernel
theorem bkE_73 : ∀ pc, chBk 73 pc = true := bkG bkD_73 (fun pc h => by show (bif Nat.blt pc 28 then _ else none) = none; rw [h]; rfl)
theorem bkD_75 : (List.range 42).all (fun pc => chBk 75 pc) = true := by decide +kernel
theorem bkE_75 : ∀ pc, chBk 75 pc = true := bkG bkD_75 (fun pc h => by show (bif Nat.blt pc 42 then _ else none) = none; rw [h]; rfl)
theorem bkD_76 : (List.range 26).all (fun pc => chBk 76 pc) = true := by decide +kernel
theorem bkE_76 : ∀ pc, chBk 76 pc = true := bkG bkD_76 (fun pc h => by show (bif Nat.blt pc 26 then _ else none) = none; rw [h]; rfl)
theorem bkD_77 : (List.range 55).all (fun pc => chBk 77 pc) = true := by decide +kernel
theorem bkE_77 : ∀ pc, chBk 77 pc = true := bkG bkD_77 (fun pc h => by show (bif Nat.blt pc 55 then _ else none) = none; rw [h]; rfl)
theorem bkD_79 : (List.range 12).all (fun pc => chBk 79 pc) = true := by decide +kernel
theorem bkE_79 : ∀ pc, chBk 79 pc = true := bkG bkD_79 (fun pc h => by show (bif Nat.blt pc 12 then _ else none) = none; rw [h]; rfl)
theorem bkD_80 : (List.range 48).all (fun pc => chBk 80 pc) = true := by decide +kernel
theorem bkE_80 : ∀ pc, chBk 80 pc = true := bkG bkD_80 (fun pc h => by show (bif Nat.blt pc 48 then _ else none) = none; rw [h]; rfl)
theorem bkD_81 : (List.range 57).all (fun pc => chBk 81 pc) = true := by decide +kernel
theorem bkE_81 : ∀ pc, chBk 81 pc = true := bkG bkD_81 (fun pc h => by show (bif Nat.blt pc 57 then _ else none) = none; rw [h]; rfl)
theorem bkD_82 : (List.range 113).all (fun pc => chBk 82 pc) = true := by decide +kernel
theorem bkE_82 : ∀ pc, chBk 82 pc = true := bkG bkD_82 (fun pc h => by show (bif Nat.blt pc 113 then _ else none) = none; rw [h]; rfl)
theorem bkD_83 : (List.range 71).all (fun pc => chBk 83 pc) = true := by decide +kernel
theorem bkE_83 : ∀ pc, chBk 83 pc = true := bkG bkD_83 (fun pc h => by show (bif Nat.blt pc 71 then _ else none) = none; rw [h]; rfl)
theorem bkD_84 : (List.range 35).all (fun pc => chBk 84 pc) = true := by decide +kernel
theorem bkE_84 : ∀ pc, chBk 84 pc = true := bkG bkD_84 (fun pc h => by show (bif Nat.blt pc 35 then _ else none) = none; rw [h]; rfl)
theorem bkD_85 : (List.range 54).all (fun pc => chBk 85 pc) = true := by decide +kernel
theorem bkE_85 : ∀ pc, chBk 85 pc = true := bkG bkD_85 (fun pc h => by show (bif Nat.blt pc 54 then _ else none) = none; rw [h]; rfl)
theorem bkD_86 : (List.range 63).all (fun pc => chBk 86 pc) = true := by decide +kernel
theorem bkE_86 : ∀ pc, chBk 86 pc = true := bkG bkD_86 (fun pc h => by show (bif Nat.blt pc 63 then _ else none) = none; rw [h]; rfl)
theorem bkD_87 : (List.range 159).all (fun pc => chBk 87 pc) = true := by decide +kernel
theorem bkE_87 : ∀ pc, chBk 87 pc = true := bkG bkD_87 (fun pc h => by show (bif Nat.blt pc 159 then _ else none) = none; rw [h]; rfl)
theorem bkD_88 : (List.range 35).all (fun pc => chBk 88 pc) = true := by decide +kernel
theorem bkE_88 : ∀ pc, chBk 88 pc = true := bkG bkD_88 (fun pc h => by show (bif Nat.blt pc 35 then _ else none) = none; rw [h]; rfl)
theorem bkD_90 : (List.range 56).all (fun pc => chBk 90 pc) = true := by decide +kernel
theorem bkE_90 : ∀ pc, chBk 90 pc = true := bkG bkD_90 (fun pc h => by show (bif Nat.blt pc 56 then _ else none) = none; rw [h]; rfl)
theorem bkD_91 : (List.range 9).all (fun pc => chBk 91 pc) = true := by decide +kernel
theorem bkE_91 : ∀ pc, chBk 91 pc = true := bkG bkD_91 (fun pc h => by show (bif Nat.blt pc 9 then _ else none) = none; rw [h]; rfl)
theorem bkD_92 : (List.range 8).all (fun pc => chBk 92 pc) = true := by decide +kernel
theorem bkE_92 : ∀ pc, chBk 92 pc = true := bkG bkD_92 (fun pc h => by show (bif Nat.blt pc 8 then _ else none) = none; rw [h]; rfl)
theorem bkD_93 : (List.range 31).all (fun pc => chBk 93 pc) = true := by decide +kernel
theorem bkE_93 : ∀ pc, chBk 93 pc = true := bkG bkD_93 (fun pc h => by show (bif Nat.blt pc 31 then _ else none) = none; rw [h]; rfl)
theorem bkD_94 : (List.range 48).all (fun pc => chBk 94 pc) = true := by decide +kernel
theorem bkE_94 : ∀ pc, chBk 94 pc = true := bkG bkD_94 (fun pc h => by show (bif Nat.blt pc 48 then _ else none) = none; rw [h]; rfl)
theorem bkD_95 : (List.range 8).all (fun pc => chBk 95 pc) = true := by decide +kernel
theorem bkE_95 : ∀ pc, chBk 95 pc = true := bkG bkD_95 (fun pc h => by show (bif Nat.blt pc 8 then _ else none) = none; rw [h]; rfl)
theorem bkD_96 : (List.range 7).all (fun pc => chBk 96 pc) = true := by decide +kernel
theorem bkE_96 : ∀ pc, chBk 96 pc = true := bkG bkD_96 (fun pc h => by show (bif Nat.blt pc 7 then _ else none) = none; rw [h]; rfl)
theorem bkD_97 : (List.range 8).all (fun pc => chBk 97 pc) = true := by decide +kernel
theorem bkE_97 : ∀ pc, chBk 97 pc = true := bkG bkD_97 (fun pc h => by show (bif Nat.blt pc 8 then _ else none) = none; rw [h]; rfl)
theorem bkD_98 : (List.range 35).all (fun pc => chBk 98 pc) = true := by decide +kernel
theorem bkE_98 : ∀ pc, chBk 98 pc = true := bkG bkD_98 (fun pc h => by show (bif Nat.blt pc 35 then _ else none) = none; rw [h]; rfl)
theorem bkD_100 : (List.range 11).all (fun pc => chBk 100 pc) = true := by decide +kernel
theorem bkE_100 : ∀ pc, chBk 100 pc = true := bkG bkD_100 (fun pc h => by show (bif Nat.blt pc 11 then _ else none) = none; rw [h]; rfl)
theorem bkD_101 : (List.range 71).all (fun pc => chBk 101 pc) = true := by decide +kernel
theorem bkE_101 : ∀ pc, chBk 101 pc = true := bkG bkD_101 (fun pc h => by show (bif Nat.blt pc 71 then _ else none) = none; rw [h]; rfl)
theorem bkD_103 : (List.range 20).all (fun pc => chBk 103 pc) = true := by decide +kernel
theorem bkE_103 : ∀ pc, chBk 103 pc = true := bkG bkD_103 (fun pc h => by show (bif Nat.blt pc 20 then _ else none) = none; rw [h]; rfl)
theorem bkD_104 : (List.range 8).all (fun pc => chBk 104 pc) = true := by decide +kernel
theorem bkE_104 : ∀ pc, chBk 104 pc = true := bkG bkD_104 (fun pc h => by show (bif Nat.blt pc 8 then _ else none) = none; rw [h]; rfl)
theorem bkD_105 : (List.range 33).all (fun pc => chBk 105 pc) = true := by decide +kernel
theorem bkE_105 : ∀ pc, chBk 105 pc = true := bkG bkD_105 (fun pc h => by show (bif Nat.blt pc 33 then _ else none) = none; rw [h]; rfl)
theorem bkD_106 : (List.range 33).all (fun pc => chBk 106 pc) = true := by decide +kernel
theorem bkE_106 : ∀ pc, chBk 106 pc = true := bkG bkD_106 (fun pc h => by show (bif Nat.blt pc 33 then _ else none) = none; rw [h]; rfl)
theorem bkD_107 : (List.range 44).all (fun pc => chBk 107 pc) = true := by decide +kernel
theorem bkE_107 : ∀ pc, chBk 107 pc = true := bkG bkD_107 (fun pc h => by show (bif Nat.blt pc 44 then _ else none) = none; rw [h]; rfl)
theorem bkD_108 : (List.range 21).all (fun pc => chBk 108 pc) = true := by decide +kernel
theorem bkE_108 : ∀ pc, chBk 108 pc = true := bkG bkD_108 (fun pc h => by show (bif Nat.blt pc 21 then _ else none) = none; rw [h]; rfl)
theorem bkD_109 : (List.range 62).all (fun pc => chBk 109 pc) = true := by decide +kernel
theorem bkE_109 : ∀ pc, chBk 109 pc = true := bkG bkD_109 (fun pc h => by show (bif Nat.blt pc 62 then _ else none) = none; rw [h]; rfl)
theorem bkD_111 : (List.range 117).all (fun pc => chBk 111 pc) = true := by decide +kernel
theorem bkE_111 : ∀ pc, chBk 111 pc = true := bkG bkD_111 (fun pc h => by show (bif Nat.blt pc 117 then _ else none) = none; rw [h]; rfl)
theorem bkD_113 : (List.range 17).all (fun pc => chBk 113 pc) = true := by decide +kernel
theorem bkE_113 : ∀ pc, chBk 113 pc = true := bkG bkD_113 (fun pc h => by show (bif Nat.blt pc 17 then _ else none) = none; rw [h]; rfl)
theorem bkD_114 : (List.range 21).all (fun pc => chBk 114 pc) = true := by decide +kernel
theorem bkE_114 : ∀ pc, chBk 114 pc = true := bkG bkD_114 (fun pc h => by show (bif Nat.blt pc 21 then _ else none) = none; rw [h]; rfl)
theorem bkD_115 : (List.range 21).all (fun pc => chBk 115 pc) = true := by decide +kernel
theorem bkE_115 : ∀ pc, chBk 115 pc = true := bkG bkD_115 (fun pc h => by show (bif Nat.blt pc 21 then _ else none) = none; rw [h]; rfl)
theorem bkD_116 : (List.range 53).all (fun pc => chBk 116 pc) = true := by decide +kernel
theorem bkE_116 : ∀ pc, chBk 116 pc = true := bkG bkD_116 (fun pc h => by show (bif Nat.blt pc 53 then _ else none) = none; rw [h]; rfl)
theorem bkD_117 : (List.range 63).all (fun pc => chBk 117 pc) = true := by decide +kernel
theorem bkE_117 : ∀ pc, chBk 117 pc = true := bkG bkD_117 (fun pc h => by show (bif Nat.blt pc 63 then _ else none) = none; rw [h]; rfl)
theorem bkD_118 : (List.range 64).all (fun pc => chBk 118 pc) = true := by decide +kernel
theorem bkE_118 : ∀ pc, chBk 118 pc = true := bkG bkD_118 (fun pc h => by show (bif Nat.blt pc 64 then _ else none) = none; rw [h]; rfl)
theorem bkD_120 : (List.range 42).all (fun pc => chBk 120 pc) = true := by decide +kernel
theorem bkE_120 : ∀ pc, chBk 120 pc = true := bkG bkD_120 (fun pc h => by show (bif Nat.blt pc 42 then _ else none) = none; rw [h]; rfl)
theorem bkD_121 : (List.range 66).all (fun pc => chBk 121 pc) = true := by decide +kernel
theorem bkE_121 : ∀ pc, chBk 121 pc = true := bkG bkD_121 (fun pc h => by show (bif Nat.blt pc 66 then _ else none) = none; rw [h]; rfl)
theorem bkD_122 : (List.range 51).all (fun pc => chBk 122 pc) = true := by decide +kernel
theorem bkE_122 : ∀ pc, chBk 122 pc = true := bkG bkD_122 (fun pc h => by show (bif Nat.blt pc 51 then _ else none) = none; rw [h]; rfl)
theorem bkD_124 : (List.range 24).all (fun pc => chBk 124 pc) = true := by decide +kernel
theorem bkE_124 : ∀ pc, chBk 124 pc = true := bkG bkD_124 (fun pc h => by show (bif Nat.blt pc 24 then _ else none) = none; rw [h]; rfl)
theorem bkD_126 : (List.range 17).all (fun pc => chBk 126 pc) = true := by decide +kernel
theorem bkE_126 : ∀ pc, chBk 126 pc = true := bkG bkD_126 (fun pc h => by show (bif Nat.blt pc 17 then _ else none) = none; rw [h]; rfl)
theorem bkD_127 : (List.range 23).all (fun pc => chBk 127 pc) = true := by decide +kernel
theorem bkE_127 : ∀ pc, chBk 127 pc = true := bkG bkD_127 (fun pc h => by show (bif Nat.blt pc 23 then _ else none) = none; rw [h]; rfl)
theorem bkD_128 : (List.range 17).all (fun pc => chBk 128 pc) = true := by decide +kernel
theorem bkE_128 : ∀ pc, chBk 128 pc = true := bkG bkD_128 (fun pc h => by show (bif Nat.blt pc 17 then _ else none) = none; rw [h]; rfl)
theorem bkD_129 : (List.range 69).all (fun pc => chBk 129 pc) = true := by decide +kernel
theorem bkE_129 : ∀ pc, chBk 129 pc = true := bkG bkD_129 (fun pc h => by show (bif Nat.blt pc 69 then _ else none) = none; rw [h]; rfl)
theorem bkD_130 : (List.range 84).all (fun pc => chBk 130 pc) = true := by decide +kernel
theorem bkE_130 : ∀ pc, chBk 130 pc = true := bkG bkD_130 (fun pc h => by show (bif Nat.blt pc 84 then _ else none) = none; rw [h]; rfl)
theorem bkD_131 : (List.range 19).all (fun pc => chBk 131 pc) = true := by decide +kernel
theorem bkE_131 : ∀ pc, chBk 131 pc = true := bkG bkD_131 (fun pc h => by show (bif Nat.blt pc 19 then _ else none) = none; rw [h]; rfl)
theorem bkD_132 : (List.range 11).all (fun pc => chBk 132 pc) = true := by decide +kernel
theorem bkE_132 : ∀ pc, chBk 132 pc = true := bkG bkD_132 (fun pc h => by show (bif Nat.blt pc 11 then _ else none) = none; rw [h]; rfl)
theorem bkD_133 : (List.range 62).all (fun pc => chBk 133 pc) = true := by decide +kernel
theorem bkE_133 : ∀ pc, chBk 133 pc = true := bkG bkD_133 (fun pc h => by show (bif Nat.blt pc 62 then _ else none) = none; rw [h]; rfl)
theorem bkD_134 : (List.range 15).all (fun pc => chBk 134 pc) = true := by decide +kernel
theorem bkE_134 : ∀ pc, chBk 134 pc = true := bkG bkD_134 (fun pc h => by show (bif Nat.blt pc 15 then _ else none) = none; rw [h]; rfl)
theorem bkD_135 : (List.range 95).all (fun pc => chBk 135 pc) = true := by decide +kernel
theorem bkE_135 : ∀ pc, chBk 135 pc = true := bkG bkD_135 (fun pc h => by show (bif Nat.blt pc 95 then _ else none) = none; rw [h]; rfl)
theorem bkD_136 : (List.range 71).all (fun pc => chBk 136 pc) = true := by decide +kernel
theorem bkE_136 : ∀ pc, chBk 136 pc = true := bkG bkD_136 (fun pc h => by show (bif Nat.blt pc 71 then _ else none) = none; rw [h]; rfl)
theorem bkD_140 : (List.range 30).all (fun pc => chBk 140 pc) = true := by decide +kernel
theorem bkE_140 : ∀ pc, chBk 140 pc = true := bkG bkD_140 (fun pc h => by show (bif Nat.blt pc 30 then _ else none) = none; rw [h]; rfl)
theorem bkD_141 : (List.range 51).all (fun pc => chBk 141 pc) = true := by decide +kernel
theorem bkE_141 : ∀ pc, chBk 141 pc = true := bkG bkD_141 (fun pc h => by show (bif Nat.blt pc 51 then _ else none) = none; rw [h]; rfl)
theorem bkD_142 : (List.range 118).all (fun pc => chBk 142 pc) = true := by decide +kernel
theorem bkE_142 : ∀ pc, chBk 142 pc = true := bkG bkD_142 (fun pc h => by show (bif Nat.blt pc 118 then _ else none) = none; rw [h]; rfl)
theorem bkD_143 : (List.range 41).all (fun pc => chBk 143 pc) = true := by decide +kernel
theorem bkE_143 : ∀ pc, chBk 143 pc = true := bkG bkD_143 (fun pc h => by show (bif Nat.blt pc 41 then _ else none) = none; rw [h]; rfl)
theorem bkD_144 : (List.range 12).all (fun pc => chBk 144 pc) = true := by decide +kernel
theorem bkE_144 : ∀ pc, chBk 144 pc = true := bkG bkD_144 (fun pc h => by show (bif Nat.blt pc 12 then _ else none) = none; rw [h]; rfl)
theorem bkD_145 : (List.range 84).all (fun pc => chBk 145 pc) = true := by decide +kernel
theorem bkE_145 : ∀ pc, chBk 145 pc = true := bkG bkD_145 (fun pc h => by show (bif Nat.blt pc 84 then _ else none) = none; rw [h]; rfl)
theorem bkD_146 : (List.range 30).all (fun pc => chBk 146 pc) = true := by decide +kernel
theorem bkE_146 : ∀ pc, chBk 146 pc = true := bkG bkD_146 (fun pc h => by show (bif Nat.blt pc 30 then _ else none) = none; rw [h]; rfl)
theorem bkD_147 : (List.range 31).all (fun pc => chBk 147 pc) = true := by decide +kernel
theorem bkE_147 : ∀ pc, chBk 147 pc = true := bkG bkD_147 (fun pc h => by show (bif Nat.blt pc 31 then _ else none) = none; rw [h]; rfl)
theorem bkD_148 : (List.range 56).all (fun pc => chBk 148 pc) = true := by decide +kernel
theorem bkE_148 : ∀ pc, chBk 148 pc = true := bkG bkD_148 (fun pc h => by show (bif Nat.blt pc 56 then _ else none) = none; rw [h]; rfl)
theorem bkD_149 : (List.range 6).all (fun pc => chBk 149 pc) = true := by decide +kernel
theorem bkE_149 : ∀ pc, chBk 149 pc = true := bkG bkD_149 (fun pc h => by show (bif Nat.blt pc 6 then _ else none) = none; rw [h]; rfl)
theorem bkD_150 : (List.range 16).all (fun pc => chBk 150 pc) = true := by decide +kernel
theorem bkE_150 : ∀ pc, chBk 150 pc = true := bkG bkD_150 (fun pc h => by show (bif Nat.blt pc 16 then _ else none) = none; rw [h]; rfl)
theorem bkD_151 : (List.range 32).all (fun pc => chBk 151 pc) = true := by decide +kernel
theorem bkE_151 : ∀ pc, chBk 151 pc = true := bkG bkD_151 (fun pc h => by show (bif Nat.blt pc 32 then _ else none) = none; rw [h]; rfl)
theorem bkD_152 : (List.range 21).all (fun pc => chBk 152 pc) = true := by decide +kernel
theorem bkE_152 : ∀ pc, chBk 152 pc = true := bkG bkD_152 (fun pc h => by show (bif Nat.blt pc 21 then _ else none) = none; rw [h]; rfl)
theorem bkD_153 : (List.range 22).all (fun pc => chBk 153 pc) = true := by decide +kernel
theorem bkE_153 : ∀ pc, chBk 153 pc = true := bkG bkD_153 (fun pc h => by show (bif Nat.blt pc 22 then _ else none) = none; rw [h]; rfl)
theorem bkD_310 : (List.range 53).all (fun pc => chBk 310 pc) = true := by decide +kernel
theorem bkE_310 : ∀ pc, chBk 310 pc = true := bkG bkD_310 (fun pc h => by show (bif Nat.blt pc 53 then _ else none) = none; rw [h]; rfl)
theorem bkD_311 : (List.range 21).all (fun pc => chBk 311 pc) = true := by decide +kernel
theorem bkE_311 : ∀ pc, chBk 311 pc = true := bkG bkD_311 (fun pc h => by show (bif Nat.blt pc 21 then _ else none) = none; rw [h]; rfl)
theorem bkD_312 : (List.range 11).all (fun pc => chBk 312 pc) = true := by decide +kernel
theorem bkE_312 : ∀ pc, chBk 312 pc = true := bkG bkD_312 (fun pc h => by show (bif Nat.blt pc 11 then _ else none) = none; rw [h]; rfl)
theorem bkD_313 : (List.range 15).all (fun pc => chBk 313 pc) = true := by decide +kernel
theorem bkE_313 : ∀ pc, chBk 313 pc = true := bkG bkD_313 (fun pc h => by show (bif Nat.blt pc 15 then _ else none) = none; rw [h]; rfl)
theorem bkD_314 : (List.range 19).all (fun pc => chBk 314 pc) = true := by decide +kernel
theorem bkE_314 : ∀ pc, chBk 314 pc = true := bkG bkD_314 (fun pc h => by show (bif Nat.blt pc 19 then _ else none) = none; rw [h]; rfl)
theorem bkD_315 : (List.range 25).all (fun pc => chBk 315 pc) = true := by decide +kernel
theorem bkE_315 : ∀ pc, chBk 315 pc = true := bkG bkD_315 (fun pc h => by show (bif Nat.blt pc 25 then _ else none) = none; rw [h]; rfl)
theorem bkD_316 : (List.range 15).all (fun pc => chBk 316 pc) = true := by decide +kernel
theorem bkE_316 : ∀ pc, chBk 316 pc = true := bkG bkD_316 (fun pc h => by show (bif Nat.blt pc 15 then _ else none) = none; rw [h]; rfl)
theorem bkD_317 : (List.range 23).all (fun pc => chBk 317 pc) = true := by decide +kernel
theorem bkE_317 : ∀ pc, chBk 317 pc = true := bkG bkD_317 (fun pc h => by show (bif Nat.blt pc 23 then _ else none) = none; rw [h]; rfl)
theorem bkF_0 : ∀ j, j < 40 → bk (0 + j) = true → ∀ pc, chBk (0 + j) pc = true := lt_s (p := fun j => bk (0 + j) = true → ∀ pc, chBk (0 + j) pc = true) (lt_s (p := fun j => bk (0 + j) = true → ∀ pc, chBk (0 + j) pc = true) (lt_s (p := fun j => bk (0 + j) = true → ∀ pc, chBk (0 + j) pc = true) (lt_s (p := fun j => bk (0 + j) = true → ∀ pc, chBk (0 + j) pc = true) (lt_s (p := fun j => bk (0 + j) = true → ∀ pc, chBk (0 + j) pc = true) (lt_s (p := fun j => bk (0 + j) = true → ∀ pc, chBk (0 + j) pc = true) (lt_s (p := fun j => bk (0 + j) = true → ∀ pc, chBk (0 + j) pc = true) (lt_s (p := fun j => bk (0 + j) = true → ∀ pc, chBk (0 + j) pc = true) (lt_s (p := fun j => bk (0 + j) = true → ∀ pc, chBk (0 + j) pc = true) (lt_s (p := fun j => bk (0 + j) = true → ∀ pc, chBk (0 + j) pc = true) (lt_s (p := fun j => bk (0 + j) = true → ∀ pc, chBk (0 + j) pc = true) (lt_s (p := fun j => bk (0 + j) = true → ∀ pc, chBk (0 + j) pc = true) (lt_s (p := fun j => bk (0 + j) = true → ∀ pc, chBk (0 + j) pc = true) (lt_s (p := fun j => bk (0 + j) = true → ∀ pc, chBk (0 + j) pc = true) (lt_s (p := fun j => bk (0 + j) = true → ∀ pc, chBk (0 + j) pc = true) (lt_s (p := fun j => bk (0 + j) = true → ∀ pc, chBk (0 + j) pc = true) (lt_s (p := fun j => bk (0 + j) = true → ∀ pc, chBk (0 + j) pc = true) (lt_s (p := fun j => bk (0 + j) = true → ∀ pc, chBk (0 + j) pc = true) (lt_s (p := fun j => bk (0 + j) = true → ∀ pc, chBk (0 + j) pc = true) (lt_s (p := fun j => bk (0 + j) = true → ∀ pc, chBk (0 + j) pc = true) (lt_s (p := fun j => bk (0 + j) = true → ∀ pc, chBk (0 + j) pc = true) (lt_s (p := fun j => bk (0 + j) = true → ∀ pc, chBk (0 + j) pc = true) (lt_s (p := fun j => bk (0 + j) = true → ∀ pc, chBk (0 + j) pc = true) (lt_s (p := fun j => bk (0 + j) = true → ∀ pc, chBk (0 + j) pc = true) (lt_s (p := fun j => bk (0 + j) = true → ∀ pc, chBk (0 + j) pc = true) (lt_s (p := fun j => bk (0 + j) = true → ∀ pc, chBk (0 + j) pc = true) (lt_s (p := fun j => bk (0 + j) = true → ∀ pc, chBk (0 + j) pc = true) (lt_s (p := fun j => bk (0 + j) = true → ∀ pc, chBk (0 + j) pc = true) (lt_s (p := fun j => bk (0 + j) = true → ∀ pc, chBk (0 + j) pc = true) (lt_s (p := fun j => bk (0 + j) = true → ∀ pc, chBk (0 + j) pc = true) (lt_s (p := fun j => bk (0 + j) = true → ∀ pc, chBk (0 + j) pc = true) (lt_s (p := fun j => bk (0 + j) = true → ∀ pc, chBk (0 + j) pc = true) (lt_s (p := fun j => bk (0 + j) = true → ∀ pc, chBk (0 + j) pc = true) (lt_s (p := fun j => bk (0 + j) = true → ∀ pc, chBk (0 + j) pc = true) (lt_s (p := fun j => bk (0 + j) = true → ∀ pc, chBk (0 + j) pc = true) (lt_s (p := fun j => bk (0 + j) = true → ∀ pc, chBk (0 + j) pc = true) (lt_s (p := fun j => bk (0 + j) = true → ∀ pc, chBk (0 + j) pc = true) (lt_s (p := fun j => bk (0 + j) = true → ∀ pc, chBk (0 + j) pc = true) (lt_s (p := fun j => bk (0 + j) = true → ∀ pc, chBk (0 + j) pc = true) (lt_s (p := fun j => bk (0 + j) = true → ∀ pc, chBk (0 + j) pc = true) (lt_0) (fun h => by cases h)) (fun _ => bkE_1)) (fun _ => bkE_2)) (fun _ => bkE_3)) (fun _ => bkE_4)) (fun _ => bkE_5)) (fun h => by cases h)) (fun _ => bkE_7)) (fun _ => bkE_8)) (fun _ => bkE_9)) (fun _ => bkE_10)) (fun _ => bkE_11)) (fun h => by cases h)) (fun _ => bkE_13)) (fun _ => bkE_14)) (fun _ => bkE_15)) (fun _ => bkE_16)) (fun h => by cases h)) (fun _ => bkE_18)) (fun _ => bkE_19)) (fun _ => bkE_20)) (fun _ => bkE_21)) (fun _ => bkE_22)) (fun _ => bkE_23)) (fun _ => bkE_24)) (fun _ => bkE_25)) (fun _ => bkE_26)) (fun h => by cases h)) (fun _ => bkE_28)) (fun _ => bkE_29)) (fun _ => bkE_30)) (fun _ => bkE_31)) (fun _ => bkE_32)) (fun _ => bkE_33)) (fun h => by cases h)) (fun _ => bkE_35)) (fun _ => bkE_36)) (fun _ => bkE_37)) (fun _ => bkE_38)) (fun _ => bkE_39)
theorem bkF_40 : ∀ j, j < 40 → bk (40 + j) = true → ∀ pc, chBk (40 + j) pc = true := lt_s (p := fun j => bk (40 + j) = true → ∀ pc, chBk (40 + j) pc = true) (lt_s (p := fun j => bk (40 + j) = true → ∀ pc, chBk (40 + j) pc = true) (lt_s (p := fun j => bk (40 + j) = true → ∀ pc, chBk (40 + j) pc = true) (lt_s (p := fun j => bk (40 + j) = true → ∀ pc, chBk (40 + j) pc = true) (lt_s (p := fun j => bk (40 + j) = true → ∀ pc, chBk (40 + j) pc = true) (lt_s (p := fun j => bk (40 + j) = true → ∀ pc, chBk (40 + j) pc = true) (lt_s (p := fun j => bk (40 + j) = true → ∀ pc, chBk (40 + j) pc = true) (lt_s (p := fun j => bk (40 + j) = true → ∀ pc, chBk (40 + j) pc = true) (lt_s (p := fun j => bk (40 + j) = true → ∀ pc, chBk (40 + j) pc = true) (lt_s (p := fun j => bk (40 + j) = true → ∀ pc, chBk (40 + j) pc = true) (lt_s (p := fun j => bk (40 + j) = true → ∀ pc, chBk (40 + j) pc = true) (lt_s (p := fun j => bk (40 + j) = true → ∀ pc, chBk (40 + j) pc = true) (lt_s (p := fun j => bk (40 + j) = true → ∀ pc, chBk (40 + j) pc = true) (lt_s (p := fun j => bk (40 + j) = true → ∀ pc, chBk (40 + j) pc = true) (lt_s (p := fun j => bk (40 + j) = true → ∀ pc, chBk (40 + j) pc = true) (lt_s (p := fun j => bk (40 + j) = true → ∀ pc, chBk (40 + j) pc = true) (lt_s (p := fun j => bk (40 + j) = true → ∀ pc, chBk (40 + j) pc = true) (lt_s (p := fun j => bk (40 + j) = true → ∀ pc, chBk (40 + j) pc = true) (lt_s (p := fun j => bk (40 + j) = true → ∀ pc, chBk (40 + j) pc = true) (lt_s (p := fun j => bk (40 + j) = true → ∀ pc, chBk (40 + j) pc = true) (lt_s (p := fun j => bk (40 + j) = true → ∀ pc, chBk (40 + j) pc = true) (lt_s (p := fun j => bk (40 + j) = true → ∀ pc, chBk (40 + j) pc = true) (lt_s (p := fun j => bk (40 + j) = true → ∀ pc, chBk (40 + j) pc = true) (lt_s (p := fun j => bk (40 + j) = true → ∀ pc, chBk (40 + j) pc = true) (lt_s (p := fun j => bk (40 + j) = true → ∀ pc, chBk (40 + j) pc = true) (lt_s (p := fun j => bk (40 + j) = true → ∀ pc, chBk (40 + j) pc = true) (lt_s (p := fun j => bk (40 + j) = true → ∀ pc, chBk (40 + j) pc = true) (lt_s (p := fun j => bk (40 + j) = true → ∀ pc, chBk (40 + j) pc = true) (lt_s (p := fun j => bk (40 + j) = true → ∀ pc, chBk (40 + j) pc = true) (lt_s (p := fun j => bk (40 + j) = true → ∀ pc, chBk (40 + j) pc = true) (lt_s (p := fun j => bk (40 + j) = true → ∀ pc, chBk (40 + j) pc = true) (lt_s (p := fun j => bk (40 + j) = true → ∀ pc, chBk (40 + j) pc = true) (lt_s (p := fun j => bk (40 + j) = true → ∀ pc, chBk (40 + j) pc = true) (lt_s (p := fun j => bk (40 + j) = true → ∀ pc, chBk (40 + j) pc = true) (lt_s (p := fun j => bk (40 + j) = true → ∀ pc, chBk (40 + j) pc = true) (lt_s (p := fun j => bk (40 + j) = true → ∀ pc, chBk (40 + j) pc = true) (lt_s (p := fun j => bk (40 + j) = true → ∀ pc, chBk (40 + j) pc = true) (lt_s (p := fun j => bk (40 + j) = true → ∀ pc, chBk (40 + j) pc = true) (lt_s (p := fun j => bk (40 + j) = true → ∀ pc, chBk (40 + j) pc = true) (lt_s (p := fun j => bk (40 + j) = true → ∀ pc, chBk (40 + j) pc = true) (lt_0) (fun _ => bkE_40)) (fun _ => bkE_41)) (fun _ => bkE_42)) (fun _ => bkE_43)) (fun h => by cases h)) (fun _ => bkE_45)) (fun _ => bkE_46)) (fun _ => bkE_47)) (fun h => by cases h)) (fun _ => bkE_49)) (fun _ => bkE_50)) (fun h => by cases h)) (fun h => by cases h)) (fun _ => bkE_53)) (fun h => by cases h)) (fun _ => bkE_55)) (fun _ => bkE_56)) (fun _ => bkE_57)) (fun _ => bkE_58)) (fun _ => bkE_59)) (fun _ => bkE_60)) (fun _ => bkE_61)) (fun _ => bkE_62)) (fun h => by cases h)) (fun _ => bkE_64)) (fun _ => bkE_65)) (fun _ => bkE_66)) (fun _ => bkE_67)) (fun _ => bkE_68)) (fun h => by cases h)) (fun _ => bkE_70)) (fun _ => bkE_71)) (fun _ => bkE_72)) (fun _ => bkE_73)) (fun h => by cases h)) (fun _ => bkE_75)) (fun _ => bkE_76)) (fun _ => bkE_77)) (fun h => by cases h)) (fun _ => bkE_79)
theorem bkF_80 : ∀ j, j < 40 → bk (80 + j) = true → ∀ pc, chBk (80 + j) pc = true := lt_s (p := fun j => bk (80 + j) = true → ∀ pc, chBk (80 + j) pc = true) (lt_s (p := fun j => bk (80 + j) = true → ∀ pc, chBk (80 + j) pc = true) (lt_s (p := fun j => bk (80 + j) = true → ∀ pc, chBk (80 + j) pc = true) (lt_s (p := fun j => bk (80 + j) = true → ∀ pc, chBk (80 + j) pc = true) (lt_s (p := fun j => bk (80 + j) = true → ∀ pc, chBk (80 + j) pc = true) (lt_s (p := fun j => bk (80 + j) = true → ∀ pc, chBk (80 + j) pc = true) (lt_s (p := fun j => bk (80 + j) = true → ∀ pc, chBk (80 + j) pc = true) (lt_s (p := fun j => bk (80 + j) = true → ∀ pc, chBk (80 + j) pc = true) (lt_s (p := fun j => bk (80 + j) = true → ∀ pc, chBk (80 + j) pc = true) (lt_s (p := fun j => bk (80 + j) = true → ∀ pc, chBk (80 + j) pc = true) (lt_s (p := fun j => bk (80 + j) = true → ∀ pc, chBk (80 + j) pc = true) (lt_s (p := fun j => bk (80 + j) = true → ∀ pc, chBk (80 + j) pc = true) (lt_s (p := fun j => bk (80 + j) = true → ∀ pc, chBk (80 + j) pc = true) (lt_s (p := fun j => bk (80 + j) = true → ∀ pc, chBk (80 + j) pc = true) (lt_s (p := fun j => bk (80 + j) = true → ∀ pc, chBk (80 + j) pc = true) (lt_s (p := fun j => bk (80 + j) = true → ∀ pc, chBk (80 + j) pc = true) (lt_s (p := fun j => bk (80 + j) = true → ∀ pc, chBk (80 + j) pc = true) (lt_s (p := fun j => bk (80 + j) = true → ∀ pc, chBk (80 + j) pc = true) (lt_s (p := fun j => bk (80 + j) = true → ∀ pc, chBk (80 + j) pc = true) (lt_s (p := fun j => bk (80 + j) = true → ∀ pc, chBk (80 + j) pc = true) (lt_s (p := fun j => bk (80 + j) = true → ∀ pc, chBk (80 + j) pc = true) (lt_s (p := fun j => bk (80 + j) = true → ∀ pc, chBk (80 + j) pc = true) (lt_s (p := fun j => bk (80 + j) = true → ∀ pc, chBk (80 + j) pc = true) (lt_s (p := fun j => bk (80 + j) = true → ∀ pc, chBk (80 + j) pc = true) (lt_s (p := fun j => bk (80 + j) = true → ∀ pc, chBk (80 + j) pc = true) (lt_s (p := fun j => bk (80 + j) = true → ∀ pc, chBk (80 + j) pc = true) (lt_s (p := fun j => bk (80 + j) = true → ∀ pc, chBk (80 + j) pc = true) (lt_s (p := fun j => bk (80 + j) = true → ∀ pc, chBk (80 + j) pc = true) (lt_s (p := fun j => bk (80 + j) = true → ∀ pc, chBk (80 + j) pc = true) (lt_s (p := fun j => bk (80 + j) = true → ∀ pc, chBk (80 + j) pc = true) (lt_s (p := fun j => bk (80 + j) = true → ∀ pc, chBk (80 + j) pc = true) (lt_s (p := fun j => bk (80 + j) = true → ∀ pc, chBk (80 + j) pc = true) (lt_s (p := fun j => bk (80 + j) = true → ∀ pc, chBk (80 + j) pc = true) (lt_s (p := fun j => bk (80 + j) = true → ∀ pc, chBk (80 + j) pc = true) (lt_s (p := fun j => bk (80 + j) = true → ∀ pc, chBk (80 + j) pc = true) (lt_s (p := fun j => bk (80 + j) = true → ∀ pc, chBk (80 + j) pc = true) (lt_s (p := fun j => bk (80 + j) = true → ∀ pc, chBk (80 + j) pc = true) (lt_s (p := fun j => bk (80 + j) = true → ∀ pc, chBk (80 + j) pc = true) (lt_s (p := fun j => bk (80 + j) = true → ∀ pc, chBk (80 + j) pc = true) (lt_s (p := fun j => bk (80 + j) = true → ∀ pc, chBk (80 + j) pc = true) (lt_0) (fun _ => bkE_80)) (fun _ => bkE_81)) (fun _ => bkE_82)) (fun _ => bkE_83)) (fun _ => bkE_84)) (fun _ => bkE_85)) (fun _ => bkE_86)) (fun _ => bkE_87)) (fun _ => bkE_88)) (fun h => by cases h)) (fun _ => bkE_90)) (fun _ => bkE_91)) (fun _ => bkE_92)) (fun _ => bkE_93)) (fun _ => bkE_94)) (fun _ => bkE_95)) (fun _ => bkE_96)) (fun _ => bkE_97)) (fun _ => bkE_98)) (fun h => by cases h)) (fun _ => bkE_100)) (fun _ => bkE_101)) (fun h => by cases h)) (fun _ => bkE_103)) (fun _ => bkE_104)) (fun _ => bkE_105)) (fun _ => bkE_106)) (fun _ => bkE_107)) (fun _ => bkE_108)) (fun _ => bkE_109)) (fun h => by cases h)) (fun _ => bkE_111)) (fun h => by cases h)) (fun _ => bkE_113)) (fun _ => bkE_114)) (fun _ => bkE_115)) (fun _ => bkE_116)) (fun _ => bkE_117)) (fun _ => bkE_118)) (fun h => by cases h)
theorem bkF_120 : ∀ j, j < 40 → bk (120 + j) = true → ∀ pc, chBk (120 + j) pc = true := lt_s (p := fun j => bk (120 + j) = true → ∀ pc, chBk (120 + j) pc = true) (lt_s (p := fun j => bk (120 + j) = true → ∀ pc, chBk (120 + j) pc = true) (lt_s (p := fun j => bk (120 + j) = true → ∀ pc, chBk (120 + j) pc = true) (lt_s (p := fun j => bk (120 + j) = true → ∀ pc, chBk (120 + j) pc = true) (lt_s (p := fun j => bk (120 + j) = true → ∀ pc, chBk (120 + j) pc = true) (lt_s (p := fun j => bk (120 + j) = true → ∀ pc, chBk (120 + j) pc = true) (lt_s (p := fun j => bk (120 + j) = true → ∀ pc, chBk (120 + j) pc = true) (lt_s (p := fun j => bk (120 + j) = true → ∀ pc, chBk (120 + j) pc = true) (lt_s (p := fun j => bk (120 + j) = true → ∀ pc, chBk (120 + j) pc = true) (lt_s (p := fun j => bk (120 + j) = true → ∀ pc, chBk (120 + j) pc = true) (lt_s (p := fun j => bk (120 + j) = true → ∀ pc, chBk (120 + j) pc = true) (lt_s (p := fun j => bk (120 + j) = true → ∀ pc, chBk (120 + j) pc = true) (lt_s (p := fun j => bk (120 + j) = true → ∀ pc, chBk (120 + j) pc = true) (lt_s (p := fun j => bk (120 + j) = true → ∀ pc, chBk (120 + j) pc = true) (lt_s (p := fun j => bk (120 + j) = true → ∀ pc, chBk (120 + j) pc = true) (lt_s (p := fun j => bk (120 + j) = true → ∀ pc, chBk (120 + j) pc = true) (lt_s (p := fun j => bk (120 + j) = true → ∀ pc, chBk (120 + j) pc = true) (lt_s (p := fun j => bk (120 + j) = true → ∀ pc, chBk (120 + j) pc = true) (lt_s (p := fun j => bk (120 + j) = true → ∀ pc, chBk (120 + j) pc = true) (lt_s (p := fun j => bk (120 + j) = true → ∀ pc, chBk (120 + j) pc = true) (lt_s (p := fun j => bk (120 + j) = true → ∀ pc, chBk (120 + j) pc = true) (lt_s (p := fun j => bk (120 + j) = true → ∀ pc, chBk (120 + j) pc = true) (lt_s (p := fun j => bk (120 + j) = true → ∀ pc, chBk (120 + j) pc = true) (lt_s (p := fun j => bk (120 + j) = true → ∀ pc, chBk (120 + j) pc = true) (lt_s (p := fun j => bk (120 + j) = true → ∀ pc, chBk (120 + j) pc = true) (lt_s (p := fun j => bk (120 + j) = true → ∀ pc, chBk (120 + j) pc = true) (lt_s (p := fun j => bk (120 + j) = true → ∀ pc, chBk (120 + j) pc = true) (lt_s (p := fun j => bk (120 + j) = true → ∀ pc, chBk (120 + j) pc = true) (lt_s (p := fun j => bk (120 + j) = true → ∀ pc, chBk (120 + j) pc = true) (lt_s (p := fun j => bk (120 + j) = true → ∀ pc, chBk (120 + j) pc = true) (lt_s (p := fun j => bk (120 + j) = true → ∀ pc, chBk (120 + j) pc = true) (lt_s (p := fun j => bk (120 + j) = true → ∀ pc, chBk (120 + j) pc = true) (lt_s (p := fun j => bk (120 + j) = true → ∀ pc, chBk (120 + j) pc = true) (lt_s (p := fun j => bk (120 + j) = true → ∀ pc, chBk (120 + j) pc = true) (lt_s (p := fun j => bk (120 + j) = true → ∀ pc, chBk (120 + j) pc = true) (lt_s (p := fun j => bk (120 + j) = true → ∀ pc, chBk (120 + j) pc = true) (lt_s (p := fun j => bk (120 + j) = true → ∀ pc, chBk (120 + j) pc = true) (lt_s (p := fun j => bk (120 + j) = true → ∀ pc, chBk (120 + j) pc = true) (lt_s (p := fun j => bk (120 + j) = true → ∀ pc, chBk (120 + j) pc = true) (lt_s (p := fun j => bk (120 + j) = true → ∀ pc, chBk (120 + j) pc = true) (lt_0) (fun _ => bkE_120)) (fun _ => bkE_121)) (fun _ => bkE_122)) (fun h => by cases h)) (fun _ => bkE_124)) (fun h => by cases h)) (fun _ => bkE_126)) (fun _ => bkE_127)) (fun _ => bkE_128)) (fun _ => bkE_129)) (fun _ => bkE_130)) (fun _ => bkE_131)) (fun _ => bkE_132)) (fun _ => bkE_133)) (fun _ => bkE_134)) (fun _ => bkE_135)) (fun _ => bkE_136)) (fun h => by cases h)) (fun h => by cases h)) (fun h => by cases h)) (fun _ => bkE_140)) (fun _ => bkE_141)) (fun _ => bkE_142)) (fun _ => bkE_143)) (fun _ => bkE_144)) (fun _ => bkE_145)) (fun _ => bkE_146)) (fun _ => bkE_147)) (fun _ => bkE_148)) (fun _ => bkE_149)) (fun _ => bkE_150)) (fun _ => bkE_151)) (fun _ => bkE_152)) (fun _ => bkE_153)) (fun h => by cases h)) (fun h => by cases h)) (fun h => by cases h)) (fun h => by cases h)) (fun h => by cases h)) (fun h => by cases h)
theorem bkF_160 : ∀ j, j < 40 → bk (160 + j) = true → ∀ pc, chBk (160 + j) pc = true := lt_s (p := fun j => bk (160 + j) = true → ∀ pc, chBk (160 + j) pc = true) (lt_s (p := fun j => bk (160 + j) = true → ∀ pc, chBk (160 + j) pc = true) (lt_s (p := fun j => bk (160 + j) = true → ∀ pc, chBk (160 + j) pc = true) (lt_s (p := fun j => bk (160 + j) = true → ∀ pc, chBk (160 + j) pc = true) (lt_s (p := fun j => bk (160 + j) = true → ∀ pc, chBk (160 + j) pc = true) (lt_s (p := fun j => bk (160 + j) = true → ∀ pc, chBk (160 + j) pc = true) (lt_s (p := fun j => bk (160 + j) = true → ∀ pc, chBk (160 + j) pc = true) (lt_s (p := fun j => bk (160 + j) = true → ∀ pc, chBk (160 + j) pc = true) (lt_s (p := fun j => bk (160 + j) = true → ∀ pc, chBk (160 + j) pc = true) (lt_s (p := fun j => bk (160 + j) = true → ∀ pc, chBk (160 + j) pc = true) (lt_s (p := fun j => bk (160 + j) = true → ∀ pc, chBk (160 + j) pc = true) (lt_s (p := fun j => bk (160 + j) = true → ∀ pc, chBk (160 + j) pc = true) (lt_s (p := fun j => bk (160 + j) = true → ∀ pc, chBk (160 + j) pc = true) (lt_s (p := fun j => bk (160 + j) = true → ∀ pc, chBk (160 + j) pc = true) (lt_s (p := fun j => bk (160 + j) = true → ∀ pc, chBk (160 + j) pc = true) (lt_s (p := fun j => bk (160 + j) = true → ∀ pc, chBk (160 + j) pc = true) (lt_s (p := fun j => bk (160 + j) = true → ∀ pc, chBk (160 + j) pc = true) (lt_s (p := fun j => bk (160 + j) = true → ∀ pc, chBk (160 + j) pc = true) (lt_s (p := fun j => bk (160 + j) = true → ∀ pc, chBk (160 + j) pc = true) (lt_s (p := fun j => bk (160 + j) = true → ∀ pc, chBk (160 + j) pc = true) (lt_s (p := fun j => bk (160 + j) = true → ∀ pc, chBk (160 + j) pc = true) (lt_s (p := fun j => bk (160 + j) = true → ∀ pc, chBk (160 + j) pc = true) (lt_s (p := fun j => bk (160 + j) = true → ∀ pc, chBk (160 + j) pc = true) (lt_s (p := fun j => bk (160 + j) = true → ∀ pc, chBk (160 + j) pc = true) (lt_s (p := fun j => bk (160 + j) = true → ∀ pc, chBk (160 + j) pc = true) (lt_s (p := fun j => bk (160 + j) = true → ∀ pc, chBk (160 + j) pc = true) (lt_s (p := fun j => bk (160 + j) = true → ∀ pc, chBk (160 + j) pc = true) (lt_s (p := fun j => bk (160 + j) = true → ∀ pc, chBk (160 + j) pc = true) (lt_s (p := fun j => bk (160 + j) = true → ∀ pc, chBk (160 + j) pc = true) (lt_s (p := fun j => bk (160 + j) = true → ∀ pc, chBk (160 + j) pc = true) (lt_s (p := fun j => bk (160 + j) = true → ∀ pc, chBk (160 + j) pc = true) (lt_s (p := fun j => bk (160 + j) = true → ∀ pc, chBk (160 + j) pc = true) (lt_s (p := fun j => bk (160 + j) = true → ∀ pc, chBk (160 + j) pc = true) (lt_s (p := fun j => bk (160 + j) = true → ∀ pc, chBk (160 + j) pc = true) (lt_s (p := fun j => bk (160 + j) = true → ∀ pc, chBk (160 + j) pc = true) (lt_s (p := fun j => bk (160 + j) = true → ∀ pc, chBk (160 + j) pc = true) (lt_s (p := fun j => bk (160 + j) = true → ∀ pc, chBk (160 + j) pc = true) (lt_s (p := fun j => bk (160 + j) = true → ∀ pc, chBk (160 + j) pc = true) (lt_s (p := fun j => bk (160 + j) = true → ∀ pc, chBk (160 + j) pc = true) (lt_s (p := fun j => bk (160 + j) = true → ∀ pc, chBk (160 + j) pc = true) (lt_0) (fun h => by cases h)) (fun h => by cases h)) (fun h => by cases h)) (fun h => by cases h)) (fun h => by cases h)) (fun h => by cases h)) (fun h => by cases h)) (fun h => by cases h)) (fun h => by cases h)) (fun h => by cases h)) (fun h => by cases h)) (fun h => by cases h)) (fun h => by cases h)) (fun h => by cases h)) (fun h => by cases h)) (fun h => by cases h)) (fun h => by cases h)) (fun h => by cases h)) (fun h => by cases h)) (fun h => by cases h)) (fun h => by cases h)) (fun h => by cases h)) (fun h => by cases h)) (fun h => by cases h)) (fun h => by cases h)) (fun h => by cases h)) (fun h => by cases h)) (fun h => by cases h)) (fun h => by cases h)) (fun h => by cases h)) (fun h => by cases h)) (fun h => by cases h)) (fun h => by cases h)) (fun h => by cases h)) (fun h => by cases h)) (fun h => by cases h)) (fun h => by cases h)) (fun h => by cases h)) (fun h => by cases h)) (fun h => by cases h)
theorem bkF_200 : ∀ j, j < 40 → bk (200 + j) = true → ∀ pc, chBk (200 + j) pc = true := lt_s (p := fun j => bk (200 + j) = true → ∀ pc, chBk (200 + j) pc = true) (lt_s (p := fun j => bk (200 + j) = true → ∀ pc, chBk (200 + j) pc = true) (lt_s (p := fun j => bk (200 + j) = true → ∀ pc, chBk (200 + j) pc = true) (lt_s (p := fun j => bk (200 + j) = true → ∀ pc, chBk (200 + j) pc = true) (lt_s (p := fun j => bk (200 + j) = true → ∀ pc, chBk (200 + j) pc = true) (lt_s (p := fun j => bk (200 + j) = true → ∀ pc, chBk (200 + j) pc = true) (lt_s (p := fun j => bk (200 + j) = true → ∀ pc, chBk (200 + j) pc = true) (lt_s (p := fun j => bk (200 + j) = true → ∀ pc, chBk (200 + j) pc = true) (lt_s (p := fun j => bk (200 + j) = true → ∀ pc, chBk (200 + j) pc = true) (lt_s (p := fun j => bk (200 + j) = true → ∀ pc, chBk (200 + j) pc = true) (lt_s (p := fun j => bk (200 + j) = true → ∀ pc, chBk (200 + j) pc = true) (lt_s (p := fun j => bk (200 + j) = true → ∀ pc, chBk (200 + j) pc = true) (lt_s (p := fun j => bk (200 + j) = true → ∀ pc, chBk (200 + j) pc = true) (lt_s (p := fun j => bk (200 + j) = true → ∀ pc, chBk (200 + j) pc = true) (lt_s (p := fun j => bk (200 + j) = true → ∀ pc, chBk (200 + j) pc = true) (lt_s (p := fun j => bk (200 + j) = true → ∀ pc, chBk (200 + j) pc = true) (lt_s (p := fun j => bk (200 + j) = true → ∀ pc, chBk (200 + j) pc = true) (lt_s (p := fun j => bk (200 + j) = true → ∀ pc, chBk (200 + j) pc = true) (lt_s (p := fun j => bk (200 + j) = true → ∀ pc, chBk (200 + j) pc = true) (lt_s (p := fun j => bk (200 + j) = true → ∀ pc, chBk (200 + j) pc = true) (lt_s (p := fun j => bk (200 + j) = true → ∀ pc, chBk (200 + j) pc = true) (lt_s (p := fun j => bk (200 + j) = true → ∀ pc, chBk (200 + j) pc = true) (lt_s (p := fun j => bk (200 + j) = true → ∀ pc, chBk (200 + j) pc = true) (lt_s (p := fun j => bk (200 + j) = true → ∀ pc, chBk (200 + j) pc = true) (lt_s (p := fun j => bk (200 + j) = true → ∀ pc, chBk (200 + j) pc = true) (lt_s (p := fun j => bk (200 + j) = true → ∀ pc, chBk (200 + j) pc = true) (lt_s (p := fun j => bk (200 + j) = true → ∀ pc, chBk (200 + j) pc = true) (lt_s (p := fun j => bk (200 + j) = true → ∀ pc, chBk (200 + j) pc = true) (lt_s (p := fun j => bk (200 + j) = true → ∀ pc, chBk (200 + j) pc = true) (lt_s (p := fun j => bk (200 + j) = true → ∀ pc, chBk (200 + j) pc = true) (lt_s (p := fun j => bk (200 + j) = true → ∀ pc, chBk (200 + j) pc = true) (lt_s (p := fun j => bk (200 + j) = true → ∀ pc, chBk (200 + j) pc = true) (lt_s (p := fun j => bk (200 + j) = true → ∀ pc, chBk (200 + j) pc = true) (lt_s (p := fun j => bk (200 + j) = true → ∀ pc, chBk (200 + j) pc = true) (lt_s (p := fun j => bk (200 + j) = true → ∀ pc, chBk (200 + j) pc = true) (lt_s (p := fun j => bk (200 + j) = true → ∀ pc, chBk (200 + j) pc = true) (lt_s (p := fun j => bk (200 + j) = true → ∀ pc, chBk (200 + j) pc = true) (lt_s (p := fun j => bk (200 + j) = true → ∀ pc, chBk (200 + j) pc = true) (lt_s (p := fun j => bk (200 + j) = true → ∀ pc, chBk (200 + j) pc = true) (lt_s (p := fun j => bk (200 + j) = true → ∀ pc, chBk (200 + j) pc = true) (lt_0) (fun h => by cases h)) (fun h => by cases h)) (fun h => by cases h)) (fun h => by cases h)) (fun h => by cases h)) (fun h => by cases h)) (fun h => by cases h)) (fun h => by cases h)) (fun h => by cases h)) (fun h => by cases h)) (fun h => by cases h)) (fun h => by cases h)) (fun h => by cases h)) (fun h => by cases h)) (fun h => by cases h)) (fun h => by cases h)) (fun h => by cases h)) (fun h => by cases h)) (fun h => by cases h)) (fun h => by cases h)) (fun h => by cases h)) (fun h => by cases h)) (fun h => by cases h)) (fun h => by cases h)) (fun h => by cases h)) (fun h => by cases h)) (fun h => by cases h)) (fun h => by cases h)) (fun h => by cases h)) (fun h => by cases h)) (fun h => by cases h)) (fun h => by cases h)) (fun h => by cases h)) (fun h => by cases h)) (fun h => by cases h)) (fun h => by cases h)) (fun h => by cases h)) (fun h => by cases h)) (fun h => by cases h)) (fun h => by cases h)
theorem bkF_240 : ∀ j, j < 40 → bk (240 + j) = true → ∀ pc, chBk (240 + j) pc = true := lt_s (p := fun j => bk (240 + j) = true → ∀ pc, chBk (240 + j) pc = true) (lt_s (p := fun j => bk (240 + j) = true → ∀ pc, chBk (240 + j) pc = true) (lt_s (p := fun j => bk (240 + j) = true → ∀ pc, chBk (240 + j) pc = true) (lt_s (p := fun j => bk (240 + j) = true → ∀ pc, chBk (240 + j) pc = true) (lt_s (p := fun j => bk (240 + j) = true → ∀ pc, chBk (240 + j) pc = true) (lt_s (p := fun j => bk (240 + j) = true → ∀ pc, chBk (240 + j) pc = true) (lt_s (p := fun j => bk (240 + j) = true → ∀ pc, chBk (240 + j) pc = true) (lt_s (p := fun j => bk (240 + j) = true → ∀ pc, chBk (240 + j) pc = true) (lt_s (p := fun j => bk (240 + j) = true → ∀ pc, chBk (240 + j) pc = true) (lt_s (p := fun j => bk (240 + j) = true → ∀ pc, chBk (240 + j) pc = true) (lt_s (p := fun j => bk (240 + j) = true → ∀ pc, chBk (240 + j) pc = true) (lt_s (p := fun j => bk (240 + j) = true → ∀ pc, chBk (240 + j) pc = true) (lt_s (p := fun j => bk (240 + j) = true → ∀ pc, chBk (240 + j) pc = true) (lt_s (p := fun j => bk (240 + j) = true → ∀ pc, chBk (240 + j) pc = true) (lt_s (p := fun j => bk (240 + j) = true → ∀ pc, chBk (240 + j) pc = true) (lt_s (p := fun j => bk (240 + j) = true → ∀ pc, chBk (240 + j) pc = true) (lt_s (p := fun j => bk (240 + j) = true → ∀ pc, chBk (240 + j) pc = true) (lt_s (p := fun j => bk (240 + j) = true → ∀ pc, chBk (240 + j) pc = true) (lt_s (p := fun j => bk (240 + j) = true → ∀ pc, chBk (240 + j) pc = true) (lt_s (p := fun j => bk (240 + j) = true → ∀ pc, chBk (240 + j) pc = true) (lt_s (p := fun j => bk (240 + j) = true → ∀ pc, chBk (240 + j) pc = true) (lt_s (p := fun j => bk (240 + j) = true → ∀ pc, chBk (240 + j) pc = true) (lt_s (p := fun j => bk (240 + j) = true → ∀ pc, chBk (240 + j) pc = true) (lt_s (p := fun j => bk (240 + j) = true → ∀ pc, chBk (240 + j) pc = true) (lt_s (p := fun j => bk (240 + j) = true → ∀ pc, chBk (240 + j) pc = true) (lt_s (p := fun j => bk (240 + j) = true → ∀ pc, chBk (240 + j) pc = true) (lt_s (p := fun j => bk (240 + j) = true → ∀ pc, chBk (240 + j) pc = true) (lt_s (p := fun j => bk (240 + j) = true → ∀ pc, chBk (240 + j) pc = true) (lt_s (p := fun j => bk (240 + j) = true → ∀ pc, chBk (240 + j) pc = true) (lt_s (p := fun j => bk (240 + j) = true → ∀ pc, chBk (240 + j) pc = true) (lt_s (p := fun j => bk (240 + j) = true → ∀ pc, chBk (240 + j) pc = true) (lt_s (p := fun j => bk (240 + j) = true → ∀ pc, chBk (240 + j) pc = true) (lt_s (p := fun j => bk (240 + j) = true → ∀ pc, chBk (240 + j) pc = true) (lt_s (p := fun j => bk (240 + j) = true → ∀ pc, chBk (240 + j) pc = true) (lt_s (p := fun j => bk (240 + j) = true → ∀ pc, chBk (240 + j) pc = true) (lt_s (p := fun j => bk (240 + j) = true → ∀ pc, chBk (240 + j) pc = true) (lt_s (p := fun j => bk (240 + j) = true → ∀ pc, chBk (240 + j) pc = true) (lt_s (p := fun j => bk (240 + j) = true → ∀ pc, chBk (240 + j) pc = true) (lt_s (p := fun j => bk (240 + j) = true → ∀ pc, chBk (240 + j) pc = true) (lt_s (p := fun j => bk (240 + j) = true → ∀ pc, chBk (240 + j) pc = true) (lt_0) (fun h => by cases h)) (fun h => by cases h)) (fun h => by cases h)) (fun h => by cases h)) (fun h => by cases h)) (fun h => by cases h)) (fun h => by cases h)) (fun h => by cases h)) (fun h => by cases h)) (fun h => by cases h)) (fun h => by cases h)) (fun h => by cases h)) (fun h => by cases h)) (fun h => by cases h)) (fun h => by cases h)) (fun h => by cases h)) (fun h => by cases h)) (fun h => by cases h)) (fun h => by cases h)) (fun h => by cases h)) (fun h => by cases h)) (fun h => by cases h)) (fun h => by cases h)) (fun h => by cases h)) (fun h => by cases h)) (fun h => by cases h)) (fun h => by cases h)) (fun h => by cases h)) (fun h => by cases h)) (fun h => by cases h)) (fun h => by cases h)) (fun h => by cases h)) (fun h => by cases h)) (fun h => by cases h)) (fun h => by cases h)) (fun h => by cases h)) (fun h => by cases h)) (fun h => by cases h)) (fun h => by cases h)) (fun h => by cases h)
theorem bkF_280 : ∀ j, j < 38 → bk (280 + j) = true → ∀ pc, chBk (280 + j) pc = true := lt_s (p := fun j => bk (280 + j) = true → ∀ pc, chBk (280 + j) pc = true) (lt_s (p := fun j => bk (280 + j) = true → ∀ pc, chBk (280 + j) pc = true) (lt_s (p := fun j => bk (280 + j) = true → ∀ pc, chBk (280 + j) pc = true) (lt_s (p := fun j => bk (280 + j) = true → ∀ pc, chBk (280 + j) pc = true) (lt_s (p := fun j => bk (280 + j) = true → ∀ pc, chBk (280 + j) pc = true) (lt_s (p := fun j => bk (280 + j) = true → ∀ pc, chBk (280 + j) pc = true) (lt_s (p := fun j => bk (280 + j) = true → ∀ pc, chBk (280 + j) pc = true) (lt_s (p := fun j => bk (280 + j) = true → ∀ pc, chBk (280 + j) pc = true) (lt_s (p := fun j => bk (280 + j) = true → ∀ pc, chBk (280 + j) pc = true) (lt_s (p := fun j => bk (280 + j) = true → ∀ pc, chBk (280 + j) pc = true) (lt_s (p := fun j => bk (280 + j) = true → ∀ pc, chBk (280 + j) pc = true) (lt_s (p := fun j => bk (280 + j) = true → ∀ pc, chBk (280 + j) pc = true) (lt_s (p := fun j => bk (280 + j) = true → ∀ pc, chBk (280 + j) pc = true) (lt_s (p := fun j => bk (280 + j) = true → ∀ pc, chBk (280 + j) pc = true) (lt_s (p := fun j => bk (280 + j) = true → ∀ pc, chBk (280 + j) pc = true) (lt_s (p := fun j => bk (280 + j) = true → ∀ pc, chBk (280 + j) pc = true) (lt_s (p := fun j => bk (280 + j) = true → ∀ pc, chBk (280 + j) pc = true) (lt_s (p := fun j => bk (280 + j) = true → ∀ pc, chBk (280 + j) pc = true) (lt_s (p := fun j => bk (280 + j) = true → ∀ pc, chBk (280 + j) pc = true) (lt_s (p := fun j => bk (280 + j) = true → ∀ pc, chBk (280 + j) pc = true) (lt_s (p := fun j => bk (280 + j) = true → ∀ pc, chBk (280 + j) pc = true) (lt_s (p := fun j => bk (280 + j) = true → ∀ pc, chBk (280 + j) pc = true) (lt_s (p := fun j => bk (280 + j) = true → ∀ pc, chBk (280 + j) pc = true) (lt_s (p := fun j => bk (280 + j) = true → ∀ pc, chBk (280 + j) pc = true) (lt_s (p := fun j => bk (280 + j) = true → ∀ pc, chBk (280 + j) pc = true) (lt_s (p := fun j => bk (280 + j) = true → ∀ pc, chBk (280 + j) pc = true) (lt_s (p := fun j => bk (280 + j) = true → ∀ pc, chBk (280 + j) pc = true) (lt_s (p := fun j => bk (280 + j) = true → ∀ pc, chBk (280 + j) pc = true) (lt_s (p := fun j => bk (280 + j) = true → ∀ pc, chBk (280 + j) pc = true) (lt_s (p := fun j => bk (280 + j) = true → ∀ pc, chBk (280 + j) pc = true) (lt_s (p := fun j => bk (280 + j) = true → ∀ pc, chBk (280 + j) pc = true) (lt_s (p := fun j => bk (280 + j) = true → ∀ pc, chBk (280 + j) pc = true) (lt_s (p := fun j => bk (280 + j) = true → ∀ pc, chBk (280 + j) pc = true) (lt_s (p := fun j => bk (280 + j) = true → ∀ pc, chBk (280 + j) pc = true) (lt_s (p := fun j => bk (280 + j) = true → ∀ pc, chBk (280 + j) pc = true) (lt_s (p := fun j => bk (280 + j) = true → ∀ pc, chBk (280 + j) pc = true) (lt_s (p := fun j => bk (280 + j) = true → ∀ pc, chBk (280 + j) pc = true) (lt_s (p := fun j => bk (280 + j) = true → ∀ pc, chBk (280 + j) pc = true) (lt_0) (fun h => by cases h)) (fun h => by cases h)) (fun h => by cases h)) (fun h => by cases h)) (fun h => by cases h)) (fun h => by cases h)) (fun h => by cases h)) (fun h => by cases h)) (fun h => by cases h)) (fun h => by cases h)) (fun h => by cases h)) (fun h => by cases h)) (fun h => by cases h)) (fun h => by cases h)) (fun h => by cases h)) (fun h => by cases h)) (fun h => by cases h)) (fun h => by cases h)) (fun h => by cases h)) (fun h => by cases h)) (fun h => by cases h)) (fun h => by cases h)) (fun h => by cases h)) (fun h => by cases h)) (fun h => by cases h)) (fun h => by cases h)) (fun h => by cases h)) (fun h => by cases h)) (fun h => by cases h)) (fun h => by cases h)) (fun _ => bkE_310)) (fun _ => bkE_311)) (fun _ => bkE_312)) (fun _ => bkE_313)) (fun _ => bkE_314)) (fun _ => bkE_315)) (fun _ => bkE_316)) (fun _ => bkE_317)
theorem bk_ch {μ : Nat} (h : bk μ = true) (pc : Nat) : chBk μ pc = true := by
  have hl := bk_lt h
  rcases Nat.lt_or_ge μ 40 with q40 | q40
  · have q := bkF_0 (μ - 0) (by omega); rw [show 0 + (μ - 0) = μ by omega] at q; exact q h pc
  rcases Nat.lt_or_ge μ 80 with q80 | q80
  · have q := bkF_40 (μ - 40) (by omega); rw [show 40 + (μ - 40) = μ by omega] at q; exact q h pc
  rcases Nat.lt_or_ge μ 120 with q120 | q120
  · have q := bkF_80 (μ - 80) (by omega); rw [show 80 + (μ - 80) = μ by omega] at q; exact q h pc
  rcases Nat.lt_or_ge μ 160 with q160 | q160
  · have q := bkF_120 (μ - 120) (by omega); rw [show 120 + (μ - 120) = μ by omega] at q; exact q h pc
  rcases Nat.lt_or_ge μ 200 with q200 | q200
  · have q := bkF_160 (μ - 160) (by omega); rw [show 160 + (μ - 160) = μ by omega] at q; exact q h pc
  rcases Nat.lt_or_ge μ 240 with q240 | q240
  · have q := bkF_200 (μ - 200) (by omega); rw [show 200 + (μ - 200) = μ by omega] at q; exact q h pc
  rcases Nat.lt_or_ge μ 280 with q280 | q280
  · have q := bkF_240 (μ - 240) (by omega); rw [show 240 + (μ - 240) = μ by omega] at q; exact q h pc
  have q := bkF_280 (μ - 280) (by omega); rw [show 280 + (μ - 280) = μ by omega] at q; exact q h pc
