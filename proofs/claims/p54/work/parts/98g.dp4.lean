/-! the first best way: partner -/
def fcd (G : Nat → Nat → Int32) (n0 n1 i j k : Nat) : Prop := (PP G n0 n1 (-1) (-1) i j).1 ≠ none ∧ whN (PP G n0 n1 (-1) (-1) (i + tk0 k) (j + tk1 k)).1 (okB G n0 n1 (-1) (-1) k i j) (spN G k i j) = (PP G n0 n1 (-1) (-1) i j).1
section FW
variable {G : Nat → Nat → Int32} {n0 n1 : Nat}
theorem fsk_s {i j f k : Nat} (h : fcd G n0 n1 i j k) : fsk G n0 n1 i j (f + 1) k = k := if_pos h
theorem fsk_n {i j f k : Nat} (h : ¬ fcd G n0 n1 i j k) : fsk G n0 n1 i j (f + 1) k = fsk G n0 n1 i j f (k + 1) := if_neg h
theorem fsk_le {i j : Nat} : ∀ f k, k ≤ fsk G n0 n1 i j f k ∧ fsk G n0 n1 i j f k ≤ k + f
  | 0, k => ⟨Nat.le_refl _, Nat.le_refl _⟩
  | f + 1, k => by
    have ih := fsk_le (i := i) (j := j) f (k + 1)
    by_cases h : fcd G n0 n1 i j k
    · rw [fsk_s h]; omega
    · rw [fsk_n h]; omega
theorem fsk_ok {i j : Nat} : ∀ f k, fsk G n0 n1 i j f k < k + f → fcd G n0 n1 i j (fsk G n0 n1 i j f k)
  | 0, k, h => by
    have : k < k + 0 := h
    omega
  | f + 1, k, h => by
    by_cases q : fcd G n0 n1 i j k
    · rw [fsk_s q]; exact q
    · rw [fsk_n q] at h ⊢
      exact fsk_ok f (k + 1) (by omega)
theorem fsk_lt {i j : Nat} (f : Nat) : ∀ k m, k ≤ m → m < k + f → fcd G n0 n1 i j m → fsk G n0 n1 i j f k < k + f := by
  induction f with
  | zero =>
    intro k m h1 h2 _
    exact absurd h2 (Nat.not_lt.mpr h1)
  | succ f ih =>
    intro k m h1 h2 h3
    by_cases q : fcd G n0 n1 i j k
    · rw [fsk_s q]; exact Nat.lt_add_of_pos_right (Nat.succ_pos f)
    · rw [fsk_n q]
      have hm : m ≠ k := fun e => q (e ▸ h3)
      have h4 := ih (k + 1) m (Nat.lt_of_le_of_ne h1 (fun e => hm e.symm)) (by rw [Nat.add_assoc, Nat.add_comm 1 f]; exact h2) h3
      rw [Nat.add_assoc, Nat.add_comm 1 f] at h4
      exact h4
noncomputable def kd (G : Nat → Nat → Int32) (n0 n1 i j : Nat) : Nat := fsk G n0 n1 i j 5 0
/-- short of the end there is a kind of step -/
theorem kd_lt (h16 : n0 ≤ 16 ∧ n1 ≤ 16) {i j : Nat} (hi : i ≤ n0) (hj : j ≤ n1) (hne : (PP G n0 n1 (-1) (-1) i j).1 ≠ none) (he : ¬ (i = n0 ∧ j = n1)) : kd G n0 n1 i j < 5 := by
  have e := PP_eq (G := G) (b0 := -1) (b1 := -1) h16.1 h16.2 hi hj
  cases hp : (PP G n0 n1 (-1) (-1) i j).1 with
  | none => exact absurd hp hne
  | some b =>
    have hp' := hp
    rw [e] at hp'
    rcases cell_some hp' with ⟨h1, h2, -⟩ | ⟨m, hm, hw⟩
    · exact absurd ⟨h1, h2⟩ he
    · exact fsk_lt 5 0 m (Nat.zero_le _) (by omega) ⟨hne, by rw [hw, hp]⟩
theorem kd_nx {i j : Nat} (h : kd G n0 n1 i j < 5) : (i + tk0 (kd G n0 n1 i j) ≤ n0 ∧ j + tk1 (kd G n0 n1 i j) ≤ n1) ∧ (PP G n0 n1 (-1) (-1) (i + tk0 (kd G n0 n1 i j)) (j + tk1 (kd G n0 n1 i j))).1 ≠ none := by
  have hc : fcd G n0 n1 i j (kd G n0 n1 i j) := fsk_ok 5 0 (by have : fsk G n0 n1 i j 5 0 < 5 := h; omega)
  obtain ⟨h1, h2⟩ := hc
  generalize kd G n0 n1 i j = k at *
  cases ho : okB G n0 n1 (-1) (-1) k i j with
  | false => rw [ho] at h2; exact absurd h2.symm h1
  | true =>
    refine ⟨(ok_r ho).1, fun w => ?_⟩
    rw [ho, w] at h2
    exact h1 h2.symm
theorem kd_end (h16 : n0 ≤ 16 ∧ n1 ≤ 16) : kd G n0 n1 n0 n1 = 5 := by
  have h := fsk_le (G := G) (n0 := n0) (n1 := n1) (i := n0) (j := n1) 5 0
  by_cases q : kd G n0 n1 n0 n1 < 5
  · have := (kd_nx q).1
    have hp := tk_pos (k := kd G n0 n1 n0 n1)
    omega
  · have : fsk G n0 n1 n0 n1 5 0 = kd G n0 n1 n0 n1 := rfl
    omega
/-- a band, or two, laid beside one -/
def putL (a : Nat → Int32) (s : Nat) (v : Int32) : Nat → Nat → Int32
  | 0 => a
  | q + 1 => upd (putL a s v q) (s + q) v
def mny (k : Nat) : Bool := decide (k ≠ 1 ∧ k ≠ 2)
def putK (k i j : Nat) (x : (Nat → Int32) × (Nat → Int32)) : (Nat → Int32) × (Nat → Int32) := bif mny k then (putL x.1 i (nI j) (tk0 k), putL x.2 j (nI i) (tk1 k)) else x
noncomputable def goW (G : Nat → Nat → Int32) (n0 n1 : Nat) : Nat → Nat → Nat → (Nat → Int32) × (Nat → Int32) → (Nat → Int32) × (Nat → Int32)
  | 0, _, _, x => x
  | f + 1, i, j, x => if i = n0 ∧ j = n1 then x else goW G n0 n1 f (i + tk0 (kd G n0 n1 i j)) (j + tk1 (kd G n0 n1 i j)) (putK (kd G n0 n1 i j) i j x)
theorem mny_f {k : Nat} (hk : k < 5) : mny k = decide (0 < tk0 k ∧ 0 < tk1 k) := by
  rcases (show k = 0 ∨ k = 1 ∨ k = 2 ∨ k = 3 ∨ k = 4 by omega) with rfl | rfl | rfl | rfl | rfl <;> rfl
variable {I : Nat → Nat → Int32} {J : Nat → Nat → Int64} {D : Nat → Nat → UInt64}
theorem enc_eq {F : Int32} {o p : Option Nat} (hF : ∀ v, v ≤ 4100 → nI v ≠ F) (ho : Bnd 4100 o) (hp : Bnd 4100 p) : encO F o = encO F p ↔ o = p := by
  constructor
  · intro h
    cases o with
    | none =>
      cases p with
      | none => rfl
      | some v => exact absurd h.symm (hF v (hp v rfl))
    | some u =>
      cases p with
      | none => exact absurd h (hF u (ho u rfl))
      | some v =>
        have h1 := ho u rfl
        have h2 := hp v rfl
        rw [(nI_eq (by omega) (by omega)).mp h]
  · intro h; rw [h]
theorem c_fk (g : LayG G n0 n1) (c : LayC G n0 n1 (-1) (-1) I) (hT : ∀ x y, x ≤ n0 → y ≤ n1 → I (275 + x) y = encO 1000000000 (PP G n0 n1 (-1) (-1) x y).1) {i j : Nat} (hi : i ≤ n0) (hj : j ≤ n1) : ∀ r k, k + r = 5 → ex (42, 2, [.ref 273, .int (nI i), .int (nI j), .int (nI k), dv], [], mm I J D) = some (.inl (some (.int (if fsk G n0 n1 i j r k = 5 then -1 else nI (fsk G n0 n1 i j r k)))), mm I J D)
  | 0, k, h => by
    have : k = 5 := by omega
    subst this
    rw [e_42_2, decide_eq_true (show (5 : Int32) ≤ nI 5 by decide), cond_true, e_42_47, if_pos (show fsk G n0 n1 i j 0 5 = 5 from rfl)]
  | r + 1, k, h => by
    have hn := g.1
    have ih := c_fk g c hT hi hj r (k + 1) (by omega)
    have wh := c_wh (J := J) (D := D) g c (T := PP G n0 n1 (-1) (-1)) (fun x y => PP_bd g x y) (k := k) (by omega) hi hj (fun h0 h1 => hT _ _ h0 h1)
    have wb := whP_bd (b0 := -1) (b1 := -1) g i j k (by omega)
    rw [e_42_2, decide_eq_false (show ¬ (5 : Int32) ≤ nI k from nI_ge (a := k) (b := 5) (by omega) (by decide)), cond_false, e_42_10, wh, cal_v, ka, e_42_17]
    by_cases q : fcd G n0 n1 i j k
    · obtain ⟨q1, q2⟩ := q
      rw [fsk_s ⟨q1, q2⟩, if_neg (show k ≠ 5 by omega), q2]
      have hne : encO 1000000000 (PP G n0 n1 (-1) (-1) i j).1 ≠ 1000000000 := by
        cases e : (PP G n0 n1 (-1) (-1) i j).1 with
        | none => exact absurd e q1
        | some b => exact F9 (by have := PP_bd (b0 := -1) (b1 := -1) g i j b e; omega)
      rw [decide_eq_false hne, cond_false, e_42_26, inb_n (show i < 17 by omega) (by decide), cond_true, inb_n (show j < 17 by omega) (by decide), cond_true, nI_clamp (by omega), nI_clamp (by omega), hT i j hi hj, decide_eq_false (fun w => w rfl), cond_false, e_42_39]
    · rw [fsk_n q]
      cases hw : whN (PP G n0 n1 (-1) (-1) (i + tk0 k) (j + tk1 k)).1 (okB G n0 n1 (-1) (-1) k i j) (spN G k i j) with
      | none =>
        rw [decide_eq_true (show encO 1000000000 none = 1000000000 from rfl), cond_true, e_42_41, nI_1]
        exact ih
      | some v =>
        have hv := wb v hw
        have hne : nI v ≠ encO 1000000000 (PP G n0 n1 (-1) (-1) i j).1 := fun w => by
          have := (enc_eq (F := 1000000000) (fun v hv => F9 (by omega)) (o := some v) (p := (PP G n0 n1 (-1) (-1) i j).1) (by rw [← hw]; exact wb) (fun b hb => by have := PP_bd (b0 := -1) (b1 := -1) g i j b hb; omega)).mp w
          exact q ⟨(by rw [← this]; intro z; cases z), (by rw [hw]; exact this)⟩
        rw [decide_eq_false (show ¬ encO 1000000000 (some v) = 1000000000 from F9 (by omega)), cond_false, e_42_26, inb_n (show i < 17 by omega) (by decide), cond_true, inb_n (show j < 17 by omega) (by decide), cond_true, nI_clamp (by omega), nI_clamp (by omega), hT i j hi hj, decide_eq_true (show encO 1000000000 (some v) ≠ encO 1000000000 (PP G n0 n1 (-1) (-1) i j).1 from hne), cond_true, e_42_41, nI_1]
        exact ih
theorem c_ks1 {k i j : Nat} (hk : k < 5) (hi : i + tk0 k ≤ 16) {A B : Nat → Int32} : ∀ r q, q + r = tk0 k → ex (43, 14, [.ref 273, .int (nI k), .int (nI i), .int (nI j), .int (nI q)], [], mm (upR (upR I 310 (putL A i (nI j) q)) 311 B) J D) = ex (43, 40, [.ref 273, .int (nI k), .int (nI i), .int (nI j), dv], [], mm (upR (upR I 310 (putL A i (nI j) (tk0 k))) 311 B) J D)
  | 0, q, h => by
    have : q = tk0 k := by omega
    rw [e_43_14, inb_n (show k < 5 from hk) (by decide), cond_true, nI_clamp (by omega), sta0 k hk, this, decide_eq_true ((nI_leI (by omega) (by omega)).mpr (Nat.le_refl _)), cond_true]
  | r + 1, q, h => by
    have ih := c_ks1 hk hi (j := j) (A := A) (B := B) r (q + 1) (by omega)
    have hm : ups (upR (upR I 310 (putL A i (nI j) q)) 311 B) 310 (i + q) (nI j) = upR (upR I 310 (putL A i (nI j) (q + 1))) 311 B := by
      funext y
      by_cases y1 : y = 310
      · subst y1; rw [uIs, uR (by decide), uRs, uR (by decide), uRs]; rfl
      · rw [uI y1]
        by_cases y2 : y = 311
        · subst y2; rw [uRs, uRs]
        · rw [uR y2, uR y2, uR y1, uR y1]
    rw [e_43_14, inb_n (show k < 5 from hk) (by decide), cond_true, nI_clamp (by omega), sta0 k hk, decide_eq_false (show ¬ nI (tk0 k) ≤ nI q from nI_ge (by omega) (by omega)), cond_false, e_43_24, nI_add, inb_n (show i + q < 16 by omega) (by decide), cond_true, nI_clamp (by omega), hm, nI_1]
    exact ih
theorem c_ks2 {k i j : Nat} (hk : k < 5) (hj : j + tk1 k ≤ 16) {B : Nat → Int32} : ∀ r q, q + r = tk1 k → ex (43, 43, [.ref 273, .int (nI k), .int (nI i), .int (nI j), .int (nI q)], [], mm (upR I 311 (putL B j (nI i) q)) J D) = some (.inl none, mm (upR I 311 (putL B j (nI i) (tk1 k))) J D)
  | 0, q, h => by
    have : q = tk1 k := by omega
    rw [e_43_43, inb_n (show k < 5 from hk) (by decide), cond_true, nI_clamp (by omega), sta1 k hk, this, decide_eq_true ((nI_leI (by omega) (by omega)).mpr (Nat.le_refl _)), cond_true, e_43_69]
  | r + 1, q, h => by
    have ih := c_ks2 hk hj (i := i) (B := B) r (q + 1) (by omega)
    rw [e_43_43, inb_n (show k < 5 from hk) (by decide), cond_true, nI_clamp (by omega), sta1 k hk, decide_eq_false (show ¬ nI (tk1 k) ≤ nI q from nI_ge (by omega) (by omega)), cond_false, e_43_53, nI_add, inb_n (show j + q < 16 by omega) (by decide), cond_true, nI_clamp (by omega), us_R, nI_1]
    exact ih
theorem c_ks {k i j : Nat} (hk : k < 5) (hi : i + tk0 k ≤ 16) (hj : j + tk1 k ≤ 16) {x : (Nat → Int32) × (Nat → Int32)} : ex (43, 0, [.ref 273, .int (nI k), .int (nI i), .int (nI j), dv], [], mm (upR (upR I 310 x.1) 311 x.2) J D) = some (.inl none, mm (upR (upR I 310 (putK k i j x).1) 311 (putK k i j x).2) J D) := by
  have gen : k ≠ 1 → k ≠ 2 → ex (43, 0, [.ref 273, .int (nI k), .int (nI i), .int (nI j), dv], [], mm (upR (upR I 310 x.1) 311 x.2) J D) = some (.inl none, mm (upR (upR I 310 (putK k i j x).1) 311 (putK k i j x).2) J D) := fun h1 h2 => by
    have hm : putK k i j x = (putL x.1 i (nI j) (tk0 k), putL x.2 j (nI i) (tk1 k)) := by unfold putK mny; rw [decide_eq_true ⟨h1, h2⟩]; rfl
    have l1 := c_ks1 (I := I) (J := J) (D := D) (j := j) (A := x.1) (B := x.2) hk hi (tk0 k) 0 (by omega)
    have l2 := c_ks2 (I := upR I 310 (putL x.1 i (nI j) (tk0 k))) (J := J) (D := D) (i := i) (B := x.2) hk hj (tk1 k) 0 (by omega)
    rw [e_43_0, decide_eq_false (show ¬ nI k = 1 from fun w => h1 ((nI_eq (b := 1) (by omega) (by decide)).mp w)), cond_false, e_43_5, decide_eq_true (show nI k ≠ 2 from fun w => h2 ((nI_eq (b := 2) (by omega) (by decide)).mp w)), cond_true, e_43_11, hm]
    refine (show ex (43, 14, [.ref 273, .int (nI k), .int (nI i), .int (nI j), .int 0], [], mm (upR (upR I 310 x.1) 311 x.2) J D) = _ from l1).trans ?_
    rw [e_43_40]
    exact l2
  by_cases h1 : k = 1
  · subst h1
    rw [e_43_0, decide_eq_true (show nI 1 = 1 from rfl), cond_true, e_43_10]; rfl
  · by_cases h2 : k = 2
    · subst h2
      rw [e_43_0, decide_eq_false (show ¬ nI 2 = 1 by decide), cond_false, e_43_5, decide_eq_false (show ¬ nI 2 ≠ 2 by decide), cond_false, e_43_10]; rfl
    · exact gen h1 h2
theorem c_go1 (g : LayG G n0 n1) (c : LayC G n0 n1 (-1) (-1) I) (hT : ∀ x y, x ≤ n0 → y ≤ n1 → I (275 + x) y = encO 1000000000 (PP G n0 n1 (-1) (-1) x y).1) (f s i j : Nat) (x : (Nat → Int32) × (Nat → Int32)) (hi : i ≤ n0) (hj : j ≤ n1) (hs : s + (n0 - i) + (n1 - j) ≤ 32) (e : i = n0 ∧ j = n1) :
    ex (41, 22, [.ref 273, .int (nI i), .int (nI j), .int (nI s), dv], [], mm (upR (upR I 310 x.1) 311 x.2) J D) = some (.inl none, mm (upR (upR I 310 (goW G n0 n1 f i j x).1) 311 (goW G n0 n1 f i j x).2) J D) := by
  have hn := g.1
  have c2 : LayC G n0 n1 (-1) (-1) (upR (upR I 310 x.1) 311 x.2) := c
  have fk := c_fk (J := J) (D := D) g c2 (fun x y hx hy => by rw [uR (by omega), uR (by omega)]; exact hT x y hx hy) hi hj 5 0 (by omega)
  rw [show fsk G n0 n1 i j 5 0 = kd G n0 n1 i j from rfl] at fk
  have hx : goW G n0 n1 f i j x = x := by
    cases f with
    | zero => rfl
    | succ f => exact if_pos e
  rw [hx]
  by_cases h32 : 32 ≤ s
  · rw [e_41_22, decide_eq_true (show (32 : Int32) ≤ nI s from (nI_leI (a := 32) (by decide) (by omega)).mpr h32), cond_true, e_41_75]
  · have k5 : kd G n0 n1 i j = 5 := by rw [e.1, e.2]; exact kd_end hn
    rw [k5, if_pos rfl] at fk
    rw [e_41_22, decide_eq_false (show ¬ (32 : Int32) ≤ nI s from nI_ge (b := 32) (by omega) (by decide)), cond_false, e_41_28, e_42_0]
    rw [show ex (42, 2, [.ref 273, .int (nI i), .int (nI j), .int 0, dv], [], mm (upR (upR I 310 x.1) 311 x.2) J D) = _ from fk, cal_v, ka, e_41_34, decide_eq_false (show ¬ (-1 : Int32) ≠ -1 by decide), cond_false, e_41_42]
theorem c_go (g : LayG G n0 n1) (c : LayC G n0 n1 (-1) (-1) I) (hT : ∀ x y, x ≤ n0 → y ≤ n1 → I (275 + x) y = encO 1000000000 (PP G n0 n1 (-1) (-1) x y).1) : ∀ f s i j x, i ≤ n0 → j ≤ n1 → (n0 - i) + (n1 - j) ≤ f → s + (n0 - i) + (n1 - j) ≤ 32 → (PP G n0 n1 (-1) (-1) i j).1 ≠ none →
    ex (41, 22, [.ref 273, .int (nI i), .int (nI j), .int (nI s), dv], [], mm (upR (upR I 310 x.1) 311 x.2) J D) = some (.inl none, mm (upR (upR I 310 (goW G n0 n1 f i j x).1) 311 (goW G n0 n1 f i j x).2) J D) := by
    intro f
    induction f with
    | zero =>
      intro s i j x hi hj hf hs hne
      exact c_go1 g c hT 0 s i j x hi hj hs (show i = n0 ∧ j = n1 by omega)
    | succ f ih0 =>
    intro s i j x hi hj hf hs hne
    have hn := g.1
    have c2 : LayC G n0 n1 (-1) (-1) (upR (upR I 310 x.1) 311 x.2) := c
    have fk := c_fk (J := J) (D := D) g c2 (fun x y hx hy => by rw [uR (by omega), uR (by omega)]; exact hT x y hx hy) hi hj 5 0 (by omega)
    rw [show fsk G n0 n1 i j 5 0 = kd G n0 n1 i j from rfl] at fk
    by_cases e : i = n0 ∧ j = n1
    · exact c_go1 g c hT (f + 1) s i j x hi hj hs e
    · have k5 := kd_lt (G := G) hn hi hj hne e
      obtain ⟨⟨r1, r2⟩, r3⟩ := kd_nx k5
      have hp := tk_pos (k := kd G n0 n1 i j)
      rw [if_neg (Nat.ne_of_lt k5)] at fk
      have hx : goW G n0 n1 (f + 1) i j x = goW G n0 n1 f (i + tk0 (kd G n0 n1 i j)) (j + tk1 (kd G n0 n1 i j)) (putK (kd G n0 n1 i j) i j x) := if_neg e
      rw [hx]
      generalize kd G n0 n1 i j = kq at *
      have ih := ih0 (s + 1) _ _ (putK kq i j x) r1 r2 (by omega) (by omega) r3
      rw [e_41_22, decide_eq_false (show ¬ (32 : Int32) ≤ nI s from nI_ge (b := 32) (by omega) (by decide)), cond_false, e_41_28, e_42_0]
      rw [show ex (42, 2, [.ref 273, .int (nI i), .int (nI j), .int 0, dv], [], mm (upR (upR I 310 x.1) 311 x.2) J D) = _ from fk, cal_v, ka, e_41_34, decide_eq_true (show nI kq ≠ -1 from fun w => absurd (congrArg Int32.toInt w) (by rw [nI_toInt (by omega), show (-1 : Int32).toInt = -1 from rfl]; omega)), cond_true, e_41_43, c_ks k5 (by omega) (by omega), cal_v, kn, e_41_51, inb_n k5 (by decide), cond_true, cond_true, nI_clamp (by omega), sta0 _ k5, sta1 _ k5, nI_add, nI_add, nI_1]
      exact ih
/-! the model's -/
def Bes (F : Nat → Int32) (x : (Nat → Int32) × (Nat → Int32)) : Prop := ∀ y, y < 16 → F y = x.1 y ∧ F (16 + y) = x.2 y
theorem m_fk (g : LayG G n0 n1) (tx : TX n0 n1 (G 13) (G 18)) (c : LayM G n0 n1 I) (hT : ∀ x y, x ≤ n0 → y ≤ n1 → I 328 (18 * x + y) = encO 100000000 (PP G n0 n1 (-1) (-1) x y).1) {i j : Nat} (hi : i ≤ n0) (hj : j ≤ n1) (hne : (PP G n0 n1 (-1) (-1) i j).1 ≠ none) : ∀ r k, k + r = 5 → fsk G n0 n1 i j r k < 5 → ex (219, 51, [.ref 316, .int (nI i), .int (nI j), .int (nI k), dv, dv, dv], [], mm I J D) = ex (219, 77, [.ref 316, .int (nI i), .int (nI j), .int (nI (fsk G n0 n1 i j r k)), dv, dv, dv], [], mm I J D)
  | 0, k, h, hl => by
    have : fsk G n0 n1 i j 0 k = k := rfl
    omega
  | r + 1, k, h, hl => by
    have hn := g.1
    have by_ := m_by (J := J) (D := D) g tx c (T := PP G n0 n1 (-1) (-1)) (fun x y => PP_bd g x y) (k := k) (by omega) hi hj (fun h0 h1 => hT _ _ h0 h1)
    have wb := whP_bd (b0 := -1) (b1 := -1) g i j k (by omega)
    have eq := enc_eq (F := 100000000) (fun v hv => F8 (by omega)) wb (p := (PP G n0 n1 (-1) (-1) i j).1) (fun b hb => by have := PP_bd (b0 := -1) (b1 := -1) g i j b hb; omega)
    have e0 : ∀ X Y : Int32 → Prop, True := fun _ _ => trivial
    rw [e_219_51, by_, cal_v, ka, e_219_58, x_pa, cal_v, ka, e_219_67, inb_n (show 18 * i + j < 324 by omega) (by decide), cond_true, nI_clamp (by omega), hT i j hi hj]
    by_cases q : fcd G n0 n1 i j k
    · rw [fsk_s q, decide_eq_true (eq.mpr q.2), cond_true]
    · rw [fsk_n q] at hl ⊢
      have ih := m_fk g tx c hT hi hj hne r (k + 1) (by omega) hl
      rw [decide_eq_false (fun w => q ⟨hne, eq.mp w⟩), cond_false, e_219_71, nI_1]
      exact ih
theorem m_ks1 {k i j : Nat} {x : (Nat → Int32) × (Nat → Int32)} (hk : mny k = true) (k5 : k < 5) (hi : i + tk0 k ≤ 16) : ∀ r q, q + r = tk0 k → ∀ F, Bes F (putL x.1 i (nI j) q, x.2) → ∃ F', ex (219, 94, [.ref 316, .int (nI i), .int (nI j), dv, .int (nI (tk0 k)), .int (nI (tk1 k)), .int (nI q)], [], mm (upR I 330 F) J D) = ex (219, 122, [.ref 316, .int (nI i), .int (nI j), dv, .int (nI (tk0 k)), .int (nI (tk1 k)), dv], [], mm (upR I 330 F') J D) ∧ Bes F' (putL x.1 i (nI j) (tk0 k), x.2)
  | 0, q, h, F, hF => by
    have : q = tk0 k := by omega
    refine ⟨F, ?_, by rw [← this]; exact hF⟩
    rw [e_219_94, this, decide_eq_true ((nI_leI (by omega) (by omega)).mpr (Nat.le_refl _)), cond_true]
  | r + 1, q, h, F, hF => by
    have pos : 0 < tk1 k := by rw [mny_f k5] at hk; exact (decide_eq_true_eq.mp hk).2
    have t1 : tk1 k ≤ 2 := by unfold tk1; split <;> omega
    obtain ⟨F', e, h1⟩ := m_ks1 hk k5 hi r (q + 1) (by omega) (upd F (i + q) (nI j)) (fun y hy => by
      constructor
      · show _ = upd (putL x.1 i (nI j) q) (i + q) (nI j) y
        by_cases w : y = i + q
        · subst w; rw [uUs, uUs]
        · rw [uU w, uU w]; exact (hF y hy).1
      · rw [uU (by omega)]; exact (hF y hy).2)
    refine ⟨F', ?_, h1⟩
    rw [e_219_94, decide_eq_false (show ¬ nI (tk0 k) ≤ nI q from nI_ge (by omega) (by omega)), cond_false, e_219_101, decide_eq_false (show ¬ nI (tk1 k) ≤ 0 from nI_ge (a := 0) pos (by omega)), cond_false, e_219_106, nI_add, inb_n (show i + q < 32 by omega) (by decide), cond_true, nI_clamp (by omega), us_R, nI_1]
    exact e
theorem m_ks2 {k i j : Nat} {a b : Nat → Int32} (hk : mny k = true) (k5 : k < 5) (hj : j + tk1 k ≤ 16) : ∀ r q, q + r = tk1 k → ∀ F, Bes F (a, putL b j (nI i) q) → ∃ F', ex (219, 125, [.ref 316, .int (nI i), .int (nI j), dv, .int (nI (tk0 k)), .int (nI (tk1 k)), .int (nI q)], [], mm (upR I 330 F) J D) = ex (219, 156, [.ref 316, .int (nI i), .int (nI j), dv, .int (nI (tk0 k)), .int (nI (tk1 k)), dv], [], mm (upR I 330 F') J D) ∧ Bes F' (a, putL b j (nI i) (tk1 k))
  | 0, q, h, F, hF => by
    have : q = tk1 k := by omega
    refine ⟨F, ?_, by rw [← this]; exact hF⟩
    rw [e_219_125, this, decide_eq_true ((nI_leI (by omega) (by omega)).mpr (Nat.le_refl _)), cond_true]
  | r + 1, q, h, F, hF => by
    have pos : 0 < tk0 k := by rw [mny_f k5] at hk; exact (decide_eq_true_eq.mp hk).1
    have t0 : tk0 k ≤ 2 := by unfold tk0; split <;> omega
    obtain ⟨F', e, h1⟩ := m_ks2 (a := a) hk k5 hj r (q + 1) (by omega) (upd F (16 + j + q) (nI i)) (fun y hy => by
      constructor
      · show upd F (16 + j + q) (nI i) y = a y
        rw [uU (by omega)]; exact (hF y hy).1
      · show upd F (16 + j + q) (nI i) (16 + y) = upd (putL b j (nI i) q) (j + q) (nI i) y
        by_cases w : y = j + q
        · subst w; rw [show 16 + (j + q) = 16 + j + q by omega, uUs, uUs]
        · rw [uU (by omega), uU w]; exact (hF y hy).2)
    refine ⟨F', ?_, h1⟩
    rw [e_219_125, decide_eq_false (show ¬ nI (tk1 k) ≤ nI q from nI_ge (by omega) (by omega)), cond_false, e_219_132, decide_eq_false (show ¬ nI (tk0 k) ≤ 0 from nI_ge (a := 0) pos (by omega)), cond_false, e_219_137, show (16 : Int32) + nI j = nI (16 + j) from nI_add 16 j, nI_add, inb_n (show 16 + j + q < 32 by omega) (by decide), cond_true, nI_clamp (by omega), us_R, nI_1]
    exact e
theorem m_ks {k i j : Nat} (k5 : k < 5) (hi : i + tk0 k ≤ 16) (hj : j + tk1 k ≤ 16) {x : (Nat → Int32) × (Nat → Int32)} {F : Nat → Int32} (hF : Bes F x) : ∃ F', ex (219, 94, [.ref 316, .int (nI i), .int (nI j), dv, .int (nI (tk0 k)), .int (nI (tk1 k)), .int 0], [], mm (upR I 330 F) J D) = ex (219, 156, [.ref 316, .int (nI i), .int (nI j), dv, .int (nI (tk0 k)), .int (nI (tk1 k)), dv], [], mm (upR I 330 F') J D) ∧ Bes F' (putK k i j x) := by
  cases hm : mny k with
  | true =>
    obtain ⟨F1, e1, h1⟩ := m_ks1 (I := I) (J := J) (D := D) (j := j) (x := x) hm k5 hi (tk0 k) 0 (by omega) F hF
    obtain ⟨F2, e2, h2⟩ := m_ks2 (I := I) (J := J) (D := D) (i := i) hm k5 hj (tk1 k) 0 (by omega) F1 h1
    refine ⟨F2, (show ex (219, 94, [.ref 316, .int (nI i), .int (nI j), dv, .int (nI (tk0 k)), .int (nI (tk1 k)), .int 0], [], mm (upR I 330 F) J D) = _ from e1).trans (by rw [e_219_122]; exact e2), ?_⟩
    unfold putK; rw [hm]; exact h2
  | false =>
    have hx : putK k i j x = x := by unfold putK; rw [hm]; rfl
    refine ⟨F, ?_, by rw [hx]; exact hF⟩
    have hk : k = 1 ∨ k = 2 := by
      unfold mny at hm
      have := decide_eq_false_iff_not.mp hm
      omega
    rcases hk with rfl | rfl
    · rw [e_219_94, decide_eq_false (show ¬ nI (tk0 1) ≤ 0 by decide), cond_false, e_219_101, decide_eq_true (show nI (tk1 1) ≤ 0 by decide), cond_true, e_219_122, e_219_125, decide_eq_true (show nI (tk1 1) ≤ 0 by decide), cond_true]
    · rw [e_219_94, decide_eq_true (show nI (tk0 2) ≤ 0 by decide), cond_true, e_219_122, e_219_125, decide_eq_false (show ¬ nI (tk1 2) ≤ 0 by decide), cond_false, e_219_132, decide_eq_true (show nI (tk0 2) ≤ 0 by decide), cond_true]
theorem m_gw (g : LayG G n0 n1) (tx : TX n0 n1 (G 13) (G 18)) (c : LayM G n0 n1 I) (hT : ∀ x y, x ≤ n0 → y ≤ n1 → I 328 (18 * x + y) = encO 100000000 (PP G n0 n1 (-1) (-1) x y).1) : ∀ f i j x F, i ≤ n0 → j ≤ n1 → (n0 - i) + (n1 - j) ≤ f → (PP G n0 n1 (-1) (-1) i j).1 ≠ none → Bes F x →
    ∃ F', ex (219, 25, [.ref 316, .int (nI i), .int (nI j), dv, dv, dv, dv], [], mm (upR I 330 F) J D) = some (.inl none, mm (upR I 330 F') J D) ∧ Bes F' (goW G n0 n1 f i j x) := by
  have hn := g.1
  have stop : ∀ f i j x F, i = n0 ∧ j = n1 → Bes F x → ∃ F', ex (219, 25, [.ref 316, .int (nI i), .int (nI j), dv, dv, dv, dv], [], mm (upR I 330 F) J D) = some (.inl none, mm (upR I 330 F') J D) ∧ Bes F' (goW G n0 n1 f i j x) := by
    intro f i j x F e hF
    have cc : LayM G n0 n1 (upR I 330 F) := c.go (by rw [uR (by decide)])
    have hx : goW G n0 n1 f i j x = x := by
      cases f with
      | zero => rfl
      | succ f => exact if_pos e
    refine ⟨F, ?_, by rw [hx]; exact hF⟩
    rw [e_219_25, cc.1.1, decide_eq_false (show ¬ nI i < nI n0 from nI_nlt (by omega) (by omega)), cond_false, e_219_37, cc.1.2, decide_eq_true (show nI n1 ≤ nI j from (nI_leI (by omega) (by omega)).mpr (by omega)), cond_true, e_219_169]
  intro f
  induction f with
  | zero =>
    intro i j x F hi hj hf hne hF
    exact stop 0 i j x F (by omega) hF
  | succ f ih0 =>
    intro i j x F hi hj hf hne hF
    by_cases e : i = n0 ∧ j = n1
    · exact stop (f + 1) i j x F e hF
    · have cc : LayM G n0 n1 (upR I 330 F) := c.go (by rw [uR (by decide)])
      have k5 := kd_lt (G := G) hn hi hj hne e
      obtain ⟨⟨r1, r2⟩, r3⟩ := kd_nx k5
      have hp := tk_pos (k := kd G n0 n1 i j)
      have hx : goW G n0 n1 (f + 1) i j x = goW G n0 n1 f (i + tk0 (kd G n0 n1 i j)) (j + tk1 (kd G n0 n1 i j)) (putK (kd G n0 n1 i j) i j x) := if_neg e
      have fk := m_fk (I := upR I 330 F) (J := J) (D := D) g tx cc (fun x y hx hy => by rw [uR (by decide)]; exact hT x y hx hy) hi hj hne 5 0 (by omega) k5
      rw [show fsk G n0 n1 i j 5 0 = kd G n0 n1 i j from rfl] at fk
      rw [hx]
      generalize kd G n0 n1 i j = kq at *
      obtain ⟨F1, e1, h1⟩ := m_ks (I := I) (J := J) (D := D) (i := i) (j := j) k5 (by omega) (by omega) hF
      obtain ⟨F2, e2, h2⟩ := ih0 _ _ (putK kq i j x) F1 r1 r2 (by omega) r3 h1
      refine ⟨F2, ?_, h2⟩
      have en : ex (219, 25, [.ref 316, .int (nI i), .int (nI j), dv, dv, dv, dv], [], mm (upR I 330 F) J D) = ex (219, 49, [.ref 316, .int (nI i), .int (nI j), dv, dv, dv, dv], [], mm (upR I 330 F) J D) := by
        by_cases q : i < n0
        · rw [e_219_25, cc.1.1, decide_eq_true ((nI_ltI (by omega) (by omega)).mpr q), cond_true]
        · rw [e_219_25, cc.1.1, decide_eq_false (show ¬ nI i < nI n0 from nI_nlt (by omega) (by omega)), cond_false, e_219_37, cc.1.2, decide_eq_false (show ¬ nI n1 ≤ nI j from nI_ge (by omega) (by omega)), cond_false]
      rw [en, e_219_49]
      refine (show ex (219, 51, [.ref 316, .int (nI i), .int (nI j), .int 0, dv, dv, dv], [], mm (upR I 330 F) J D) = _ from fk).trans ?_
      rw [e_219_77, m_tk0 k5, cal_v, ka, e_219_82, m_tk1 k5, cal_v, ka, e_219_89]
      refine e1.trans ?_
      rw [e_219_156, nI_add, nI_add]
      exact e2
theorem m_bs0 : ∀ r k, k + r = 32 → ex (219, 2, [.ref 316, .int (nI k), dv, dv, dv, dv, dv], [], mm (upR I 330 (lpN (fun _ => -1) (I 330) k)) J D) = ex (219, 21, [.ref 316, dv, dv, dv, dv, dv, dv], [], mm (upR I 330 (lpN (fun _ => -1) (I 330) 32)) J D)
  | 0, k, h => by
    have : k = 32 := by omega
    subst this
    rw [e_219_2, decide_eq_true (show (32 : Int32) ≤ nI 32 by decide), cond_true]
  | r + 1, k, h => by
    have ih := m_bs0 r (k + 1) (by omega)
    rw [← lpN_s] at ih
    rw [e_219_2, decide_eq_false (show ¬ (32 : Int32) ≤ nI k from nI_ge (a := k) (b := 32) (by omega) (by decide)), cond_false, e_219_8, inb_n (show k < 32 by omega) (by decide), cond_true, nI_clamp (by omega), us_R, nI_1]
    exact ih
theorem m_go0 (g : LayG G n0 n1) (tx : TX n0 n1 (G 13) (G 18)) (c : LayM G n0 n1 I) (hT : ∀ x y, x ≤ n0 → y ≤ n1 → I 328 (18 * x + y) = encO 100000000 (PP G n0 n1 (-1) (-1) x y).1) : ∃ F', ex (219, 0, [.ref 316, dv, dv, dv, dv, dv, dv], [], mm I J D) = some (.inl none, mm (upR I 330 F') J D) ∧ Bes F' (goW G n0 n1 32 0 0 (fun _ => -1, fun _ => -1)) := by
  have hn := g.1
  have hne : (PP G n0 n1 (-1) (-1) 0 0).1 ≠ none := by
    obtain ⟨b, -, h⟩ := PP_00 g tx
    rw [h]; intro w; cases w
  have l0 := m_bs0 (I := I) (J := J) (D := D) 32 0 (by omega)
  rw [lpN_0, upR_me] at l0
  obtain ⟨F, e, h⟩ := m_gw (J := J) (D := D) g tx c hT 32 0 0 (fun _ => -1, fun _ => -1) (lpN (fun _ => -1) (I 330) 32) (Nat.zero_le _) (Nat.zero_le _) (by omega) hne (fun y hy => by unfold lpN; rw [if_pos (by omega), if_pos (by omega)]; exact ⟨rfl, rfl⟩)
  refine ⟨F, ?_, h⟩
  rw [e_219_0]
  refine (show ex (219, 2, [.ref 316, .int 0, dv, dv, dv, dv, dv], [], mm I J D) = _ from l0).trans ?_
  rw [e_219_21]
  exact e
end FW
/-- the ways depend on the arrays only where the bands are -/
theorem putL_cg {a b : Nat → Int32} {s : Nat} {v : Int32} (h : ∀ y, y < 16 → a y = b y) : ∀ q, ∀ y, y < 16 → putL a s v q y = putL b s v q y
  | 0, y, hy => h y hy
  | q + 1, y, hy => by
    show upd _ _ _ y = upd _ _ _ y
    by_cases w : y = s + q
    · subst w; rw [uUs, uUs]
    · rw [uU w, uU w]; exact putL_cg h q y hy
theorem goW_cg {G : Nat → Nat → Int32} {n0 n1 : Nat} : ∀ f i j (x z : (Nat → Int32) × (Nat → Int32)), (∀ y, y < 16 → x.1 y = z.1 y ∧ x.2 y = z.2 y) → ∀ y, y < 16 → (goW G n0 n1 f i j x).1 y = (goW G n0 n1 f i j z).1 y ∧ (goW G n0 n1 f i j x).2 y = (goW G n0 n1 f i j z).2 y
  | 0, i, j, x, z, h, y, hy => h y hy
  | f + 1, i, j, x, z, h, y, hy => by
    show (if i = n0 ∧ j = n1 then x else _).1 y = (if i = n0 ∧ j = n1 then z else _).1 y ∧ (if i = n0 ∧ j = n1 then x else _).2 y = (if i = n0 ∧ j = n1 then z else _).2 y
    by_cases e : i = n0 ∧ j = n1
    · rw [if_pos e, if_pos e]; exact h y hy
    · rw [if_neg e, if_neg e]
      refine goW_cg f _ _ _ _ (fun y hy => ?_) y hy
      unfold putK
      cases mny (kd G n0 n1 i j) with
      | false => exact h y hy
      | true => exact ⟨putL_cg (fun y hy => (h y hy).1) _ y hy, putL_cg (fun y hy => (h y hy).2) _ y hy⟩
theorem c_go0 {I : Nat → Nat → Int32} {J : Nat → Nat → Int64} {D : Nat → Nat → UInt64} {G : Nat → Nat → Int32} {n0 n1 : Nat} (g : LayG G n0 n1) (tx : TX n0 n1 (G 13) (G 18)) (c : LayC G n0 n1 (-1) (-1) I) (hT : ∀ x y, x ≤ n0 → y ≤ n1 → I (275 + x) y = encO 1000000000 (PP G n0 n1 (-1) (-1) x y).1) : ∃ A B, ex (41, 0, [.ref 273, dv, dv, dv, dv], [], mm I J D) = some (.inl none, mm (upR (upR I 310 A) 311 B) J D) ∧ ∀ y, y < 16 → A y = (goW G n0 n1 32 0 0 (fun _ => -1, fun _ => -1)).1 y ∧ B y = (goW G n0 n1 32 0 0 (fun _ => -1, fun _ => -1)).2 y := by
  have hn := g.1
  have hne : (PP G n0 n1 (-1) (-1) 0 0).1 ≠ none := by
    obtain ⟨b, -, h⟩ := PP_00 g tx
    rw [h]; intro w; cases w
  have l := c_go (J := J) (D := D) g c hT 32 0 0 0 (lpN (fun _ => -1) (I 310) 16, lpN (fun _ => -1) (I 311) 16) (Nat.zero_le _) (Nat.zero_le _) (by omega) (by omega) hne
  refine ⟨(goW G n0 n1 32 0 0 (lpN (fun _ => -1) (I 310) 16, lpN (fun _ => -1) (I 311) 16)).1, (goW G n0 n1 32 0 0 (lpN (fun _ => -1) (I 310) 16, lpN (fun _ => -1) (I 311) 16)).2, ?_, fun y hy => goW_cg 32 0 0 (lpN (fun _ => -1) (I 310) 16, lpN (fun _ => -1) (I 311) 16) (fun _ => -1, fun _ => -1) (fun y hy => by
    show lpN (fun _ => -1) (I 310) 16 y = -1 ∧ lpN (fun _ => -1) (I 311) 16 y = -1
    unfold lpN; rw [if_pos hy, if_pos hy]; exact ⟨rfl, rfl⟩) y hy⟩
  rw [e_41_0, x_fill0 (q := 310) (N := 16) rfl (by decide) (by decide), cal_v, kn, e_41_8, x_fill0 (q := 311) (N := 16) rfl (by decide) (by decide), cal_v, kn, e_41_16, uR (show 311 ≠ 310 by decide)]
  exact l

theorem t_26 {L kk : Nat} {I : Nat → Nat → Int32} {J : Nat → Nat → Int64} {D : Nat → Nat → UInt64} (v : Int32) (h : Inv L kk I J D) (sc : ScOK v I) : Turn L kk 1632 v I J D := by
  obtain ⟨x, hx1⟩ : ∃ q, I 1000002 (v + 1).toNatClampNeg = q := ⟨_, rfl⟩
  obtain ⟨y, hx2⟩ : ∃ q, I 1000002 (v + 2).toNatClampNeg = q := ⟨_, rfl⟩
  obtain ⟨n0, n1, g, tx, lm, c0, c1⟩ := inv_lay h.2.1
  have hn := g.1
  have p2 := le_pred (v := x) (b := 1) (B := 2) (B1 := 1) rfl rfl (by decide)
  by_cases hx : 0 ≤ x ∧ x < 2
  · obtain ⟨w, hw, rfl⟩ := ix_of (m := 2) (n := 2) rfl hx
    obtain ⟨n, hnn, bnd⟩ : ∃ n, n ≤ 16 ∧ ((0 ≤ y ∧ y < nI n) → (ex (150, 0, [.ref 0, .int (nI w), .int y], [], mm I J D) = some (.inl none, mm I J D)) ∧ ∀ I2 J2 D2, I2 317 = I 317 → ex (199, 0, [.ref 316, .int (nI w), .int y], [], mm I2 J2 D2) = some (.inl (some (.int 1)), mm I2 J2 D2)) ∧ (¬ (0 ≤ y ∧ y < nI n) → (ex (150, 0, [.ref 0, .int (nI w), .int y], [], mm I J D) = some (.inr (.inl 2), mm I J D)) ∧ ex (199, 0, [.ref 316, .int (nI w), .int y], [], mm I J D) = some (.inl (some (.int 0)), mm I J D)) := by
      rcases (show w = 0 ∨ w = 1 by omega) with rfl | rfl
      · exact ⟨n0, hn.1, fun hy => ⟨c_bandT0 (by rw [c0]; exact hy), fun I2 J2 D2 e => m_bandT (i := 0) (by decide) (by rw [e]; exact lm.1.1) hn.1 hy⟩, fun hy => ⟨c_bandF0 (by rw [c0]; exact hy), m_bandF (i := 0) (by decide) lm.1.1 hn.1 hy⟩⟩
      · exact ⟨n1, hn.2, fun hy => ⟨c_bandT1 (by rw [c1]; exact hy), fun I2 J2 D2 e => m_bandT (i := 1) (by decide) (by rw [e]; exact lm.1.2) hn.2 hy⟩, fun hy => ⟨c_bandF1 (by rw [c1]; exact hy), m_bandF (i := 1) (by decide) lm.1.2 hn.2 hy⟩⟩
    by_cases hy : 0 ≤ y ∧ y < nI n
    · obtain ⟨q, hq, rfl⟩ := ix_of (m := n) (nI_toInt (by omega)) hy
      obtain ⟨bn, mb⟩ := bnd.1 hy
      obtain ⟨I1, J1, e1, f1, lc, t1⟩ := c_lay (J := J) (D := D) (b0 := -1) (b1 := -1) g c0 c1
      obtain ⟨A, B, e2, hAB⟩ := c_go0 (J := J1) (D := D) g tx lc (fun x y hx hy => (t1 x y hx hy).1)
      have w2 : (upR (upR I1 310 A) 311 B) 317 = I 317 := by rw [uR (by decide), uR (by decide)]; exact f1 317 (Or.inr (by decide))
      obtain ⟨r, er⟩ : ∃ r : Int32, r = if w = 0 then (goW I n0 n1 32 0 0 (fun _ => -1, fun _ => -1)).1 q else (goW I n0 n1 32 0 0 (fun _ => -1, fun _ => -1)).2 q := ⟨_, rfl⟩
      obtain ⟨I3, J3, e3, f3, g3, t3⟩ := m_lay (I := ups (upR (upR I1 310 A) 311 B) 316 0 0) (J := upsL J1 335 0 r.toInt64) (D := D) (b0 := -1) (b1 := -1) g tx (lm.go (by rw [uI (by decide), w2]))
      obtain ⟨F, e4, hF⟩ := m_go0 (I := I3) (J := J3) (D := D) g tx (lm.go (by rw [f3 317 (by decide), uI (by decide), w2])) (fun x y hx hy => (t3 x y hx hy).1)
      have mb' := mb (upR (upR I1 310 A) 311 B) (upsL J1 335 0 r.toInt64) D w2
      refine tk_26 (r := r) (I1 := upR (upR I1 310 A) 311 B) (J1 := J1) (D1 := D) (I2 := upR I3 330 F) (J2 := J3) (D2 := D) sc hx1 hx2 ?_ ?_ ?_ ?_ ?_ ?_ ?_
      · rw [e_116_0, x_row hx, cal_v, kn, e_116_5, bn, cal_v, kn, e_116_11, e1, cal_v, kn, e_116_20, e2, cal_v, kn, e_116_27]
        rcases (show w = 0 ∨ w = 1 by omega) with rfl | rfl
        · rw [decide_eq_false (show ¬ nI 0 ≠ 0 by decide), cond_false, e_116_31, inb_n (show q < 16 by omega) (by decide), cond_true, nI_clamp (by omega), uR (by decide), uRs, e_116_52, (hAB q (by omega)).1, er, if_pos rfl]
        · rw [decide_eq_true (show nI 1 ≠ 0 by decide), cond_true, e_116_43, inb_n (show q < 16 by omega) (by decide), cond_true, nI_clamp (by omega), uRs, e_116_52, (hAB q (by omega)).2, er, if_neg (by decide)]
      · rw [uR (by decide), uR (by decide), f1 iSCL (Or.inr (by decide))]
      · rw [uR (by decide), uR (by decide), f1 1000002 (Or.inr (by decide))]
      · rw [e_220_0, mb', cal_v, ka, e_220_7, x_canT, cal_v, ka, e_220_11, d11, cond_true, e_220_16, e3, cal_v, kn, e_220_22, e4, cal_v, kn, e_220_26, show (16 : Int32) * nI w = nI (16 * w) from pk_mul 16 w, nI_add, inb_n (show 16 * w + q < 32 by omega) (by decide), cond_true, nI_clamp (by omega), uRs]
        rcases (show w = 0 ∨ w = 1 by omega) with rfl | rfl
        · rw [show 16 * 0 + q = q by omega, (hF q (by omega)).1, er, if_pos rfl]
        · rw [show 16 * 1 + q = 16 + q by omega, (hF q (by omega)).2, er, if_neg (by decide)]
      · rw [uR (by decide), f3 316 (by decide), uIs, uUs]
      · rw [g3 335 (by decide)]; exact upsL_s
      · exact inv_st h ((((((Same.l f1).tr (Same.R (by decide))).tr (Same.R (by decide))).tr Same.r).tr (Same.q (by decide) f3)).tr (Same.R (by decide)))
    · obtain ⟨bn, mb⟩ := bnd.2 hy
      refine te_26_2 (s := 0) (I1 := I) (J1 := J) (D1 := D) (I2 := ups I 316 0 1) (J2 := J) (D2 := D) sc hx1 hx2 ?_ rfl rfl ?_ ?_ (inv_r h)
      · rw [e_116_0, x_row hx, cal_v, kn, e_116_5, bn, cal_e]
      · rw [e_220_0, mb, cal_v, ka, e_220_7, x_canF, cal_v, ka, e_220_11, d01, cond_false, e_220_14]
      · rw [uIs, uUs]
  · have mb := m_bandR (I := I) (J := J) (D := D) (x := x) (v := y) (fun q => hx (p2.mpr q))
    refine te_26_2 (s := 0) (I1 := I) (J1 := J) (D1 := D) (I2 := ups I 316 0 1) (J2 := J) (D2 := D) sc hx1 hx2 ?_ rfl rfl ?_ ?_ (inv_r h)
    · rw [e_116_0, x_row1 hx, cal_e]
    · rw [e_220_0, mb, cal_v, ka, e_220_7, x_canF, cal_v, ka, e_220_11, d01, cond_false, e_220_14]
    · rw [uIs, uUs]
