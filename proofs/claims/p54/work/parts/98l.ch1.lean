/-! chains of bounds: the book's tables -/
def fO (F : Int32) (o : Option Int) : Int32 := match o with
  | none => F
  | some v => Int32.ofInt v
def Bo (B : Int) (o : Option Int) : Prop := ∀ v, o = some v → -B ≤ v ∧ v ≤ B
/-- a number for 'far', and sums that stay below it -/
def okFr (F : Int32) : Prop := 100000000 ≤ F.toInt ∧ F.toInt ≤ 1000000000
def Fr (F : Int32) (o : Option Int) : Prop := ∀ v, o = some v → -1000000000 ≤ v ∧ v < F.toInt
theorem okF9 : okFr 1000000000 := by unfold okFr; decide
theorem okF8 : okFr 100000000 := by unfold okFr; decide
theorem oI_t {v : Int} (h : -2000000000 ≤ v ∧ v ≤ 2000000000) : (Int32.ofInt v).toInt = v := Int32.toInt_ofInt_of_le (by omega) (by omega)
theorem oI_a (a b : Int) : Int32.ofInt a + Int32.ofInt b = Int32.ofInt (a + b) := (Int32.ofInt_add a b).symm
theorem oI_lt {a b : Int} (ha : -2000000000 ≤ a ∧ a ≤ 2000000000) (hb : -2000000000 ≤ b ∧ b ≤ 2000000000) : (Int32.ofInt a < Int32.ofInt b) ↔ a < b := by
  rw [Int32.lt_iff_toInt_lt, oI_t ha, oI_t hb]
theorem oI_le {a b : Int} (ha : -2000000000 ≤ a ∧ a ≤ 2000000000) (hb : -2000000000 ≤ b ∧ b ≤ 2000000000) : (Int32.ofInt a ≤ Int32.ofInt b) ↔ a ≤ b := by
  rw [Int32.le_iff_toInt_le, oI_t ha, oI_t hb]
theorem oI_eq {a b : Int} (ha : -2000000000 ≤ a ∧ a ≤ 2000000000) (hb : -2000000000 ≤ b ∧ b ≤ 2000000000) : (Int32.ofInt a = Int32.ofInt b) ↔ a = b := by
  rw [← Int32.toInt_inj, oI_t ha, oI_t hb]
theorem oI_0 : (0 : Int32) = Int32.ofInt 0 := rfl
theorem Bo.fr {F : Int32} (hF : okFr F) {B : Int} (hB : B ≤ 90000000) {o : Option Int} (h : Bo B o) : Fr F o := fun v e => by
  have := h v e
  have := hF.1
  omega
theorem Bo.le {B C : Int} (h : B ≤ C) {o : Option Int} (k : Bo B o) : Bo C o := fun v e => by have := k v e; omega
theorem fO_ne {F : Int32} (hF : okFr F) {v : Int} (h : -1000000000 ≤ v ∧ v < F.toInt) : Int32.ofInt v ≠ F := fun e => by
  have := hF.2
  have h2 := oI_t (v := v) (by omega)
  rw [e] at h2
  omega
theorem fO_is {F : Int32} (hF : okFr F) {o : Option Int} (ho : Fr F o) : fO F o = F ↔ o = none := by
  cases o with
  | none => exact ⟨fun _ => rfl, fun _ => rfl⟩
  | some v => exact ⟨fun e => absurd e (fO_ne hF (ho v rfl)), fun e => by cases e⟩
theorem fO_inj {F : Int32} (hF : okFr F) {o p : Option Int} (ho : Fr F o) (hp : Fr F p) : fO F o = fO F p ↔ o = p := by
  refine ⟨fun e => ?_, fun e => by rw [e]⟩
  have f2 := hF.2
  cases o with
  | none => exact ((fO_is hF hp).mp e.symm).symm
  | some v =>
    cases p with
    | none => exact absurd e (fO_ne hF (ho v rfl))
    | some w =>
      have a := ho v rfl
      have b := hp w rfl
      have e : Int32.ofInt v = Int32.ofInt w := e
      rw [(oI_eq (by omega) (by omega)).mp e]
theorem fO_lt {F : Int32} (hF : okFr F) {o : Option Int} (ho : Fr F o) {v : Int} (hv : -1000000000 ≤ v ∧ v < F.toInt) : (Int32.ofInt v < fO F o) ↔ ∀ w, o = some w → v < w := by
  have f2 := hF.2
  cases o with
  | none =>
    refine ⟨fun _ w e => (by cases e), fun _ => ?_⟩
    show Int32.ofInt v < F
    rw [Int32.lt_iff_toInt_lt, oI_t (by omega)]; exact hv.2
  | some w =>
    have b := ho w rfl
    show Int32.ofInt v < Int32.ofInt w ↔ _
    rw [oI_lt (by omega) (by omega)]
    exact ⟨fun h u e => by cases e; exact h, fun h => h w rfl⟩
theorem fO_min {F : Int32} (hF : okFr F) {o : Option Int} (ho : Fr F o) {v : Int} (hv : -1000000000 ≤ v ∧ v < F.toInt) : (if Int32.ofInt v < fO F o then Int32.ofInt v else fO F o) = fO F (omin o v) := by
  have k := fO_lt hF ho hv
  cases o with
  | none => rw [if_pos (k.mpr (fun w e => by cases e))]; rfl
  | some w =>
    show _ = fO F (if v < w then some v else some w)
    by_cases q : v < w
    · rw [if_pos (k.mpr (fun u e => by cases e; exact q)), if_pos q]; rfl
    · rw [if_neg (fun h => q (k.mp h w rfl)), if_neg q]
theorem fO_mn {F : Int32} (hF : okFr F) {o p : Option Int} (ho : Fr F o) (hp : Fr F p) : (if fO F p < fO F o then fO F p else fO F o) = fO F (omO o p) := by
  cases p with
  | none =>
    have : ¬ fO F none < fO F o := by
      show ¬ F < fO F o
      cases o with
      | none => exact Int32.lt_irrefl
      | some w =>
        have f2 := hF.2
        have b := ho w rfl
        show ¬ F < Int32.ofInt w
        rw [Int32.lt_iff_toInt_lt, oI_t (by omega)]; omega
    rw [if_neg this]; rfl
  | some v => exact fO_min hF ho (hp v rfl)
theorem Fr.omO {F : Int32} {o p : Option Int} (ho : Fr F o) (hp : Fr F p) : Fr F (omO o p) := fun v e => by
  rcases omO_some e with q | q
  · exact ho v q
  · exact hp v q
/-- what the bounds are -/
def Bds (n : Nat) (P Q : Nat → Nat) (W : Nat → Int) : Prop := n ≤ 50 ∧ ∀ k, k < n → (P k < 17 ∧ Q k < 17 ∧ P k ≠ Q k) ∧ -9999 ≤ W k ∧ W k ≤ 9999
def BoP (n : Nat) (P Q : Nat → Nat) (W : Nat → Int) (t : Nat → Bool) (I : Nat → Nat → Int32) : Prop := I 2 5 = nI n ∧ ∀ k, k < n → I 3 k = nI (P k) ∧ I 4 k = nI (Q k) ∧ I 5 k = Int32.ofInt (W k) ∧ I 6 k = bI (t k)
theorem BoP.go {n : Nat} {P Q : Nat → Nat} {W : Nat → Int} {t : Nat → Bool} {I I' : Nat → Nat → Int32} (h : BoP n P Q W t I) (e : ∀ p, 2 ≤ p → p < 7 → I' p = I p) : BoP n P Q W t I' := by
  unfold BoP
  rw [e 2 (by decide) (by decide), e 3 (by decide) (by decide), e 4 (by decide) (by decide), e 5 (by decide) (by decide), e 6 (by decide) (by decide)]
  exact h
section MB
variable {I : Nat → Nat → Int32} {J : Nat → Nat → Int64} {D : Nat → Nat → UInt64} {n b : Nat} {P Q : Nat → Nat} {W : Nat → Int} {t th : Nat → Bool} {T : Nat → Option Int}
theorem SF_s0 {x k : Nat} (h : th k = false ∨ T (Q k) = none) : SF P Q W th T x (k + 1) = SF P Q W th T x k := by
  show (if th k = true ∧ P k = x then omO (SF P Q W th T x k) ((T (Q k)).map (fun r => r + W k)) else SF P Q W th T x k) = _
  by_cases q : th k = true ∧ P k = x
  · rw [if_pos q]
    rcases h with h | h
    · rw [h] at q; cases q.1
    · rw [h]; rfl
  · rw [if_neg q]
theorem SF_s1 {k : Nat} {r : Int} (h : th k = true) (e : T (Q k) = some r) : SF P Q W th T (P k) (k + 1) = omin (SF P Q W th T (P k) k) (r + W k) := by
  show (if th k = true ∧ P k = P k then omO (SF P Q W th T (P k) k) ((T (Q k)).map (fun r => r + W k)) else SF P Q W th T (P k) k) = _
  rw [if_pos ⟨h, rfl⟩, e]; rfl
theorem SF_s2 {x k : Nat} (h : P k ≠ x) : SF P Q W th T x (k + 1) = SF P Q W th T x k := by
  show (if th k = true ∧ P k = x then omO (SF P Q W th T x k) ((T (Q k)).map (fun r => r + W k)) else SF P Q W th T x k) = _
  rw [if_neg (fun q => h q.2)]
theorem SF_Bo (g : Bds n P Q W) {B : Int} (hT : ∀ x, x < 17 → Bo B (T x)) {x m : Nat} (hm : m ≤ n) : Bo (B + 9999) (SF P Q W th T x m) := fun v h => by
  obtain ⟨k, hk, -, -, r, e, h2⟩ := SF_ch h
  have a := hT (Q k) (g.2 k (by omega)).1.2.1 r e
  have c := (g.2 k (by omega)).2
  omega
theorem SS_Bo (g : Bds n P Q W) (u x : Nat) : Bo (9999 * (u : Int)) (SS n P Q W th b u x) := fun v h => SS_bd (fun k hk => (g.2 k hk).2) u x v (SS_ch u x v h)
theorem LSu_Bo (g : Bds n P Q W) (m x : Nat) : Bo (9999 * (m : Int)) (LSu n P Q W th b x m) := fun v h => by
  obtain ⟨u, hu, e⟩ := LSu_ch h
  have := SS_Bo g u x v e
  omega
/-- one more bound of a row of the book's table -/
theorem c_ms1 (g : Bds n P Q W) (bo : BoP n P Q W t I) {wo : Int32} (hth : ∀ k, k < n → th k = (t k && !decide (nI k = wo))) (hT : ∀ x, x < 17 → Bo 200000 (T x)) {u : Nat} (hu : u < 16) (hr : ∀ x, x < 17 → I (247 + u) x = fO 1000000000 (T x)) : ∀ r k, k + r = n → ∀ F : Nat → Int32, (∀ x, x < 17 → F x = fO 1000000000 (SF P Q W th T x k)) →
    ∃ F' : Nat → Int32, ex (11, 45, [.ref 245, dv, .int wo, .int (nI (u + 1)), .int (nI k), dv, dv], [], mm (upR I (247 + (u + 1)) F) J D) = ex (11, 156, [.ref 245, dv, .int wo, .int (nI (u + 1)), dv, dv, dv], [], mm (upR I (247 + (u + 1)) F') J D) ∧ ∀ x, x < 17 → F' x = fO 1000000000 (SF P Q W th T x n)
  | 0, k, h, F, hF => by
    have : k = n := by omega
    subst this
    have n50 := g.1
    exact ⟨F, by rw [e_11_45, uR (show 2 ≠ 247 + (u + 1) by omega), bo.1, decide_eq_true ((nI_leI (by omega) (by omega)).mpr (Nat.le_refl _)), cond_true], hF⟩
  | r + 1, k, h, F, hF => by
    obtain ⟨b3, b4, b5, b6⟩ := bo.2 k (by omega)
    obtain ⟨⟨p17, q17, pq⟩, w1, w2⟩ := g.2 k (by omega)
    have n50 := g.1
    have ih := c_ms1 g bo hth hT hu hr r (k + 1) (by omega)
    have e0 : ex (11, 45, [.ref 245, dv, .int wo, .int (nI (u + 1)), .int (nI k), dv, dv], [], mm (upR I (247 + (u + 1)) F) J D) = bif decide (bI (t k) = 0) then ex (11, 150, [.ref 245, dv, .int wo, .int (nI (u + 1)), .int (nI k), dv, dv], [], mm (upR I (247 + (u + 1)) F) J D) else ex (11, 91, [.ref 245, dv, .int wo, .int (nI (u + 1)), .int (nI k), .int (fO 1000000000 (T (Q k))), dv], [], mm (upR I (247 + (u + 1)) F) J D) := by
      rw [e_11_45, uR (show 2 ≠ 247 + (u + 1) by omega), bo.1, decide_eq_false (show ¬ nI n ≤ nI k from nI_ge (by omega) (by omega)), cond_false, e_11_57, nI_pred, inb_n (show u < 17 by omega) (by decide), cond_true, inb_n (show k < 50 by omega) (by decide), cond_true, nI_clamp (show k < 2 ^ 31 by omega), uR (show 4 ≠ 247 + (u + 1) by omega), b4, inb_n q17 (by decide), cond_true, cond_true, uR (show 6 ≠ 247 + (u + 1) by omega), b6, nI_clamp (show u < 2 ^ 31 by omega), nI_clamp (show Q k < 2 ^ 31 by omega), uR (show 247 + u ≠ 247 + (u + 1) by omega), hr _ q17]
    have nx : ∀ F : Nat → Int32, ex (11, 150, [.ref 245, dv, .int wo, .int (nI (u + 1)), .int (nI k), dv, dv], [], mm (upR I (247 + (u + 1)) F) J D) = ex (11, 45, [.ref 245, dv, .int wo, .int (nI (u + 1)), .int (nI (k + 1)), dv, dv], [], mm (upR I (247 + (u + 1)) F) J D) := fun F => by rw [e_11_150, nI_1]
    have stay : (th k = false ∨ T (Q k) = none) → ∀ x, x < 17 → F x = fO 1000000000 (SF P Q W th T x (k + 1)) := fun hs x hx => by rw [SF_s0 hs]; exact hF x hx
    have ht := hth k (by omega)
    cases htk : t k with
    | false =>
      rw [htk, Bool.false_and] at ht
      obtain ⟨F', e1, h1⟩ := ih F (stay (Or.inl ht))
      exact ⟨F', by rw [e0, htk, decide_eq_true (show bI false = 0 from rfl), cond_true, nx]; exact e1, h1⟩
    | true =>
      rw [htk, Bool.true_and] at ht
      by_cases hw : nI k = wo
      · rw [decide_eq_true hw] at ht
        obtain ⟨F', e1, h1⟩ := ih F (stay (Or.inl ht))
        exact ⟨F', by rw [e0, htk, decide_eq_false (show ¬ bI true = 0 by decide), cond_false, e_11_91, decide_eq_true hw, cond_true, nx]; exact e1, h1⟩
      · rw [decide_eq_false hw] at ht
        cases hq : T (Q k) with
        | none =>
          obtain ⟨F', e1, h1⟩ := ih F (stay (Or.inr hq))
          exact ⟨F', by rw [e0, htk, decide_eq_false (show ¬ bI true = 0 by decide), cond_false, e_11_91, decide_eq_false hw, cond_false, e_11_97, hq, decide_eq_true (show fO 1000000000 none = 1000000000 from rfl), cond_true, nx]; exact e1, h1⟩
        | some v =>
          have vb := hT _ q17 v hq
          have sb := (SF_Bo (th := th) g hT (x := P k) (m := k) (by omega)).fr okF9 (by omega)
          obtain ⟨F', e1, h1⟩ := ih (upd F (P k) (fO 1000000000 (omin (SF P Q W th T (P k) k) (v + W k)))) (fun x hx => by
            by_cases q : x = P k
            · subst q; rw [uUs, SF_s1 (by rw [ht]; rfl) hq]
            · rw [uU q, SF_s2 (fun e => q e.symm)]; exact hF x hx)
          refine ⟨F', ?_, h1⟩
          rw [e0, htk, decide_eq_false (show ¬ bI true = 0 by decide), cond_false, e_11_91, decide_eq_false hw, cond_false, e_11_97, hq, decide_eq_false (show ¬ fO 1000000000 (some v) = 1000000000 from fO_ne okF9 ⟨by omega, by have := okF9.1; omega⟩), cond_false, e_11_104, inb_n (show k < 50 by omega) (by decide), cond_true, inb_n (show u + 1 < 17 by omega) (by decide), cond_true, cond_true, nI_clamp (show k < 2 ^ 31 by omega), uR (show 3 ≠ 247 + (u + 1) by omega), b3, inb_n p17 (by decide), cond_true, cond_true, cond_true, nI_clamp (show u + 1 < 2 ^ 31 by omega), nI_clamp (show P k < 2 ^ 31 by omega), uR (show 5 ≠ 247 + (u + 1) by omega), b5, uRs, hF _ p17, show fO 1000000000 (some v) = Int32.ofInt v from rfl, oI_a, fO_min okF9 sb ⟨by omega, by have := okF9.1; omega⟩, us_R, nx]
          exact e1
/-- the table as far as row m -/
def TabS (n : Nat) (P Q : Nat → Nat) (W : Nat → Int) (th : Nat → Bool) (b m : Nat) (I : Nat → Nat → Int32) : Prop := ∀ j, j ≤ m → ∀ x, x < 17 → I (247 + j) x = fO 1000000000 (SS n P Q W th b j x)
theorem S0_24 : ∀ i, i < 17 → S0 (247 + i) = (20, 17) := by decide +kernel
theorem c_ms2 (g : Bds n P Q W) {wo : Int32} (hth : ∀ k, k < n → th k = (t k && !decide (nI k = wo))) : ∀ r u, u + r = 16 → ∀ I : Nat → Nat → Int32, BoP n P Q W t I → TabS n P Q W th b u I →
    ∃ I', ex (11, 22, [.ref 245, dv, .int wo, .int (nI (u + 1)), dv, dv, dv], [], mm I J D) = some (.inl none, mm I' J D) ∧ (∀ p, p < 247 ∨ 264 ≤ p → I' p = I p) ∧ TabS n P Q W th b 16 I'
  | 0, u, h, I, bo, hs => by
    have : u = 16 := by omega
    subst this
    exact ⟨I, by rw [e_11_22, decide_eq_true (show (17 : Int32) ≤ nI (16 + 1) by decide), cond_true, e_11_162], fun _ _ => rfl, hs⟩
  | r + 1, u, h, I, bo, hs => by
    have bb : ∀ x, x < 17 → Bo 200000 (SS n P Q W th b u x) := fun x _ => (SS_Bo g u x).le (by omega)
    obtain ⟨F', e1, h1⟩ := c_ms1 (J := J) (D := D) g bo hth bb (u := u) (by omega) (fun x hx => hs u (Nat.le_refl _) x hx) n 0 (by omega) (lpN (fun _ => 1000000000) (I (247 + (u + 1))) 17) (fun x hx => by unfold lpN; rw [if_pos hx]; rfl)
    obtain ⟨I', e2, h2, h3⟩ := c_ms2 g hth r (u + 1) (by omega) (upR I (247 + (u + 1)) F') (bo.go (fun p _ hp => uR (by omega))) (fun j hj x hx => by
      by_cases q : j = u + 1
      · subst q; rw [uRs, h1 x hx]; rfl
      · rw [uR (by omega)]; exact hs j (by omega) x hx)
    refine ⟨I', ?_, fun p hp => by rw [h2 p hp, uR (by omega)], h3⟩
    rw [e_11_22, decide_eq_false (show ¬ (17 : Int32) ≤ nI (u + 1) from nI_ge (a := u + 1) (b := 17) (by omega) (by decide)), cond_false, e_11_31, inb_n (show u + 1 < 17 by omega) (by decide), cond_true, nI_clamp (show u + 1 < 2 ^ 31 by omega), x_fill0 (q := 247 + (u + 1)) (N := 17) (S0_24 (u + 1) (by omega)) (by omega) (by decide), cal_v, kn, e_11_42]
    rw [show ex (11, 45, [.ref 245, dv, .int wo, .int (nI (u + 1)), .int 0, dv, dv], [], mm (upR I (247 + (u + 1)) (lpN (fun _ => 1000000000) (I (247 + (u + 1))) 17)) J D) = _ from e1, e_11_156, nI_1]
    exact e2
theorem c_meas (g : Bds n P Q W) (bo : BoP n P Q W t I) {wo : Int32} (hth : ∀ k, k < n → th k = (t k && !decide (nI k = wo))) (hb : b < 17) :
    ∃ I', ex (11, 0, [.ref 245, .int (nI b), .int wo, dv, dv, dv, dv], [], mm I J D) = some (.inl none, mm I' J D) ∧ (∀ p, p < 247 ∨ 264 ≤ p → I' p = I p) ∧ TabS n P Q W th b 16 I' := by
  obtain ⟨I', e1, h1, h2⟩ := c_ms2 (J := J) (D := D) (b := b) g hth 16 0 (by omega) (upR I 247 (upd (lpN (fun _ => 1000000000) (I 247) 17) b 0)) (bo.go (fun p _ hp => uR (by omega))) (fun j hj x hx => by
    have : j = 0 := by omega
    subst this
    show (upR I 247 _) 247 x = _
    rw [uRs]
    show _ = fO 1000000000 (if x = b then some 0 else none)
    by_cases q : x = b
    · subst q; rw [uUs, if_pos rfl]; rfl
    · rw [uU q, if_neg q]; unfold lpN; rw [if_pos hx]; rfl)
  refine ⟨I', ?_, fun p hp => by rw [h1 p hp, uR (by omega)], h2⟩
  rw [e_11_0, x_fill0 (q := 247) (N := 17) (S0_24 0 (by decide)) (by decide) (by decide), cal_v, kn, e_11_11, inb_n hb (by decide), cond_true, nI_clamp (by omega), us_R]
  exact e1
def LSp (n : Nat) (P Q : Nat → Nat) (W : Nat → Int) (th : Nat → Bool) (b x : Nat) : Nat → Option Int
  | 0 => none
  | u + 1 => LSu n P Q W th b x u
theorem omO_n {p : Option Int} : omO none p = p := by cases p <;> rfl
theorem LSp_s {x u : Nat} : LSp n P Q W th b x (u + 1) = omO (LSp n P Q W th b x u) (SS n P Q W th b u x) := by
  cases u with
  | zero => exact omO_n.symm
  | succ u => rfl
theorem LSp_Bo (g : Bds n P Q W) {x u : Nat} : Bo (9999 * (u : Int)) (LSp n P Q W th b x u) := by
  cases u with
  | zero => exact fun v e => by cases e
  | succ u => exact (LSu_Bo g u x).le (by omega)
theorem c_ls1 (g : Bds n P Q W) (hs : TabS n P Q W th b 16 I) {a : Nat} (ha : a < 17) : ∀ r u, u + r = 17 → ex (7, 13, [.ref 245, .int (nI a), dv, dv, .int (fO 1000000000 (LSp n P Q W th b a u)), .int (nI u)], [], mm I J D) = some (.inl (some (.int (fO 1000000000 (LSu n P Q W th b a 16)))), mm I J D)
  | 0, u, h => by
    have : u = 17 := by omega
    subst this
    rw [e_7_13, decide_eq_true (show (17 : Int32) ≤ nI 17 by decide), cond_true, e_7_45]
    rfl
  | r + 1, u, h => by
    have ih := c_ls1 g hs ha r (u + 1) (by omega)
    rw [e_7_13, decide_eq_false (show ¬ (17 : Int32) ≤ nI u from nI_ge (a := u) (b := 17) (by omega) (by decide)), cond_false, e_7_23, inb_n (show u < 17 by omega) (by decide), cond_true, inb_n ha (by decide), cond_true, nI_clamp (by omega), nI_clamp (by omega), hs u (by omega) a ha, fO_mn okF9 ((LSp_Bo g).fr okF9 (by omega)) ((SS_Bo g u a).fr okF9 (by omega)), ← LSp_s, nI_1]
    exact ih
/-- the least sum of a chain from one to another -/
theorem c_lsum (g : Bds n P Q W) (bo : BoP n P Q W t I) {wo : Int32} (hth : ∀ k, k < n → th k = (t k && !decide (nI k = wo))) {a : Nat} (ha : a < 17) (hb : b < 17) :
    ∃ I', ex (7, 0, [.ref 245, .int (nI a), .int (nI b), .int wo, dv, dv], [], mm I J D) = some (.inl (some (.int (fO 1000000000 (LSu n P Q W th b a 16)))), mm I' J D) ∧ (∀ p, p < 247 ∨ 264 ≤ p → I' p = I p) := by
  obtain ⟨I', e1, h1, h2⟩ := c_meas (J := J) (D := D) g bo hth hb
  refine ⟨I', ?_, h1⟩
  rw [e_7_0, e1, cal_v, kn, e_7_6]
  exact c_ls1 g h2 ha 17 0 (by omega)
end MB
