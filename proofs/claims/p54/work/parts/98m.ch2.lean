/-! chains of bounds: the model's tables -/
def MoP (n : Nat) (P Q : Nat → Nat) (W : Nat → Int) (t : Nat → Bool) (w : Nat → Int32) : Prop := w 1 = nI n ∧ ∀ k, k < n → w (2 + k) = nI (P k) ∧ w (52 + k) = nI (Q k) ∧ w (102 + k) = Int32.ofInt (W k) ∧ w (152 + k) = bI (t k)
def FB (P Q : Nat → Nat) (W : Nat → Int) (th : Nat → Bool) : Nat → Nat → Nat → Option Int
  | 0 => fun a b => if a = b then some 0 else none
  | m + 1 => fun a b => if th m = true ∧ P m = a ∧ Q m = b then omin (FB P Q W th m a b) (W m) else FB P Q W th m a b
def FL (n : Nat) (P Q : Nat → Nat) (W : Nat → Int) (th : Nat → Bool) : Nat → Nat → Nat → Option Int
  | 0 => FB P Q W th n
  | k + 1 => fst_ k (FL n P Q W th k)
def TabF (F : Nat → Int32) (f : Nat → Nat → Option Int) : Prop := ∀ a b, a < 17 → b < 17 → F (17 * a + b) = fO 100000000 (f a b)
def fmx (k a b : Nat) (f : Nat → Nat → Option Int) (x y : Nat) : Option Int := if x < a ∨ (x = a ∧ y < b) then fst_ k f x y else f x y
theorem fO_ofl {o : Option Int} (ho : Fr 100000000 o) {v : Int} (hv : -1000000000 ≤ v ∧ v ≤ 1000000000) : (fO 100000000 o ≤ Int32.ofInt v → ofl o v = o) ∧ (¬ fO 100000000 o ≤ Int32.ofInt v → fO 100000000 (ofl o v) = Int32.ofInt v) := by
  have e8 : (100000000 : Int32).toInt = 100000000 := by decide
  cases o with
  | none =>
    have k : fO 100000000 none ≤ Int32.ofInt v ↔ 100000000 ≤ v := by
      show (100000000 : Int32) ≤ Int32.ofInt v ↔ _
      rw [Int32.le_iff_toInt_le, oI_t (by omega), e8]
    rw [k]
    refine ⟨fun q => ?_, fun q => ?_⟩
    · show (if v < 100000000 then some v else none) = none
      rw [if_neg (by omega)]
    · show fO 100000000 (if v < 100000000 then some v else none) = _
      rw [if_pos (by omega)]; rfl
  | some w =>
    have b := ho w rfl
    rw [e8] at b
    have k : fO 100000000 (some w) ≤ Int32.ofInt v ↔ w ≤ v := oI_le (by omega) (by omega)
    rw [k]
    refine ⟨fun q => ?_, fun q => ?_⟩
    · show (if v < w then some v else some w) = some w
      rw [if_neg (by omega)]
    · show fO 100000000 (if v < w then some v else some w) = _
      rw [if_pos (by omega)]; rfl
section MF
variable {I : Nat → Nat → Int32} {J : Nat → Nat → Int64} {D : Nat → Nat → UInt64} {n b : Nat} {P Q : Nat → Nat} {W : Nat → Int} {t th : Nat → Bool} {but : Int32}
theorem FB_ok (g : Bds n P Q W) : ∀ m, m ≤ n → (∀ a b v, FB P Q W th m a b = some v → (-9999 ≤ v ∧ v ≤ 9999) ∧ ∃ u, Ch n P Q W th b u a v) ∧ (∀ a, FB P Q W th m a a = some 0) ∧ ∀ k, k < m → th k = true → ∃ v, FB P Q W th m (P k) (Q k) = some v ∧ v ≤ W k
  | 0, _ => by
    refine ⟨fun a b v e => ?_, fun a => if_pos rfl, fun k hk => absurd hk (Nat.not_lt_zero _)⟩
    have e : (if a = b then some (0 : Int) else none) = some v := e
    by_cases q : a = b
    · rw [if_pos q] at e
      cases e
      exact ⟨by omega, 0, q, rfl⟩
    · rw [if_neg q] at e; cases e
  | m + 1, hm => by
    obtain ⟨h1, h2, h3⟩ := FB_ok g m (by omega)
    obtain ⟨⟨p17, q17, pq⟩, w1, w2⟩ := g.2 m (by omega)
    have ep : ∀ a b, FB P Q W th (m + 1) a b = if th m = true ∧ P m = a ∧ Q m = b then omin (FB P Q W th m a b) (W m) else FB P Q W th m a b := fun _ _ => rfl
    have om : ∀ o : Option Int, ∃ v, omin o (W m) = some v ∧ v ≤ W m ∧ ∀ w, o = some w → v ≤ w := fun o => by
      cases o with
      | none => exact ⟨_, rfl, Int.le_refl _, fun w e => by cases e⟩
      | some w =>
        show ∃ v, (if W m < w then some (W m) else some w) = some v ∧ _
        by_cases q : W m < w
        · rw [if_pos q]; exact ⟨_, rfl, Int.le_refl _, fun u e => by cases e; omega⟩
        · rw [if_neg q]; exact ⟨_, rfl, by omega, fun u e => by cases e; omega⟩
    refine ⟨fun a b v e => ?_, fun a => ?_, fun k hk ht => ?_⟩
    · rw [ep] at e
      by_cases q : th m = true ∧ P m = a ∧ Q m = b
      · rw [if_pos q] at e
        rcases omO_some (o := FB P Q W th m a b) (p := some (W m)) e with e | e
        · exact h1 a b v e
        · cases e
          obtain ⟨q1, rfl, rfl⟩ := q
          exact ⟨⟨w1, w2⟩, 1, ch_1 (by omega) q1⟩
      · rw [if_neg q] at e; exact h1 a b v e
    · rw [ep, if_neg (fun q => pq (q.2.1.trans q.2.2.symm))]; exact h2 a
    · rw [ep]
      by_cases q : k = m
      · subst q
        rw [if_pos ⟨ht, rfl, rfl⟩]
        obtain ⟨v, e, h4, -⟩ := om (FB P Q W th k (P k) (Q k))
        exact ⟨v, e, h4⟩
      · obtain ⟨v, e, h4⟩ := h3 k (by omega) ht
        by_cases q2 : th m = true ∧ P m = P k ∧ Q m = Q k
        · rw [if_pos q2]
          obtain ⟨v2, e2, -, h5⟩ := om (FB P Q W th m (P k) (Q k))
          exact ⟨v2, e2, by have := h5 v e; omega⟩
        · rw [if_neg q2]; exact ⟨v, e, h4⟩
theorem FL_ok (g : Bds n P Q W) {h : Nat → Int} (hf : Feas n P Q W th h) : ∀ k, k ≤ 17 → Fl n P Q W th (FL n P Q W th k) ∧ Clo_ (160000 * (k : Int)) k (FL n P Q W th k)
  | 0, _ => by
    obtain ⟨h1, h2, h3⟩ := FB_ok (th := th) g n (Nat.le_refl _)
    exact ⟨⟨fun a b v ha hb e => ⟨by have := (h1 a b v e).1; omega, (h1 a b v e).2⟩, fun a _ => h2 a, h3⟩, fun a j b s t ha hj => absurd hj (Nat.not_lt_zero _)⟩
  | k + 1, hk => by
    obtain ⟨i1, i2⟩ := FL_ok g hf k (by omega)
    have hP : ∀ k, k < n → P k < 17 ∧ Q k < 17 := fun k hk => ⟨(g.2 k hk).1.1, (g.2 k hk).1.2.1⟩
    have hW : ∀ k, k < n → -9999 ≤ W k ∧ W k ≤ 9999 := fun k hk => (g.2 k hk).2
    refine ⟨fl_s hf hP (by omega) i1, ?_⟩
    have := clo_s hf hP hW (c := 160000 * (k : Int)) (by omega) (show k < 17 by omega) i1 i2
    rw [show 160000 * ((k + 1 : Nat) : Int) = 160000 * (k : Int) + 160000 by omega]
    exact this
theorem FL_LS (g : Bds n P Q W) {h : Nat → Int} (hf : Feas n P Q W th h) {a b : Nat} (ha : a < 17) (hb : b < 17) : FL n P Q W th 17 a b = LSu n P Q W th b a 16 := by
  obtain ⟨i1, i2⟩ := FL_ok g hf 17 (Nat.le_refl _)
  refine fl_LS hf (fun k hk => ⟨(g.2 k hk).1.1, (g.2 k hk).1.2.1⟩) (fun k hk => (g.2 k hk).2) i1 (fun a j b s t ha hj hb e1 e2 => ?_) ha hb
  rcases i2 a j b s t ha hj hb e1 e2 with h | h
  · exact Or.inl h
  · exact Or.inr (by omega)
/-- the numbers of a table as far as they go -/
def FitF (f : Nat → Nat → Option Int) : Prop := ∀ a b, a < 17 → b < 17 → ∀ v, f a b = some v → -200000 ≤ v ∧ v < 100000000
theorem FitF.fr {f : Nat → Nat → Option Int} (h : FitF f) {a b : Nat} (ha : a < 17) (hb : b < 17) : Fr 100000000 (f a b) := fun v e => by
  have := h a b ha hb v e
  have e8 : (100000000 : Int32).toInt = 100000000 := by decide
  rw [e8]; omega
theorem FL_fit (g : Bds n P Q W) {h : Nat → Int} (hf : Feas n P Q W th h) {k : Nat} (hk : k ≤ 17) : FitF (FL n P Q W th k) := fun a b ha hb v e => by
  obtain ⟨h1, u, hu⟩ := (FL_ok g hf k hk).1.1 a b v ha hb e
  have := ch_low hf (fun k hk => ⟨(g.2 k hk).1.1, (g.2 k hk).1.2.1⟩) (fun k hk => (g.2 k hk).2) hb hu
  omega
def dgN (j : Nat) : Int32 := if j / 17 = j % 17 then 0 else 100000000
theorem dgn_ok : ∀ k, k < 289 → ((nI k / 17 ≠ nI k - nI k / 17 * 17) ↔ ¬ k / 17 = k % 17) := by decide +kernel
theorem m_far0 : ∀ r k, k + r = 289 → ex (167, 2, [.ref 316, .int but, .int (nI k), dv, dv, dv, dv], [], mm (upR I 321 (lpN dgN (I 321) k)) J D) = ex (167, 38, [.ref 316, .int but, dv, dv, dv, dv, dv], [], mm (upR I 321 (lpN dgN (I 321) 289)) J D)
  | 0, k, h => by
    have : k = 289 := by omega
    subst this
    rw [e_167_2, decide_eq_true (show (289 : Int32) ≤ nI 289 by decide), cond_true]
  | r + 1, k, h => by
    have ih := m_far0 r (k + 1) (by omega)
    rw [← lpN_s] at ih
    have dk : dgN k = if k / 17 = k % 17 then 0 else 100000000 := rfl
    rw [e_167_2, decide_eq_false (show ¬ (289 : Int32) ≤ nI k from nI_ge (a := k) (b := 289) (by omega) (by decide)), cond_false, e_167_9]
    by_cases q : k / 17 = k % 17
    · rw [if_pos q] at dk
      rw [dk] at ih
      rw [decide_eq_false (fun w => (dgn_ok k (by omega)).mp w q), cond_false, e_167_25, e_167_31, inb_n (show k < 289 by omega) (by decide), cond_true, nI_clamp (by omega), us_R, nI_1]
      exact ih
    · rw [if_neg q] at dk
      rw [dk] at ih
      rw [decide_eq_true ((dgn_ok k (by omega)).mpr q), cond_true, e_167_29, e_167_31, inb_n (show k < 289 by omega) (by decide), cond_true, nI_clamp (by omega), us_R, nI_1]
      exact ih
theorem m_far1 (g : Bds n P Q W) (mo : MoP n P Q W t (I 317)) (hth : ∀ k, k < n → th k = (t k && !decide (nI k = but))) : ∀ r k, k + r = n → ∀ F, TabF F (FB P Q W th k) →
    ∃ F', ex (167, 40, [.ref 316, .int but, .int (nI k), dv, dv, dv, dv], [], mm (upR I 321 F) J D) = ex (167, 139, [.ref 316, dv, dv, dv, dv, dv, dv], [], mm (upR I 321 F') J D) ∧ TabF F' (FB P Q W th n)
  | 0, k, h, F, hF => by
    have : k = n := by omega
    subst this
    have n50 := g.1
    exact ⟨F, by rw [e_167_40, uR (show 317 ≠ 321 by decide), mo.1, decide_eq_true ((nI_leI (by omega) (by omega)).mpr (Nat.le_refl _)), cond_true], hF⟩
  | r + 1, k, h, F, hF => by
    obtain ⟨b3, b4, b5, b6⟩ := mo.2 k (by omega)
    obtain ⟨⟨p17, q17, pq⟩, w1, w2⟩ := g.2 k (by omega)
    have n50 := g.1
    have ih := m_far1 g mo hth r (k + 1) (by omega)
    have ht := hth k (by omega)
    have fpq := hF (P k) (Q k) p17 q17
    have lt : 17 * P k + Q k < 289 := by omega
    have ep : ∀ a b, FB P Q W th (k + 1) a b = if th k = true ∧ P k = a ∧ Q k = b then omin (FB P Q W th k a b) (W k) else FB P Q W th k a b := fun _ _ => rfl
    -- the value that is stored
    have sto : ∀ v : Int32, v = fO 100000000 (FB P Q W th (k + 1) (P k) (Q k)) → ∃ F', ex (167, 132, [.ref 316, .int but, .int (nI k), dv, dv, dv, dv], [.int v, .int (nI (17 * P k + Q k)), .ref 321], mm (upR I 321 F) J D) = ex (167, 139, [.ref 316, dv, dv, dv, dv, dv, dv], [], mm (upR I 321 F') J D) ∧ TabF F' (FB P Q W th n) := fun v hv => by
      obtain ⟨F', e1, h1⟩ := ih (upd F (17 * P k + Q k) v) (fun a b ha hb => by
        by_cases q : a = P k ∧ b = Q k
        · obtain ⟨rfl, rfl⟩ := q; rw [uUs]; exact hv
        · rw [uU (by omega), hF a b ha hb, ep, if_neg (fun w => q ⟨w.2.1.symm, w.2.2.symm⟩)])
      refine ⟨F', ?_, h1⟩
      rw [e_167_132, inb_n lt (by decide), cond_true, nI_clamp (by omega), us_R, nI_1]
      exact e1
    have keep_ : th k = false → ∃ F', ex (167, 126, [.ref 316, .int but, .int (nI k), .int (nI (17 * P k + Q k)), dv, dv, dv], [.int (nI (17 * P k + Q k)), .ref 321], mm (upR I 321 F) J D) = ex (167, 139, [.ref 316, dv, dv, dv, dv, dv, dv], [], mm (upR I 321 F') J D) ∧ TabF F' (FB P Q W th n) := fun hf => by
      obtain ⟨F', e1, h1⟩ := sto (fO 100000000 (FB P Q W th k (P k) (Q k))) (by rw [ep, if_neg (fun w => by rw [hf] at w; cases w.1)])
      refine ⟨F', ?_, h1⟩
      rw [e_167_126, inb_n lt (by decide), cond_true, nI_clamp (by omega), uRs, fpq]
      exact e1
    have e0 : ex (167, 40, [.ref 316, .int but, .int (nI k), dv, dv, dv, dv], [], mm (upR I 321 F) J D) = bif decide (bI (t k) ≠ 1) then ex (167, 126, [.ref 316, .int but, .int (nI k), .int (nI (17 * P k + Q k)), dv, dv, dv], [.int (nI (17 * P k + Q k)), .ref 321], mm (upR I 321 F) J D) else ex (167, 91, [.ref 316, .int but, .int (nI k), .int (nI (17 * P k + Q k)), dv, dv, dv], [.int (nI (17 * P k + Q k)), .ref 321], mm (upR I 321 F) J D) := by
      rw [e_167_40, uR (show 317 ≠ 321 by decide), mo.1, decide_eq_false (show ¬ nI n ≤ nI k from nI_ge (by omega) (by omega)), cond_false, e_167_50, show (2 : Int32) + nI k = nI (2 + k) from nI_add 2 k, show (52 : Int32) + nI k = nI (52 + k) from nI_add 52 k, show (152 : Int32) + nI k = nI (152 + k) from nI_add 152 k, inb_n (show 2 + k < 850 by omega) (by decide), cond_true, inb_n (show 52 + k < 850 by omega) (by decide), cond_true, inb_n (show 152 + k < 850 by omega) (by decide), cond_true, nI_clamp (show 2 + k < 2 ^ 31 by omega), nI_clamp (show 52 + k < 2 ^ 31 by omega), nI_clamp (show 152 + k < 2 ^ 31 by omega), uR (show 317 ≠ 321 by decide), b3, b4, b6, m17]
    cases htk : t k with
    | false =>
      rw [htk, Bool.false_and] at ht
      obtain ⟨F', e1, h1⟩ := keep_ ht
      exact ⟨F', by rw [e0, htk, decide_eq_true (show bI false ≠ 1 by decide), cond_true]; exact e1, h1⟩
    | true =>
      rw [htk, Bool.true_and] at ht
      by_cases hw : nI k = but
      · rw [decide_eq_true hw] at ht
        obtain ⟨F', e1, h1⟩ := keep_ ht
        exact ⟨F', by rw [e0, htk, decide_eq_false (show ¬ bI true ≠ 1 by decide), cond_false, e_167_91, decide_eq_true hw, cond_true]; exact e1, h1⟩
      · rw [decide_eq_false hw] at ht
        have fit : Fr 100000000 (FB P Q W th k (P k) (Q k)) := fun v e => by
          have := ((FB_ok (th := th) g k (by omega)).1 _ _ v e).1
          have e8 : (100000000 : Int32).toInt = 100000000 := by decide
          rw [e8]; omega
        have wb : -1000000000 ≤ W k ∧ W k < (100000000 : Int32).toInt := ⟨by omega, by rw [show (100000000 : Int32).toInt = 100000000 from by decide]; omega⟩
        have fm := fO_min okF8 fit wb
        have es : FB P Q W th (k + 1) (P k) (Q k) = omin (FB P Q W th k (P k) (Q k)) (W k) := by rw [ep, if_pos ⟨by rw [ht]; rfl, rfl, rfl⟩]
        have e2 : ex (167, 40, [.ref 316, .int but, .int (nI k), dv, dv, dv, dv], [], mm (upR I 321 F) J D) = bif decide (fO 100000000 (FB P Q W th k (P k) (Q k)) ≤ Int32.ofInt (W k)) then ex (167, 126, [.ref 316, .int but, .int (nI k), .int (nI (17 * P k + Q k)), dv, dv, dv], [.int (nI (17 * P k + Q k)), .ref 321], mm (upR I 321 F) J D) else ex (167, 114, [.ref 316, .int but, .int (nI k), dv, dv, dv, dv], [.int (nI (17 * P k + Q k)), .ref 321], mm (upR I 321 F) J D) := by
          rw [e0, htk, decide_eq_false (show ¬ bI true ≠ 1 by decide), cond_false, e_167_91, decide_eq_false hw, cond_false, e_167_96, show (102 : Int32) + nI k = nI (102 + k) from nI_add 102 k, inb_n (show 102 + k < 850 by omega) (by decide), cond_true, inb_n lt (by decide), cond_true, nI_clamp (show 102 + k < 2 ^ 31 by omega), nI_clamp (show 17 * P k + Q k < 2 ^ 31 by omega), uRs, uR (show 317 ≠ 321 by decide), fpq, b5]
        by_cases q : fO 100000000 (FB P Q W th k (P k) (Q k)) ≤ Int32.ofInt (W k)
        · obtain ⟨F', e1, h1⟩ := sto (fO 100000000 (FB P Q W th k (P k) (Q k))) (by rw [es, ← fm, if_neg (Int32.not_lt.mpr q)])
          refine ⟨F', ?_, h1⟩
          rw [e2, decide_eq_true q, cond_true, e_167_126, inb_n lt (by decide), cond_true, nI_clamp (by omega), uRs, fpq]
          exact e1
        · obtain ⟨F', e1, h1⟩ := sto (Int32.ofInt (W k)) (by rw [es, ← fm, if_pos (Int32.not_le.mp q)])
          refine ⟨F', ?_, h1⟩
          rw [e2, decide_eq_false q, cond_false, e_167_114, show (102 : Int32) + nI k = nI (102 + k) from nI_add 102 k, inb_n (show 102 + k < 850 by omega) (by decide), cond_true, nI_clamp (show 102 + k < 2 ^ 31 by omega), uR (show 317 ≠ 321 by decide), b5]
          exact e1
theorem fmx_k1 {k a b x : Nat} {f : Nat → Nat → Option Int} (h : f k k = some 0) : fmx k a b f x k = f x k := by
  unfold fmx
  by_cases q : x < a ∨ (x = a ∧ k < b)
  · rw [if_pos q, fst_k1 h]
  · rw [if_neg q]
theorem fmx_k2 {k a b y : Nat} {f : Nat → Nat → Option Int} (h : f k k = some 0) : fmx k a b f k y = f k y := by
  unfold fmx
  by_cases q : k < a ∨ (k = a ∧ y < b)
  · rw [if_pos q, fst_k2 h]
  · rw [if_neg q]
theorem fmx_s {k a b : Nat} {f : Nat → Nat → Option Int} {F : Nat → Int32} (hb : b < 17) (h : TabF F (fmx k a b f)) {v : Int32} (hv : v = fO 100000000 (fst_ k f a b)) : TabF (upd F (17 * a + b) v) (fmx k a (b + 1) f) := fun x y hx hy => by
  by_cases q : x = a ∧ y = b
  · obtain ⟨rfl, rfl⟩ := q
    rw [uUs, hv]; unfold fmx; rw [if_pos (by omega)]
  · rw [uU (by omega), h x y hx hy]
    unfold fmx
    by_cases q2 : x < a ∨ (x = a ∧ y < b)
    · rw [if_pos q2, if_pos (by omega)]
    · rw [if_neg q2, if_neg (by omega)]
theorem fmx_t {k a b : Nat} {f : Nat → Nat → Option Int} {F : Nat → Int32} (hb : b < 17) (ha : a < 17) (h : TabF F (fmx k a b f)) (hv : f a b = fst_ k f a b) : TabF F (fmx k a (b + 1) f) := fun x y hx hy => by
  rw [h x y hx hy]
  unfold fmx
  by_cases q2 : x < a ∨ (x = a ∧ y < b)
  · rw [if_pos q2, if_pos (by omega)]
  · rw [if_neg q2]
    by_cases q : x = a ∧ y = b
    · obtain ⟨rfl, rfl⟩ := q
      rw [if_pos (by omega), hv]
    · rw [if_neg (by omega)]
theorem m_far2 {k a : Nat} {f : Nat → Nat → Option Int} (hk : k < 17) (ha : a < 17) (h0 : f k k = some 0) (hfit : FitF f) : ∀ r b, b + r = 17 → ∀ F, TabF F (fmx k a b f) →
    ∃ F', ex (167, 158, [.ref 316, dv, .int (nI k), .int (nI a), .int (nI b), dv, dv], [], mm (upR I 321 F) J D) = ex (167, 249, [.ref 316, dv, .int (nI k), .int (nI a), dv, dv, dv], [], mm (upR I 321 F') J D) ∧ TabF F' (fmx k a 17 f)
  | 0, b, h, F, hF => by
    have : b = 17 := by omega
    subst this
    exact ⟨F, by rw [e_167_158, decide_eq_true (show (17 : Int32) ≤ nI 17 by decide), cond_true], hF⟩
  | r + 1, b, h, F, hF => by
    have hb : b < 17 := by omega
    have ih := m_far2 hk ha h0 hfit r (b + 1) (by omega)
    have f1 : F (17 * a + b) = fO 100000000 (f a b) := by
      rw [hF a b ha hb]; unfold fmx; rw [if_neg (by omega)]
    have f2 : F (17 * a + k) = fO 100000000 (f a k) := by rw [hF a k ha hk, fmx_k1 h0]
    have f3 : F (17 * k + b) = fO 100000000 (f k b) := by rw [hF k b hk hb, fmx_k2 h0]
    have e0 : ex (167, 158, [.ref 316, dv, .int (nI k), .int (nI a), .int (nI b), dv, dv], [], mm (upR I 321 F) J D) = bif decide (fO 100000000 (f a k) = 100000000) then ex (167, 243, [.ref 316, dv, .int (nI k), .int (nI a), .int (nI b), dv, dv], [], mm (upR I 321 F) J D) else ex (167, 199, [.ref 316, dv, .int (nI k), .int (nI a), .int (nI b), .int (fO 100000000 (f a k)), .int (fO 100000000 (f k b))], [], mm (upR I 321 F) J D) := by
      rw [e_167_158, decide_eq_false (show ¬ (17 : Int32) ≤ nI b from nI_ge (a := b) (b := 17) (by omega) (by decide)), cond_false, e_167_165, m17, m17, inb_n (show 17 * a + k < 289 by omega) (by decide), cond_true, inb_n (show 17 * k + b < 289 by omega) (by decide), cond_true, nI_clamp (show 17 * a + k < 2 ^ 31 by omega), nI_clamp (show 17 * k + b < 2 ^ 31 by omega), uRs, f2, f3]
    have nx : ∀ F : Nat → Int32, ex (167, 243, [.ref 316, dv, .int (nI k), .int (nI a), .int (nI b), dv, dv], [], mm (upR I 321 F) J D) = ex (167, 158, [.ref 316, dv, .int (nI k), .int (nI a), .int (nI (b + 1)), dv, dv], [], mm (upR I 321 F) J D) := fun F => by rw [e_167_243, nI_1]
    cases h1 : f a k with
    | none =>
      obtain ⟨F', e1, g1⟩ := ih F (fmx_t hb ha hF (by unfold fst_; rw [h1]))
      exact ⟨F', by rw [e0, h1, decide_eq_true (show fO 100000000 none = 100000000 from rfl), cond_true, nx]; exact e1, g1⟩
    | some s =>
      have b1 := hfit a k ha hk s h1
      have n1 : ¬ fO 100000000 (some s) = 100000000 := fO_ne okF8 (hfit.fr ha hk s h1)
      cases h2 : f k b with
      | none =>
        obtain ⟨F', e1, g1⟩ := ih F (fmx_t hb ha hF (by unfold fst_; rw [h1, h2]))
        exact ⟨F', by rw [e0, h1, decide_eq_false n1, cond_false, e_167_199, h2, decide_eq_true (show fO 100000000 none = 100000000 from rfl), cond_true, nx]; exact e1, g1⟩
      | some u =>
        have b2 := hfit k b hk hb u h2
        have n2 : ¬ fO 100000000 (some u) = 100000000 := fO_ne okF8 (hfit.fr hk hb u h2)
        obtain ⟨l1, l2⟩ := fO_ofl (hfit.fr ha hb) (v := s + u) (by omega)
        have ef : fst_ k f a b = ofl (f a b) (s + u) := by unfold fst_; rw [h1, h2]
        have e2 : ex (167, 158, [.ref 316, dv, .int (nI k), .int (nI a), .int (nI b), dv, dv], [], mm (upR I 321 F) J D) = bif decide (fO 100000000 (f a b) ≤ Int32.ofInt (s + u)) then ex (167, 243, [.ref 316, dv, .int (nI k), .int (nI a), .int (nI b), dv, dv], [], mm (upR I 321 F) J D) else ex (167, 226, [.ref 316, dv, .int (nI k), .int (nI a), .int (nI b), .int (Int32.ofInt s), .int (Int32.ofInt u)], [], mm (upR I 321 F) J D) := by
          rw [e0, h1, decide_eq_false n1, cond_false, e_167_199, h2, decide_eq_false n2, cond_false, e_167_206, m17, inb_n (show 17 * a + b < 289 by omega) (by decide), cond_true, nI_clamp (by omega), uRs, f1, show fO 100000000 (some s) = Int32.ofInt s from rfl, show fO 100000000 (some u) = Int32.ofInt u from rfl, oI_a]
        by_cases q : fO 100000000 (f a b) ≤ Int32.ofInt (s + u)
        · obtain ⟨F', e1, g1⟩ := ih F (fmx_t hb ha hF (by rw [ef, l1 q]))
          exact ⟨F', by rw [e2, decide_eq_true q, cond_true, nx]; exact e1, g1⟩
        · obtain ⟨F', e1, g1⟩ := ih (upd F (17 * a + b) (Int32.ofInt (s + u))) (fmx_s hb hF (by rw [ef]; exact (l2 q).symm))
          refine ⟨F', ?_, g1⟩
          rw [e2, decide_eq_false q, cond_false, e_167_226, m17, inb_n (show 17 * a + b < 289 by omega) (by decide), cond_true, nI_clamp (by omega), oI_a, us_R, nx]
          exact e1
theorem fmx_17 {k a : Nat} {f : Nat → Nat → Option Int} {F : Nat → Int32} (h : TabF F (fmx k a 17 f)) : TabF F (fmx k (a + 1) 0 f) := fun x y hx hy => by
  rw [h x y hx hy]
  unfold fmx
  by_cases q : x < a ∨ (x = a ∧ y < 17)
  · rw [if_pos q, if_pos (by omega)]
  · rw [if_neg q, if_neg (by omega)]
theorem m_far3 {k : Nat} {f : Nat → Nat → Option Int} (hk : k < 17) (h0 : f k k = some 0) (hfit : FitF f) : ∀ r a, a + r = 17 → ∀ F, TabF F (fmx k a 0 f) →
    ∃ F', ex (167, 149, [.ref 316, dv, .int (nI k), .int (nI a), dv, dv, dv], [], mm (upR I 321 F) J D) = ex (167, 255, [.ref 316, dv, .int (nI k), dv, dv, dv, dv], [], mm (upR I 321 F') J D) ∧ TabF F' (fmx k 17 0 f)
  | 0, a, h, F, hF => by
    have : a = 17 := by omega
    subst this
    exact ⟨F, by rw [e_167_149, decide_eq_true (show (17 : Int32) ≤ nI 17 by decide), cond_true], hF⟩
  | r + 1, a, h, F, hF => by
    obtain ⟨F1, e1, g1⟩ := m_far2 (I := I) (J := J) (D := D) hk (show a < 17 by omega) h0 hfit 17 0 (by omega) F hF
    obtain ⟨F2, e2, g2⟩ := m_far3 hk h0 hfit r (a + 1) (by omega) F1 (fmx_17 g1)
    refine ⟨F2, ?_, g2⟩
    rw [e_167_149, decide_eq_false (show ¬ (17 : Int32) ≤ nI a from nI_ge (a := a) (b := 17) (by omega) (by decide)), cond_false, e_167_155]
    rw [show ex (167, 158, [.ref 316, dv, .int (nI k), .int (nI a), .int 0, dv, dv], [], mm (upR I 321 F) J D) = _ from e1, e_167_249, nI_1]
    exact e2
theorem m_far4 (g : Bds n P Q W) {h : Nat → Int} (hf : Feas n P Q W th h) : ∀ r k, k + r = 17 → ∀ F, TabF F (FL n P Q W th k) →
    ∃ F', ex (167, 141, [.ref 316, dv, .int (nI k), dv, dv, dv, dv], [], mm (upR I 321 F) J D) = some (.inl none, mm (upR I 321 F') J D) ∧ TabF F' (FL n P Q W th 17)
  | 0, k, h, F, hF => by
    have : k = 17 := by omega
    subst this
    exact ⟨F, by rw [e_167_141, decide_eq_true (show (17 : Int32) ≤ nI 17 by decide), cond_true, e_167_261], hF⟩
  | r + 1, k, h, F, hF => by
    have fl := (FL_ok g hf k (by omega)).1
    obtain ⟨F1, e1, g1⟩ := m_far3 (I := I) (J := J) (D := D) (show k < 17 by omega) (fl.2.1 k (by omega)) (FL_fit g hf (k := k) (by omega)) 17 0 (by omega) F (fun a b ha hb => by
      rw [hF a b ha hb]; unfold fmx; rw [if_neg (by omega)])
    obtain ⟨F2, e2, g2⟩ := m_far4 g hf r (k + 1) (by omega) F1 (fun a b ha hb => by
      rw [g1 a b ha hb]; unfold fmx; rw [if_pos (by omega)]; rfl)
    refine ⟨F2, ?_, g2⟩
    rw [e_167_141, decide_eq_false (show ¬ (17 : Int32) ≤ nI k from nI_ge (a := k) (b := 17) (by omega) (by decide)), cond_false, e_167_147]
    rw [show ex (167, 149, [.ref 316, dv, .int (nI k), .int 0, dv, dv, dv], [], mm (upR I 321 F) J D) = _ from e1, e_167_255, nI_1]
    exact e2
/-- all greatest differences, by the model -/
theorem m_far (g : Bds n P Q W) (mo : MoP n P Q W t (I 317)) (hth : ∀ k, k < n → th k = (t k && !decide (nI k = but))) {h : Nat → Int} (hf : Feas n P Q W th h) :
    ∃ F, ex (167, 0, [.ref 316, .int but, dv, dv, dv, dv, dv], [], mm I J D) = some (.inl none, mm (upR I 321 F) J D) ∧ ∀ a b, a < 17 → b < 17 → F (17 * a + b) = fO 100000000 (LSu n P Q W th b a 16) := by
  obtain ⟨F1, e1, g1⟩ := m_far1 (J := J) (D := D) g mo hth n 0 (by omega) (lpN dgN (I 321) 289) (fun a b ha hb => by
    unfold lpN
    rw [if_pos (by omega)]
    show (if (17 * a + b) / 17 = (17 * a + b) % 17 then (0 : Int32) else 100000000) = fO 100000000 (if a = b then some 0 else none)
    by_cases q : a = b
    · rw [if_pos q, if_pos (by omega)]; rfl
    · rw [if_neg q, if_neg (by omega)]; rfl)
  obtain ⟨F2, e2, g2⟩ := m_far4 (I := I) (J := J) (D := D) g hf 17 0 (by omega) F1 g1
  refine ⟨F2, ?_, fun a b ha hb => by rw [g2 a b ha hb, FL_LS g hf ha hb]⟩
  have e0 := m_far0 (but := but) (I := I) (J := J) (D := D) 289 0 (by omega)
  have z : upR I 321 (lpN dgN (I 321) 0) = I := by
    funext q
    by_cases hq : q = 321
    · subst hq
      rw [uRs]
      funext j
      unfold lpN
      rw [if_neg (Nat.not_lt_zero _)]
    · rw [uR hq]
  rw [z] at e0
  rw [e_167_0]
  rw [show ex (167, 2, [.ref 316, .int but, .int 0, dv, dv, dv, dv], [], mm I J D) = _ from e0, e_167_38]
  rw [show ex (167, 40, [.ref 316, .int but, .int 0, dv, dv, dv, dv], [], mm (upR I 321 (lpN dgN (I 321) 289)) J D) = _ from e1, e_167_139]
  exact e2
end MF
