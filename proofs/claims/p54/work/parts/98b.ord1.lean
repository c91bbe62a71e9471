/-! orderAt, phase -/
def sbt (S : Nat → Bool) (i : Nat) : Bool := Nat.blt i 16 && S (i + 1)
theorem sbt_at {S : Nat → Bool} {b : Nat} (h1 : 1 ≤ b) (h : b ≤ 16) : sbt S (b - 1) = S b := by
  unfold sbt
  rw [Nat.blt_eq.mpr (by omega), Bool.true_and, show b - 1 + 1 = b by omega]
theorem sh_amt : ∀ k, k < 32 → ((nI k).toBitVec.smod 32).toNat = k := by decide
theorem tb_bit {p : Int32} {f : Nat → Bool} (h : Bt p f) {c : Nat} (h1 : 1 ≤ c) (h2 : c ≤ 16) : ((p >>> ((nI c - 1) &&& 31)) &&& 1) = 0 ↔ f (c - 1) = false := by
  have hb : Bt (p >>> ((nI c - 1) &&& 31)) (fun i => (p >>> ((nI c - 1) &&& 31)).toBitVec.getLsbD i) := fun _ => rfl
  have h1' : Bt (1 : Int32) (fun i => decide (i = 0)) := by
    have := (Bt.n (v := 1) (by decide))
    refine this.cg (fun i => ?_)
    rw [show (1 : Nat) = 2 ^ 0 from rfl, Nat.testBit_two_pow]
    by_cases q : i = 0
    · rw [decide_eq_true q, decide_eq_true q.symm]
    · rw [decide_eq_false q, decide_eq_false (fun e => q e.symm)]
  rw [hb.has h1']
  have e : nI c - 1 = nI (c - 1) := nI_sub (a := c) (b := 1) h1
  have e2 : nI (c - 1) &&& 31 = nI (c - 1) := by
    rw [show (31 : Int32) = nI 31 from rfl, nI_and, show (31 : Nat) = 2 ^ 5 - 1 from rfl, Nat.and_two_pow_sub_one_eq_mod, Nat.mod_eq_of_lt (by omega)]
  rw [e, e2, Int32.toBitVec_shiftRight, ← h (c - 1)]
  show ((p.toBitVec.sshiftRight ((nI (c - 1)).toBitVec.smod 32).toNat).getLsbD 0) = false ↔ _
  rw [sh_amt _ (by omega), BitVec.getLsbD_sshiftRight]
  have e3 : (p.toBitVec.getLsbD (c - 1 + 0)) = p.toBitVec.getLsbD (c - 1) := rfl
  simp [show c - 1 < 32 by omega]
section OA
variable {I : Nat → Nat → Int32} {J : Nat → Nat → Int64} {D : Nat → Nat → UInt64}
theorem c_nx {n : Nat} {R : Nat → Nat → Bool} (hin : In n R) (h16 : n ≤ 16) (h8 : I 265 8 = nI n) (h7 : RwF (I 267) (fun b a => R a b)) {S : Nat → Bool} {p : Int32} (hp : Bt p (sbt S)) {L : Nat} (hL : Fst R n S L) : ∀ r a, a + r = L → 1 ≤ a → ex (21, 2, [.ref 265, .int p, .int (nI a), dv], [], mm I J D) = some (.inl (some (.int (nI L))), mm I J D) := by
  obtain ⟨⟨l1, l2⟩, l3, l4⟩ := hL
  intro r
  induction r with
  | zero =>
    intro a ha h1
    have : a = L := by omega
    subst this
    by_cases q : a = n
    · subst q
      rw [e_21_2, h8, decide_eq_true ((nI_leI (by omega) (by omega)).mpr (Nat.le_refl _)), cond_true, e_21_50, h8]
    · have hb := hp.has (bit_b h1 (show a ≤ 16 by omega))
      rw [sbt_at h1 (by omega)] at hb
      have hz := ((h7 a (by omega)).andn hp).eq0
      have hz' := hz.mpr (fun i => by
        unfold row sbt
        rw [bl16]
        show ((decide (i < 16) && R (i + 1) a) && !(decide (i < 16) && S (i + 1))) = false
        by_cases qi : i < 16
        · cases e : R (i + 1) a with
          | false => simp
          | true => rw [l3.2 _ e]; simp
        · simp [qi])
      rw [e_21_2, h8, decide_eq_false (show ¬ nI n ≤ nI a from nI_ge (by omega) (by omega)), cond_false, e_21_10, e_49_0, cal_v, ka, e_21_15, decide_eq_true (hb.mpr l3.1), cond_true, e_21_23, e_21_24, d01, cond_false, e_21_29, inb_n (show a < 17 by omega) (by decide), cond_true, nI_clamp (by omega), decide_eq_false (fun w => w hz'), cond_false, e_21_42]
  | succ r ih =>
    intro a ha h1
    have ih := ih (a + 1) (by omega) (by omega)
    have hnr := l4 a h1 (by omega)
    have hb := hp.has (bit_b h1 (show a ≤ 16 by omega))
    rw [sbt_at h1 (by omega)] at hb
    have hz := ((h7 a (by omega)).andn hp).eq0
    rw [e_21_2, h8, decide_eq_false (show ¬ nI n ≤ nI a from nI_ge (by omega) (by omega)), cond_false, e_21_10, e_49_0, cal_v, ka, e_21_15]
    cases hS : S a with
    | true =>
      rw [decide_eq_false (fun w => by rw [hb.mp w] at hS; cases hS), cond_false, e_21_19, e_21_24, d11, cond_true, e_21_44, nI_1]
      exact ih
    | false =>
      rw [decide_eq_true (hb.mpr hS), cond_true, e_21_23, e_21_24, d01, cond_false, e_21_29, inb_n (show a < 17 by omega) (by decide), cond_true, nI_clamp (by omega), decide_eq_true (show ¬ _ = (0 : Int32) from fun w => hnr ⟨hS, fun c hc => by
        have := hz.mp w (c - 1)
        have hci := (hin c a hc).1
        rw [row_at (W := fun b a => R a b) hci.1 (by omega), sbt_at hci.1 (by omega)] at this
        have this : (R c a && !S c) = false := this
        rw [hc] at this
        simpa using this⟩), cond_true, e_21_44, nI_1]
      exact ih
theorem c_dp {n : Nat} {R : Nat → Nat → Bool} {d : Nat → Nat} (h16 : n ≤ 16) (h8 : I 265 8 = nI n) (hR : RwF (I 266) R) {L : Nat} (hL : 1 ≤ L ∧ L ≤ 16) (hd : ∀ a, R a L = true → I 271 a = nI (d a) ∧ d a ≤ 16) : ∀ r a, a + r = n → ex (22, 4, [.ref 265, .int (nI L), .int (nI (mxD R d L a)), .int (nI (a + 1))], [], mm I J D) = some (.inl (some (.int (nI (mxD R d L n)))), mm I J D)
  | 0, a, h => by
    have : a = n := by omega
    subst this
    rw [e_22_4, h8, decide_eq_true ((nI_ltI (by omega) (by omega)).mpr (by omega)), cond_true, e_22_40]
  | r + 1, a, h => by
    have ih := c_dp h16 h8 hR hL hd r (a + 1) (by omega)
    have hs : mxD R d L (a + 1) = if R (a + 1) L = true ∧ mxD R d L a < d (a + 1) + 1 then d (a + 1) + 1 else mxD R d L a := rfl
    rw [hs] at ih
    rw [e_22_4, h8, decide_eq_false (show ¬ nI n < nI (a + 1) from nI_nlt (by omega) (by omega)), cond_false, e_22_12, c_has hR (show a + 1 < 17 by omega) hL.1 hL.2, cal_v, ka, e_22_18]
    cases hr : R (a + 1) L with
    | false =>
      rw [if_neg (fun w => by rw [hr] at w; cases w.1)] at ih
      rw [decide_eq_true (show b2i false = 0 by decide), cond_true, e_22_34, nI_1]
      exact ih
    | true =>
      obtain ⟨g1, g2⟩ := hd _ hr
      have hm : mxD R d L a ≤ 17 := mxD_le (fun c hc => by have := (hd c hc).2; omega) a
      rw [decide_eq_false (show ¬ b2i true = 0 by decide), cond_false, e_22_21, inb_n (show a + 1 < 17 by omega) (by decide), cond_true, nI_clamp (by omega), g1, nI_1, e_22_34, nI_1]
      by_cases q : mxD R d L a < d (a + 1) + 1
      · rw [if_pos ⟨hr, q⟩] at ih
        rw [if_pos ((nI_ltI (by omega) (by omega)).mpr q)]
        exact ih
      · rw [if_neg (fun w => q w.2)] at ih
        rw [if_neg (fun w => q ((nI_ltI (by omega) (by omega)).mp w))]
        exact ih
theorem or_put {S : Nat → Bool} {p : Int32} {L : Nat} (hp : Bt p (sbt S)) (hL : 1 ≤ L ∧ L ≤ 16) : Bt (p ||| 1 <<< ((nI L - 1) &&& 31)) (sbt (fun x => S x || decide (x = L))) := (hp.or (bit_b hL.1 hL.2)).cg (fun i => by
  unfold sbt
  rw [bl16]
  grind)
theorem c_arr {n : Nat} {R : Nat → Nat → Bool} {r : Nat → Nat} (hin : In n R) (hr : ∀ a b, R a b = true → r a < r b) (h16 : n ≤ 16) (hD : Drw n R I) : ∀ r k, k + r = n → ∀ (A B : Nat → Int32) (p : Int32), (∀ j, j < k → A j = nI (ord R n j)) → (∀ x, plc R n k x = true → B x = nI (dep R n x)) → Bt p (sbt (plc R n k)) →
    ∃ A' B', ex (20, 4, [.ref 265, .int p, .int (nI k), dv], [], mm (upR (upR I 270 A) 271 B) J D) = some (.inl none, mm (upR (upR I 270 A') 271 B') J D) ∧ (∀ j, j < n → A' j = nI (ord R n j)) ∧ ∀ x, plc R n n x = true → B' x = nI (dep R n x)
  | 0, k, h, A, B, p, hA, hB, hp => by
    have : k = n := by omega
    subst this
    refine ⟨A, B, ?_, hA, hB⟩
    rw [e_20_4, show (upR (upR I 270 A) 271 B) 265 8 = nI k from hD.1, decide_eq_true ((nI_leI (by omega) (by omega)).mpr (Nat.le_refl _)), cond_true, e_20_49]
  | q + 1, k, h, A, B, p, hA, hB, hp => by
    have hf := ord_ok hin hr (show k < n by omega)
    have hl : 1 ≤ ord R n k ∧ ord R n k ≤ 16 := ⟨hf.1.1, by have := hf.1.2; omega⟩
    have nx := c_nx (I := upR (upR I 270 A) 271 B) (J := J) (D := D) hin h16 hD.1 hD.2.2.1 hp hf (ord R n k - 1) 1 (by omega) (by omega)
    have dp := c_dp (I := upR (upR I 270 (upd A k (nI (ord R n k)))) 271 B) (J := J) (D := D) (d := dep R n) h16 hD.1 hD.2.1 hl (fun a ha => by
      rw [uRs]
      exact ⟨hB a (hf.2.1.2 a ha), dep_16⟩) n 0 (by omega)
    rw [← dep_ok hin hr h16] at dp
    have hne : ∀ x, plc R n k x = true → x ≠ ord R n k := fun x hx e => by rw [e, hf.2.1.1] at hx; cases hx
    obtain ⟨A', B', e1, p1, p2⟩ := c_arr hin hr h16 hD q (k + 1) (by omega) (upd A k (nI (ord R n k))) (upd B (ord R n k) (nI (dep R n (ord R n k)))) (p ||| 1 <<< ((nI (ord R n k) - 1) &&& 31))
      (fun j hj => by
        by_cases e : j = k
        · subst e; rw [uUs]
        · rw [uU e]; exact hA j (by omega))
      (fun x hx => by
        rw [plc_s, Bool.or_eq_true, decide_eq_true_eq] at hx
        by_cases e : x = ord R n k
        · rw [e, uUs]
        · rw [uU e]
          rcases hx with hx | hx
          · exact hB x hx
          · exact absurd hx e)
      (or_put hp hl)
    refine ⟨A', B', ?_, p1, p2⟩
    have m1 : ups (upR (upR I 270 A) 271 B) 270 k (nI (ord R n k)) = upR (upR I 270 (upd A k (nI (ord R n k)))) 271 B := by
      funext y
      by_cases y1 : y = 270
      · subst y1; rw [uIs, uR (by decide), uRs, uR (by decide), uRs]
      · rw [uI y1]
        by_cases y2 : y = 271
        · subst y2; rw [uRs, uRs]
        · rw [uR y2, uR y2, uR y1, uR y1]
    rw [e_20_4, show (upR (upR I 270 A) 271 B) 265 8 = nI n from hD.1, decide_eq_false (show ¬ nI n ≤ nI k from nI_ge (by omega) (by omega)), cond_false, e_20_12, e_21_0]
    rw [show ex (21, 2, [.ref 265, .int p, .int 1, dv], [], mm (upR (upR I 270 A) 271 B) J D) = _ from nx, cal_v, ka, e_20_17, inb_n (show k < 16 by omega) (by decide), cond_true, nI_clamp (by omega), m1, e_22_0]
    rw [show ex (22, 4, [.ref 265, .int (nI (ord R n k)), .int 0, .int 1], [], mm (upR (upR I 270 (upd A k (nI (ord R n k)))) 271 B) J D) = _ from dp, cal_v, ka, e_20_35, inb_n (show ord R n k < 17 by omega) (by decide), cond_true, nI_clamp (by omega), us_R, e_49_0, cal_v, ka, e_20_41, nI_1]
    exact e1
theorem c_arr0 {n : Nat} {R : Nat → Nat → Bool} {r : Nat → Nat} (hin : In n R) (hr : ∀ a b, R a b = true → r a < r b) (h16 : n ≤ 16) (hD : Drw n R I) : ∃ A' B', ex (20, 0, [.ref 265, dv, dv, dv], [], mm I J D) = some (.inl none, mm (upR (upR I 270 A') 271 B') J D) ∧ (∀ j, j < n → A' j = nI (ord R n j)) ∧ ∀ x, 1 ≤ x → x ≤ n → B' x = nI (dep R n x) := by
  obtain ⟨A', B', e, h1, h2⟩ := c_arr (J := J) (D := D) hin hr h16 hD n 0 (by omega) (I 270) (I 271) 0 (fun j hj => by omega) (fun x hx => by cases hx) (Bt.z.cg (fun i => by unfold sbt; show false = (_ && false); simp))
  have m0 : upR (upR I 270 (I 270)) 271 (I 271) = I := by rw [upR_me, upR_me]
  rw [m0] at e
  exact ⟨A', B', by rw [e_20_0]; exact e, h1, fun x h3 h4 => h2 x (plc_all hin hr ⟨h3, h4⟩)⟩
theorem m_rdy {n : Nat} {R : Nat → Nat → Bool} {S : Nat → Bool} {p : Int32} (hin : In n R) (h16 : n ≤ 16) (hw : I 317 0 = nI n) (hA : AbF (I 324) R) (hp : Bt p (sbt S)) {a : Nat} (ha : 1 ≤ a ∧ a ≤ 16) : ∀ r c, c + r = n → (∀ x, x ≤ c → R x a = true → S x = true) →
    ∃ s : Int32, ex (194, 2, [.ref 316, .int (nI a), .int p, .int (nI (c + 1))], [], mm I J D) = some (.inl (some (.int s)), mm I J D) ∧ ((s = 1 ∧ Rdy R S a) ∨ (s = 0 ∧ ¬ Rdy R S a))
  | 0, c, h, hc => by
    have : c = n := by omega
    subst this
    have hb := tb_bit hp ha.1 ha.2
    rw [sbt_at ha.1 ha.2] at hb
    have e0 : ex (194, 2, [.ref 316, .int (nI a), .int p, .int (nI (c + 1))], [], mm I J D) = ex (194, 39, [dv, .int (nI a), .int p, dv], [], mm I J D) := by
      rw [e_194_2, hw, decide_eq_true ((nI_ltI (by omega) (by omega)).mpr (by omega)), cond_true]
    cases hS : S a with
    | true =>
      refine ⟨0, ?_, Or.inr ⟨rfl, fun w => by rw [w.1] at hS; cases hS⟩⟩
      rw [e0, e_194_39, decide_eq_true (show ¬ _ = (0 : Int32) from fun w => by rw [hb.mp w] at hS; cases hS), cond_true, e_194_53, e_194_54, decide_eq_true (Or.inl rfl), cond_true]
    | false =>
      refine ⟨1, ?_, Or.inl ⟨rfl, hS, fun x hx => hc x (hin x a hx).1.2 hx⟩⟩
      rw [e0, e_194_39, decide_eq_false (fun w => w (hb.mpr hS)), cond_false, e_194_49, e_194_54, decide_eq_true (Or.inr rfl), cond_true]
  | r + 1, c, h, hc => by
    have hb := tb_bit hp (show 1 ≤ c + 1 by omega) (show c + 1 ≤ 16 by omega)
    rw [sbt_at (by omega) (by omega)] at hb
    have e0 : ex (194, 2, [.ref 316, .int (nI a), .int p, .int (nI (c + 1))], [], mm I J D) = ex (194, 18, [.ref 316, .int (nI a), .int p, .int (nI (c + 1))], [.int (b2i (R (c + 1) a))], mm I J D) := by
      rw [e_194_2, hw, decide_eq_false (show ¬ nI n < nI (c + 1) from nI_nlt (by omega) (by omega)), cond_false, e_194_12, m_lies hA (by omega) (by omega), cal_v, ka]
    cases hR : R (c + 1) a with
    | false =>
      obtain ⟨s, e1, h1⟩ := m_rdy hin h16 hw hA hp ha r (c + 1) (by omega) (fun x hx hx2 => by
        by_cases q : x = c + 1
        · subst q; rw [hR] at hx2; cases hx2
        · exact hc x (by omega) hx2)
      refine ⟨s, ?_, h1⟩
      rw [e0, e_194_18, hR, decide_eq_true (show b2i false = 0 by decide), cond_true, e_194_33, nI_1]
      exact e1
    | true =>
      cases hS : S (c + 1) with
      | true =>
        obtain ⟨s, e1, h1⟩ := m_rdy hin h16 hw hA hp ha r (c + 1) (by omega) (fun x hx hx2 => by
          by_cases q : x = c + 1
          · subst q; exact hS
          · exact hc x (by omega) hx2)
        refine ⟨s, ?_, h1⟩
        rw [e0, e_194_18, hR, decide_eq_false (show ¬ b2i true = 0 by decide), cond_false, e_194_21, decide_eq_true (show ¬ _ = (0 : Int32) from fun w => by rw [hb.mp w] at hS; cases hS), cond_true, e_194_33, nI_1]
        exact e1
      | false =>
        refine ⟨0, ?_, Or.inr ⟨rfl, fun w => by rw [w.2 _ hR] at hS; cases hS⟩⟩
        rw [e0, e_194_18, hR, decide_eq_false (show ¬ b2i true = 0 by decide), cond_false, e_194_21, decide_eq_false (fun w => w (hb.mpr hS)), cond_false, e_194_31]
theorem m_rdy0 {n : Nat} {R : Nat → Nat → Bool} {S : Nat → Bool} {p : Int32} (hin : In n R) (h16 : n ≤ 16) (hw : I 317 0 = nI n) (hA : AbF (I 324) R) (hp : Bt p (sbt S)) {a : Nat} (ha : 1 ≤ a ∧ a ≤ 16) :
    ∃ s : Int32, ex (194, 0, [.ref 316, .int (nI a), .int p, dv], [], mm I J D) = some (.inl (some (.int s)), mm I J D) ∧ ((s = 1 ∧ Rdy R S a) ∨ (s = 0 ∧ ¬ Rdy R S a)) := by
  obtain ⟨s, e, h⟩ := m_rdy (J := J) (D := D) hin h16 hw hA hp ha n 0 (by omega) (fun x hx h2 => by have := hin x a h2; omega)
  exact ⟨s, by rw [e_194_0]; exact e, h⟩
theorem m_fnd {n : Nat} {R : Nat → Nat → Bool} {S : Nat → Bool} {p m k : Int32} (hin : In n R) (h16 : n ≤ 16) (hw : I 317 0 = nI n) (hA : AbF (I 324) R) (hp : Bt p (sbt S)) {L : Nat} (hL : Fst R n S L) : ∀ r a, a + r = L → 1 ≤ a → ex (196, 42, [.ref 316, .int m, .int p, .int (nI a), .int k], [], mm I J D) = ex (196, 57, [.ref 316, .int m, .int p, .int (nI L), .int k], [], mm I J D)
  | 0, a, h, h1 => by
    have : a = L := by omega
    subst this
    obtain ⟨s, e, h2⟩ := m_rdy0 (J := J) (D := D) hin h16 hw hA hp (a := a) ⟨h1, by have := hL.1.2; omega⟩
    rcases h2 with ⟨rfl, h2⟩ | ⟨rfl, h2⟩
    · rw [e_196_42, e, cal_v, ka, e_196_48, d11, cond_true]
    · exact absurd hL.2.1 h2
  | r + 1, a, h, h1 => by
    have ih := m_fnd (m := m) (k := k) hin h16 hw hA hp hL r (a + 1) (by omega) (by omega)
    obtain ⟨s, e, h2⟩ := m_rdy0 (J := J) (D := D) hin h16 hw hA hp (a := a) ⟨h1, by have := hL.1.2; omega⟩
    rcases h2 with ⟨rfl, h2⟩ | ⟨rfl, h2⟩
    · exact absurd h2 (hL.2.2 a h1 (by omega))
    · rw [e_196_42, e, cal_v, ka, e_196_48, d01, cond_false, e_196_51, nI_1]
      exact ih
theorem m_ord {n : Nat} {R : Nat → Nat → Bool} {r : Nat → Nat} (hin : In n R) (hr : ∀ a b, R a b = true → r a < r b) (h16 : n ≤ 16) (hw : I 317 0 = nI n) (hA : AbF (I 324) R) {m : Nat} (hm : m < n) : ∀ r k, k + r = m + 1 → ∀ (p l : Int32), Bt p (sbt (plc R n k)) → (1 ≤ k → l = nI (ord R n (k - 1))) → ex (196, 34, [.ref 316, .int (nI m), .int p, .int l, .int (nI k)], [], mm I J D) = some (.inl (some (.int (nI (ord R n m)))), mm I J D)
  | 0, k, h, p, l, hp, hl => by
    have : k = m + 1 := by omega
    subst this
    rw [e_196_34, decide_eq_true ((nI_ltI (by omega) (by omega)).mpr (by omega)), cond_true, e_196_71, hl (by omega), show m + 1 - 1 = m by omega]
  | q + 1, k, h, p, l, hp, hl => by
    have hf := ord_ok hin hr (show k < n by omega)
    have hlr : 1 ≤ ord R n k ∧ ord R n k ≤ 16 := ⟨hf.1.1, by have := hf.1.2; omega⟩
    have ih := m_ord hin hr h16 hw hA hm q (k + 1) (by omega) (p ||| 1 <<< ((nI (ord R n k) - 1) &&& 31)) (nI (ord R n k)) (or_put hp hlr) (fun _ => by rw [show k + 1 - 1 = k by omega])
    have fd := m_fnd (J := J) (D := D) (m := nI m) (k := nI k) hin h16 hw hA hp hf (ord R n k - 1) 1 (by omega) (by omega)
    rw [e_196_34, decide_eq_false (show ¬ nI m < nI k from nI_nlt (by omega) (by omega)), cond_false, e_196_40]
    refine (show ex (196, 42, [.ref 316, .int (nI m), .int p, .int 1, .int (nI k)], [], mm I J D) = _ from fd).trans ?_
    rw [e_196_57, nI_1]
    exact ih
/-! phase, the model's -/
def PhF (F : Nat → Int32) (g : Nat → Nat) : Prop := ∀ x, x < 17 → F x = nI (g x)
theorem m_phB {n t a : Nat} {R : Nat → Nat → Bool} {r : Nat → Nat} {y : Int32} (hin : In n R) (hr : ∀ a b, R a b = true → r a < r b) (h16 : n ≤ 16) (hA : AbF (I 324) R) (ha : a < 17) : ∀ r b, b + r = 17 → ∀ F g, PhF F g → RelMid R n t a b g →
    ∃ F' g', ex (197, 59, [.ref 316, .int y, .int (nI t), .int (nI a), .int (nI b)], [], mm (upR I 326 F) J D) = ex (197, 125, [.ref 316, .int y, .int (nI t), .int (nI a), dv], [], mm (upR I 326 F') J D) ∧ PhF F' g' ∧ RelMid R n t a 17 g'
  | 0, b, h, F, g, hF, hg => by
    have : b = 17 := by omega
    subst this
    exact ⟨F, g, by rw [e_197_59, decide_eq_true (show (17 : Int32) ≤ nI 17 by decide), cond_true], hF, hg⟩
  | q + 1, b, h, F, g, hF, hg => by
    have hs := rel_s hin hr h16 hg
    have bd : ∀ x, g x ≤ 16 := fun x => Nat.le_trans (hg.1.1 x) dep_16
    obtain ⟨g', hg'⟩ : ∃ g' : Nat → Nat, g' = fun x => if x = b ∧ (R a b = true ∧ g b < g a + 1) then g a + 1 else g x := ⟨_, rfl⟩
    rw [← hg'] at hs
    have go : ∀ z : Int32, z = nI (g' b) → ex (197, 118, [.ref 316, .int y, .int (nI t), .int (nI a), .int (nI b)], [.int z, .int (nI b), .ref 326], mm (upR I 326 F) J D) = ex (197, 59, [.ref 316, .int y, .int (nI t), .int (nI a), .int (nI (b + 1))], [], mm (upR I 326 (upd F b (nI (g' b)))) J D) := fun z hz => by
      rw [e_197_118, inb_n (show b < 17 by omega) (by decide), cond_true, nI_clamp (by omega), us_R, nI_1, hz]
    obtain ⟨F2, g2, e1, h1, h2⟩ := m_phB (y := y) hin hr h16 hA ha q (b + 1) (by omega) (upd F b (nI (g' b))) g' (fun x hx => by
      by_cases e : x = b
      · subst e; rw [uUs]
      · rw [uU e, hF x hx, hg']
        show _ = nI (if x = b ∧ _ then _ else _)
        rw [if_neg (fun w => e w.1)]) hs
    refine ⟨F2, g2, ?_, h1, h2⟩
    have hgb : g' b = if R a b = true ∧ g b < g a + 1 then g a + 1 else g b := by
      rw [hg']
      show (if b = b ∧ _ then _ else _) = _
      by_cases w : R a b = true ∧ g b < g a + 1
      · rw [if_pos ⟨rfl, w⟩, if_pos w]
      · rw [if_neg (fun z => w z.2), if_neg w]
    refine Eq.trans ?_ ((go (nI (g' b)) rfl).trans e1)
    rw [e_197_59, decide_eq_false (show ¬ (17 : Int32) ≤ nI b from nI_ge (a := b) (b := 17) (by omega) (by decide)), cond_false, e_197_66, m_lies (I := upR I 326 F) (by rw [uR (by decide)]; exact hA) ha (by omega), cal_v, ka, e_197_79]
    have ea : F a = nI (g a) := hF a ha
    have eb : F b = nI (g b) := hF b (by omega)
    have b1 := bd a
    have b2 := bd b
    cases hR : R a b with
    | false =>
      rw [if_neg (fun w => by rw [hR] at w; cases w.1)] at hgb
      rw [decide_eq_true (show b2i false = 0 by decide), cond_true, e_197_111, inb_n (show b < 17 by omega) (by decide), cond_true, nI_clamp (by omega), uRs, eb, hgb]
    | true =>
      rw [decide_eq_false (show ¬ b2i true = 0 by decide), cond_false, e_197_82, inb_n ha (by decide), cond_true, inb_n (show b < 17 by omega) (by decide), cond_true, nI_clamp (by omega), nI_clamp (by omega), uRs, ea, eb, nI_1]
      by_cases w : g b < g a + 1
      · rw [if_pos ⟨hR, w⟩] at hgb
        rw [decide_eq_false (show ¬ nI (g a + 1) ≤ nI (g b) from nI_ge (by omega) (by omega)), cond_false, e_197_100, inb_n ha (by decide), cond_true, nI_clamp (by omega), uRs, ea, nI_1, hgb]
      · rw [if_neg (fun z => w z.2)] at hgb
        rw [decide_eq_true ((nI_leI (by omega) (by omega)).mpr (by omega)), cond_true, e_197_111, inb_n (show b < 17 by omega) (by decide), cond_true, nI_clamp (by omega), uRs, eb, hgb]
theorem m_phA {n t : Nat} {R : Nat → Nat → Bool} {r : Nat → Nat} {y : Int32} (hin : In n R) (hr : ∀ a b, R a b = true → r a < r b) (h16 : n ≤ 16) (hA : AbF (I 324) R) : ∀ r a, a + r = 17 → ∀ F g, PhF F g → RelMid R n t a 0 g →
    ∃ F' g', ex (197, 50, [.ref 316, .int y, .int (nI t), .int (nI a), dv], [], mm (upR I 326 F) J D) = ex (197, 131, [.ref 316, .int y, .int (nI t), dv, dv], [], mm (upR I 326 F') J D) ∧ PhF F' g' ∧ RelMid R n t 17 0 g'
  | 0, a, h, F, g, hF, hg => by
    have : a = 17 := by omega
    subst this
    exact ⟨F, g, by rw [e_197_50, decide_eq_true (show (17 : Int32) ≤ nI 17 by decide), cond_true], hF, hg⟩
  | q + 1, a, h, F, g, hF, hg => by
    obtain ⟨F1, g1, e1, h1, h2⟩ := m_phB (J := J) (D := D) (y := y) hin hr h16 hA (show a < 17 by omega) 16 1 (by omega) F g hF (rel_1 hin hg)
    obtain ⟨F2, g2, e2, h3, h4⟩ := m_phA (y := y) hin hr h16 hA q (a + 1) (by omega) F1 g1 h1 (rel_17 hin h16 h2)
    refine ⟨F2, g2, ?_, h3, h4⟩
    rw [e_197_50, decide_eq_false (show ¬ (17 : Int32) ≤ nI a from nI_ge (a := a) (b := 17) (by omega) (by decide)), cond_false, e_197_56]
    refine (show ex (197, 59, [.ref 316, .int y, .int (nI t), .int (nI a), .int 1], [], mm (upR I 326 F) J D) = _ from e1).trans ?_
    rw [e_197_125, nI_1]
    exact e2
theorem m_phT {n : Nat} {R : Nat → Nat → Bool} {r : Nat → Nat} {y : Int32} (hin : In n R) (hr : ∀ a b, R a b = true → r a < r b) (h16 : n ≤ 16) (hA : AbF (I 324) R) : ∀ r t, t + r = 17 → ∀ F g, PhF F g → RelOK R n t g →
    ∃ F', ex (197, 42, [.ref 316, .int y, .int (nI t), dv, dv], [], mm (upR I 326 F) J D) = ex (197, 137, [.ref 316, .int y, dv, dv, dv], [], mm (upR I 326 F') J D) ∧ PhF F' (dep R n)
  | 0, t, h, F, g, hF, hg => by
    have : t = 17 := by omega
    subst this
    exact ⟨F, by rw [e_197_42, decide_eq_true (show (17 : Int32) ≤ nI 17 by decide), cond_true], fun x hx => by rw [hF x hx, rel_all hg]⟩
  | q + 1, t, h, F, g, hF, hg => by
    obtain ⟨F1, g1, e1, h1, h2⟩ := m_phA (J := J) (D := D) (y := y) hin hr h16 hA 16 1 (by omega) F g hF (rel_0 hin hg)
    obtain ⟨F2, e2, h3⟩ := m_phT (y := y) hin hr h16 hA q (t + 1) (by omega) F1 g1 h1 (rel_e hin hr h16 h2)
    refine ⟨F2, ?_, h3⟩
    rw [e_197_42, decide_eq_false (show ¬ (17 : Int32) ≤ nI t from nI_ge (a := t) (b := 17) (by omega) (by decide)), cond_false, e_197_48]
    refine (show ex (197, 50, [.ref 316, .int y, .int (nI t), .int 1, dv], [], mm (upR I 326 F) J D) = _ from e1).trans ?_
    rw [e_197_131, nI_1]
    exact e2
theorem m_ph0 {y : Int32} : ∀ r k, k + r = 17 → ex (197, 21, [.ref 316, .int y, .int (nI k), dv, dv], [], mm (upR I 326 (lpN (fun _ => 0) (I 326) k)) J D) = ex (197, 40, [.ref 316, .int y, dv, dv, dv], [], mm (upR I 326 (lpN (fun _ => 0) (I 326) 17)) J D)
  | 0, k, h => by
    have : k = 17 := by omega
    subst this
    rw [e_197_21, decide_eq_true (show (17 : Int32) ≤ nI 17 by decide), cond_true]
  | r + 1, k, h => by
    have ih := m_ph0 (y := y) r (k + 1) (by omega)
    rw [← lpN_s] at ih
    rw [e_197_21, decide_eq_false (show ¬ (17 : Int32) ≤ nI k from nI_ge (a := k) (b := 17) (by omega) (by decide)), cond_false, e_197_27, inb_n (show k < 17 by omega) (by decide), cond_true, nI_clamp (by omega), us_R, nI_1]
    exact ih
theorem m_ph {n : Nat} {R : Nat → Nat → Bool} {r : Nat → Nat} (hin : In n R) (hr : ∀ a b, R a b = true → r a < r b) (h16 : n ≤ 16) (hA : AbF (I 324) R) {a : Nat} (ha : a < 17) : ∃ F', ex (197, 19, [.ref 316, .int (nI a), dv, dv, dv], [], mm I J D) = some (.inl (some (.int (nI (dep R n a)))), mm (upR I 326 F') J D) := by
  have l0 := m_ph0 (I := I) (J := J) (D := D) (y := nI a) 17 0 (by omega)
  rw [lpN_0, upR_me] at l0
  obtain ⟨F', e, h⟩ := m_phT (J := J) (D := D) (y := nI a) hin hr h16 hA 17 0 (by omega) (lpN (fun _ => 0) (I 326) 17) (fun _ => 0) (fun x hx => by unfold lpN; rw [if_pos hx]; rfl) rel_i
  refine ⟨F', ?_⟩
  rw [e_197_19]
  refine (show ex (197, 21, [.ref 316, .int (nI a), .int 0, dv, dv], [], mm I J D) = _ from l0).trans ?_
  rw [e_197_40]
  refine (show ex (197, 42, [.ref 316, .int (nI a), .int 0, dv, dv], [], mm (upR I 326 (lpN (fun _ => 0) (I 326) 17)) J D) = _ from e).trans ?_
  rw [e_197_137, inb_n ha (by decide), cond_true, nI_clamp (by omega), uRs, h a ha]
end OA
theorem clo_rank {T : Nat → Nat → Bool} (h : ∃ r : Nat → Nat, ∀ a b, T a b = true → r a < r b) : ∃ r : Nat → Nat, ∀ a b, clo T a b = true → r a < r b := by
  obtain ⟨r, hr⟩ := h
  exact ⟨r, wsh_rank hr 16⟩

theorem t_17 {L kk : Nat} {I : Nat → Nat → Int32} {J : Nat → Nat → Int64} {D : Nat → Nat → UInt64} (v : Int32) (h : Inv L kk I J D) (sc : ScOK v I) : Turn L kk 1141 v I J D := by
  obtain ⟨x, hx1⟩ : ∃ q, I 1000002 (v + 1).toNatClampNeg = q := ⟨_, rfl⟩
  obtain ⟨n, h16, c8, w0, hin, hT, hW, hr⟩ := inv_pil h.2.1
  obtain ⟨rk, hr⟩ := clo_rank hr
  have hin2 : In n (clo (TI I)) := wsh_in hin 16
  by_cases hx : 0 ≤ x ∧ x < nI n
  · obtain ⟨m, hm, rfl⟩ := ix_of (m := n) (nI_toInt (by omega)) hx
    obtain ⟨I1, d1, d2, d3⟩ := c_draw (J := J) (D := D) c8 h16 hin hT
    obtain ⟨A, B, a1, a2, a3⟩ := c_arr0 (J := J) (D := D) hin2 hr h16 d3
    have w1 : (upR (upR I1 270 A) 271 B) 317 = I 317 := by rw [uR (by decide), uR (by decide), d2 317 (by decide) (by decide) (by decide) (by decide)]
    obtain ⟨r, er⟩ : ∃ r, r = nI (ord (clo (TI I)) n m) := ⟨_, rfl⟩
    obtain ⟨F, f1, f2⟩ := m_abv (I := ups (upR (upR I1 270 A) 271 B) 316 0 0) (J := upsL J 335 0 r.toInt64) (D := D) hin (by rw [uI (by decide), w1]; exact hW)
    have mo := m_ord (I := upR (ups (upR (upR I1 270 A) 271 B) 316 0 0) 324 F) (J := upsL J 335 0 r.toInt64) (D := D) hin2 hr h16 (by rw [uR (by decide), uI (by decide), w1]; exact w0) (by rw [uRs]; exact f2) hm (m + 1) 0 (by omega) 0 0 (Bt.z.cg (fun i => by unfold sbt; show false = (_ && false); simp)) (fun h => absurd h (by decide))
    have hle : 0 ≤ nI m ∧ nI m ≤ (upR (upR I1 270 A) 271 B) 317 0 - 1 := by
      rw [w1, w0]
      exact ⟨hx.1, by rw [show (1 : Int32) = nI 1 from rfl, nI_sub (by omega)]; exact (nI_leI (by omega) (by omega)).mpr (by omega)⟩
    refine tk_17 (r := r) (I1 := upR (upR I1 270 A) 271 B) (J1 := J) (D1 := D) (I2 := upR (ups (upR (upR I1 270 A) 271 B) 316 0 0) 324 F) (J2 := upsL J 335 0 r.toInt64) (D2 := D) sc hx1 ?_ ?_ ?_ ?_ ?_ upsL_s ?_
    · rw [e_107_0, decide_eq_false (Int32.not_lt.mpr hx.1), cond_false, e_107_4, c8, decide_eq_true hx.2, cond_true, e_107_28, d1, cal_v, krw _, e_107_32, a1, cal_v, kn, e_107_37, inb_n (show m < 16 by omega) (by decide), cond_true, nI_clamp (by omega), uR (by decide), uRs, a2 m hm, er]
    · rw [uR (by decide), uR (by decide), d2 iSCL (by decide) (by decide) (by decide) (by decide)]
    · rw [uR (by decide), uR (by decide), d2 1000002 (by decide) (by decide) (by decide) (by decide)]
    · rw [e_196_0, x_inT hle, cal_v, ka, e_196_14, x_canT, cal_v, ka, e_196_18, d11, cond_true, e_196_23, f1, cal_v, kn, e_196_27]
      rw [er] at mo ⊢
      exact mo
    · rw [uR (by decide), uIs, uUs]
    · exact inv_st h (((((Same.o d2).tr (Same.R (by decide))).tr (Same.R (by decide))).tr Same.r).tr (Same.R (by decide)))
  · have hle : ¬ (0 ≤ x ∧ x ≤ I 317 0 - 1) := fun q => hx ⟨q.1, by
      have := Int32.le_iff_toInt_le.mp q.2
      rw [w0, pred_i (by omega)] at this
      exact Int32.lt_iff_toInt_lt.mpr (by rw [nI_toInt (by omega)]; omega)⟩
    refine te_17_2 (s := 0) (I1 := I) (J1 := J) (D1 := D) (I2 := ups I 316 0 1) (J2 := J) (D2 := D) sc hx1 ?_ rfl rfl ?_ ?_ (inv_r h)
    · by_cases h0 : x < 0
      · rw [e_107_0, decide_eq_true h0, cond_true, e_107_18]
      · rw [e_107_0, decide_eq_false h0, cond_false, e_107_4, c8, decide_eq_false (fun q => hx ⟨Int32.not_lt.mp h0, q⟩), cond_false, e_107_18]
    · rw [e_196_0, x_inF hle, cal_v, ka, e_196_14, x_canF, cal_v, ka, e_196_18, d01, cond_false, e_196_21]
    · rw [uIs, uUs]
theorem t_18 {L kk : Nat} {I : Nat → Nat → Int32} {J : Nat → Nat → Int64} {D : Nat → Nat → UInt64} (v : Int32) (h : Inv L kk I J D) (sc : ScOK v I) : Turn L kk 1197 v I J D := by
  obtain ⟨x, hx1⟩ : ∃ q, I 1000002 (v + 1).toNatClampNeg = q := ⟨_, rfl⟩
  obtain ⟨n, h16, c8, w0, hin, hT, hW, hr⟩ := inv_pil h.2.1
  obtain ⟨rk, hr⟩ := clo_rank hr
  have hin2 : In n (clo (TI I)) := wsh_in hin 16
  by_cases hx : 1 ≤ x ∧ x ≤ nI n
  · obtain ⟨a, ha, rfl⟩ := ly_of h16 hx
    have cx : 1 ≤ nI a ∧ nI a ≤ I 8 1 := by rw [c8]; exact hx
    obtain ⟨I1, d1, d2, d3⟩ := c_draw (J := J) (D := D) c8 h16 hin hT
    obtain ⟨A, B, a1, a2, a3⟩ := c_arr0 (J := J) (D := D) hin2 hr h16 d3
    have w1 : (upR (upR I1 270 A) 271 B) 317 = I 317 := by rw [uR (by decide), uR (by decide), d2 317 (by decide) (by decide) (by decide) (by decide)]
    obtain ⟨r, er⟩ : ∃ r, r = nI (dep (clo (TI I)) n a) := ⟨_, rfl⟩
    obtain ⟨F, f1, f2⟩ := m_abv (I := ups (upR (upR I1 270 A) 271 B) 316 0 0) (J := upsL J 335 0 r.toInt64) (D := D) hin (by rw [uI (by decide), w1]; exact hW)
    obtain ⟨F2, g1⟩ := m_ph (I := upR (ups (upR (upR I1 270 A) 271 B) 316 0 0) 324 F) (J := upsL J 335 0 r.toInt64) (D := D) hin2 hr h16 (by rw [uRs]; exact f2) (a := a) (by omega)
    have mx : 1 ≤ nI a ∧ nI a ≤ (upR (upR I1 270 A) 271 B) 317 0 := by rw [w1, w0]; exact hx
    refine tk_18 (r := r) (I1 := upR (upR I1 270 A) 271 B) (J1 := J) (D1 := D) (I2 := upR (upR (ups (upR (upR I1 270 A) 271 B) 316 0 0) 324 F) 326 F2) (J2 := upsL J 335 0 r.toInt64) (D2 := D) sc hx1 ?_ ?_ ?_ ?_ ?_ upsL_s ?_
    · rw [e_108_0, c_lyT cx, cal_v, kn, e_108_5, d1, cal_v, krw _, e_108_9, a1, cal_v, kn, e_108_14, inb_n (show a < 17 by omega) (by decide), cond_true, nI_clamp (by omega), uRs, a3 a ha.1 ha.2, er]
    · rw [uR (by decide), uR (by decide), d2 iSCL (by decide) (by decide) (by decide) (by decide)]
    · rw [uR (by decide), uR (by decide), d2 1000002 (by decide) (by decide) (by decide) (by decide)]
    · rw [e_197_0, m_lyT mx, cal_v, ka, e_197_6, x_canT, cal_v, ka, e_197_10, d11, cond_true, e_197_15, f1, cal_v, kn]
      rw [er] at g1 ⊢
      exact g1
    · rw [uR (by decide), uR (by decide), uIs, uUs]
    · exact inv_st h ((((((Same.o d2).tr (Same.R (by decide))).tr (Same.R (by decide))).tr Same.r).tr (Same.R (by decide))).tr (Same.R (by decide)))
  · have cx : ¬ (1 ≤ x ∧ x ≤ I 8 1) := by rw [c8]; exact hx
    have mx : ¬ (1 ≤ x ∧ x ≤ I 317 0) := by rw [w0]; exact hx
    refine te_18_2 (s := 0) (I1 := I) (J1 := J) (D1 := D) (I2 := ups I 316 0 1) (J2 := J) (D2 := D) sc hx1 ?_ rfl rfl ?_ ?_ (inv_r h)
    · rw [e_108_0, c_lyF cx, cal_e]
    · rw [e_197_0, m_lyF mx, cal_v, ka, e_197_6, x_canF, cal_v, ka, e_197_10, d01, cond_false, e_197_13]
    · rw [uIs, uUs]
