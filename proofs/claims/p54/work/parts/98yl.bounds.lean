/-! ages: areBound -/
section AB
variable {m n : Nat} {P Q : Nat → Nat} {W : Nat → Int} {t : Nat → Bool}
variable {I : Nat → Nat → Int32} {J : Nat → Nat → Int64} {D : Nat → Nat → UInt64} {X : Nat → Nat → Int32} {QJ : Nat → Nat → Int64} {QD : Nat → Nat → UInt64} {T c : Nat}
theorem lsu_le {h : Nat → Int} (hf : Feas n P Q W t h) (g : Bds n P Q W) {b x u : Nat} {s : Int} (hb : b < 17) (hx : x < 17) (hc : Ch n P Q W t b u x s) : ∃ v, LSu n P Q W t b x 16 = some v ∧ v ≤ s :=
  fin_all hf (fun k hk => ⟨(g.2 k hk).1.1, (g.2 k hk).1.2.1⟩) hb x hx u s hc
theorem lsu_ch {b x : Nat} {v : Int} (h : LSu n P Q W t b x 16 = some v) : ∃ u, Ch n P Q W t b u x v := by
  obtain ⟨u, -, e⟩ := LSu_ch h
  exact ⟨u, SS_ch _ _ _ e⟩
theorem hv_ne {s : Int} (h : -200000 ≤ s ∧ s ≤ 200000) : hv (some s) ≠ 2147483647 := fun e => by
  have e : Int32.ofInt s = Int32.ofInt 2147483647 := e
  have := congrArg Int32.toInt e
  rw [oI_t (by omega), show (Int32.ofInt 2147483647).toInt = 2147483647 from rfl] at this
  omega
theorem nI_dec (k : Nat) : nI (k + 1) + (-1) = nI k := by
  rw [← nI_1, Int32.add_assoc]
  exact Int32.add_zero _
theorem oI_n (k : Nat) : nI k = Int32.ofInt (k : Int) := rfl
theorem oI_s (a b : Int) : Int32.ofInt a - Int32.ofInt b = Int32.ofInt (a - b) := (Int32.ofInt_sub a b).symm
theorem oI_m (a : Int) : -Int32.ofInt a = Int32.ofInt (-a) := (Int32.ofInt_neg a).symm
/-- the law puts a bound into its rows -/
theorem la_put {X : Nat → Nat → Int32} (la : LawA m n P Q W X) {f s : Nat} {wv : Int} {v : Int32} (hv : v = nI (n + 1)) : LawA m (n + 1) (up1 P n f) (up1 Q n s) (up1 W n wv) (ups (ups (ups (ups X 317 n (nI f)) 318 n (nI s)) 319 n (Int32.ofInt wv)) 0 5 v) := by
  obtain ⟨⟨l1, l2⟩, l3, l4⟩ := la
  subst hv
  refine ⟨⟨?_, by rw [uIs, uUs]⟩, fun k hk => ?_, fun k hk => ?_⟩
  · rw [uIs, uU (by decide), uI (by decide), uI (by decide), uI (by decide)]; exact l1
  · rw [uI (by decide), uI (by decide), uI (by decide), uIs, uI (by decide), uI (by decide), uIs, uI (by decide), uI (by decide), uIs, uI (by decide), uI (by decide)]
    by_cases e : k = n
    · subst e
      rw [uUs, uUs, uUs, up1_s, up1_s, up1_s]
      exact ⟨rfl, rfl, rfl⟩
    · rw [uU e, uU e, uU e, up1_n e, up1_n e, up1_n e]
      exact l3 k (by omega)
  · rw [uI (by decide), uI (by decide), uI (by decide), uI (by decide)]; exact l4 k hk
theorem ags_put (w : AgeW m n P Q W) (ag : AgeG m n P Q W (fun _ => true) (PG I)) (rs : Rst (PG I)) {I2 X2 : Nat → Nat → Int32} {f s : Nat} {wv : Int} (n50 : n < 50) (hf : f ≤ m) (hs : s ≤ m) (hfs : f ≠ s) (hw : -9999 ≤ wv ∧ wv ≤ 9999) (e : PG I2 = PutG n f s wv (PG I)) (la : LawA m (n + 1) (up1 P n f) (up1 Q n s) (up1 W n wv) X2) : AgS m (n + 1) (up1 P n f) (up1 Q n s) (up1 W n wv) X2 I2 := by
  have q := ag_put (a := f) (b := s) (wv := wv) ag
  rw [up1_t] at q
  exact ⟨aw_put w n50 hf hs hfs hw, by rw [e]; exact q, la, by rw [e]; exact rst_put rs⟩
theorem cnt_true : ∀ n, cntN (fun _ => true) n = n
  | 0 => rfl
  | n + 1 => by show cntN _ n + 1 = n + 1; rw [cnt_true n]
def ArP (T m B : Nat) (QJ : Nat → Nat → Int64) (v : Option Value) (X2 : Nat → Nat → Int32) (QJ : Nat → Nat → Int64) (I2 : Nat → Nat → Int32) (J2 : Nat → Nat → Int64) (D2 : Nat → Nat → UInt64) : Prop :=
  (v = some (.int 1) ∧ QJ = QJ ∧ ∃ n2 P2 Q2 W2, n2 ≤ B ∧ AgS m n2 P2 Q2 W2 X2 I2) ∧ ∃ c2, St T c2 X2 I2 J2 D2
theorem lw_areB {B : Nat} (hB : B ≤ 30) : ∀ k n P Q W X I J D c, 32 * k + 5 ≤ c → n + k ≤ B → St T c X I J D → AgS m n P Q W X I → 1 ≤ m →
    WO 329 S54 R54 QD (ArP T m B QJ) (ex (324, 12, [.ref 0, .int (nI k), dv, dv, dv, dv, dv, dv, dv, dv, dv], [], 329, S54, R54, ovr I X, ovr J QJ, ovr D QD)) := by
  intro k
  induction k with
  | zero =>
    intro n P Q W X I J D c hc hn s as hm
    obtain ⟨w, ag, la, rs⟩ := id as
    obtain ⟨c, rfl⟩ : ∃ c', c = c' + 1 := ⟨c - 1, by omega⟩
    rw [eA_324_12, decide_eq_true (show nI 0 ≤ 0 by decide), cond_true, eA_324_299]
    refine goK bas_A (by decide) rfl s (fun kk _ hi => q_bcnt hi w ag) (fun X2 I2 J2 D2 hx s2 hs => ?_)
    have la2 := la.cr hx
    rw [ka, eA_324_306, show ovr I2 X2 0 5 = nI n by rw [ovr_o (by decide)]; exact la2.1.2, cnt_true, decide_eq_false (fun h => h rfl), cond_false, eA_324_313, eA_324_318, decide_eq_true (Or.inr rfl), cond_true]
    exact wo_ret ⟨⟨rfl, rfl, n, P, Q, W, by omega, as.go (fun p h1 _ => hx p h1) hs.pg⟩, _, s2⟩
  | succ k ih =>
    intro n P Q W X I J D c hc hn s as hm
    have h16 := as.1.1
    -- behind the bound's call
    have tail : ∀ (f sd : Nat) (wv : Int) (X I I2 : Nat → Nat → Int32) (J : Nat → Nat → Int64) (D : Nat → Nat → UInt64) (c : Nat) (v : Option Value), f ≤ m → sd ≤ m → f ≠ sd → (-9999 ≤ wv ∧ wv ≤ 9999) → 32 * k + 33 ≤ c → St T c X I2 J D → AgS m n P Q W X I → BdR n P Q W (fun _ => true) f sd wv I I2 v →
        WO 329 S54 R54 QD (ArP T m B QJ) (ex (324, 149, [.ref 0, .int (nI (k + 1)), dv, dv, dv, dv, .int (nI f), .int (nI sd), .int (Int32.ofInt wv), .int (hv (LSu n P Q W (fun _ => true) f sd 16)), dv], v.toList ++ [], 329, S54, R54, ovr I2 X, ovr J QJ, ovr D QD)) := by
      intro f sd wv X I I2 J D c v hf hs hfs hw hc s as hbd
      obtain ⟨w, ag, la, rs⟩ := id as
      obtain ⟨⟨l1, l2⟩, l3, l4⟩ := id la
      have o5 : ovr I2 X 0 5 = nI n := by rw [ovr_o (by decide)]; exact l2
      rcases hbd with ⟨hno, rfl, a1, a2⟩ | ⟨hex, rfl, kp, hr⟩
      · -- it fits
        have hback : ∀ s, LSu n P Q W (fun _ => true) f sd 16 = some s → 0 ≤ s + wv := fun s e => by
          by_cases q : s + wv < 0
          · obtain ⟨u, hu, hcn⟩ := (cn_iff (t := fun _ => true) hfs).mpr ⟨s, e, q⟩
            exact absurd hcn (hno u hu.1 hu.2)
          · omega
        have to187 : ex (324, 162, [.ref 0, .int (nI (k + 1)), dv, dv, dv, dv, .int (nI f), .int (nI sd), .int (Int32.ofInt wv), .int (hv (LSu n P Q W (fun _ => true) f sd 16)), .int (nI n)], [.int 1], mA (ovr I2 X) (ovr J QJ) (ovr D QD)) = ex (324, 187, [.ref 0, .int (nI (k + 1)), dv, dv, dv, dv, .int (nI f), .int (nI sd), .int (Int32.ofInt wv), dv, .int (nI n)], [], mA (ovr I2 X) (ovr J QJ) (ovr D QD)) := by
          cases e : LSu n P Q W (fun _ => true) f sd 16 with
          | none => rw [eA_324_162, decide_eq_true (show hv none = 2147483647 from rfl), cond_true, eA_324_177, eA_324_182, decide_eq_true rfl, cond_true]
          | some s0 =>
            have sb := LSu_Bo w.2.1 16 sd s0 e
            have := hback s0 e
            rw [eA_324_162, decide_eq_false (hv_ne (s := s0) (by omega)), cond_false, eA_324_169, show hv (some s0) = Int32.ofInt s0 from rfl, oI_a, decide_eq_false (show ¬ Int32.ofInt (s0 + wv) < 0 by rw [oI_0, oI_lt (by omega) (by omega)]; omega), cond_false, eA_324_177, eA_324_182, decide_eq_true rfl, cond_true]
        rw [ka, eA_324_149, decide_eq_false (ne_m1 (show n < 1000 by omega)), cond_false, eA_324_157, to187, eA_324_187, decide_eq_true (ne_m1 (show n < 1000 by omega)), cond_true, eA_324_206, decide_eq_false (ne_m1 (show n < 1000 by omega)), cond_false, eA_324_212, o5, decide_eq_true rfl, cond_true, eA_324_223, decide_eq_true (ne_m1 (show n < 1000 by omega)), cond_true, eA_324_232]
        have la2 := la_put (f := f) (s := sd) (wv := wv) la rfl
        have as2 := ags_put (X2 := ups (ups (ups (ups X 317 n (nI f)) 318 n (nI sd)) 319 n (Int32.ofInt wv)) 0 5 (nI (n + 1))) w ag rs (by omega) hf hs hfs hw a1 la2
        have z1 : ∀ v, ups (ovr I2 X) 317 n v 0 5 = nI n := fun v => by rw [uI (by decide)]; exact o5
        have z2 : ∀ v u, ups (ups (ovr I2 X) 317 n v) 318 n u 0 5 = nI n := fun v u => by rw [uI (by decide)]; exact z1 v
        have z3 : ∀ v u x, ups (ups (ups (ovr I2 X) 317 n v) 318 n u) 319 n x 0 5 = nI n := fun v u x => by rw [uI (by decide)]; exact z2 v u
        simp only [o5, nI_clamp (show n < 2 ^ 31 by omega), z1, z2, z3, inb_n (show n < 50 by omega) (show 50 < 2 ^ 31 by decide), cond_true, nI_1]
        rw [ovr_ups2 (I := I2) (p := 317) (by decide), ovr_ups2 (I := I2) (p := 318) (by decide), ovr_ups2 (I := I2) (p := 319) (by decide), ovr_ups2 (I := I2) (p := 0) (by decide)]
        have s2 : St T c (ups (ups (ups (ups X 317 n (nI f)) 318 n (nI sd)) 319 n (Int32.ofInt wv)) 0 5 (nI (n + 1))) I2 J D := ⟨by rw [uI (by decide), uI (by decide), uI (by decide), uI (by decide)]; exact s.1, s.2⟩
        refine goP (by decide) (by decide) (d := 2) rfl s2 (by omega) (fun Q1 T1 hq s3 => lw_high s3 as2.1 as2.2.1 (a := f) (b := sd) hf hs) (fun v Q3 I3 J3 D3 hq s4 ⟨h1, h2⟩ => ?_)
        subst h1
        obtain ⟨-, -, kk, -, hi⟩ := s2
        obtain ⟨pot, hpot⟩ := ag_fe hi as2.1.2.1 (ag_bo as2.1 as2.2.1).2
        have ch := ch_1 (n := n + 1) (P := up1 P n f) (Q := up1 Q n sd) (W := up1 W n wv) (th := fun _ => true) (k := n) (by omega) rfl
        rw [up1_s, up1_s, up1_s] at ch
        obtain ⟨v0, e0, l0⟩ := lsu_le hpot as2.1.2.1 (show sd < 17 by omega) (show f < 17 by omega) ch
        have sb := LSu_Bo as2.1.2.1 16 f v0 e0
        rw [ka, e0, eA_324_286, show hv (some v0) = Int32.ofInt v0 from rfl, decide_eq_true ((oI_le (by omega) (by omega)).mpr l0), cond_true, eA_324_293, show nI (k + 1) + (-1) = nI k from nI_dec k]
        exact ih (n + 1) _ _ _ Q3 I3 J3 D3 (c - 2) (by omega) (by omega) s4 (as2.go (fun p q1 q2 => hq p q1) h2.pg) hm
      · -- a ring
        obtain ⟨s0, e0, l0⟩ := (cn_iff (t := fun _ => true) hfs).mp hex
        have sb := LSu_Bo w.2.1 16 sd s0 e0
        rw [ka, eA_324_149, decide_eq_true rfl, cond_true, eA_324_161, e0, eA_324_162, decide_eq_false (hv_ne (s := s0) (by omega)), cond_false, eA_324_169, show hv (some s0) = Int32.ofInt s0 from rfl, oI_a, decide_eq_true (show Int32.ofInt (s0 + wv) < 0 by rw [oI_0, oI_lt (by omega) (by omega)]; omega), cond_true, eA_324_181, eA_324_182, decide_eq_true rfl, cond_true, eA_324_187, decide_eq_false (show ¬ (-1 : Int32) ≠ -1 from fun h => h rfl), cond_false, eA_324_193]
        refine goP (by decide) (by decide) (d := 25) rfl s (by omega) (fun Q1 T1 hq s3 => lw_ring s3 w (la.cr hq) hf hw hr) (fun v Q3 I3 J3 D3 hq s4 ⟨h1, h2⟩ => ?_)
        subst h1
        rw [ka, eA_324_203, decide_eq_false (show ¬ (1 : Int32) = 0 by decide), cond_false, eA_324_206, decide_eq_true rfl, cond_true, eA_324_223, decide_eq_false (show ¬ (-1 : Int32) ≠ -1 from fun h => h rfl), cond_false, eA_324_229, eA_324_293, show nI (k + 1) + (-1) = nI k from nI_dec k]
        have as2 : AgS m n P Q W X I2 := ⟨w, by rw [kp.1]; exact ag, la, by rw [kp.1]; exact rs⟩
        exact ih n P Q W Q3 I3 J3 D3 (c - 25) (by omega) (by omega) s4 (as2.go (fun p q1 q2 => hq p q1) h2.pg) hm
    have o6 : ∀ X I, LawA m n P Q W X → ovr I X 0 6 + 1 = nI (m + 1) := fun X I la => by rw [ovr_o (by decide), la.1.1, nI_1]
    rw [eA_324_12, decide_eq_false (show ¬ nI (k + 1) ≤ 0 from nI_nle (by omega) (by omega)), cond_false, eA_324_16]
    refine goN nl_A (by decide) (o6 X I as.2.2.1) ⟨by omega, by omega⟩ s (fun X1 a ha hx1 s1 => ?_)
    have as1 : AgS m n P Q W X1 I := as.go (fun p _ h => hx1 p h) rfl
    rw [eA_324_29]
    refine goN nl_A (by decide) (o6 X1 I as1.2.2.1) ⟨by omega, by omega⟩ s1 (fun X2 b hb hx2 s2 => ?_)
    have as2 : AgS m n P Q W X2 I := as1.go (fun p _ h => hx2 p h) rfl
    rw [eA_324_43]
    by_cases hab : a = b
    · subst hab
      rw [decide_eq_false (fun h => h rfl), cond_false, eA_324_49, eA_324_293, show nI (k + 1) + (-1) = nI k from nI_dec k]
      exact ih n P Q W X2 I J D c (by omega) (by omega) s2 as2 hm
    · rw [decide_eq_true (show nI a ≠ nI b from fun q => hab ((nI_eq (by omega) (by omega)).mp q)), cond_true, eA_324_52]
      refine goN nl_A (by decide) (show (41 : Int32) = nI 41 from rfl) ⟨by omega, by omega⟩ s2 (fun X3 y hy hx3 s3 => ?_)
      have as3 : AgS m n P Q W X3 I := as2.go (fun p _ h => hx3 p h) rfl
      rw [eA_324_61]
      refine goN nl_A (by decide) (show (2 : Int32) = nI 2 from rfl) ⟨by omega, by omega⟩ s3 (fun X4 z hz hx4 s4 => ?_)
      have as4 : AgS m n P Q W X4 I := as3.go (fun p _ h => hx4 p h) rfl
      rw [show nI y - 10 = Int32.ofInt ((y : Int) - 10) from oI_s (y : Int) 10]
      obtain ⟨yv, hyv⟩ : ∃ yv : Int, yv = (y : Int) - 10 := ⟨_, rfl⟩
      rw [← hyv]
      have hyb : -9999 ≤ yv ∧ yv ≤ 9999 := by omega
      have hz2 : z = 0 ∨ z = 1 := by omega
      rcases hz2 with rfl | rfl
      · rw [eA_324_74, decide_eq_false (show ¬ nI 0 ≠ 0 from fun h => h rfl), cond_false, eA_324_77, eA_324_82, decide_eq_false (show ¬ (1 : Int32) = 0 by decide), cond_false, eA_324_89, eA_324_94, decide_eq_false (show ¬ (1 : Int32) = 0 by decide), cond_false, eA_324_101, eA_324_106, decide_eq_false (show ¬ (1 : Int32) = 0 by decide), cond_false, eA_324_113, oI_m, eA_324_121]
        refine goP (by decide) (by decide) (d := 2) rfl s4 (by omega) (fun Q1 T1 hq s5 => lw_high s5 as4.1 as4.2.1 (a := a) (b := b) (by omega) (by omega)) (fun v Q3 I3 J3 D3 hq s5 ⟨h1, h2⟩ => ?_)
        subst h1
        have as5 : AgS m n P Q W Q3 I3 := as4.go (fun p q1 q2 => hq p q1) h2.pg
        rw [ka, eA_324_134]
        refine goP (by decide) (by decide) (d := 2) rfl s5 (by omega) (fun Q1 T1 hq s6 => lw_least s6 as5.1 as5.2.1 (by omega) (a := b) (b := a) (by omega) (by omega) (fun h => hab h.symm) (wv := -yv) (by omega) (oI_m yv)) (fun v Q5 I4 J4 D4 hq4 s6 h5 => ?_)
        exact tail b a (-yv) Q5 I3 I4 J4 D4 (c - 2 - 2) v (by omega) (by omega) (fun h => hab h.symm) (by omega) (by omega) s6 (as5.go (fun p q1 q2 => hq4 p q1) rfl) h5
      · rw [eA_324_74, decide_eq_true (show nI 1 ≠ 0 by decide), cond_true, eA_324_81, eA_324_82, decide_eq_true rfl, cond_true, eA_324_93, eA_324_94, decide_eq_true rfl, cond_true, eA_324_105, eA_324_106, decide_eq_true rfl, cond_true, eA_324_119, eA_324_121]
        refine goP (by decide) (by decide) (d := 2) rfl s4 (by omega) (fun Q1 T1 hq s5 => lw_high s5 as4.1 as4.2.1 (a := b) (b := a) (by omega) (by omega)) (fun v Q3 I3 J3 D3 hq s5 ⟨h1, h2⟩ => ?_)
        subst h1
        have as5 : AgS m n P Q W Q3 I3 := as4.go (fun p q1 q2 => hq p q1) h2.pg
        rw [ka, eA_324_134]
        refine goP (by decide) (by decide) (d := 2) rfl s5 (by omega) (fun Q1 T1 hq s6 => lw_most s6 as5.1 as5.2.1 (by omega) (a := a) (b := b) (by omega) (by omega) hab (wv := yv) hyb) (fun v Q5 I4 J4 D4 hq4 s6 h5 => ?_)
        exact tail a b yv Q5 I3 I4 J4 D4 (c - 2 - 2) v (by omega) (by omega) hab hyb (by omega) s6 (as5.go (fun p q1 q2 => hq4 p q1) rfl) h5
theorem lw_areBound (s : St T 400 X I J D) (as : AgS m 0 P Q W X I) (hm : 1 ≤ m) : WO 329 S54 R54 QD (ArP T m 11 QJ) (ex (324, 0, [.ref 0, dv, dv, dv, dv, dv, dv, dv, dv, dv, dv], [], 329, S54, R54, ovr I X, ovr J QJ, ovr D QD)) := by
  rw [eA_324_0]
  refine goN nl_A (by decide) (show (8 : Int32) = nI 8 from rfl) ⟨by omega, by omega⟩ s (fun X1 k hk hx1 s1 => ?_)
  rw [eA_324_10, show (4 : Int32) + nI k = nI (4 + k) from nI_add 4 k]
  exact lw_areB (by decide) (4 + k) 0 P Q W X1 I J D 400 (by omega) (by omega) s1 (as.go (fun p _ h => hx1 p h) rfl) hm
end AB
