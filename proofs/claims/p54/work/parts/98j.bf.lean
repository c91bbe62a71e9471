/-! ages that fit; errors -/
theorem int_max {S : Int → Prop} (h : ∃ v, S v) (hb : ∀ v, S v → v ≤ 0) : ∃ m, S m ∧ ∀ v, S v → v ≤ m := by
  obtain ⟨v, hv⟩ := h
  have e : ∀ w : Int, S w → w = -(((-w).toNat : Nat) : Int) := fun w hw => by have := hb w hw; omega
  obtain ⟨b, b1, b2, b3⟩ := least_ex (P := fun n : Nat => S (-(n : Int))) (-v).toNat (-v).toNat (Nat.le_refl _) (by rw [← e v hv]; exact hv)
  refine ⟨-(b : Int), b2, fun w hw => ?_⟩
  have := e w hw
  by_cases q : (-w).toNat < b
  · exact absurd (by rw [← this]; exact hw) (b3 _ q)
  · omega
def Feas (n : Nat) (P Q : Nat → Nat) (W : Nat → Int) (th : Nat → Bool) (d : Nat → Int) : Prop := ∀ k, k < n → th k = true → d (P k) ≤ d (Q k) + W k
def Dst (n : Nat) (P Q : Nat → Nat) (W : Nat → Int) (th : Nat → Bool) (d : Nat → Int) : Prop := Feas n P Q W th d ∧ (∀ x, x < 17 → d x ≤ 0) ∧ ∀ e, Feas n P Q W th e → (∀ x, x < 17 → e x ≤ 0) → ∀ x, x < 17 → e x ≤ d x
section DS
variable {n : Nat} {P Q : Nat → Nat} {W : Nat → Int} {th : Nat → Bool}
theorem bd_17 (p : Nat → Int) : ∀ m : Nat, ∃ M : Int, ∀ x, x < m → p x ≤ M
  | 0 => ⟨0, fun x h => absurd h (Nat.not_lt_zero _)⟩
  | m + 1 => by
    obtain ⟨M, h⟩ := bd_17 p m
    by_cases q : p m ≤ M
    · exact ⟨M, fun x hx => by
        by_cases e : x = m
        · subst e; exact q
        · exact h x (by omega)⟩
    · exact ⟨p m, fun x hx => by
        by_cases e : x = m
        · subst e; exact Int.le_refl _
        · have := h x (by omega)
          omega⟩
theorem dst_ex (hP : ∀ k, k < n → P k < 17 ∧ Q k < 17) (hf : ∃ p, Feas n P Q W th p) : ∃ d, Dst n P Q W th d := by
  obtain ⟨p, hp⟩ := hf
  obtain ⟨M, hM⟩ := bd_17 p 17
  have hp2 : Feas n P Q W th (fun x => p x - M) := fun k hk ht => by
    have := hp k hk ht
    show p (P k) - M ≤ p (Q k) - M + W k
    omega
  have ex_ : ∀ x, ∃ m : Int, x < 17 → (∃ e, Feas n P Q W th e ∧ (∀ y, y < 17 → e y ≤ 0) ∧ e x = m) ∧ ∀ e, Feas n P Q W th e → (∀ y, y < 17 → e y ≤ 0) → e x ≤ m := fun x => by
    by_cases hx : x < 17
    · obtain ⟨m, h1, h2⟩ := int_max (S := fun v => ∃ e, Feas n P Q W th e ∧ (∀ y, y < 17 → e y ≤ 0) ∧ e x = v) ⟨p x - M, fun x => p x - M, hp2, fun y hy => by have := hM y hy; show p y - M ≤ 0; omega, rfl⟩ (fun v ⟨e, h1, h2, h3⟩ => by rw [← h3]; exact h2 x hx)
      exact ⟨m, fun _ => ⟨h1, fun e h3 h4 => h2 _ ⟨e, h3, h4, rfl⟩⟩⟩
    · exact ⟨0, fun h => absurd h hx⟩
  have hd : ∀ x, x < 17 → (∃ e, Feas n P Q W th e ∧ (∀ y, y < 17 → e y ≤ 0) ∧ e x = Classical.choose (ex_ x)) ∧ ∀ e, Feas n P Q W th e → (∀ y, y < 17 → e y ≤ 0) → e x ≤ Classical.choose (ex_ x) := fun x hx => Classical.choose_spec (ex_ x) hx
  refine ⟨fun x => Classical.choose (ex_ x), fun k hk ht => ?_, fun x hx => ?_, fun e h1 h2 x hx => (hd x hx).2 e h1 h2⟩
  · obtain ⟨e, h1, h2, h3⟩ := (hd (P k) (hP k hk).1).1
    have a := h1 k hk ht
    have b := (hd (Q k) (hP k hk).2).2 e h1 h2
    show Classical.choose (ex_ (P k)) ≤ Classical.choose (ex_ (Q k)) + W k
    omega
  · obtain ⟨e, h1, h2, h3⟩ := (hd x hx).1
    have := h2 x hx
    show Classical.choose (ex_ x) ≤ 0
    omega
/-- while one is above, a bound leads it to its end -/
theorem dst_grow {d g : Nat → Int} (hP : ∀ k, k < n → P k < 17 ∧ Q k < 17) (hd : Dst n P Q W th d) (hg : ∀ x, x < 17 → d x ≤ g x ∧ g x ≤ 0) {x : Nat} (hx : x < 17) (hlt : d x < g x) : ∃ k, k < n ∧ th k = true ∧ d (P k) < g (P k) ∧ d (Q k) = g (Q k) ∧ d (P k) = d (Q k) + W k := by
  obtain ⟨h1, h2, h3⟩ := hd
  refine Classical.byContradiction (fun hn => ?_)
  have := h3 (fun y => if d y < g y then d y + 1 else d y) (fun k hk ht => ?_) (fun y hy => ?_) x hx
  · have this : (if d x < g x then d x + 1 else d x) ≤ d x := this
    rw [if_pos hlt] at this
    omega
  · show (if d (P k) < g (P k) then d (P k) + 1 else d (P k)) ≤ (if d (Q k) < g (Q k) then d (Q k) + 1 else d (Q k)) + W k
    have a := h1 k hk ht
    have gp := (hg _ (hP k hk).1).1
    have gq := (hg _ (hP k hk).2).1
    by_cases p : d (P k) < g (P k)
    · rw [if_pos p]
      by_cases q : d (Q k) < g (Q k)
      · rw [if_pos q]; omega
      · rw [if_neg q]
        have : d (P k) ≠ d (Q k) + W k := fun e => hn ⟨k, hk, ht, p, by omega, e⟩
        omega
    · rw [if_neg p]
      by_cases q : d (Q k) < g (Q k)
      · rw [if_pos q]; omega
      · rw [if_neg q]; exact a
  · show (if d y < g y then d y + 1 else d y) ≤ 0
    have := hg y hy
    have := h2 y hy
    by_cases p : d y < g y
    · rw [if_pos p]; omega
    · rw [if_neg p]; omega
theorem cnt_more {f g : Nat → Bool} : ∀ {m : Nat}, (∀ k, k < m → f k = true → g k = true) → (∃ c, c < m ∧ f c = false ∧ g c = true) → cntN f m + 1 ≤ cntN g m
  | 0, _, ⟨c, h, _⟩ => absurd h (Nat.not_lt_zero _)
  | m + 1, h, ⟨c, hc, h1, h2⟩ => by
    have sub : ∀ {m : Nat}, (∀ k, k < m → f k = true → g k = true) → cntN f m ≤ cntN g m := fun {m} => by
      induction m with
      | zero => intro _; exact Nat.le_refl _
      | succ m ih =>
        intro h
        have := ih (fun k hk => h k (by omega))
        show cntN f m + (bif f m then 1 else 0) ≤ cntN g m + (bif g m then 1 else 0)
        cases e : f m with
        | false => show cntN f m + 0 ≤ _; omega
        | true => rw [h m (by omega) e]; show cntN f m + 1 ≤ cntN g m + 1; omega
    show cntN f m + (bif f m then 1 else 0) + 1 ≤ cntN g m + (bif g m then 1 else 0)
    by_cases e : c = m
    · subst e
      have := @sub c (fun k hk => h k (by omega))
      rw [h1, h2]; show cntN f c + 0 + 1 ≤ cntN g c + 1; omega
    · have := cnt_more (m := m) (fun k hk => h k (by omega)) ⟨c, by omega, h1, h2⟩
      cases e2 : f m with
      | false => show cntN f m + 0 + 1 ≤ _; omega
      | true => rw [h m (by omega) e2]; show cntN f m + 1 + 1 ≤ cntN g m + 1; omega
end DS
def bP (I : Nat → Nat → Int32) (k : Nat) : Nat := rN (I 3 k)
def bQ (I : Nat → Nat → Int32) (k : Nat) : Nat := rN (I 4 k)
def bW (I : Nat → Nat → Int32) (k : Nat) : Int := (I 5 k).toInt
def bT (I : Nat → Nat → Int32) (k : Nat) : Bool := decide (I 6 k = 1)
/-- what the book's bounds are -/
def BouI (n : Nat) (I : Nat → Nat → Int32) : Prop := (n ≤ 50 ∧ I 2 5 = nI n) ∧ (∀ k, k < n → I 3 k = nI (bP I k) ∧ I 4 k = nI (bQ I k) ∧ bP I k < 17 ∧ bQ I k < 17 ∧ rg (-9999) 9999 (I 5 k)) ∧ (∀ k, k < 50 → I 6 k = 0 ∨ I 6 k = 1)
section BF
variable {I : Nat → Nat → Int32} {J : Nat → Nat → Int64} {D : Nat → Nat → UInt64} {n : Nat} {d : Nat → Int}
def AgeB (d : Nat → Int) (s : Nat) (F : Nat → Int32) : Prop := ∀ x, x < 17 → d x ≤ (F x).toInt ∧ (F x).toInt ≤ 0 ∧ -(9999 * (s : Int)) ≤ (F x).toInt
theorem c_rnd (b : BouI n I) (hd : Feas n (bP I) (bQ I) (bW I) (bT I) d) {F0 : Nat → Int32} {s : Nat} (hs : s ≤ 900) : ∀ r k, k + r = n → ∀ (F : Nat → Int32) (v : Bool), AgeB d (s + k) F → (∀ x, x < 17 → (F x).toInt ≤ (F0 x).toInt) →
    (v = false → (∀ x, x < 17 → F x = F0 x) ∧ ∀ q, q < k → bT I q = true → (F0 (bP I q)).toInt ≤ (F0 (bQ I q)).toInt + bW I q) →
    (∀ q, q < k → bT I q = true → d (bP I q) = d (bQ I q) + bW I q → (F0 (bQ I q)).toInt = d (bQ I q) → (F (bP I q)).toInt = d (bP I q)) →
    ∃ (F' : Nat → Int32) (v' : Bool), ex (4, 4, [.ref 2, .int (bI v), .int (nI k), dv], [], mm (upR I 7 F) J D) = some (.inl (some (.int (bI v'))), mm (upR I 7 F') J D) ∧ AgeB d (s + n) F' ∧ (∀ x, x < 17 → (F' x).toInt ≤ (F0 x).toInt) ∧
      (v' = false → (∀ x, x < 17 → F' x = F0 x) ∧ ∀ q, q < n → bT I q = true → (F0 (bP I q)).toInt ≤ (F0 (bQ I q)).toInt + bW I q) ∧
      (∀ q, q < n → bT I q = true → d (bP I q) = d (bQ I q) + bW I q → (F0 (bQ I q)).toInt = d (bQ I q) → (F' (bP I q)).toInt = d (bP I q))
  | 0, k, h, F, v, i1, i2, i3, i4 => by
    have : k = n := by omega
    subst this
    have hn := b.1
    refine ⟨F, v, ?_, i1, i2, i3, i4⟩
    rw [e_4_4, show (upR I 7 F) 2 5 = nI k from hn.2, decide_eq_true ((nI_leI (by omega) (by omega)).mpr (Nat.le_refl _)), cond_true, e_4_75, decide_eq_true (bI_01 v), cond_true]
  | r + 1, k, h, F, v, i1, i2, i3, i4 => by
    have hn := b.1
    obtain ⟨b1, b2, b3, b4, b5⟩ := b.2.1 k (by omega)
    have e0 : ex (4, 4, [.ref 2, .int (bI v), .int (nI k), dv], [], mm (upR I 7 F) J D) = ex (4, 12, [.ref 2, .int (bI v), .int (nI k), dv], [], mm (upR I 7 F) J D) := by
      rw [e_4_4, show (upR I 7 F) 2 5 = nI n from hn.2, decide_eq_false (show ¬ nI n ≤ nI k from nI_ge (by omega) (by omega)), cond_false]
    have u3 : (upR I 7 F) 3 k = nI (bP I k) := b1
    have u4 : (upR I 7 F) 4 k = nI (bQ I k) := b2
    have aq := i1 (bQ I k) b4
    have ap := i1 (bP I k) b3
    have ad := add_rg (a := F (bQ I k)) (b := I 5 k) (p := -10000000) (q := 0) (r := -9999) (s := 9999) ⟨by omega, aq.2.1⟩ b5 (by decide)
    rcases b.2.2 k (by omega) with ht | ht
    · have tf : bT I k = false := by unfold bT; rw [ht]; rfl
      obtain ⟨F', v', e1, h1⟩ := c_rnd b hd (F0 := F0) hs r (k + 1) (by omega) F v (fun x hx => by have := i1 x hx; omega) i2 (fun hv => ⟨(i3 hv).1, fun q hq hb => by
        by_cases e : q = k
        · subst e; rw [tf] at hb; cases hb
        · exact (i3 hv).2 q (by omega) hb⟩) (fun q hq hb => by
        by_cases e : q = k
        · subst e; rw [tf] at hb; cases hb
        · exact i4 q (by omega) hb)
      refine ⟨F', v', ?_, h1⟩
      rw [e0, e_4_12, inb_n (show k < 50 by omega) (by decide), cond_true, nI_clamp (by omega), u4, inb_n b4 (by decide), cond_true, cond_true, cond_true, show (upR I 7 F) 6 k = 0 from ht, decide_eq_true rfl, cond_true, e_4_69, nI_1]
      exact e1
    · have tt : bT I k = true := by unfold bT; exact decide_eq_true ht
      have fe := hd k (by omega) tt
      have e2 : ex (4, 12, [.ref 2, .int (bI v), .int (nI k), dv], [], mm (upR I 7 F) J D) = ex (4, 40, [.ref 2, .int (bI v), .int (nI k), .int (F (bQ I k) + I 5 k)], [], mm (upR I 7 F) J D) := by
        rw [e_4_12, inb_n (show k < 50 by omega) (by decide), cond_true, nI_clamp (by omega), u4, inb_n b4 (by decide), cond_true, cond_true, cond_true, show (upR I 7 F) 6 k = 1 from ht, decide_eq_false (show ¬ (1 : Int32) = 0 by decide), cond_false, nI_clamp (by omega), uRs, uR (show 5 ≠ 7 by decide)]
      have w : bW I k = (I 5 k).toInt := rfl
      have b51 := b5.1
      have b52 := b5.2
      by_cases q : F (bP I k) ≤ F (bQ I k) + I 5 k
      · have qi := Int32.le_iff_toInt_le.mp q
        rw [ad.1] at qi
        obtain ⟨F', v', e1, h1⟩ := c_rnd b hd (F0 := F0) hs r (k + 1) (by omega) F v (fun x hx => by have := i1 x hx; omega) i2 (fun hv => ⟨(i3 hv).1, fun q hq hb => by
          by_cases e : q = k
          · subst e
            have := (i3 hv).1
            rw [← this _ b3, ← this _ b4]
            omega
          · exact (i3 hv).2 q (by omega) hb⟩) (fun q hq hb t1 t2 => by
          by_cases e : q = k
          · subst e
            have := i2 _ b4
            omega
          · exact i4 q (by omega) hb t1 t2)
        refine ⟨F', v', ?_, h1⟩
        rw [e0, e2, e_4_40, inb_n (show k < 50 by omega) (by decide), cond_true, nI_clamp (by omega), u3, inb_n b3 (by decide), cond_true, nI_clamp (by omega), uRs, decide_eq_true q, cond_true, e_4_69, nI_1]
        exact e1
      · have qi := (not_congr Int32.le_iff_toInt_le).mp q
        rw [ad.1] at qi
        obtain ⟨F', v', e1, h1⟩ := c_rnd b hd (F0 := F0) hs r (k + 1) (by omega) (upd F (bP I k) (F (bQ I k) + I 5 k)) true (fun x hx => by
          by_cases e : x = bP I k
          · rw [e, uUs, ad.1]; omega
          · rw [uU e]; have := i1 x hx; omega) (fun x hx => by
          by_cases e : x = bP I k
          · rw [e, uUs, ad.1]; have := i2 _ b3; omega
          · rw [uU e]; exact i2 x hx) (fun hv => by cases hv) (fun q hq hb t1 t2 => by
          by_cases e : q = k
          · subst e
            rw [uUs, ad.1]
            have := i2 _ b4
            omega
          · have t3 := i4 q (by omega) hb t1 t2
            by_cases e2 : bP I q = bP I k
            · rw [e2] at t3
              omega
            · rw [uU e2]; exact t3)
        refine ⟨F', v', ?_, h1⟩
        rw [e0, e2, e_4_40, inb_n (show k < 50 by omega) (by decide), cond_true, nI_clamp (by omega), u3, inb_n b3 (by decide), cond_true, nI_clamp (by omega), uRs, decide_eq_false q, cond_false, e_4_55, inb_n (show k < 50 by omega) (by decide), cond_true, nI_clamp (by omega), u3, inb_n b3 (by decide), cond_true, nI_clamp (by omega), us_R, e_4_69, nI_1]
        exact e1
def Sat (n : Nat) (I : Nat → Nat → Int32) (F : Nat → Int32) : Prop := ∀ q, q < n → bT I q = true → (F (bP I q)).toInt ≤ (F (bQ I q)).toInt + bW I q
def fin17 (d : Nat → Int) (F : Nat → Int32) : Nat := cntN (fun x => decide ((F x).toInt = d x)) 17
theorem c_rnds (b : BouI n I) (hd : Dst n (bP I) (bQ I) (bW I) (bT I) d) : ∀ r t, t + r = 18 → ∀ (F : Nat → Int32) (v : Bool), AgeB d (50 * t) F → (v = false → Sat n I F) → (t ≤ fin17 d F ∨ fin17 d F = 17) →
    ∃ F', ex (3, 12, [.ref 2, .int (bI v), .int (nI t), dv], [], mm (upR I 7 F) J D) = ex (3, 36, [.ref 2, dv, dv, dv], [], mm (upR I 7 F') J D) ∧ Sat n I F' ∧ AgeB d 1000 F'
  | r, t, h, F, v, i1, i2, i3 => by
    have hn := b.1
    have hP : ∀ k, k < n → bP I k < 17 ∧ bQ I k < 17 := fun k hk => ⟨(b.2.1 k hk).2.2.1, (b.2.1 k hk).2.2.2.1⟩
    cases v with
    | false =>
      exact ⟨F, by rw [e_3_12, decide_eq_true (show bI false = 0 from rfl), cond_true], i2 rfl, fun x hx => by have := i1 x hx; omega⟩
    | true =>
      cases r with
      | zero =>
        have : t = 18 := by omega
        subst this
        have all : fin17 d F = 17 := by
          rcases i3 with q | q
          · have := cnt_bd (f := fun x => decide ((F x).toInt = d x)) 17
            have e : fin17 d F = cntN (fun x => decide ((F x).toInt = d x)) 17 := rfl
            omega
          · exact q
        have fx : ∀ x, x < 17 → (F x).toInt = d x := fun x hx => decide_eq_true_eq.mp (cnt_all all x hx)
        exact ⟨F, by rw [e_3_12, decide_eq_false (show ¬ bI true = 0 by decide), cond_false, e_3_16, decide_eq_true (show (17 : Int32) < nI 18 by decide), cond_true], fun q hq hb => by
          rw [fx _ (hP q hq).1, fx _ (hP q hq).2]; exact hd.1 q hq hb, fun x hx => by have := i1 x hx; omega⟩
      | succ r =>
        obtain ⟨F1, v1, e1, h1, h2, h3, h4⟩ := c_rnd (J := J) (D := D) b hd.1 (F0 := F) (s := 50 * t) (by omega) n 0 (by omega) F false (fun x hx => i1 x hx) (fun x hx => Int.le_refl _) (fun _ => ⟨fun _ _ => rfl, fun q hq => absurd hq (Nat.not_lt_zero _)⟩) (fun q hq => absurd hq (Nat.not_lt_zero _))
        have grow : t + 1 ≤ fin17 d F1 ∨ fin17 d F1 = 17 := by
          by_cases ex_ : ∃ x, x < 17 ∧ d x < (F x).toInt
          · obtain ⟨x, hx, hlt⟩ := ex_
            obtain ⟨k, hk, k1, k2, k3, k4⟩ := dst_grow (g := fun x => (F x).toInt) hP hd (fun x hx => ⟨(i1 x hx).1, (i1 x hx).2.1⟩) hx hlt
            have hp1 := h4 k hk k1 k4 k3.symm
            have more := cnt_more (f := fun x => decide ((F x).toInt = d x)) (g := fun x => decide ((F1 x).toInt = d x)) (m := 17) (fun x hx hf => decide_eq_true (by
              have a := decide_eq_true_eq.mp hf
              have a1 := h1 x hx
              have a2 := h2 x hx
              omega)) ⟨bP I k, (hP k hk).1, decide_eq_false (by have k2 : d (bP I k) < (F (bP I k)).toInt := k2; omega), decide_eq_true hp1⟩
            have m1 : fin17 d F + 1 ≤ fin17 d F1 := more
            have m2 := cnt_bd (f := fun x => decide ((F1 x).toInt = d x)) 17
            have m3 : fin17 d F1 = cntN (fun x => decide ((F1 x).toInt = d x)) 17 := rfl
            rcases i3 with q | q
            · exact Or.inl (by omega)
            · omega
          · refine Or.inr ?_
            have all : ∀ x, x < 17 → decide ((F1 x).toInt = d x) = true := fun x hx => decide_eq_true (by
              have a1 := h1 x hx
              have a2 := h2 x hx
              have a3 : ¬ d x < (F x).toInt := fun w => ex_ ⟨x, hx, w⟩
              have a4 := i1 x hx
              omega)
            show cntN _ 17 = 17
            have aux : ∀ m, m ≤ 17 → cntN (fun x => decide ((F1 x).toInt = d x)) m = m := fun m => by
              induction m with
              | zero => intro _; rfl
              | succ m ih =>
                intro hm
                show cntN _ m + (bif decide ((F1 m).toInt = d m) then 1 else 0) = m + 1
                rw [ih (by omega), all m (by omega)]; rfl
            exact aux 17 (Nat.le_refl _)
        obtain ⟨F2, e2, h5⟩ := c_rnds b hd r (t + 1) (by omega) F1 v1 (fun x hx => by have := h1 x hx; omega) (fun hv q hq hb => by
          obtain ⟨a1, a2⟩ := h3 hv
          rw [a1 _ (hP q hq).1, a1 _ (hP q hq).2]
          exact a2 q hq hb) grow
        refine ⟨F2, ?_, h5⟩
        rw [e_3_12, decide_eq_false (show ¬ bI true = 0 by decide), cond_false, e_3_16, decide_eq_false (show ¬ (17 : Int32) < nI t from nI_nlt (a := 17) (by omega) (by decide)), cond_false, e_3_25, e_4_0]
        rw [show ex (4, 4, [.ref 2, .int 0, .int 0, dv], [], mm (upR I 7 F) J D) = _ from e1, cal_v, ka, e_3_29, nI_1]
        exact e2
theorem c_unf (b : BouI n I) {F : Nat → Int32} (hs : Sat n I F) (ha : AgeB d 1000 F) : ∀ r k, k + r = n → ex (3, 40, [.ref 2, dv, .int 0, .int (nI k)], [], mm (upR I 7 F) J D) = some (.inl (some (.int 0)), mm (upR I 7 F) J D)
  | 0, k, h => by
    have : k = n := by omega
    subst this
    have hn := b.1
    rw [e_3_40, show (upR I 7 F) 2 5 = nI k from hn.2, decide_eq_true ((nI_leI (by omega) (by omega)).mpr (Nat.le_refl _)), cond_true, e_3_98]
  | r + 1, k, h => by
    have hn := b.1
    have ih := c_unf b hs ha r (k + 1) (by omega)
    obtain ⟨b1, b2, b3, b4, b5⟩ := b.2.1 k (by omega)
    have u3 : (upR I 7 F) 3 k = nI (bP I k) := b1
    have u4 : (upR I 7 F) 4 k = nI (bQ I k) := b2
    rw [e_3_40, show (upR I 7 F) 2 5 = nI n from hn.2, decide_eq_false (show ¬ nI n ≤ nI k from nI_ge (by omega) (by omega)), cond_false, e_3_48, inb_n (show k < 50 by omega) (by decide), cond_true, nI_clamp (by omega)]
    rcases b.2.2 k (by omega) with ht | ht
    · rw [show (upR I 7 F) 6 k = 0 from ht, decide_eq_true rfl, cond_true, e_3_92, nI_1]
      exact ih
    · have tt : bT I k = true := by unfold bT; exact decide_eq_true ht
      have aq := ha (bQ I k) b4
      have ad := add_rg (a := F (bQ I k)) (b := I 5 k) (p := -10000000) (q := 0) (r := -9999) (s := 9999) ⟨by omega, aq.2.1⟩ b5 (by decide)
      have sk := hs k (by omega) tt
      have w : bW I k = (I 5 k).toInt := rfl
      have le : F (bP I k) ≤ F (bQ I k) + I 5 k := Int32.le_iff_toInt_le.mpr (by rw [ad.1]; omega)
      rw [show (upR I 7 F) 6 k = 1 from ht, decide_eq_false (show ¬ (1 : Int32) = 0 by decide), cond_false, e_3_57, inb_n (show k < 50 by omega) (by decide), nI_clamp (show k < 2 ^ 31 by omega), u3, u4, inb_n b3 (by decide), inb_n b4 (by decide), cond_true, cond_true, cond_true, cond_true, cond_true, nI_clamp (by omega), nI_clamp (by omega), uRs, uR (show 5 ≠ 7 by decide), decide_eq_true le, cond_true, e_3_92, nI_1]
      exact ih
theorem c_fit (b : BouI n I) (hd : Dst n (bP I) (bQ I) (bW I) (bT I) d) (hlow : ∀ x, x < 17 → d x ≤ 0) : ∃ F, ex (3, 0, [.ref 2, dv, dv, dv], [], mm I J D) = some (.inl (some (.int 0)), mm (upR I 7 F) J D) := by
  obtain ⟨F, e, h1, h2⟩ := c_rnds (J := J) (D := D) b hd 18 0 (by omega) (lpN (fun _ => 0) (I 7) 17) true (fun x hx => by
    unfold lpN
    rw [if_pos hx]
    have := hlow x hx
    have z : (0 : Int32).toInt = 0 := rfl
    rw [z]
    omega) (fun hv => by cases hv) (Or.inl (Nat.zero_le _))
  refine ⟨F, ?_⟩
  rw [e_3_0, x_fill0 (q := 7) (N := 17) rfl (by decide) (by decide), cal_v, kn, e_3_8]
  refine (show ex (3, 12, [.ref 2, .int 1, .int 0, dv], [], mm (upR I 7 (lpN (fun _ => 0) (I 7) 17)) J D) = _ from e).trans ?_
  rw [e_3_36]
  exact c_unf b h1 h2 n 0 (by omega)
end BF
theorem inv_bfi {kk : Nat} {I : Nat → Nat → Int32} (h : PgRel kk (pgF I 1) (I 317)) : ∃ n, BouI n I ∧ ∃ d, Dst n (bP I) (bQ I) (bW I) (bT I) d := by
  obtain ⟨n, hn, e5, -, hk, -, h01, p, hp⟩ := inv_bou h
  obtain ⟨m, h16, c8, -⟩ := inv_pil h
  have i16 : (I 8 1).toInt ≤ 16 := by rw [c8, nI_toInt (by omega)]; omega
  have r : ∀ x : Int32, rg 0 (I 8 1).toInt x → x = nI (rN x) ∧ rN x < 17 := fun x hx => by
    obtain ⟨a, ha, rfl⟩ := rg_nI (b := 16) (v := x) ⟨hx.1, by have := hx.2; omega⟩ (by decide)
    rw [rN_nI (by omega)]
    exact ⟨rfl, by omega⟩
  have b : BouI n I := ⟨⟨hn, e5⟩, fun k hk2 => ⟨(r _ (hk k hk2).2.1).1, (r _ (hk k hk2).2.2.1).1, (r _ (hk k hk2).2.1).2, (r _ (hk k hk2).2.2.1).2, (hk k hk2).2.2.2.2⟩, h01⟩
  refine ⟨n, b, dst_ex (fun k hk2 => ⟨(b.2.1 k hk2).2.2.1, (b.2.1 k hk2).2.2.2.1⟩) ⟨p, fun k hk2 ht => ?_⟩⟩
  have := hp k hk2 (decide_eq_true_eq.mp ht)
  show p (rN (I 3 k)) ≤ p (rN (I 4 k)) + (I 5 k).toInt
  omega

theorem t_50 {L kk : Nat} {I : Nat → Nat → Int32} {J : Nat → Nat → Int64} {D : Nat → Nat → UInt64} (v : Int32) (h : Inv L kk I J D) : Turn L kk 3098 v I J D := by
  obtain ⟨n, h16, c8, w0, hin, hT, hW, hr⟩ := inv_pil h.2.1
  obtain ⟨rk, hr⟩ := clo_rank hr
  have hin2 : In n (clo (TI I)) := wsh_in hin 16
  obtain ⟨nb, b, d, hd⟩ := inv_bfi h.2.1
  obtain ⟨F, u1⟩ := c_fit (J := J) (D := D) b hd hd.2.1
  have hT2 : RwF ((upR I 7 F) 9) (TI I) := hT
  obtain ⟨I1, d1, d2, d3⟩ := c_draw (I := upR I 7 F) (J := J) (D := D) c8 h16 hin hT2
  obtain ⟨F2, u2⟩ := c_unlike (J := J) (D := D) d3 hin2 h16 (fun a j b h1 h2 => clo_tr hin h16 h1 h2) hr
  have s1 : Same I (upR I1 269 F2) := ((Same.R (by decide)).tr (Same.o d2)).tr (Same.R (by decide))
  have hg : ∀ z, z < 8 → rg 0 3 ((upR I1 269 F2) 22 z) := fun z hz => by
    rw [uR (by decide), d2 22 (by decide) (by decide) (by decide) (by decide), uR (by decide)]
    exact ((inv_sta h.2.1).1 z hz).2.2
  have u3 := c_uly (J := J) (D := D) hg 10 0 (by omega)
  refine ⟨ups (upR I1 269 F2) 316 0 0, J, D, (e_309_3098 I J D v).trans ?_, inv_st h (s1.tr Same.r)⟩
  have e1 : ex (140, 0, [.ref 0], [], mm I J D) = some (.inl (some (.int 0)), mm (upR I1 269 F2) J D) := by
    rw [e_140_0, u1, cal_v, ka, e_140_10, d1, cal_v, krw _, e_140_14, u2, cal_v, ka, e_140_17, e_75_0]
    rw [show ex (75, 4, [.ref 20, .int 0, .int 0], [], mm (upR I1 269 F2) J D) = _ from u3, cal_v, ka, e_140_28]
    rfl
  rw [e1, cal_v, ka]
  refine (e_309_3102 _ _ _ v 0).trans ?_
  rw [e_268_0, cal_v, ka]
  refine (e_309_3106 _ _ _ v 0 0).trans ?_
  rw [decide_eq_true rfl, cond_true]
  exact e_309_3111 _ _ _ v
