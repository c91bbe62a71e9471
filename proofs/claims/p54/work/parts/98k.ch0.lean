/-! chains of bounds, their least sums -/
def Ch (n : Nat) (P Q : Nat → Nat) (W : Nat → Int) (th : Nat → Bool) (b : Nat) : Nat → Nat → Int → Prop
  | 0 => fun x s => x = b ∧ s = 0
  | u + 1 => fun x s => ∃ k, k < n ∧ th k = true ∧ P k = x ∧ ∃ t, Ch n P Q W th b u (Q k) t ∧ s = W k + t
def omin (o : Option Int) (v : Int) : Option Int := match o with
  | none => some v
  | some w => if v < w then some v else some w
def omO (o p : Option Int) : Option Int := match p with
  | none => o
  | some v => omin o v
/-- least sums of a bound more, the first m bounds looked at -/
def SF (P Q : Nat → Nat) (W : Nat → Int) (th : Nat → Bool) (T : Nat → Option Int) (x : Nat) : Nat → Option Int
  | 0 => none
  | m + 1 => if th m = true ∧ P m = x then omO (SF P Q W th T x m) ((T (Q m)).map (fun r => r + W m)) else SF P Q W th T x m
def SS (n : Nat) (P Q : Nat → Nat) (W : Nat → Int) (th : Nat → Bool) (b : Nat) : Nat → Nat → Option Int
  | 0 => fun x => if x = b then some 0 else none
  | u + 1 => fun x => SF P Q W th (SS n P Q W th b u) x n
def LSu (n : Nat) (P Q : Nat → Nat) (W : Nat → Int) (th : Nat → Bool) (b x : Nat) : Nat → Option Int
  | 0 => SS n P Q W th b 0 x
  | m + 1 => omO (LSu n P Q W th b x m) (SS n P Q W th b (m + 1) x)
theorem omO_some {o p : Option Int} {v : Int} (h : omO o p = some v) : o = some v ∨ p = some v := by
  cases p with
  | none => exact Or.inl h
  | some w =>
    cases o with
    | none => exact Or.inr h
    | some u =>
      have h : (if w < u then some w else some u) = some v := h
      by_cases q : w < u
      · rw [if_pos q] at h; exact Or.inr h
      · rw [if_neg q] at h; exact Or.inl h
theorem omO_l {o p : Option Int} {v : Int} (h : o = some v) : ∃ w, omO o p = some w ∧ w ≤ v := by
  subst h
  cases p with
  | none => exact ⟨v, rfl, Int.le_refl _⟩
  | some u =>
    show ∃ w, (if u < v then some u else some v) = some w ∧ w ≤ v
    by_cases q : u < v
    · rw [if_pos q]; exact ⟨u, rfl, by omega⟩
    · rw [if_neg q]; exact ⟨v, rfl, Int.le_refl _⟩
theorem omO_r {o p : Option Int} {v : Int} (h : p = some v) : ∃ w, omO o p = some w ∧ w ≤ v := by
  subst h
  cases o with
  | none => exact ⟨v, rfl, Int.le_refl _⟩
  | some u =>
    show ∃ w, (if v < u then some v else some u) = some w ∧ w ≤ v
    by_cases q : v < u
    · rw [if_pos q]; exact ⟨v, rfl, Int.le_refl _⟩
    · rw [if_neg q]; exact ⟨u, rfl, by omega⟩
section CC
variable {n : Nat} {P Q : Nat → Nat} {W : Nat → Int} {th : Nat → Bool}
theorem ch_app {y b : Nat} : ∀ u v x s t, Ch n P Q W th y u x s → Ch n P Q W th b v y t → Ch n P Q W th b (u + v) x (s + t)
  | 0, v, x, s, t, ⟨h1, h2⟩, h => by
    subst h1; subst h2
    rw [Nat.zero_add, Int.zero_add]; exact h
  | u + 1, v, x, s, t, ⟨k, hk, h1, h2, r, h3, h4⟩, h => by
    rw [show u + 1 + v = (u + v) + 1 by omega]
    exact ⟨k, hk, h1, h2, r + t, ch_app u v _ r t h3 h, by omega⟩
theorem ch_1 {k : Nat} (hk : k < n) (ht : th k = true) : Ch n P Q W th (Q k) 1 (P k) (W k) := ⟨k, hk, ht, rfl, 0, ⟨rfl, rfl⟩, by omega⟩
theorem ch_pot {h : Nat → Int} (hf : Feas n P Q W th h) {b : Nat} : ∀ u x s, Ch n P Q W th b u x s → h x - h b ≤ s
  | 0, x, s, ⟨h1, h2⟩ => by subst h1; omega
  | u + 1, x, s, ⟨k, hk, h1, h2, r, h3, h4⟩ => by
    have a := hf k hk h1
    have c := ch_pot hf u _ r h3
    rw [h2] at a
    omega
theorem ch_in (hP : ∀ k, k < n → P k < 17 ∧ Q k < 17) {b : Nat} (hb : b < 17) : ∀ u x s, Ch n P Q W th b u x s → x < 17
  | 0, x, s, ⟨h1, _⟩ => by omega
  | u + 1, x, s, ⟨k, hk, _, h2, _⟩ => by rw [← h2]; exact (hP k hk).1
theorem SF_ch {T : Nat → Option Int} {x : Nat} {v : Int} : ∀ {m : Nat}, SF P Q W th T x m = some v → ∃ k, k < m ∧ th k = true ∧ P k = x ∧ ∃ t, T (Q k) = some t ∧ v = W k + t
  | 0, h => by cases h
  | m + 1, h => by
    have h : (if th m = true ∧ P m = x then omO (SF P Q W th T x m) ((T (Q m)).map (fun r => r + W m)) else SF P Q W th T x m) = some v := h
    have rec_ : SF P Q W th T x m = some v → ∃ k, k < m + 1 ∧ th k = true ∧ P k = x ∧ ∃ t, T (Q k) = some t ∧ v = W k + t := fun e => by
      obtain ⟨k, hk, h1⟩ := SF_ch e
      exact ⟨k, by omega, h1⟩
    by_cases q : th m = true ∧ P m = x
    · rw [if_pos q] at h
      rcases omO_some h with e | e
      · exact rec_ e
      · cases et : T (Q m) with
        | none => rw [et] at e; cases e
        | some t =>
          rw [et] at e
          have e : some (t + W m) = some v := e
          cases e
          exact ⟨m, by omega, q.1, q.2, t, et, by omega⟩
    · rw [if_neg q] at h
      exact rec_ h
theorem SF_le {T : Nat → Option Int} {x k : Nat} {t : Int} (ht : th k = true) (hp : P k = x) (hT : T (Q k) = some t) : ∀ {m : Nat}, k < m → ∃ v, SF P Q W th T x m = some v ∧ v ≤ W k + t
  | m + 1, h => by
    show ∃ v, (if th m = true ∧ P m = x then omO (SF P Q W th T x m) ((T (Q m)).map (fun r => r + W m)) else SF P Q W th T x m) = some v ∧ v ≤ W k + t
    by_cases e : k = m
    · subst e
      rw [if_pos ⟨ht, hp⟩]
      obtain ⟨w, h1, h2⟩ := omO_r (o := SF P Q W th T x k) (p := (T (Q k)).map (fun r => r + W k)) (v := t + W k) (by rw [hT]; rfl)
      exact ⟨w, h1, by omega⟩
    · obtain ⟨v, h1, h2⟩ := SF_le ht hp hT (m := m) (by omega)
      by_cases q : th m = true ∧ P m = x
      · rw [if_pos q]
        obtain ⟨w, h3, h4⟩ := omO_l (p := (T (Q m)).map (fun r => r + W m)) h1
        exact ⟨w, h3, by omega⟩
      · rw [if_neg q]; exact ⟨v, h1, h2⟩
theorem SS_ch {b : Nat} : ∀ u x v, SS n P Q W th b u x = some v → Ch n P Q W th b u x v
  | 0, x, v, h => by
    have h : (if x = b then some (0 : Int) else none) = some v := h
    by_cases q : x = b
    · rw [if_pos q] at h; cases h; exact ⟨q, rfl⟩
    · rw [if_neg q] at h; cases h
  | u + 1, x, v, h => by
    obtain ⟨k, hk, h1, h2, t, h3, h4⟩ := SF_ch (m := n) h
    exact ⟨k, hk, h1, h2, t, SS_ch u _ t h3, h4⟩
theorem ch_SS {b : Nat} : ∀ u x s, Ch n P Q W th b u x s → ∃ v, SS n P Q W th b u x = some v ∧ v ≤ s
  | 0, x, s, ⟨h1, h2⟩ => ⟨0, if_pos h1, by omega⟩
  | u + 1, x, s, ⟨k, hk, h1, h2, t, h3, h4⟩ => by
    obtain ⟨w, e, h5⟩ := ch_SS u _ t h3
    obtain ⟨v, e2, h6⟩ := SF_le (m := n) (W := W) h1 h2 e hk
    exact ⟨v, e2, by omega⟩
theorem LSu_ch {b x : Nat} {v : Int} : ∀ {m : Nat}, LSu n P Q W th b x m = some v → ∃ u, u ≤ m ∧ SS n P Q W th b u x = some v
  | 0, h => ⟨0, Nat.le_refl _, h⟩
  | m + 1, h => by
    rcases omO_some h with e | e
    · obtain ⟨u, h1, h2⟩ := LSu_ch e
      exact ⟨u, by omega, h2⟩
    · exact ⟨m + 1, Nat.le_refl _, e⟩
theorem LSu_le {b x u : Nat} {v : Int} (h : SS n P Q W th b u x = some v) : ∀ {m : Nat}, u ≤ m → ∃ w, LSu n P Q W th b x m = some w ∧ w ≤ v
  | 0, hm => by
    have : u = 0 := by omega
    subst this
    exact ⟨v, h, Int.le_refl _⟩
  | m + 1, hm => by
    by_cases e : u = m + 1
    · subst e; exact omO_r h
    · obtain ⟨w, h1, h2⟩ := LSu_le h (m := m) (by omega)
      obtain ⟨y, h3, h4⟩ := omO_l (p := SS n P Q W th b (m + 1) x) h1
      exact ⟨y, h3, by omega⟩
theorem SS_bd (hW : ∀ k, k < n → -9999 ≤ W k ∧ W k ≤ 9999) {b : Nat} : ∀ u x s, Ch n P Q W th b u x s → -(9999 * (u : Int)) ≤ s ∧ s ≤ 9999 * (u : Int)
  | 0, x, s, ⟨_, h2⟩ => by subst h2; exact ⟨by omega, by omega⟩
  | u + 1, x, s, ⟨k, hk, _, _, t, h3, h4⟩ => by
    have a := hW k hk
    have c := SS_bd hW u _ t h3
    omega
/-- ended: no chain is less than what up to m bounds give -/
def Fnd (n : Nat) (P Q : Nat → Nat) (W : Nat → Int) (th : Nat → Bool) (b m x : Nat) : Prop := ∀ u s, Ch n P Q W th b u x s → ∃ v, LSu n P Q W th b x m = some v ∧ v ≤ s
theorem fin_s {b m x : Nat} (h : Fnd n P Q W th b m x) : Fnd n P Q W th b (m + 1) x := fun u s hc => by
  obtain ⟨v, h1, h2⟩ := h u s hc
  obtain ⟨w, h3, h4⟩ := omO_l (p := SS n P Q W th b (m + 1) x) h1
  exact ⟨w, h3, by omega⟩
theorem fin_b {h : Nat → Int} (hf : Feas n P Q W th h) {b : Nat} : ∀ m, Fnd n P Q W th b m b
  | 0, u, s, hc => by
    have := ch_pot hf u b s hc
    exact ⟨0, if_pos rfl, by omega⟩
  | m + 1, u, s, hc => fin_s (fin_b hf m) u s hc
theorem fin_grow {h : Nat → Int} (hf : Feas n P Q W th h) (hP : ∀ k, k < n → P k < 17 ∧ Q k < 17) {b m : Nat} : ∀ u x s, Ch n P Q W th b u x s → (∀ v t, Ch n P Q W th b v x t → s ≤ t) → x < 17 → ¬ Fnd n P Q W th b m x → ∃ y, y < 17 ∧ ¬ Fnd n P Q W th b m y ∧ Fnd n P Q W th b (m + 1) y
  | 0, x, s, ⟨h1, _⟩, _, _, hn => by
    subst h1
    exact absurd (fin_b hf m) hn
  | u + 1, x, s, ⟨k, hk, h1, h2, t, h3, h4⟩, hm, hx, hn => by
    have mq : ∀ v r, Ch n P Q W th b v (Q k) r → t ≤ r := fun v r hr => by
      have := hm (v + 1) (W k + r) ⟨k, hk, h1, h2, r, hr, rfl⟩
      omega
    by_cases q : Fnd n P Q W th b m (Q k)
    · obtain ⟨w, e1, e2⟩ := q u t h3
      obtain ⟨j, hj, e3⟩ := LSu_ch e1
      obtain ⟨y, e4, e5⟩ := SF_le (m := n) (W := W) (T := SS n P Q W th b j) h1 h2 e3 hk
      have e4 : SS n P Q W th b (j + 1) x = some y := e4
      obtain ⟨z, e6, e7⟩ := LSu_le e4 (m := m + 1) (by omega)
      exact ⟨x, hx, hn, fun v r hr => ⟨z, e6, by have := hm v r hr; omega⟩⟩
    · exact fin_grow hf hP u (Q k) t h3 mq (hP k hk).2 q
theorem ch_min {h : Nat → Int} (hf : Feas n P Q W th h) {b x : Nat} (he : ∃ u s, Ch n P Q W th b u x s) : ∃ u s, Ch n P Q W th b u x s ∧ ∀ v t, Ch n P Q W th b v x t → s ≤ t := by
  obtain ⟨u, s, hs⟩ := he
  obtain ⟨m, ⟨u2, s2, h1, h2⟩, h3⟩ := int_max (S := fun v => ∃ u s, Ch n P Q W th b u x s ∧ v = h x - h b - s) ⟨h x - h b - s, u, s, hs, rfl⟩ (fun v ⟨u, s, h1, h2⟩ => by
    have := ch_pot hf u x s h1
    omega)
  refine ⟨u2, s2, h1, fun v t ht => ?_⟩
  have := h3 (h x - h b - t) ⟨v, t, ht, rfl⟩
  omega
/-- sixteen bounds are enough -/
theorem fin_all {h : Nat → Int} (hf : Feas n P Q W th h) (hP : ∀ k, k < n → P k < 17 ∧ Q k < 17) {b : Nat} (hb : b < 17) : ∀ x, x < 17 → Fnd n P Q W th b 16 x := by
  have key : ∀ m, m ≤ 16 → m + 1 ≤ cntN (fun x => @decide (Fnd n P Q W th b m x) (Classical.propDecidable _)) 17 ∨ ∀ x, x < 17 → Fnd n P Q W th b m x := by
    intro m
    induction m with
    | zero =>
      intro _
      refine Or.inl ?_
      have := cnt_more (f := fun _ => false) (g := fun x => @decide (Fnd n P Q W th b 0 x) (Classical.propDecidable _)) (m := 17) (fun _ _ h => by cases h) ⟨b, hb, rfl, @decide_eq_true _ (Classical.propDecidable _) (fin_b hf 0)⟩
      have e0 : cntN (fun _ => false) 17 = 0 := cnt_0 (fun _ _ => rfl)
      omega
    | succ m ih =>
      intro hm
      rcases ih (by omega) with i | i
      · by_cases ex_ : ∃ x, x < 17 ∧ ¬ Fnd n P Q W th b m x
        · obtain ⟨x, hx, hn⟩ := ex_
          have hc : ∃ u s, Ch n P Q W th b u x s := Classical.byContradiction (fun hno => hn (fun u s hs => absurd ⟨u, s, hs⟩ hno))
          obtain ⟨u, s, h1, h2⟩ := ch_min hf hc
          obtain ⟨y, hy, y1, y2⟩ := fin_grow hf hP u x s h1 h2 hx hn
          have := cnt_more (f := fun x => @decide (Fnd n P Q W th b m x) (Classical.propDecidable _)) (g := fun x => @decide (Fnd n P Q W th b (m + 1) x) (Classical.propDecidable _)) (m := 17) (fun z _ hz => @decide_eq_true _ (Classical.propDecidable _) (fin_s (@of_decide_eq_true _ (Classical.propDecidable _) hz))) ⟨y, hy, @decide_eq_false _ (Classical.propDecidable _) y1, @decide_eq_true _ (Classical.propDecidable _) y2⟩
          exact Or.inl (by omega)
        · exact Or.inr (fun x hx => fin_s (Classical.byContradiction (fun hn => ex_ ⟨x, hx, hn⟩)))
      · exact Or.inr (fun x hx => fin_s (i x hx))
  intro x hx
  rcases key 16 (Nat.le_refl _) with i | i
  · have := cnt_bd (f := fun x => @decide (Fnd n P Q W th b 16 x) (Classical.propDecidable _)) 17
    exact @of_decide_eq_true _ (Classical.propDecidable _) (cnt_all (f := fun x => @decide (Fnd n P Q W th b 16 x) (Classical.propDecidable _)) (n := 17) (by omega) x hx)
  · exact i x hx
/-- no chain is very little -/
theorem ch_low {h : Nat → Int} (hf : Feas n P Q W th h) (hP : ∀ k, k < n → P k < 17 ∧ Q k < 17) (hW : ∀ k, k < n → -9999 ≤ W k ∧ W k ≤ 9999) {b : Nat} (hb : b < 17) {u x : Nat} {s : Int} (hc : Ch n P Q W th b u x s) : -160000 ≤ s := by
  obtain ⟨v, h1, h2⟩ := fin_all hf hP hb x (ch_in hP hb u x s hc) u s hc
  obtain ⟨j, hj, e⟩ := LSu_ch h1
  have := (SS_bd hW j x v (SS_ch j x v e)).1
  omega
/-! all pairs -/
def ofl (o : Option Int) (v : Int) : Option Int := match o with
  | none => if v < 100000000 then some v else none
  | some w => if v < w then some v else some w
def fst_ (k : Nat) (f : Nat → Nat → Option Int) (a b : Nat) : Option Int := match f a k with
  | none => f a b
  | some s => match f k b with
    | none => f a b
    | some t => ofl (f a b) (s + t)
def Lq (c : Int) (o : Option Int) (v : Int) : Prop := (∃ w, o = some w ∧ w ≤ v) ∨ 100000000 - c ≤ v
theorem ofl_some {o : Option Int} {v w : Int} (h : ofl o v = some w) : o = some w ∨ w = v := by
  cases o with
  | none =>
    have h : (if v < 100000000 then some v else none) = some w := h
    by_cases q : v < 100000000
    · rw [if_pos q] at h; cases h; exact Or.inr rfl
    · rw [if_neg q] at h; cases h
  | some u =>
    have h : (if v < u then some v else some u) = some w := h
    by_cases q : v < u
    · rw [if_pos q] at h; cases h; exact Or.inr rfl
    · rw [if_neg q] at h; exact Or.inl h
theorem ofl_v {o : Option Int} {v : Int} : Lq 0 (ofl o v) v := by
  cases o with
  | none =>
    show Lq 0 (if v < 100000000 then some v else none) v
    by_cases q : v < 100000000
    · rw [if_pos q]; exact Or.inl ⟨v, rfl, Int.le_refl _⟩
    · exact Or.inr (by omega)
  | some u =>
    show Lq 0 (if v < u then some v else some u) v
    by_cases q : v < u
    · rw [if_pos q]; exact Or.inl ⟨v, rfl, Int.le_refl _⟩
    · rw [if_neg q]; exact Or.inl ⟨u, rfl, by omega⟩
theorem ofl_l {o : Option Int} {v w : Int} (h : o = some w) : ∃ y, ofl o v = some y ∧ y ≤ w := by
  subst h
  show ∃ y, (if v < w then some v else some w) = some y ∧ y ≤ w
  by_cases q : v < w
  · rw [if_pos q]; exact ⟨v, rfl, by omega⟩
  · rw [if_neg q]; exact ⟨w, rfl, Int.le_refl _⟩
theorem fst_src {k a b : Nat} {f : Nat → Nat → Option Int} {v : Int} (h : fst_ k f a b = some v) : f a b = some v ∨ ∃ s t, f a k = some s ∧ f k b = some t ∧ v = s + t := by
  unfold fst_ at h
  cases e1 : f a k with
  | none => rw [e1] at h; exact Or.inl h
  | some s =>
    rw [e1] at h
    cases e2 : f k b with
    | none => rw [e2] at h; exact Or.inl h
    | some t =>
      rw [e2] at h
      rcases ofl_some h with q | q
      · exact Or.inl q
      · exact Or.inr ⟨s, t, rfl, rfl, q⟩
theorem fst_l {k a b : Nat} {f : Nat → Nat → Option Int} {w : Int} (h : f a b = some w) : ∃ y, fst_ k f a b = some y ∧ y ≤ w := by
  unfold fst_
  cases f a k with
  | none => exact ⟨w, h, Int.le_refl _⟩
  | some s =>
    cases f k b with
    | none => exact ⟨w, h, Int.le_refl _⟩
    | some t => exact ofl_l h
theorem fst_v {k a b : Nat} {f : Nat → Nat → Option Int} {s t : Int} (h1 : f a k = some s) (h2 : f k b = some t) : Lq 0 (fst_ k f a b) (s + t) := by
  unfold fst_
  rw [h1, h2]
  exact ofl_v
theorem fst_k1 {k a : Nat} {f : Nat → Nat → Option Int} (h : f k k = some 0) : fst_ k f a k = f a k := by
  unfold fst_
  cases e : f a k with
  | none => rfl
  | some s =>
    rw [h]
    show (if s + 0 < s then some (s + 0) else some s) = some s
    rw [if_neg (by omega)]
theorem fst_k2 {k b : Nat} {f : Nat → Nat → Option Int} (h : f k k = some 0) : fst_ k f k b = f k b := by
  unfold fst_
  rw [h]
  cases e : f k b with
  | none => rfl
  | some t =>
    show (if 0 + t < t then some (0 + t) else some t) = some t
    rw [if_neg (by omega)]
/-- what the table of all pairs is: sums of chains, none from one to itself but 0, less than far -/
def Fl (n : Nat) (P Q : Nat → Nat) (W : Nat → Int) (th : Nat → Bool) (f : Nat → Nat → Option Int) : Prop := (∀ a b v, a < 17 → b < 17 → f a b = some v → v < 100000000 ∧ ∃ u, Ch n P Q W th b u a v) ∧ (∀ a, a < 17 → f a a = some 0) ∧ ∀ k, k < n → th k = true → ∃ v, f (P k) (Q k) = some v ∧ v ≤ W k
def Clo_ (c : Int) (m : Nat) (f : Nat → Nat → Option Int) : Prop := ∀ a j b s t, a < 17 → j < m → b < 17 → f a j = some s → f j b = some t → Lq c (f a b) (s + t)
theorem fl_s {h : Nat → Int} (hf : Feas n P Q W th h) (hP : ∀ k, k < n → P k < 17 ∧ Q k < 17) {f : Nat → Nat → Option Int} {k : Nat} (hk : k < 17) (g : Fl n P Q W th f) : Fl n P Q W th (fst_ k f) := by
  obtain ⟨g1, g2, g3⟩ := g
  have chain : ∀ a b v, a < 17 → b < 17 → fst_ k f a b = some v → ∃ u, Ch n P Q W th b u a v := fun a b v ha hb e => by
    rcases fst_src e with q | ⟨s, t, e1, e2, e3⟩
    · exact (g1 a b v ha hb q).2
    · obtain ⟨u1, c1⟩ := (g1 a k s ha hk e1).2
      obtain ⟨u2, c2⟩ := (g1 k b t hk hb e2).2
      exact ⟨u1 + u2, by rw [e3]; exact ch_app u1 u2 a s t c1 c2⟩
  refine ⟨fun a b v ha hb e => ⟨?_, chain a b v ha hb e⟩, fun a ha => ?_, fun q hq ht => ?_⟩
  · rcases fst_src e with q | ⟨s, t, e1, e2, e3⟩
    · exact (g1 a b v ha hb q).1
    · cases ef : f a b with
      | some w =>
        obtain ⟨y, h1, h2⟩ := fst_l (k := k) ef
        rw [h1] at e
        cases e
        have := (g1 a b w ha hb ef).1
        omega
      | none =>
        have : fst_ k f a b = ofl none (s + t) := by unfold fst_; rw [e1, e2, ef]
        rw [this] at e
        have e : (if s + t < 100000000 then some (s + t) else none) = some v := e
        by_cases q : s + t < 100000000
        · rw [if_pos q] at e; cases e; exact q
        · rw [if_neg q] at e; cases e
  · obtain ⟨y, h1, h2⟩ := fst_l (k := k) (g2 a ha)
    obtain ⟨u, hc⟩ := chain a a y ha ha h1
    have := ch_pot hf u a y hc
    rw [h1, show y = 0 by omega]
  · obtain ⟨v, h1, h2⟩ := g3 q hq ht
    obtain ⟨y, h3, h4⟩ := fst_l (k := k) h1
    exact ⟨y, h3, by omega⟩
theorem clo_s {h : Nat → Int} (hf : Feas n P Q W th h) (hP : ∀ k, k < n → P k < 17 ∧ Q k < 17) (hW : ∀ k, k < n → -9999 ≤ W k ∧ W k ≤ 9999) {f : Nat → Nat → Option Int} {k : Nat} {c : Int} (hc : 0 ≤ c) (hk : k < 17) (g : Fl n P Q W th f) (hcl : Clo_ c k f) : Clo_ (c + 160000) (k + 1) (fst_ k f) := by
  have g' := fl_s hf hP hk g
  obtain ⟨g1, g2, g3⟩ := g
  have low : ∀ a b v, a < 17 → b < 17 → f a b = some v → -160000 ≤ v := fun a b v ha hb e => by
    obtain ⟨u, hu⟩ := (g1 a b v ha hb e).2
    exact ch_low hf hP hW hb hu
  have dn : ∀ a b v d, Lq d (f a b) v → Lq d (fst_ k f a b) v := fun a b v d hl => by
    rcases hl with ⟨w, e, h1⟩ | h1
    · obtain ⟨y, h2, h3⟩ := fst_l (k := k) e
      exact Or.inl ⟨y, h2, by omega⟩
    · exact Or.inr h1
  have up : ∀ (o : Option Int) v v' d d', Lq d o v → v ≤ v' → d ≤ d' → Lq d' o v' := fun o v v' d d' hl h1 h2 => by
    rcases hl with ⟨w, e, h3⟩ | h3
    · exact Or.inl ⟨w, e, by omega⟩
    · exact Or.inr (by omega)
  intro a j b s t ha hj hb e1 e2
  by_cases q : j = k
  · subst q
    rw [fst_k1 (g2 j hk)] at e1
    rw [fst_k2 (g2 j hk)] at e2
    exact up _ _ _ 0 _ (fst_v e1 e2) (Int.le_refl _) (by omega)
  · have hj2 : j < k := by omega
    have hj3 : j < 17 := by omega
    rcases fst_src e1 with p1 | ⟨s1, s2, a1, a2, a3⟩
    · rcases fst_src e2 with p2 | ⟨t1, t2, b1, b2, b3⟩
      · exact up _ _ _ c _ (dn _ _ _ _ (hcl a j b s t ha hj2 hb p1 p2)) (Int.le_refl _) (by omega)
      · have l2 := low k b t2 hk hb b2
        rcases hcl a j k s t1 ha hj2 hk p1 b1 with ⟨w, e, h1⟩ | h1
        · exact up _ _ _ 0 _ (fst_v e b2) (by omega) (by omega)
        · exact Or.inr (by omega)
    · rcases fst_src e2 with p2 | ⟨t1, t2, b1, b2, b3⟩
      · have l1 := low a k s1 ha hk a1
        rcases hcl k j b s2 t hk hj2 hb a2 p2 with ⟨w, e, h1⟩ | h1
        · exact up _ _ _ 0 _ (fst_v a1 e) (by omega) (by omega)
        · exact Or.inr (by omega)
      · obtain ⟨u1, c1⟩ := (g1 k j s2 hk hj3 a2).2
        obtain ⟨u2, c2⟩ := (g1 j k t1 hj3 hk b1).2
        have := ch_pot hf _ _ _ (ch_app u1 u2 k s2 t1 c1 c2)
        exact up _ _ _ 0 _ (fst_v a1 b2) (by omega) (by omega)
/-- in the end both are the same -/
theorem fl_LS {h : Nat → Int} (hf : Feas n P Q W th h) (hP : ∀ k, k < n → P k < 17 ∧ Q k < 17) (hW : ∀ k, k < n → -9999 ≤ W k ∧ W k ≤ 9999) {f : Nat → Nat → Option Int} (g : Fl n P Q W th f) (hcl : Clo_ 10000000 17 f) {a b : Nat} (ha : a < 17) (hb : b < 17) : f a b = LSu n P Q W th b a 16 := by
  obtain ⟨g1, g2, g3⟩ := g
  have sh : ∀ u x s, u ≤ 17 → x < 17 → Ch n P Q W th b u x s → ∃ v, f x b = some v ∧ v ≤ s := by
    intro u
    induction u with
    | zero =>
      intro x s _ hx hc
      obtain ⟨h1, h2⟩ := hc
      subst h1; subst h2
      exact ⟨0, g2 x hx, Int.le_refl _⟩
    | succ u ih =>
      intro x s hu hx hc
      have bd := SS_bd hW (u + 1) x s hc
      obtain ⟨k, hk, h1, h2, t, h3, h4⟩ := hc
      subst h2
      obtain ⟨v, e1, v1⟩ := ih (Q k) t (by omega) (hP k hk).2 h3
      obtain ⟨w, e2, w1⟩ := g3 k hk h1
      rcases hcl (P k) (Q k) b w v hx (hP k hk).2 hb e2 e1 with ⟨y, e, y1⟩ | q
      · exact ⟨y, e, by omega⟩
      · omega
  cases e : LSu n P Q W th b a 16 with
  | none =>
    cases e2 : f a b with
    | none => rfl
    | some v =>
      obtain ⟨u, hc⟩ := (g1 a b v ha hb e2).2
      obtain ⟨w, h1, -⟩ := fin_all hf hP hb a ha u v hc
      rw [e] at h1; cases h1
  | some s =>
    obtain ⟨j, hj, e3⟩ := LSu_ch e
    obtain ⟨v, e4, h4⟩ := sh j a s (by omega) ha (SS_ch j a s e3)
    obtain ⟨u, hc⟩ := (g1 a b v ha hb e4).2
    obtain ⟨w, h1, h2⟩ := fin_all hf hP hb a ha u v hc
    rw [e] at h1
    cases h1
    rw [e4, show v = s by omega]
/-- a new bound that no chain is against: ages still fit -/
theorem feas_add {h : Nat → Int} (hf : Feas n P Q W th h) (hP : ∀ k, k < n → P k < 17 ∧ Q k < 17) {p q : Nat} {w : Int} (hp : p < 17) (hq : q < 17) (hok : ∀ s, LSu n P Q W th p q 16 = some s → 0 ≤ s + w) : ∃ e : Nat → Int, Feas n P Q W th e ∧ e p ≤ e q + w := by
  refine ⟨fun x => match (if x < 17 then LSu n P Q W th p x 16 else none) with
    | none => h x
    | some s => if h q + w + s < h x then h q + w + s else h x, fun k hk ht => ?_, ?_⟩
  · have a := hf k hk ht
    have p1 := hP k hk
    show (match (if P k < 17 then LSu n P Q W th p (P k) 16 else none) with
      | none => h (P k)
      | some s => if h q + w + s < h (P k) then h q + w + s else h (P k)) ≤ (match (if Q k < 17 then LSu n P Q W th p (Q k) 16 else none) with
      | none => h (Q k)
      | some s => if h q + w + s < h (Q k) then h q + w + s else h (Q k)) + W k
    rw [if_pos p1.1, if_pos p1.2]
    cases e : LSu n P Q W th p (Q k) 16 with
    | none =>
      cases e2 : LSu n P Q W th p (P k) 16 with
      | none => exact a
      | some s =>
        show (if h q + w + s < h (P k) then h q + w + s else h (P k)) ≤ h (Q k) + W k
        by_cases c : h q + w + s < h (P k)
        · rw [if_pos c]; omega
        · rw [if_neg c]; exact a
    | some t =>
      obtain ⟨j, hj, e3⟩ := LSu_ch e
      obtain ⟨s, e4, h4⟩ := fin_all hf hP hp (P k) p1.1 (j + 1) (W k + t) ⟨k, hk, ht, rfl, t, SS_ch j _ t e3, rfl⟩
      rw [e4]
      show (if h q + w + s < h (P k) then h q + w + s else h (P k)) ≤ (if h q + w + t < h (Q k) then h q + w + t else h (Q k)) + W k
      by_cases c1 : h q + w + s < h (P k)
      · rw [if_pos c1]
        by_cases c2 : h q + w + t < h (Q k)
        · rw [if_pos c2]; omega
        · rw [if_neg c2]; omega
      · rw [if_neg c1]
        by_cases c2 : h q + w + t < h (Q k)
        · rw [if_pos c2]; omega
        · rw [if_neg c2]; omega
  · show (match (if p < 17 then LSu n P Q W th p p 16 else none) with
      | none => h p
      | some s => if h q + w + s < h p then h q + w + s else h p) ≤ (match (if q < 17 then LSu n P Q W th p q 16 else none) with
      | none => h q
      | some s => if h q + w + s < h q then h q + w + s else h q) + w
    rw [if_pos hp, if_pos hq]
    obtain ⟨s, e4, h4⟩ := fin_all hf hP hp p hp 0 0 ⟨rfl, rfl⟩
    rw [e4]
    have l : (if h q + w + s < h p then h q + w + s else h p) ≤ h q + w := by
      by_cases c : h q + w + s < h p
      · rw [if_pos c]; omega
      · rw [if_neg c]; omega
    cases e : LSu n P Q W th p q 16 with
    | none => exact l
    | some t =>
      have := hok t e
      show _ ≤ (if h q + w + t < h q then h q + w + t else h q) + w
      rw [if_neg (by omega)]
      exact l
end CC

