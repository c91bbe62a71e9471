/-! what holds between the book and the model at the loop's head -/
def rg (a b : Int) (v : Int32) : Prop := a ≤ v.toInt ∧ v.toInt ≤ b
def rN (v : Int32) : Nat := v.toNatClampNeg
/-- which numbers of a page mean something: the place's offset, the index -/
def rl (o k : Nat) : Bool := match o with
  | 0 => Nat.ble 6 k && Nat.ble k 8
  | 1 => Nat.beq k 5 || Nat.beq k 6
  | 2 => Nat.blt k 50
  | 3 => Nat.blt k 50
  | 4 => Nat.blt k 50
  | 5 => Nat.blt k 50
  | 7 => Nat.beq k 1
  | 8 => Nat.blt k 17
  | 9 => Nat.beq k 4
  | 10 => Nat.blt k 16
  | 11 => Nat.blt k 16
  | 12 => Nat.blt k 16
  | 13 => Nat.blt k 16
  | 14 => Nat.beq k 4
  | 15 => Nat.blt k 16
  | 16 => Nat.blt k 16
  | 17 => Nat.blt k 16
  | 18 => Nat.blt k 16
  | 20 => Nat.blt k 8
  | 21 => Nat.blt k 8
  | 22 => Nat.blt k 80
  | 23 => Nat.beq k 3
  | 24 => Nat.blt k 12
  | 25 => Nat.blt k 12
  | _ => false
def nrm (F : Nat → Nat → Int32) (o k : Nat) : Int32 := bif rl o k then F o k else 0
def nrw (w : Nat → Int32) (y : Nat) : Int32 := bif Nat.blt y 825 then w y else 0
theorem nrm_e {F F' : Nat → Nat → Int32} (h : ∀ o k, rl o k = true → F' o k = F o k) : nrm F' = nrm F := by
  funext o k
  unfold nrm
  cases hb : rl o k with
  | false => rfl
  | true => exact h o k hb
theorem nrw_e {w w' : Nat → Int32} (h : ∀ y, y < 825 → w' y = w y) : nrw w' = nrw w := by
  funext y
  unfold nrw
  cases hb : Nat.blt y 825 with
  | false => rfl
  | true => exact h y (Nat.blt_eq.mp hb)
theorem nrm_at {F : Nat → Nat → Int32} {o k : Nat} (h : rl o k = true) : nrm F o k = F o k := by unfold nrm; rw [h]; rfl
theorem nrw_at {w : Nat → Int32} {y : Nat} (h : y < 825) : nrw w y = w y := by unfold nrw; rw [Nat.blt_eq.mpr h]; rfl
/-- layers -/
def RLay (G : Nat → Nat → Int32) (w : Nat → Int32) : Prop := w 0 = G 7 1 ∧ rg 0 16 (G 7 1)
def cntN (f : Nat → Bool) : Nat → Nat
  | 0 => 0
  | n + 1 => cntN f n + (bif f n then 1 else 0)
/-- bounds: the same in both; the count of those that are there; ages that fit them all -/
def RBou (G : Nat → Nat → Int32) (w : Nat → Int32) : Prop :=
  (w 1 = G 1 5 ∧ rg 0 50 (G 1 5)) ∧ (∀ k, k < 50 → G 5 k = 0 ∨ G 5 k = 1) ∧
  (∀ k, k < rN (G 1 5) → (w (2 + k) = G 2 k ∧ w (52 + k) = G 3 k ∧ w (102 + k) = G 4 k ∧ w (152 + k) = G 5 k) ∧ rg 0 (G 7 1).toInt (G 2 k) ∧ rg 0 (G 7 1).toInt (G 3 k) ∧ G 2 k ≠ G 3 k ∧ rg (-9999) 9999 (G 4 k)) ∧
  G 1 6 = nI (cntN (fun k => decide (G 5 k = 1)) (rN (G 1 5))) ∧
  ∃ h : Nat → Int, ∀ k, k < rN (G 1 5) → G 5 k = 1 → h (rN (G 2 k)) - h (rN (G 3 k)) ≤ (G 4 k).toInt
/-- what was told of what lies on what -/
def tld (G : Nat → Nat → Int32) (a b : Nat) : Bool := Nat.ble 1 b && Nat.testBit (rN (G 8 a)) (b - 1)
def RPil (G : Nat → Nat → Int32) (w : Nat → Int32) : Prop :=
  (∀ a, a < 17 → rg 0 65535 (G 8 a)) ∧ (∀ a b, a < 17 → b < 17 → w (202 + 17 * a + b) = bif tld G a b then 1 else 0) ∧
  (∀ a b, a < 17 → tld G a b = true → (1 ≤ a ∧ a ≤ rN (G 7 1)) ∧ 1 ≤ b ∧ b ≤ rN (G 7 1)) ∧ ∃ r : Nat → Nat, ∀ a b, a < 17 → tld G a b = true → r a < r b
/-- a row of bands -/
def RRow (G : Nat → Nat → Int32) (w : Nat → Int32) (i : Nat) : Prop :=
  (w (491 + i) = G (9 + 5 * i) 4 ∧ rg 0 16 (G (9 + 5 * i) 4)) ∧
  (∀ k, k < rN (G (9 + 5 * i) 4) → (w (493 + 16 * i + k) = G (10 + 5 * i) k ∧ rg 1 9 (G (10 + 5 * i) k)) ∧ (w (525 + 16 * i + k) = G (11 + 5 * i) k ∧ rg 0 3 (G (11 + 5 * i) k)) ∧
    w (589 + 16 * i + k) = G (12 + 5 * i) k ∧ (w (557 + 16 * i + k) = G (13 + 5 * i) k ∧ (G (13 + 5 * i) k = -1 ∨ rg 0 99999 (G (13 + 5 * i) k)))) ∧
  (∀ k, rN (G (9 + 5 * i) 4) ≤ k → k < 16 → w (557 + 16 * i + k) = -1 ∧ w (589 + 16 * i + k) = -1) ∧
  ∀ k j, k < j → j < rN (G (9 + 5 * i) 4) → G (13 + 5 * i) k ≠ -1 → G (13 + 5 * i) j ≠ -1 → G (13 + 5 * i) k ≤ G (13 + 5 * i) j
/-- ties: to and fro, none across another -/
def RTie (G : Nat → Nat → Int32) : Prop :=
  (∀ k, k < rN (G 9 4) → G 12 k = -1 ∨ (∃ j, j < rN (G 14 4) ∧ G 12 k = nI j ∧ G 17 j = nI k)) ∧
  (∀ j, j < rN (G 14 4) → G 17 j = -1 ∨ (∃ k, k < rN (G 9 4) ∧ G 17 j = nI k ∧ G 12 k = nI j)) ∧
  ∀ k j, k < j → j < rN (G 9 4) → G 12 k ≠ -1 → G 12 j ≠ -1 → G 12 k < G 12 j
def RPri (G : Nat → Nat → Int32) (w : Nat → Int32) : Prop := (w 621 = G 0 6 ∧ rg 0 20 (G 0 6)) ∧ (w 622 = G 0 7 ∧ rg 0 20 (G 0 7)) ∧ w 623 = G 0 8 ∧ rg 0 20 (G 0 8)
def RSta (G : Nat → Nat → Int32) (w : Nat → Int32) : Prop :=
  (∀ z, z < 8 → (w (624 + z) = G 20 z ∧ rg 1 99 (G 20 z)) ∧ w (632 + z) = G 21 z ∧ rg 0 3 (G 21 z)) ∧
  ∀ z y, z < 8 → y < 10 → (G 22 (10 * z + y) = 1000 ∧ w (640 + 8 * y + z) = 0) ∨ (rg (-999) 999 (G 22 (10 * z + y)) ∧ w (640 + 8 * y + z) = 1 ∧ w (720 + 8 * y + z) = G 22 (10 * z + y))
def sumN (f : Nat → Int) : Nat → Int
  | 0 => 0
  | n + 1 => sumN f n + f n
def RIce (kk : Nat) (G : Nat → Nat → Int32) (w : Nat → Int32) : Prop :=
  (∀ c, c < 12 → (w (800 + c) = G 24 c ∧ rg 0 999 (G 24 c)) ∧ w (812 + c) = G 25 c ∧ 0 ≤ (G 25 c).toInt) ∧ sumN (fun c => (G 25 c).toInt) 12 ≤ 12000 * ((kk : Int) + 2) ∧ w 824 = G 23 3
/-- a page of the book and a page of the model -/
def PgR (kk : Nat) (G : Nat → Nat → Int32) (w : Nat → Int32) : Prop := RLay G w ∧ RBou G w ∧ RPil G w ∧ (RRow G w 0 ∧ RRow G w 1 ∧ RTie G) ∧ RPri G w ∧ RSta G w ∧ RIce kk G w
def PgRel (kk : Nat) (F : Nat → Nat → Int32) (w : Nat → Int32) : Prop := PgR kk (nrm F) (nrw w)
theorem PgRel.go {kk k2 : Nat} {F F' : Nat → Nat → Int32} {w w' : Nat → Int32} (h : PgRel kk F w) (hk : kk ≤ k2) (hF : ∀ o k, rl o k = true → F' o k = F o k) (hw : ∀ y, y < 825 → w' y = w y) : PgRel k2 F' w' := by
  unfold PgRel at h ⊢
  rw [nrm_e hF, nrw_e hw]
  obtain ⟨h1, h2, h3, h4, h5, h6, i1, i2, i3⟩ := h
  exact ⟨h1, h2, h3, h4, h5, h6, i1, by omega, i3⟩
abbrev pgF (I : Nat → Nat → Int32) (b : Nat) : Nat → Nat → Int32 := fun o k => I (b + o) k
theorem cp_rl {a b : Nat} {I I' : Nat → Nat → Int32} (h : CpOK a b I I') (h5 : ∀ k, k < 50 → I (b + 5) k = 0 ∨ I (b + 5) k = 1) : ∀ o k, rl o k = true → pgF I' a o k = pgF I b o k := by
  obtain ⟨-, ⟨c1, c2, c3⟩, ⟨c4, c5⟩, c6, ⟨c7, c8⟩, ⟨c9, c10⟩, ⟨c11, c12⟩, ⟨c13, c14⟩, c15, c16⟩ := h
  intro o k hr
  unfold rl at hr
  show I' (a + o) k = I (b + o) k
  split at hr
  · simp only [Bool.and_eq_true, Nat.ble_eq] at hr
    rcases (show k = 6 ∨ k = 7 ∨ k = 8 by omega) with rfl | rfl | rfl
    · exact c1
    · exact c2
    · exact c3
  · simp only [Bool.or_eq_true] at hr
    rcases hr with hr | hr
    · rw [beq_e hr]; exact c4
    · rw [beq_e hr]; exact c5
  · exact (c6 k (Nat.blt_eq.mp hr)).1
  · exact (c6 k (Nat.blt_eq.mp hr)).2.1
  · exact (c6 k (Nat.blt_eq.mp hr)).2.2.1
  · rw [(c6 k (Nat.blt_eq.mp hr)).2.2.2]
    rcases h5 k (Nat.blt_eq.mp hr) with h | h <;> rw [h] <;> rfl
  · rw [beq_e hr]; exact c7
  · exact c8 k (Nat.blt_eq.mp hr)
  · rw [beq_e hr]; exact c9
  · exact (c10 k (Nat.blt_eq.mp hr)).1
  · exact (c10 k (Nat.blt_eq.mp hr)).2.1
  · exact (c10 k (Nat.blt_eq.mp hr)).2.2.1
  · exact (c10 k (Nat.blt_eq.mp hr)).2.2.2
  · rw [beq_e hr]; exact c11
  · exact (c12 k (Nat.blt_eq.mp hr)).1
  · exact (c12 k (Nat.blt_eq.mp hr)).2.1
  · exact (c12 k (Nat.blt_eq.mp hr)).2.2.1
  · exact (c12 k (Nat.blt_eq.mp hr)).2.2.2
  · exact (c13 k (Nat.blt_eq.mp hr)).1
  · exact (c13 k (Nat.blt_eq.mp hr)).2
  · exact c14 k (Nat.blt_eq.mp hr)
  · rw [beq_e hr]; exact c15
  · exact (c16 k (Nat.blt_eq.mp hr)).1
  · exact (c16 k (Nat.blt_eq.mp hr)).2
  · cases hr
theorem PgRel.th {kk : Nat} {F : Nat → Nat → Int32} {w : Nat → Int32} (h : PgRel kk F w) : ∀ k, k < 50 → F 5 k = 0 ∨ F 5 k = 1 := by
  intro k hk
  have := h.2.1.2.1 k hk
  rw [nrm_at (show rl 5 k = true from Nat.blt_eq.mpr hk)] at this
  exact this
/-- what is remembered: as many acts, at the same places -/
def RHis (kk : Nat) (I : Nat → Nat → Int32) : Prop :=
  ∃ a x e : Nat, a ≤ 8 ∧ x < 8 ∧ e < 8 ∧ (e + a) % 8 = x ∧ I 0 2 = nI x ∧ I 0 3 = nI a ∧ I 316 3 = nI a ∧ I 316 4 = nI e ∧
    ∀ s, s < 8 → (x + 7 - s) % 8 < a → PgRel kk (pgF I (29 + 27 * s)) (fun y => I 318 (825 * s + y))
/-- the text -/
def RTxt (I : Nat → Nat → Int32) : Prop := I 316 8 = I 312 3 ∧ rg 0 80 (I 312 3) ∧ ∀ k, k < rN (I 312 3) → I 320 k = I 313 k ∧ rg 32 126 (I 313 k)
/-- the ring told latest -/
def RRng (I : Nat → Nat → Int32) : Prop := I 316 6 = I 245 3 ∧ rg 0 17 (I 245 3) ∧ ∀ k, k < rN (I 245 3) → I 319 k = I 264 k
/-- at the loop's head -/
def Inv (L : Nat) (kk : Nat) (I : Nat → Nat → Int32) (_J : Nat → Nat → Int64) (_D : Nat → Nat → UInt64) : Prop :=
  I iSCL 0 = Int32.ofNat L ∧ PgRel kk (pgF I 1) (I 317) ∧ RHis kk I ∧ RTxt I ∧ RRng I
