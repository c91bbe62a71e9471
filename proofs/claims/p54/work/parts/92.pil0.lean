/-! sets of layers as bits; what lies above what -/
def bcA (v : Nat) : Nat := v - (v >>> 1 &&& 1431655765)
def bcB (a : Nat) : Nat := (a &&& 858993459) + (a >>> 2 &&& 858993459)
def bcC (b : Nat) : Nat := (b + b >>> 4) &&& 252645135
def bcD (c : Nat) : Nat := c + c >>> 8
def bcE (d : Nat) : Nat := (d + d >>> 16) &&& 63
def bcV (v : Nat) : Nat := bcE (bcD (bcC (bcB (bcA v))))
def pc8 (v : Nat) : Nat := (v % 2 + v / 2 % 2 + v / 4 % 2 + v / 8 % 2) + (v / 16 % 2 + v / 32 % 2 + v / 64 % 2 + v / 128 % 2)
def bck1 (h : Nat) : Nat → Bool
  | 0 => true
  | n + 1 => Nat.beq (bcV (256 * h + n)) (pc8 h + pc8 n) && bck1 h n
def bck : Nat → Bool
  | 0 => true
  | n + 1 => bck1 n 256 && bck n
theorem bck_ok : bck 256 = true := by decide +kernel
theorem bck1_at {h : Nat} : ∀ {n : Nat}, bck1 h n = true → ∀ j, j < n → bcV (256 * h + j) = pc8 h + pc8 j
  | n + 1, e, j, hj => by
    have e' : (Nat.beq (bcV (256 * h + n)) (pc8 h + pc8 n) && bck1 h n) = true := e
    rw [Bool.and_eq_true] at e'
    by_cases q : j = n
    · subst q; exact Nat.eq_of_beq_eq_true e'.1
    · exact bck1_at e'.2 j (by omega)
theorem bck_at : ∀ {n : Nat}, bck n = true → ∀ h, h < n → bck1 h 256 = true
  | n + 1, e, h, hh => by
    have e' : (bck1 n 256 && bck n) = true := e
    rw [Bool.and_eq_true] at e'
    by_cases q : h = n
    · subst q; exact e'.1
    · exact bck_at e'.2 h (by omega)
def pcN (v : Nat) : Nat := cntN (fun i => v.testBit i) 16
theorem cnt_s {f : Nat → Bool} {n : Nat} : cntN f (n + 1) = cntN f n + (bif f n then 1 else 0) := rfl
theorem tb1 (v i : Nat) : (bif v.testBit i then 1 else 0) = v / 2 ^ i % 2 := by
  rw [Nat.testBit_eq_decide_div_mod_eq]
  have : v / 2 ^ i % 2 < 2 := Nat.mod_lt _ (by decide)
  generalize v / 2 ^ i % 2 = x at this ⊢
  by_cases h : x = 1
  · rw [decide_eq_true h]; exact h.symm
  · rw [decide_eq_false h]; show 0 = x; omega
theorem sum16 (y0 y1 y2 y3 y4 y5 y6 y7 y8 y9 y10 y11 y12 y13 y14 y15 : Nat) : ((y8 + y9 + y10 + y11) + (y12 + y13 + y14 + y15)) + ((y0 + y1 + y2 + y3) + (y4 + y5 + y6 + y7)) = 0 + y0 + y1 + y2 + y3 + y4 + y5 + y6 + y7 + y8 + y9 + y10 + y11 + y12 + y13 + y14 + y15 := by omega
theorem bcV_pc {v : Nat} (h : v < 65536) : bcV v = pcN v := by
  have e := bck1_at (bck_at bck_ok (v / 256) (by omega)) (v % 256) (by omega)
  rw [show 256 * (v / 256) + v % 256 = v by omega] at e
  rw [e]
  unfold pc8
  have l0 : v % 256 % 2 = v % 2 := by omega
  have l1 : v % 256 / 2 % 2 = v / 2 % 2 := by omega
  have l2 : v % 256 / 4 % 2 = v / 4 % 2 := by omega
  have l3 : v % 256 / 8 % 2 = v / 8 % 2 := by omega
  have l4 : v % 256 / 16 % 2 = v / 16 % 2 := by omega
  have l5 : v % 256 / 32 % 2 = v / 32 % 2 := by omega
  have l6 : v % 256 / 64 % 2 = v / 64 % 2 := by omega
  have l7 : v % 256 / 128 % 2 = v / 128 % 2 := by omega
  have h1 : v / 256 / 2 % 2 = v / 512 % 2 := by omega
  have h2 : v / 256 / 4 % 2 = v / 1024 % 2 := by omega
  have h3 : v / 256 / 8 % 2 = v / 2048 % 2 := by omega
  have h4 : v / 256 / 16 % 2 = v / 4096 % 2 := by omega
  have h5 : v / 256 / 32 % 2 = v / 8192 % 2 := by omega
  have h6 : v / 256 / 64 % 2 = v / 16384 % 2 := by omega
  have h7 : v / 256 / 128 % 2 = v / 32768 % 2 := by omega
  rw [l0, l1, l2, l3, l4, l5, l6, l7, h1, h2, h3, h4, h5, h6, h7]
  have ep : pcN v = 0 + v / 1 % 2 + v / 2 % 2 + v / 4 % 2 + v / 8 % 2 + v / 16 % 2 + v / 32 % 2 + v / 64 % 2 + v / 128 % 2 + v / 256 % 2 + v / 512 % 2 + v / 1024 % 2 + v / 2048 % 2 + v / 4096 % 2 + v / 8192 % 2 + v / 16384 % 2 + v / 32768 % 2 := by
    unfold pcN
    iterate 16 rw [cnt_s]
    simp only [tb1]
    rfl
  rw [ep, show v % 2 = v / 1 % 2 by rw [Nat.div_one], show v / 256 % 2 = v / 256 % 2 from rfl]
  exact sum16 _ _ _ _ _ _ _ _ _ _ _ _ _ _ _ _
theorem nI_and {a b : Nat} : nI a &&& nI b = nI (a &&& b) := by
  refine Int32.toBitVec_inj.mp ?_
  rw [Int32.toBitVec_and]
  show BitVec.ofNat 32 a &&& BitVec.ofNat 32 b = BitVec.ofNat 32 (a &&& b)
  exact BitVec.ofNat_and.symm
theorem nI_sub {a b : Nat} (h : b ≤ a) : nI a - nI b = nI (a - b) := by
  have : nI (a - b) + nI b = nI a := by rw [nI_add, Nat.sub_add_cancel h]
  rw [← this, Int32.add_sub_cancel]
def shU (x k : Int32) : Int32 := (x.toUInt32 >>> (k.toUInt32 &&& Int32.toUInt32 31)).toInt32
theorem shU_n {a k : Nat} (h : a < 2 ^ 31) (hk : k < 32) : shU (nI a) (nI k) = nI (a >>> k) := by
  unfold shU
  refine Int32.toBitVec_inj.mp ?_
  show (BitVec.ofNat 32 a) >>> ((BitVec.ofNat 32 k &&& 31#32) % 32#32) = BitVec.ofNat 32 (a >>> k)
  refine BitVec.eq_of_toNat_eq ?_
  have e : ((BitVec.ofNat 32 k &&& 31#32) % 32#32).toNat = k := by
    rw [BitVec.toNat_umod, BitVec.toNat_and, BitVec.toNat_ofNat, BitVec.toNat_ofNat, BitVec.toNat_ofNat, Nat.mod_eq_of_lt (by omega : k < 2 ^ 32), show 31 % 2 ^ 32 = 2 ^ 5 - 1 from rfl, Nat.and_two_pow_sub_one_eq_mod, show 32 % 2 ^ 32 = 32 from rfl]
    omega
  show ((BitVec.ofNat 32 a) >>> ((BitVec.ofNat 32 k &&& 31#32) % 32#32).toNat).toNat = _
  rw [e, BitVec.toNat_ushiftRight, BitVec.toNat_ofNat, BitVec.toNat_ofNat, Nat.mod_eq_of_lt (by omega : a < 2 ^ 32)]
  have : a >>> k ≤ a := by rw [Nat.shiftRight_eq_div_pow]; exact Nat.div_le_self _ _
  rw [Nat.mod_eq_of_lt (by omega)]
def bcI (x : Int32) : Int32 :=
  let a := x - (shU x 1 &&& 1431655765)
  let b := (a &&& 858993459) + (shU a 2 &&& 858993459)
  let c := (b + shU b 4) &&& 252645135
  let d := c + shU c 8
  (d + shU d 16) &&& 63
theorem shr_le {a k : Nat} : a >>> k ≤ a := by rw [Nat.shiftRight_eq_div_pow]; exact Nat.div_le_self _ _
theorem bcI_n {v : Nat} (h : v < 65536) : bcI (nI v) = nI (pcN v) := by
  rw [← bcV_pc h]
  have l1 : (v >>> 1 &&& 1431655765) ≤ v := Nat.le_trans Nat.and_le_left shr_le
  have ea : nI v - (shU (nI v) 1 &&& 1431655765) = nI (bcA v) := by
    rw [show (1 : Int32) = nI 1 from rfl, shU_n (by omega) (by decide), show (1431655765 : Int32) = nI 1431655765 from rfl, nI_and, nI_sub l1]; rfl
  have la : bcA v ≤ v := Nat.sub_le _ _
  have eb : (nI (bcA v) &&& 858993459) + (shU (nI (bcA v)) 2 &&& 858993459) = nI (bcB (bcA v)) := by
    rw [show (2 : Int32) = nI 2 from rfl, shU_n (by omega) (by decide), show (858993459 : Int32) = nI 858993459 from rfl, nI_and, nI_and, nI_add]; rfl
  have lb : bcB (bcA v) ≤ bcA v + bcA v := Nat.add_le_add Nat.and_le_left (Nat.le_trans Nat.and_le_left shr_le)
  have ec : (nI (bcB (bcA v)) + shU (nI (bcB (bcA v))) 4) &&& 252645135 = nI (bcC (bcB (bcA v))) := by
    rw [show (4 : Int32) = nI 4 from rfl, shU_n (by omega) (by decide), show (252645135 : Int32) = nI 252645135 from rfl, nI_add, nI_and]; rfl
  have lc : bcC (bcB (bcA v)) ≤ bcB (bcA v) + bcB (bcA v) := Nat.le_trans Nat.and_le_left (Nat.add_le_add (Nat.le_refl _) shr_le)
  have ed : nI (bcC (bcB (bcA v))) + shU (nI (bcC (bcB (bcA v)))) 8 = nI (bcD (bcC (bcB (bcA v)))) := by
    rw [show (8 : Int32) = nI 8 from rfl, shU_n (by omega) (by decide), nI_add]; rfl
  have ld : bcD (bcC (bcB (bcA v))) ≤ bcC (bcB (bcA v)) + bcC (bcB (bcA v)) := Nat.add_le_add (Nat.le_refl _) shr_le
  have ee : (nI (bcD (bcC (bcB (bcA v)))) + shU (nI (bcD (bcC (bcB (bcA v))))) 16) &&& 63 = nI (bcV v) := by
    rw [show (16 : Int32) = nI 16 from rfl, shU_n (by omega) (by decide), show (63 : Int32) = nI 63 from rfl, nI_add, nI_and]; rfl
  show (((nI v - (shU (nI v) 1 &&& 1431655765) &&& 858993459) + (shU (nI v - (shU (nI v) 1 &&& 1431655765)) 2 &&& 858993459) + shU ((nI v - (shU (nI v) 1 &&& 1431655765) &&& 858993459) + (shU (nI v - (shU (nI v) 1 &&& 1431655765)) 2 &&& 858993459)) 4 &&& 252645135) + shU ((nI v - (shU (nI v) 1 &&& 1431655765) &&& 858993459) + (shU (nI v - (shU (nI v) 1 &&& 1431655765)) 2 &&& 858993459) + shU ((nI v - (shU (nI v) 1 &&& 1431655765) &&& 858993459) + (shU (nI v - (shU (nI v) 1 &&& 1431655765)) 2 &&& 858993459)) 4 &&& 252645135) 8 + shU ((((nI v - (shU (nI v) 1 &&& 1431655765) &&& 858993459) + (shU (nI v - (shU (nI v) 1 &&& 1431655765)) 2 &&& 858993459)) + shU ((nI v - (shU (nI v) 1 &&& 1431655765) &&& 858993459) + (shU (nI v - (shU (nI v) 1 &&& 1431655765)) 2 &&& 858993459)) 4 &&& 252645135) + shU ((((nI v - (shU (nI v) 1 &&& 1431655765) &&& 858993459) + (shU (nI v - (shU (nI v) 1 &&& 1431655765)) 2 &&& 858993459)) + shU ((nI v - (shU (nI v) 1 &&& 1431655765) &&& 858993459) + (shU (nI v - (shU (nI v) 1 &&& 1431655765)) 2 &&& 858993459)) 4 &&& 252645135)) 8) 16) &&& 63 = _
  rw [ea, eb, ec, ed, ee]
/-- a number as a set -/
def Bt (x : Int32) (f : Nat → Bool) : Prop := ∀ i, x.toBitVec.getLsbD i = f i
theorem Bt.or {x y : Int32} {f g : Nat → Bool} (h : Bt x f) (k : Bt y g) : Bt (x ||| y) (fun i => f i || g i) := fun i => by
  rw [Int32.toBitVec_or, BitVec.getLsbD_or, h i, k i]
theorem Bt.and {x y : Int32} {f g : Nat → Bool} (h : Bt x f) (k : Bt y g) : Bt (x &&& y) (fun i => f i && g i) := fun i => by
  rw [Int32.toBitVec_and, BitVec.getLsbD_and, h i, k i]
theorem Bt.xor {x y : Int32} {f g : Nat → Bool} (h : Bt x f) (k : Bt y g) : Bt (x ^^^ y) (fun i => f i ^^ g i) := fun i => by
  rw [Int32.toBitVec_xor, BitVec.getLsbD_xor, h i, k i]
theorem Bt.andn {x y : Int32} {f g : Nat → Bool} (h : Bt x f) (k : Bt y g) : Bt (x &&& (y ^^^ (-1))) (fun i => f i && !g i) := fun i => by
  rw [Int32.toBitVec_and, BitVec.getLsbD_and, h i, Int32.toBitVec_xor, BitVec.getLsbD_xor, k i]
  by_cases hi : i < 32
  · have e : ((-1 : Int32).toBitVec).getLsbD i = true := by
      show (BitVec.allOnes 32).getLsbD i = true
      rw [BitVec.getLsbD_allOnes]; exact decide_eq_true hi
    rw [e, Bool.xor_true]
  · have : f i = false := by rw [← h i]; exact BitVec.getLsbD_of_ge _ _ (by omega)
    rw [this, Bool.false_and]; show false = (f i && !g i); rw [this]; rfl
theorem Bt.eq {x y : Int32} {f : Nat → Bool} (h : Bt x f) (k : Bt y f) : x = y := by
  refine Int32.toBitVec_inj.mp (BitVec.eq_of_getLsbD_eq (fun i _ => ?_))
  rw [h i, k i]
theorem Bt.cg {x : Int32} {f g : Nat → Bool} (h : Bt x f) (e : ∀ i, f i = g i) : Bt x g := fun i => (h i).trans (e i)
theorem Bt.z : Bt 0 (fun _ => false) := fun i => by
  show (0#32).getLsbD i = false
  exact BitVec.getLsbD_zero
theorem Bt.n {v : Nat} (h : v < 2 ^ 32) : Bt (nI v) (fun i => v.testBit i) := fun i => by
  show (BitVec.ofNat 32 v).getLsbD i = v.testBit i
  rw [BitVec.getLsbD_ofNat]
  by_cases hi : i < 32
  · rw [decide_eq_true hi, Bool.true_and]
  · rw [decide_eq_false hi, Bool.false_and, Nat.testBit_lt_two_pow (Nat.lt_of_lt_of_le h (Nat.pow_le_pow_right (by decide) (by omega)))]
theorem Bt.eq0 {x : Int32} {f : Nat → Bool} (h : Bt x f) : x = 0 ↔ ∀ i, f i = false := by
  constructor
  · intro e i
    rw [← h i, e]; exact Bt.z i
  · intro e
    exact h.eq (Bt.z.cg (fun i => (e i).symm))
theorem sh_lit : ∀ b, b < 32 → (1 : Int32) <<< (nI b &&& 31) = nI (2 ^ b) := by decide
theorem bit_b {b : Nat} (h1 : 1 ≤ b) (h : b ≤ 16) : Bt ((1 : Int32) <<< ((nI b - 1) &&& 31)) (fun i => decide (i = b - 1)) := by
  have e : nI b - 1 = nI (b - 1) := by
    have := nI_sub (a := b) (b := 1) h1
    exact this
  rw [e, sh_lit (b - 1) (by omega)]
  refine (Bt.n (Nat.pow_lt_pow_right (by decide) (by omega))).cg (fun i => ?_)
  rw [Nat.testBit_two_pow]
  by_cases q : i = b - 1
  · rw [decide_eq_true q, decide_eq_true q.symm]
  · rw [decide_eq_false q, decide_eq_false (fun e => q e.symm)]
theorem Bt.has {x y : Int32} {f : Nat → Bool} {k : Nat} (h : Bt x f) (hy : Bt y (fun i => decide (i = k))) : x &&& y = 0 ↔ f k = false := by
  rw [(h.and hy).eq0]
  constructor
  · intro e
    have := e k
    rw [decide_eq_true rfl, Bool.and_true] at this
    exact this
  · intro e i
    by_cases q : i = k
    · subst q; rw [e]; rfl
    · rw [decide_eq_false q, Bool.and_false]
/-- a set of at most sixteen, as a Nat -/
theorem Bt.nat {x : Int32} {f : Nat → Bool} (h : Bt x f) (h16 : ∀ i, 16 ≤ i → f i = false) : ∃ v, v < 65536 ∧ x = nI v ∧ ∀ i, v.testBit i = f i := by
  have hv : x.toBitVec.toNat < 65536 := by
    refine Nat.lt_pow_two_of_testBit (n := 16) _ (fun i hi => ?_)
    exact (h i).trans (h16 i hi)
  refine ⟨x.toBitVec.toNat, hv, ?_, fun i => h i⟩
  refine Int32.toBitVec_inj.mp ?_
  show _ = BitVec.ofNat 32 _
  rw [BitVec.ofNat_toNat, BitVec.setWidth_eq]
theorem cnt_cg {f g : Nat → Bool} : ∀ {n : Nat}, (∀ k, k < n → f k = g k) → cntN f n = cntN g n
  | 0, _ => rfl
  | n + 1, h => by
    show cntN f n + _ = cntN g n + _
    rw [cnt_cg (n := n) (fun k hk => h k (by omega)), h n (by omega)]
theorem Bt.cnt {x : Int32} {f : Nat → Bool} (h : Bt x f) (h16 : ∀ i, 16 ≤ i → f i = false) : bcI x = nI (cntN f 16) := by
  obtain ⟨v, hv, rfl, hf⟩ := h.nat h16
  rw [bcI_n hv]
  unfold pcN
  rw [cnt_cg (fun k _ => hf k)]
/-! closures -/
def wst (k : Nat) (W : Nat → Nat → Bool) (a b : Nat) : Bool := W a b || (W a k && W k b)
def wsh (T : Nat → Nat → Bool) : Nat → Nat → Nat → Bool
  | 0 => T
  | k + 1 => wst (k + 1) (wsh T k)
def In (n : Nat) (W : Nat → Nat → Bool) : Prop := ∀ a b, W a b = true → (1 ≤ a ∧ a ≤ n) ∧ 1 ≤ b ∧ b ≤ n
theorem In.f {n : Nat} {W : Nat → Nat → Bool} (h : In n W) {a b : Nat} (hab : ¬ ((1 ≤ a ∧ a ≤ n) ∧ 1 ≤ b ∧ b ≤ n)) : W a b = false := by
  cases e : W a b with
  | false => rfl
  | true => exact absurd (h a b e) hab
theorem wst_in {n k : Nat} {W : Nat → Nat → Bool} (h : In n W) : In n (wst k W) := fun a b e => by
  unfold wst at e
  rw [Bool.or_eq_true, Bool.and_eq_true] at e
  rcases e with e | ⟨e1, e2⟩
  · exact h a b e
  · exact ⟨(h a k e1).1, (h k b e2).2⟩
theorem wsh_in {n : Nat} {T : Nat → Nat → Bool} (h : In n T) : ∀ k, In n (wsh T k)
  | 0 => h
  | k + 1 => wst_in (wsh_in h k)
theorem wst_row {k a : Nat} {W : Nat → Nat → Bool} (h : W a k = false) : wst k W a = W a := by
  funext b; unfold wst; rw [h, Bool.false_and, Bool.or_false]
theorem wst_k1 {k a : Nat} {W : Nat → Nat → Bool} : wst k W a k = W a k := by
  unfold wst
  cases W a k <;> simp
theorem wst_k2 {k : Nat} {W : Nat → Nat → Bool} : wst k W k = W k := by
  funext b; unfold wst
  cases W k b <;> simp
theorem wsh_n {n : Nat} {T : Nat → Nat → Bool} (h : In n T) : ∀ d, wsh T (n + d) = wsh T n
  | 0 => rfl
  | d + 1 => by
    have ih := wsh_n h d
    show wst (n + d + 1) (wsh T (n + d)) = _
    rw [ih]
    funext a b
    have : wsh T n a (n + d + 1) = false := (wsh_in h n).f (by omega)
    rw [wst_row this]
def clo (T : Nat → Nat → Bool) : Nat → Nat → Bool := wsh T 16
theorem clo_n {n : Nat} {T : Nat → Nat → Bool} (h : In n T) (hn : n ≤ 16) : wsh T n = clo T := by
  have := wsh_n h (16 - n)
  rw [show n + (16 - n) = 16 by omega] at this
  exact this.symm
theorem wsh_tr {T : Nat → Nat → Bool} : ∀ k j a b, 1 ≤ j → j ≤ k → wsh T k a j = true → wsh T k j b = true → wsh T k a b = true
  | 0, j, a, b, h1, h2, _, _ => by omega
  | k + 1, j, a, b, h1, h2, e1, e2 => by
    have ih := wsh_tr (T := T) k
    show wst (k + 1) (wsh T k) a b = true
    have e1' : wst (k + 1) (wsh T k) a j = true := e1
    have e2' : wst (k + 1) (wsh T k) j b = true := e2
    generalize wsh T k = W at ih e1' e2' ⊢
    by_cases hj : j = k + 1
    · subst hj
      rw [wst_k1] at e1'
      rw [wst_k2] at e2'
      unfold wst
      rw [e1', e2']; simp
    · have ih' := fun x y => ih j x y h1 (by omega)
      unfold wst at e1' e2' ⊢
      rw [Bool.or_eq_true, Bool.and_eq_true] at e1' e2' ⊢
      rcases e1' with p | ⟨p, q⟩ <;> rcases e2' with r | ⟨r, s⟩
      · exact Or.inl (ih' a b p r)
      · exact Or.inr ⟨ih' a (k + 1) p r, s⟩
      · exact Or.inr ⟨p, ih' (k + 1) b q r⟩
      · exact Or.inr ⟨p, s⟩
theorem wsh_sub {T : Nat → Nat → Bool} {a b : Nat} (h : T a b = true) : ∀ k, wsh T k a b = true
  | 0 => h
  | k + 1 => by
    show wst (k + 1) (wsh T k) a b = true
    unfold wst
    rw [wsh_sub h k]; rfl
theorem wsh_rank {T : Nat → Nat → Bool} {r : Nat → Nat} (h : ∀ a b, T a b = true → r a < r b) : ∀ k a b, wsh T k a b = true → r a < r b
  | 0, a, b, e => h a b e
  | k + 1, a, b, e => by
    have e' : wst (k + 1) (wsh T k) a b = true := e
    unfold wst at e'
    rw [Bool.or_eq_true, Bool.and_eq_true] at e'
    rcases e' with e | ⟨e1, e2⟩
    · exact wsh_rank h k a b e
    · exact Nat.lt_trans (wsh_rank h k a _ e1) (wsh_rank h k _ b e2)
theorem clo_tr {n : Nat} {T : Nat → Nat → Bool} (h : In n T) (hn : n ≤ 16) {a j b : Nat} (h1 : clo T a j = true) (h2 : clo T j b = true) : clo T a b = true := by
  have := (wsh_in h 16 a j h1).2
  exact wsh_tr 16 j a b this.1 (by omega) h1 h2
/-- one more told, that is not against what follows: still in ranks -/
theorem rank_add {n : Nat} {T T2 : Nat → Nat → Bool} {r : Nat → Nat} (hin : In n T) (hn : n ≤ 16) (h : ∀ a b, T a b = true → r a < r b) {a b : Nat} (hab : a ≠ b) (hR : clo T b a = false) (h2 : ∀ x y, T2 x y = true → T x y = true ∨ (x = a ∧ y = b)) : ∃ r2 : Nat → Nat, ∀ x y, T2 x y = true → r2 x < r2 y := by
  refine ⟨fun x => if x = b ∨ clo T b x = true then r x + (r a + 1) else r x, fun x y e => ?_⟩
  show (if x = b ∨ clo T b x = true then r x + (r a + 1) else r x) < (if y = b ∨ clo T b y = true then r y + (r a + 1) else r y)
  rcases h2 x y e with t | ⟨rfl, rfl⟩
  · have hr := h x y t
    by_cases hx : x = b ∨ clo T b x = true
    · have hy : y = b ∨ clo T b y = true := by
        rcases hx with rfl | hx
        · exact Or.inr (wsh_sub t 16)
        · exact Or.inr (clo_tr hin hn hx (wsh_sub t 16))
      rw [if_pos hx, if_pos hy]; omega
    · rw [if_neg hx]
      by_cases hy : y = b ∨ clo T b y = true
      · rw [if_pos hy]; omega
      · rw [if_neg hy]; exact hr
  · rw [if_neg (by rintro (q | q); exact hab q; rw [hR] at q; cases q), if_pos (Or.inl rfl)]; omega
/-! lines -/
def orB (f : Nat → Bool) : Nat → Bool
  | 0 => false
  | m + 1 => orB f m || f (m + 1)
theorem orB_f {f : Nat → Bool} : ∀ {m : Nat}, (∀ k, 1 ≤ k → k ≤ m → f k = false) → orB f m = false
  | 0, _ => rfl
  | m + 1, h => by
    show (orB f m || f (m + 1)) = false
    rw [orB_f (m := m) (fun k h1 h2 => h k h1 (by omega)), h (m + 1) (by omega) (by omega)]; rfl
theorem orB_ex {n : Nat} {f : Nat → Bool} : ∀ {m : Nat}, (∀ k, n < k → f k = false) → n ≤ m → orB f m = orB f n
  | 0, _, h => by have : n = 0 := by omega
                  subst this; rfl
  | m + 1, hf, h => by
    by_cases q : n = m + 1
    · subst q; rfl
    · show (orB f m || f (m + 1)) = _
      rw [orB_ex (m := m) hf (by omega), hf (m + 1) (by omega), Bool.or_false]
def btw (R : Nat → Nat → Bool) (a c : Nat) : Nat → Bool := fun b => R a b && R b c
def dr (R : Nat → Nat → Bool) (a c : Nat) : Bool := R a c && !(orB (btw R a c) 16)
def row (W : Nat → Nat → Bool) (a i : Nat) : Bool := Nat.blt i 16 && W a (i + 1)
theorem row_16 {W : Nat → Nat → Bool} {a : Nat} : ∀ i, 16 ≤ i → row W a i = false := fun i h => by
  unfold row
  rw [show Nat.blt i 16 = false from by rw [← Bool.not_eq_true, Nat.blt_eq]; omega]; rfl
theorem row_at {W : Nat → Nat → Bool} {a b : Nat} (h1 : 1 ≤ b) (h : b ≤ 16) : row W a (b - 1) = W a b := by
  unfold row
  rw [Nat.blt_eq.mpr (by omega), Bool.true_and, show b - 1 + 1 = b by omega]
theorem dr_in {n : Nat} {R : Nat → Nat → Bool} (h : In n R) : In n (dr R) := fun a b e => by
  unfold dr at e
  rw [Bool.and_eq_true] at e
  exact h a b e.1
def lnN (R : Nat → Nat → Bool) : Nat → Nat
  | 0 => 0
  | m + 1 => lnN R m + cntN (row (dr R) (m + 1)) 16
theorem cnt_0 {f : Nat → Bool} : ∀ {n : Nat}, (∀ k, k < n → f k = false) → cntN f n = 0
  | 0, _ => rfl
  | n + 1, h => by
    show cntN f n + _ = 0
    rw [cnt_0 (n := n) (fun k hk => h k (by omega)), h n (by omega)]; rfl
theorem lnN_n {n : Nat} {R : Nat → Nat → Bool} (h : In n R) : ∀ d, lnN R (n + d) = lnN R n
  | 0 => rfl
  | d + 1 => by
    show lnN R (n + d) + cntN (row (dr R) (n + d + 1)) 16 = _
    rw [lnN_n h d, cnt_0 (f := row (dr R) (n + d + 1)) (fun k _ => by unfold row; rw [(dr_in h).f (by omega), Bool.and_false])]; rfl
theorem cnt_bd {f : Nat → Bool} : ∀ n, cntN f n ≤ n
  | 0 => Nat.le_refl _
  | n + 1 => by
    have := cnt_bd (f := f) n
    show cntN f n + _ ≤ _
    cases f n
    · show cntN f n + 0 ≤ _; omega
    · show cntN f n + 1 ≤ _; omega
theorem lnN_bd {R : Nat → Nat → Bool} : ∀ m, lnN R m ≤ 16 * m
  | 0 => Nat.le_refl _
  | m + 1 => by
    have := lnN_bd (R := R) m
    have := cnt_bd (f := row (dr R) (m + 1)) 16
    show lnN R m + _ ≤ _
    omega

