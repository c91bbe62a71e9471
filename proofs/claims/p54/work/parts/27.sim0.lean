/-! the clean machine against the machine: values, locals, worlds -/
theorem nbeq {a b : Nat} (h : a ≠ b) : Nat.beq a b = false := by
  cases hb : Nat.beq a b with
  | false => rfl
  | true => exact absurd (Nat.eq_of_beq_eq_true hb) h
theorem nbeq_s (a : Nat) : Nat.beq a a = true := Nat.beq_refl a
theorem upR_s {α : Type} {f : Nat → α} {p : Nat} {x : α} : upR f p x p = x := by unfold upR; rw [nbeq_s]; rfl
theorem upR_n {α : Type} {f : Nat → α} {p q : Nat} {x : α} (h : q ≠ p) : upR f p x q = f q := by unfold upR; rw [nbeq h]; rfl
def rv (ad : Nat → Nat) (v : Value) : Value := match v with
  | .ref x => .ref (ad x)
  | w => w
theorem rv_cat (ad : Nat → Nat) (v : Value) : (rv ad v).category = v.category := by cases v <;> rfl
def live (v : Value) : Bool := match v with
  | .retAddr _ => false
  | _ => true
theorem csm_len : ∀ as : List Value, (as.map fun v => v.category).sum = csm as
  | [] => rfl
  | v :: r => by rw [List.map_cons, List.sum_cons, csm_len r]; rfl
theorem csm_rv (ad : Nat → Nat) : ∀ as : List Value, ((as.map (rv ad)).map fun v => v.category).sum = csm as
  | [] => rfl
  | v :: r => by rw [List.map_cons, List.map_cons, List.sum_cons, csm_rv ad r, rv_cat]; rfl
theorem csm_app : ∀ a b : List Value, csm (a ++ b) = csm a + csm b
  | [], b => by simp [csm]
  | v :: r, b => by show v.category + csm (r ++ b) = v.category + csm r + csm b; rw [csm_app r b]; omega
theorem csm_rev : ∀ a : List Value, csm a.reverse = csm a
  | [] => rfl
  | v :: r => by rw [List.reverse_cons, csm_app, csm_rev r]; show csm r + (v.category + 0) = v.category + csm r; omega
/-- the locals hold what the clean ones tell -/
def LR (ad : Nat → Nat) (LS : Array Slot) (nL : Nat) (ls : List Value) : Prop :=
  LS.size = nL ∧ lv_wf LS ∧ ls.length = nL ∧ ∀ (i : Nat) (v : Value), ls[i]? = some v → live v = true → LS[i]? = some (.val (rv ad v))
def lvl (ad : Nat → Nat) : Nat → List Value → List (Nat × Value)
  | _, [] => []
  | k, v :: r => bif live v then (k, rv ad v) :: lvl ad (k + 1) r else lvl ad (k + 1) r
theorem lvl_mem {ad : Nat → Nat} : ∀ (ls : List Value) (k : Nat) (q : Nat × Value), q ∈ lvl ad k ls ↔ ∃ (i : Nat) (v : Value), ls[i]? = some v ∧ live v = true ∧ q = (k + i, rv ad v)
  | [], k, q => by simp [lvl]
  | v :: r, k, q => by
    have ih := lvl_mem (ad := ad) r (k + 1) q
    by_cases hv : live v = true
    · simp only [lvl, hv, cond_true, List.mem_cons, ih]
      constructor
      · rintro (rfl | ⟨i, w, h1, h2, rfl⟩)
        · exact ⟨0, v, rfl, hv, rfl⟩
        · exact ⟨i + 1, w, h1, h2, by rw [show k + (i + 1) = k + 1 + i by omega]⟩
      · rintro ⟨i, w, h1, h2, rfl⟩
        cases i with
        | zero =>
          left
          rw [List.getElem?_cons_zero] at h1
          cases h1
          rfl
        | succ i =>
          right
          rw [List.getElem?_cons_succ] at h1
          exact ⟨i, w, h1, h2, by rw [show k + (i + 1) = k + 1 + i by omega]⟩
    · have hv' : live v = false := by simpa using hv
      simp only [lvl, hv', cond_false, ih]
      constructor
      · rintro ⟨i, w, h1, h2, rfl⟩
        exact ⟨i + 1, w, h1, h2, by rw [show k + (i + 1) = k + 1 + i by omega]⟩
      · rintro ⟨i, w, h1, h2, rfl⟩
        cases i with
        | zero =>
          rw [List.getElem?_cons_zero] at h1
          cases h1
          rw [hv'] at h2
          cases h2
        | succ i =>
          rw [List.getElem?_cons_succ] at h1
          exact ⟨i, w, h1, h2, by rw [show k + (i + 1) = k + 1 + i by omega]⟩
theorem LR.has {ad : Nat → Nat} {LS : Array Slot} {nL : Nat} {ls : List Value} (h : LR ad LS nL ls) : lv_has LS nL (lvl ad 0 ls) := by
  refine ⟨h.1, h.2.1, fun q hq => ?_⟩
  obtain ⟨i, v, h1, h2, rfl⟩ := (lvl_mem _ _ _).mp hq
  rw [Nat.zero_add]
  exact h.2.2.2 i v h1 h2
theorem kill_s (L : List Value) (i : Nat) : kill L (i + 1) = (match L[i]? with
    | some (.long _) => L.set i dv
    | some (.double _) => L.set i dv
    | _ => L) := rfl
theorem kill_len (L : List Value) (i : Nat) : (kill L i).length = L.length := by
  cases i with
  | zero => rfl
  | succ i =>
    rw [kill_s]
    split <;> first | rfl | rw [List.length_set]
theorem kill_at {L : List Value} {i j : Nat} {w : Value} (h : (kill L i)[j]? = some w) (hw : live w = true) : L[j]? = some w ∧ (j + 1 = i → ¬ w.category = 2) := by
  have key : ∀ k : Nat, (L.set k dv)[j]? = some w → L[j]? = some w ∧ ¬ j = k := by
    intro k hk
    by_cases hjk : j = k
    · subst hjk
      by_cases hl : j < L.length
      · rw [List.getElem?_set_self hl] at hk
        cases hk
        cases hw
      · rw [List.getElem?_eq_none (by rw [List.length_set]; omega)] at hk
        cases hk
    · rw [List.getElem?_set_ne (Ne.symm hjk)] at hk
      exact ⟨hk, hjk⟩
  cases i with
  | zero => exact ⟨h, fun q => by omega⟩
  | succ k =>
    rw [kill_s] at h
    split at h
    · obtain ⟨h1, h2⟩ := key k h
      exact ⟨h1, fun q => absurd (by omega) h2⟩
    · obtain ⟨h1, h2⟩ := key k h
      exact ⟨h1, fun q => absurd (by omega) h2⟩
    · rename_i n1 n2
      refine ⟨h, fun q hc => ?_⟩
      have : j = k := by omega
      subst this
      cases w with
      | long x => exact n1 x h
      | double x => exact n2 x h
      | _ => cases hc
theorem LR.st1 {ad : Nat → Nat} {LS : Array Slot} {nL : Nat} {ls : List Value} {i : Nat} {v : Value} (hl : ls.length = nL) (hi : i < nL) (h : lv_has LS nL ((i, rv ad v) :: (lvl ad 0 ls).filter (fun q => !(q.1 == i) && !(q.1 + 1 == i && q.2.category == 2)))) : LR ad LS nL (sto ls i v) := by
  refine ⟨h.1, h.2.1, by unfold sto; rw [List.length_set, kill_len, hl], fun j w hj hw => ?_⟩
  unfold sto at hj
  by_cases hji : j = i
  · subst hji
    rw [List.getElem?_set_self (by rw [kill_len]; omega)] at hj
    cases hj
    exact h.2.2 _ List.mem_cons_self
  · rw [List.getElem?_set_ne (Ne.symm hji)] at hj
    obtain ⟨h1, h2⟩ := kill_at hj hw
    refine h.2.2 (j, rv ad w) (List.mem_cons_of_mem _ (List.mem_filter.mpr ⟨(lvl_mem _ _ _).mpr ⟨j, w, h1, hw, by rw [Nat.zero_add]⟩, ?_⟩))
    simp only [Bool.and_eq_true, Bool.not_eq_true', beq_eq_false_iff_ne, ne_eq, Bool.and_eq_false_iff, rv_cat]
    refine ⟨hji, ?_⟩
    by_cases q : j + 1 = i
    · exact Or.inr (h2 q)
    · exact Or.inl q
theorem LR.st2 {ad : Nat → Nat} {LS : Array Slot} {nL : Nat} {ls : List Value} {i : Nat} {v : Value} (hl : ls.length = nL) (hi : i + 1 < nL) (h : lv_has LS nL ((i, rv ad v) :: (lvl ad 0 ls).filter (fun q => !(q.1 == i) && (!(q.1 == i + 1) && !(q.1 + 1 == i && q.2.category == 2))))) : LR ad LS nL (sto2 ls i v) := by
  refine ⟨h.1, h.2.1, by unfold sto2; rw [List.length_set, List.length_set, kill_len, hl], fun j w hj hw => ?_⟩
  unfold sto2 at hj
  by_cases hj1 : j = i + 1
  · subst hj1
    rw [List.getElem?_set_self (by rw [List.length_set, kill_len]; omega)] at hj
    cases hj
    cases hw
  rw [List.getElem?_set_ne (Ne.symm hj1)] at hj
  by_cases hji : j = i
  · subst hji
    rw [List.getElem?_set_self (by rw [kill_len]; omega)] at hj
    cases hj
    exact h.2.2 _ List.mem_cons_self
  · rw [List.getElem?_set_ne (Ne.symm hji)] at hj
    obtain ⟨h1, h2⟩ := kill_at hj hw
    refine h.2.2 (j, rv ad w) (List.mem_cons_of_mem _ (List.mem_filter.mpr ⟨(lvl_mem _ _ _).mpr ⟨j, w, h1, hw, by rw [Nat.zero_add]⟩, ?_⟩))
    simp only [Bool.and_eq_true, Bool.not_eq_true', beq_eq_false_iff_ne, ne_eq, Bool.and_eq_false_iff, rv_cat]
    refine ⟨hji, hj1, ?_⟩
    by_cases q : j + 1 = i
    · exact Or.inr (h2 q)
    · exact Or.inl q
theorem mk_len : ∀ (f : List Bool) (L : List Value), (mk f L).length = L.length
  | [], L => by cases L <;> rfl
  | b :: f, [] => rfl
  | b :: f, v :: L => by show (mk f L).length + 1 = L.length + 1; rw [mk_len f L]
theorem mk_at : ∀ (f : List Bool) (L : List Value) (i : Nat) (v : Value), (mk f L)[i]? = some v → live v = true → L[i]? = some v
  | [], L, i, v, h, _ => by cases L <;> exact h
  | b :: f, [], i, v, h, _ => h
  | b :: f, w :: L, 0, v, h, hv => by
    cases b with
    | true => exact h
    | false =>
      have h : some dv = some v := h
      cases h
      cases hv
  | b :: f, w :: L, i + 1, v, h, hv => mk_at f L i v h hv
theorem LR.mk {ad : Nat → Nat} {LS : Array Slot} {nL : Nat} {ls : List Value} (h : LR ad LS nL ls) (f : List Bool) : LR ad LS nL (mk f ls) :=
  ⟨h.1, h.2.1, by rw [mk_len]; exact h.2.2.1, fun i v hi hv => h.2.2.2 i v (mk_at f ls i v hi hv) hv⟩
theorem LR.at {ad : Nat → Nat} {LS : Array Slot} {nL : Nat} {ls : List Value} (h : LR ad LS nL ls) {i : Nat} {v : Value} (hi : ls[i]? = some v) (hv : live v = true) : LS[i]? = some (.val (rv ad v)) := h.2.2.2 i v hi hv
theorem LR.ad {ad ad' : Nat → Nat} {LS : Array Slot} {nL : Nat} {ls : List Value} (h : LR ad LS nL ls) (he : ∀ v ∈ ls, rv ad' v = rv ad v) : LR ad' LS nL ls :=
  ⟨h.1, h.2.1, h.2.2.1, fun i v hi hv => by rw [he v (List.mem_of_getElem? hi)]; exact h.2.2.2 i v hi hv⟩
theorem ent_len : ∀ as : List Value, (ent as).length = csm as
  | [] => rfl
  | v :: r => by cases v <;> simp [ent, csm, ent_len r, Value.category] <;> omega
theorem sl_len (ad : Nat → Nat) : ∀ as : List Value, (lg_sl (as.map (rv ad))).length = csm as
  | [] => rfl
  | v :: r => by
    show (List.flatMap _ (rv ad v :: r.map (rv ad))).length = v.category + csm r
    rw [List.flatMap_cons, List.length_append]
    have h := sl_len ad r
    unfold lg_sl at h
    rw [h]
    cases v <;> rfl
theorem ent_at {ad : Nat → Nat} : ∀ (as : List Value) (k i : Nat) (v : Value), (ent as)[i]? = some v → live v = true → (k + i, rv ad v) ∈ lv_args k (as.map (rv ad))
  | [], k, i, v, h, _ => by cases h
  | w :: r, k, i, v, h, hv => by
    show _ ∈ (k, rv ad w) :: lv_args (if (rv ad w).category = 2 then k + 2 else k + 1) (r.map (rv ad))
    rw [rv_cat]
    have one : ent (w :: r) = w :: ent r → ¬ w.category = 2 → (k + i, rv ad v) ∈ (k, rv ad w) :: lv_args (if w.category = 2 then k + 2 else k + 1) (r.map (rv ad)) := by
      intro e hc
      rw [e] at h
      rw [if_neg hc]
      cases i with
      | zero =>
        rw [List.getElem?_cons_zero] at h
        cases h
        exact List.mem_cons_self
      | succ i =>
        rw [List.getElem?_cons_succ] at h
        rw [show k + (i + 1) = k + 1 + i by omega]
        exact List.mem_cons_of_mem _ (ent_at r (k + 1) i v h hv)
    have two : ent (w :: r) = w :: dv :: ent r → w.category = 2 → (k + i, rv ad v) ∈ (k, rv ad w) :: lv_args (if w.category = 2 then k + 2 else k + 1) (r.map (rv ad)) := by
      intro e hc
      rw [e] at h
      rw [if_pos hc]
      match i, h with
      | 0, h =>
        rw [List.getElem?_cons_zero] at h
        cases h
        exact List.mem_cons_self
      | 1, h =>
        have h : some dv = some v := h
        cases h
        cases hv
      | i + 2, h =>
        have h : (ent r)[i]? = some v := h
        rw [show k + (i + 2) = k + 2 + i by omega]
        exact List.mem_cons_of_mem _ (ent_at r (k + 2) i v h hv)
    cases w with
    | long x => exact two rfl rfl
    | double x => exact two rfl rfl
    | _ => exact one rfl (by intro q; cases q)
theorem LR.entry {ad : Nat → Nat} {as : List Value} {n : Nat} (h : csm as ≤ n) : LR ad ((lg_sl (as.map (rv ad)) ++ List.replicate (n - (lg_sl (as.map (rv ad))).length) Slot.unset).toArray) n (pad n (ent as)) := by
  have h1 := lv_entry (as.map (rv ad)) (n := n) (by rw [sl_len]; exact h)
  refine ⟨h1.1, h1.2.1, ?_, fun i v hi hv => ?_⟩
  · unfold pad
    rw [List.length_append, List.length_replicate, ent_len]
    omega
  · unfold pad at hi
    by_cases hl : i < (ent as).length
    · rw [List.getElem?_append_left hl] at hi
      have := h1.2.2 (i, rv ad v) (by have := ent_at (ad := ad) as 0 i v hi hv; rwa [Nat.zero_add] at this)
      exact this
    · rw [List.getElem?_append_right (by omega)] at hi
      have := List.mem_of_getElem? hi
      rw [List.mem_replicate] at this
      rw [this.2] at hv
      cases hv
/-! worlds -/
abbrev tyl (cA : Nat → ClassId) : List (ClassId × FieldType) := [(cA 20, .int), (cA 21, .boolean), (cA 22, .char), (cA 23, .long), (cA 29, .byte), (cA 25, .object "GlacierBook$Page"), (cA 26, .array .int), (cA 27, .array .long), (cA 28, .array .boolean), (cA 30, .object "java/lang/String")]
/-- a field: a reference, a long, else an int (or less) -/
def fcl (k : Nat) (r : Option Nat) (i : Int32) (j : Int64) (ad : Nat → Nat) : Value := bif Nat.beq k 1 then va_rf (r.map ad) else bif Nat.beq k 2 then .long j else .int i
def cel (cA : Nat → ClassId) (ad : Nat → Nat) (S : Nat → Nat × Nat) (R : Nat → Nat → Option Nat) (I : Nat → Nat → Int32) (J : Nat → Nat → Int64) (D : Nat → Nat → UInt64) (p : Nat) : va_E :=
  bif Nat.blt (S p).1 15 then .inr ((S p).1, (List.range (nfl (S p).1)).map (fun j => fcl (fkd (S p).1 j) (R p j) (I p j) (J p j) ad)) else
  bif Nat.ble (S p).1 22 then .inl (cA (S p).1, (S p).2, .inl (I p)) else
  bif Nat.beq (S p).1 23 then .inl (cA 23, (S p).2, .inr (.inl (J p))) else
  bif Nat.beq (S p).1 24 then .inl (cA 24, (S p).2, .inr (.inr (.inr (.inl (D p))))) else
  bif Nat.beq (S p).1 29 then .inl (cA 29, (S p).2, .inl (I p)) else
  .inl (cA (S p).1, (S p).2, .inr (.inr (.inr (.inr (fun j => (R p j).map ad)))))
def wsl (cA : Nat → ClassId) (ad : Nat → Nat) (M : Mm) : va_W := (List.range M.1).map (fun p => (ad p, cel cA ad M.2.1 M.2.2.1 M.2.2.2.1 M.2.2.2.2.1 M.2.2.2.2.2 p))
theorem wsl_at {cA : Nat → ClassId} {ad : Nat → Nat} {M : Mm} {p : Nat} (h : p < M.1) : (wsl cA ad M)[p]? = some (ad p, cel cA ad M.2.1 M.2.2.1 M.2.2.2.1 M.2.2.2.2.1 M.2.2.2.2.2 p) := by
  unfold wsl
  rw [List.getElem?_map, List.getElem?_range h]
  rfl
theorem wsl_set {cA : Nat → ClassId} {ad : Nat → Nat} {n : Nat} {S S' : Nat → Nat × Nat} {R R' : Nat → Nat → Option Nat} {I I' : Nat → Nat → Int32} {J J' : Nat → Nat → Int64} {D D' : Nat → Nat → UInt64} {p : Nat} {e : va_E}
    (he : cel cA ad S' R' I' J' D' p = e) (ho : ∀ q, q ≠ p → cel cA ad S' R' I' J' D' q = cel cA ad S R I J D q) : (wsl cA ad (n, S, R, I, J, D)).set p (ad p, e) = wsl cA ad (n, S', R', I', J', D') := by
  apply List.ext_getElem?
  intro k
  by_cases hk : k = p
  · subst hk
    by_cases hl : k < n
    · rw [List.getElem?_set_self (by simp [wsl, hl]), wsl_at (M := (n, S', R', I', J', D')) hl]
      show some (ad k, e) = some (ad k, cel cA ad S' R' I' J' D' k)
      rw [he]
    · rw [List.getElem?_eq_none (by simp [wsl]; omega), List.getElem?_eq_none (by simp [wsl]; omega)]
  · rw [List.getElem?_set_ne (Ne.symm hk)]
    by_cases hl : k < n
    · rw [wsl_at (M := (n, S, R, I, J, D)) hl, wsl_at (M := (n, S', R', I', J', D')) hl]
      show some (ad k, _) = some (ad k, cel cA ad S' R' I' J' D' k)
      rw [ho k hk]
    · rw [List.getElem?_eq_none (by simp [wsl]; omega), List.getElem?_eq_none (by simp [wsl]; omega)]
theorem wsl_push {cA : Nat → ClassId} {ad : Nat → Nat} {n a : Nat} {S S' : Nat → Nat × Nat} {R R' : Nat → Nat → Option Nat} {I I' : Nat → Nat → Int32} {J J' : Nat → Nat → Int64} {D D' : Nat → Nat → UInt64} {e : va_E}
    (he : cel cA (upR ad n a) S' R' I' J' D' n = e) (ho : ∀ q, q < n → cel cA (upR ad n a) S' R' I' J' D' q = cel cA ad S R I J D q) : wsl cA ad (n, S, R, I, J, D) ++ [(a, e)] = wsl cA (upR ad n a) (n + 1, S', R', I', J', D') := by
  unfold wsl
  dsimp only
  rw [List.range_succ, List.map_append, List.map_cons, List.map_nil]
  congr 1
  · apply List.map_congr_left
    intro q hq
    have hq := List.mem_range.mp hq
    rw [ho q hq]
    congr 1
    exact (upR_n (Nat.ne_of_lt hq)).symm
  · rw [he, upR_s]
