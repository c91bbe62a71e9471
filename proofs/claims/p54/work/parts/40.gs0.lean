/-! the fixed facts at the law's entry -/
def nwl : List Cond := flatC (Jvm.Cond.and given_1 narrow_1)
theorem iw_ok : (List.range 15).all (fun c => decide (Cond.instantiable (clq c).1 (nfl c) ∈ lw_tbl)) = true := by decide +kernel
theorem bw_ok : BW.all (fun w => decide (w ∈ lw_tbl)) = true := by decide +kernel
theorem nc_ok : (List.range 4).all (fun E => [0, 3].all (fun F => Nat.beq E F || decide (Cond.not (.castable (exn E) (exn F)) ∈ nwl))) = true := by decide +kernel
theorem tx_ok : pTx.all (fun e => decide (Cond.stringRef (onm e.1) e.2.1 e.2.2 ∈ lw_tbl) && decide (Cond.exactly (.string (onm e.1) e.2.1) "java/lang/String" ∈ nwl)) = true := by decide +kernel
theorem pn_ok : pN.all (fun e => decide (Cond.methodLinkNest (onm e.1) e.2.1 (nm e.2.2.1) "GlacierBook" ∈ lw_tbl)) = true := by decide +kernel
theorem ac_ok : ([.int, .boolean, .char, .long, .byte] : List FieldType).all (fun t => decide (Cond.arrayClass t ∈ lw_tbl)) = true := by decide +kernel
theorem aov_ok : ([.object "GlacierBook$Page", .array .int, .array .long, .array .boolean, .object "java/lang/String"] : List FieldType).all (fun t => decide (Cond.arrayOver t ∈ lw_tbl)) = true := by decide +kernel
def srow (i : Nat) : Term := .static (stn (1000011 + i)).1 (stn (1000011 + i)).2.1 (stn (1000011 + i)).2.2
theorem sr_ok : (List.range 3).all (fun i => decide (Cond.laysStatic (stn (1000011 + i)).1 (stn (1000011 + i)).2.1 (stn (1000011 + i)).2.2 ∈ lw_tbl) && (decide (Cond.initialized (stn (1000011 + i)).1 ∈ lw_tbl) && (decide (Cond.arrayOf (srow i) .int ∈ nwl) && (decide (Cond.eq (.length (srow i)) (.int (Int32.ofNat (ssp (1000011 + i)).2)) ∈ nwl) && (List.range (ssp (1000011 + i)).2).all (fun j => decide (Cond.eq (.elem (srow i) (.int (Int32.ofNat j))) (.int (sta (1000011 + i) j)) ∈ nwl)))))) = true := by decide +kernel
/-- the texts, by class and place in its pool -/
def stq : List (Nat × Nat) := [(9, 54), (9, 56), (9, 58), (9, 60), (9, 62), (9, 64), (12, 277), (12, 279), (12, 281), (12, 283), (12, 285), (12, 287), (12, 289), (12, 291), (12, 251), (12, 260), (12, 262)]
def stm (i : Nat) : Term := .string (onm (stq.getD i (0, 0)).1) (stq.getD i (0, 0)).2
def svl (i : Nat) : Term := .field (stm i) "java/lang/String" "value" "[B"
/-- what is given of a text -/
def txW (i : Nat) : List Cond := .exactly (stm i) "java/lang/String" :: .eq (.field (stm i) "java/lang/String" "coder" "B") (.int 0) :: .arrayOf (svl i) .byte :: .eq (.length (svl i)) (.int (Int32.ofNat (slen.getD i 0))) :: (List.range (slen.getD i 0)).map (fun j => .eq (.elem (svl i) (.int (Int32.ofNat j))) (.int ((sbyt.getD i []).getD j 0)))
theorem mem_dt {l : List Cond} {a b : Nat} {w : Cond} (h : w ∈ (l.drop a).take b) : w ∈ l := List.mem_of_mem_drop (List.mem_of_mem_take h)
theorem txE_0 : (nwl.drop 1031).take 9 = txW 0 := by decide +kernel
theorem txE_1 : (nwl.drop 1040).take 8 = txW 1 := by decide +kernel
theorem txE_2 : (nwl.drop 1048).take 6 = txW 2 := by decide +kernel
theorem txE_3 : (nwl.drop 1054).take 8 = txW 3 := by decide +kernel
theorem txE_4 : (nwl.drop 1062).take 8 = txW 4 := by decide +kernel
theorem txE_5 : (nwl.drop 1070).take 9 = txW 5 := by decide +kernel
theorem txE_6 : (nwl.drop 1103).take 4 = txW 6 := by decide +kernel
theorem txE_7 : (nwl.drop 1107).take 14 = txW 7 := by decide +kernel
theorem txE_8 : (nwl.drop 1121).take 15 = txW 8 := by decide +kernel
theorem txE_9 : (nwl.drop 1136).take 12 = txW 9 := by decide +kernel
theorem txE_10 : (nwl.drop 1148).take 12 = txW 10 := by decide +kernel
theorem txE_11 : (nwl.drop 1160).take 11 = txW 11 := by decide +kernel
theorem txE_12 : (nwl.drop 1171).take 23 = txW 12 := by decide +kernel
theorem txE_13 : (nwl.drop 1194).take 14 = txW 13 := by decide +kernel
theorem txE_14 : (nwl.drop 937).take 13 = txW 14 := by decide +kernel
theorem txE_15 : (nwl.drop 950).take 7 = txW 15 := by decide +kernel
theorem txE_16 : (nwl.drop 957).take 5 = txW 16 := by decide +kernel
theorem st_all : ∀ i, i < 17 → ∀ w ∈ txW i, w ∈ nwl := lt_s (p := fun i => ∀ w ∈ txW i, w ∈ nwl) (lt_s (p := fun i => ∀ w ∈ txW i, w ∈ nwl) (lt_s (p := fun i => ∀ w ∈ txW i, w ∈ nwl) (lt_s (p := fun i => ∀ w ∈ txW i, w ∈ nwl) (lt_s (p := fun i => ∀ w ∈ txW i, w ∈ nwl) (lt_s (p := fun i => ∀ w ∈ txW i, w ∈ nwl) (lt_s (p := fun i => ∀ w ∈ txW i, w ∈ nwl) (lt_s (p := fun i => ∀ w ∈ txW i, w ∈ nwl) (lt_s (p := fun i => ∀ w ∈ txW i, w ∈ nwl) (lt_s (p := fun i => ∀ w ∈ txW i, w ∈ nwl) (lt_s (p := fun i => ∀ w ∈ txW i, w ∈ nwl) (lt_s (p := fun i => ∀ w ∈ txW i, w ∈ nwl) (lt_s (p := fun i => ∀ w ∈ txW i, w ∈ nwl) (lt_s (p := fun i => ∀ w ∈ txW i, w ∈ nwl) (lt_s (p := fun i => ∀ w ∈ txW i, w ∈ nwl) (lt_s (p := fun i => ∀ w ∈ txW i, w ∈ nwl) (lt_s (p := fun i => ∀ w ∈ txW i, w ∈ nwl) (lt_0) (fun w hw => mem_dt (txE_0 ▸ hw))) (fun w hw => mem_dt (txE_1 ▸ hw))) (fun w hw => mem_dt (txE_2 ▸ hw))) (fun w hw => mem_dt (txE_3 ▸ hw))) (fun w hw => mem_dt (txE_4 ▸ hw))) (fun w hw => mem_dt (txE_5 ▸ hw))) (fun w hw => mem_dt (txE_6 ▸ hw))) (fun w hw => mem_dt (txE_7 ▸ hw))) (fun w hw => mem_dt (txE_8 ▸ hw))) (fun w hw => mem_dt (txE_9 ▸ hw))) (fun w hw => mem_dt (txE_10 ▸ hw))) (fun w hw => mem_dt (txE_11 ▸ hw))) (fun w hw => mem_dt (txE_12 ▸ hw))) (fun w hw => mem_dt (txE_13 ▸ hw))) (fun w hw => mem_dt (txE_14 ▸ hw))) (fun w hw => mem_dt (txE_15 ▸ hw))) (fun w hw => mem_dt (txE_16 ▸ hw))
theorem zs_ok : (decide (Cond.laysStatic "java/lang/String" "COMPACT_STRINGS" "Z" ∈ lw_tbl) && (decide (Cond.initialized "java/lang/String" ∈ lw_tbl) && decide (Cond.eq (.static "java/lang/String" "COMPACT_STRINGS" "Z") (.int 1) ∈ nwl))) = true := by decide +kernel
theorem zq_ok : ([("jdk/internal/util/Preconditions", "SIOOBE_FORMATTER", "Ljava/util/function/BiFunction;"), (Bundle.tN, "UNASSIGNED_STACK", Bundle.steD), (Bundle.tN, "SUPPRESSED_SENTINEL", Bundle.listD)] : List (String × String × String)).all (fun x => decide (Cond.laysStatic x.1 x.2.1 x.2.2 ∈ lw_tbl) && (decide (Cond.initialized x.1 ∈ lw_tbl) && decide (Cond.isRef (.static x.1 x.2.1 x.2.2) ∈ nwl))) = true := by decide +kernel
theorem sdf_ok : (List.range 17).all (fun i => (List.range 17).all (fun j => Nat.beq i j || (!(Nat.beq (slen.getD i 0) (slen.getD j 0)) || (List.range (slen.getD i 0)).any (fun k => decide ((sbyt.getD i []).getD k 0 ≠ (sbyt.getD j []).getD k 0))))) = true := by decide +kernel
def dgT : Term := .static "java/lang/Integer" "DigitOnes" "[B"
def dgW : List Cond := .arrayOf dgT .byte :: .eq (.length dgT) (.int 100) :: (List.range 100).map (fun j => .eq (.elem dgT (.int (Int32.ofNat j))) (.int (sta 1000014 j)))
theorem dg_ok : (decide (Cond.laysStatic "java/lang/Integer" "DigitOnes" "[B" ∈ lw_tbl) && (decide (Cond.initialized "java/lang/Integer" ∈ lw_tbl) && (decide (Cond.superclass "java/lang/StringBuilder" "java/lang/AbstractStringBuilder" ∈ lw_tbl) && [nm 367, nm 369, nm 372].all (fun y => decide (Cond.privateMethod y ∈ lw_tbl) && (decide (Cond.instanceMethod y ∈ lw_tbl) && decide (Cond.sameMethod y.cls y.cls "isLatin1" "()Z" ∈ lw_tbl)))))) = true := by decide +kernel
theorem dgE : (nwl.drop 28).take 102 = dgW := by decide +kernel
theorem dg_all : ∀ w ∈ dgW, w ∈ nwl := fun w hw => mem_dt (by rw [dgE]; exact hw)
theorem pS_tx : pS.all (fun e => pTx.any (fun x => Nat.beq x.1 e.1 && Nat.beq x.2.1 e.2.1)) = true := by decide +kernel
theorem pS_9 : pS.all (fun e => !(Nat.beq e.1 9 || Nat.beq e.1 12) || (List.range 17).any (fun i => decide (stq.getD i (0, 0) = (e.1, e.2.1)) && Nat.beq e.2.2.1 (stp i))) = true := by decide +kernel
theorem ac_get {s : State} {a : Array Value} {ty : FieldType} (h : (Cond.arrayClass ty).before a s = true) (hp : ∀ C, ty ≠ .object C) : ∃ c, ArrOfT s c ty ∧ va_RA s c ty := by
  obtain ⟨c, k, comp, h1, h2, h3⟩ := Cond.arrayClass_spec (first := s) (o := none) (idx := []) h
  refine ⟨c, fun N z => ⟨(fun k h => by cases h), k, h2, comp, h3⟩, ?_⟩
  cases ty with
  | object C => exact (hp C rfl).elim
  | _ => exact h1
theorem ao_get {s : State} {a : Array Value} {C : String} (h : (Cond.arrayOver (.object C)).before a s = true) : ∃ c, ArrOfT s c (.object C) ∧ va_RA s c (.object C) := by
  obtain ⟨comp, c, k, h1, -, h3, h4, h5⟩ := Cond.arrayOver_spec (first := s) (o := none) (idx := []) h
  exact ⟨c, fun N z => ⟨(fun k h => by cases h), k, h3, comp, h4⟩, k, comp, h3, h4, h1, h5⟩
theorem aa_get {s : State} {a : Array Value} {ty : FieldType} (h : (Cond.arrayOver (.array ty)).before a s = true) : ∃ c, ArrOfT s c (.array ty) ∧ va_RA s c (.array ty) := by
  obtain ⟨comp, c, k, h1, -, h3, h4, h5⟩ := aoa_spec (s := s) h
  exact ⟨c, fun N z => ⟨(fun k h => by cases h), k, h3, comp, h4⟩, h5⟩
theorem slen_lt : (List.range 17).all (fun i => Nat.ble (slen.getD i 0) 1000) = true := by decide +kernel
theorem fd_1 : ∀ i, i < 17 → (List.range 17).find? (fun k => Nat.beq (stp k) (stp i)) = some i := by decide +kernel
theorem fd_2 : ∀ i, i < 17 → (List.range 17).find? (fun k => Nat.beq (stp k) (stp i + 10)) = none := by decide +kernel
theorem fd_3 : ∀ i, i < 17 → (List.range 17).find? (fun k => Nat.beq (stp k + 10) (stp i + 10)) = some i := by decide +kernel
theorem fd_5 : (List.range 17).find? (fun k => Nat.beq (stp k) 1000014) = none ∧ (List.range 17).find? (fun k => Nat.beq (stp k + 10) 1000014) = none := by decide +kernel
theorem fd_4 : ∀ i, i < 3 → (List.range 17).find? (fun k => Nat.beq (stp k) (1000011 + i)) = none ∧ (List.range 17).find? (fun k => Nat.beq (stp k + 10) (1000011 + i)) = none := by decide +kernel
theorem val_inj {len : List Nat} {byt : List (List Int32)} {N : Nat} {adK adV : Nat → Nat} {A : Nat → Prop} {s : State} {H : Heap} (hl : ∀ i, i < N → len.getD i 0 < 2 ^ 31)
    (h : ∀ i : Nat, i < N → va_O "java/lang/String" (adK i) A s H ∧ va_OF "java/lang/String" "coder" "B" (.int 0) (adK i) A s H ∧ va_OF "java/lang/String" "value" "[B" (.ref (adV i)) (adK i) A s H ∧ va_T .byte (adV i) (len.getD i 0) (fun j => .int ((byt.getD i []).getD j 0)) A s H)
    (hd : ∀ i j, i < N → j < N → i ≠ j → len.getD i 0 ≠ len.getD j 0 ∨ ∃ k, k < len.getD i 0 ∧ (byt.getD i []).getD k 0 ≠ (byt.getD j []).getD k 0) : ∀ i j : Nat, i < N → j < N → adK i = adK j → i = j := by
  intro i j hi hj he
  by_cases hij : i = j
  · exact hij
  exfalso
  obtain ⟨-, -, ⟨c1, k1, x1, f1, cell1, a1, a2, a3, a4, a5, a6⟩, T1⟩ := h i hi
  obtain ⟨-, -, ⟨c2, k2, x2, f2, cell2, b1, b2, b3, b4, b5, b6⟩, T2⟩ := h j hj
  rw [a1] at b1
  cases b1
  rw [he, b3] at a3
  cases a3
  rw [a5] at b5
  injection b5 with b5
  injection b5 with e9
  obtain ⟨cl1, p1, -, -, p4, p5, p6, -⟩ := T1
  obtain ⟨cl2, r1, -, -, r4, r5, r6, -⟩ := T2
  have e8 : adV i = adV j := by first | exact e9 | exact e9.symm | rfl
  rw [e8, r1] at p1
  cases p1
  have hz : len.getD i 0 = len.getD j 0 := by
    have e := r5.symm.trans p5
    have q1 := congrArg Int32.toNatClampNeg e
    rw [Int32.toNatClampNeg_ofNat_of_lt (hl j hj), Int32.toNatClampNeg_ofNat_of_lt (hl i hi)] at q1
    exact q1.symm
  rcases hd i j hi hj hij with q | ⟨k, hk, q⟩
  · exact q hz
  · have v1 := p6 k hk
    have v2 := r6 k (by rw [← hz]; exact hk)
    rw [v1] at v2
    injection v2 with v2
    injection v2 with v2
    exact q v2
theorem va_strR {own tx : String} {k a : Nat} {A : Array Value} {U : State} (h1 : (Cond.stringRef own k tx).before A U = true) (h2 : (Term.string own k).eval A U none [] U = some (.ref a)) : vk_R own k tx a U := vk_R.of h1 h2
theorem gs_start {p : Program} {s : State} {m : MethodId} {meth : Method} {c : Code} {b L : Nat} {xs : Nat → Int32} (C0 : lw_At p s m meth c b L xs) :
    ∃ (D : va_G) (cA : Nat → ClassId) (sp : Nat → Nat), sp iSCR = b ∧ GS D cA (fun q => s.heap.size ≤ q) sp L xs s s.heap := by
  obtain ⟨hx, hb, hr, hml, hown, hts, hX, hbl, hlocks, hgv⟩ := C0
  have hA : ∀ q : Nat, q < s.heap.size → ¬ (fun q : Nat => s.heap.size ≤ q) q := fun q hq => Nat.not_le.mpr hq
  have hn : ∀ w ∈ nwl, w.before #[Value.ref b] s = true := flat_of_before _ hgv
  -- classes
  have hcls : ∀ c : Nat, ∃ q : ClassId × (Nat → Nat), c < 15 → u_Kn s (clq c).1 (clq c).2.1 (clq c).2.2 q.1 q.2 := by
    intro c
    by_cases hc : c < 15
    · obtain ⟨cC, iS, h⟩ := u_known (C := (clq c).1) (T := (clq c).2.1) (N := (clq c).2.2) (n := nfl c) hts (fun w hw => (List.mem_filter.mp (u_in hc w hw)).1) (hts _ (of_decide_eq_true (List.all_eq_true.mp iw_ok c (List.mem_range.mpr hc))))
      exact ⟨(cC, iS), fun _ => h⟩
    · exact ⟨(0, fun _ => 0), fun h => absurd h hc⟩
  obtain ⟨dd, hdd⟩ := Classical.axiomOfChoice hcls
  -- array classes
  have hac : ∀ ty ∈ ([.int, .boolean, .char, .long, .byte] : List FieldType), ∃ c, ArrOfT s c ty ∧ va_RA s c ty := fun ty ht => ac_get (hts _ (of_decide_eq_true (List.all_eq_true.mp ac_ok ty ht))) (fun C e => by
    simp only [List.mem_cons, List.not_mem_nil, or_false] at ht
    rcases ht with h | h | h | h | h <;> rw [h] at e <;> cases e)
  have hao : ∀ ty ∈ ([.object "GlacierBook$Page", .array .int, .array .long, .array .boolean, .object "java/lang/String"] : List FieldType), (Cond.arrayOver ty).before #[Value.ref b] s = true := fun ty ht => hts _ (of_decide_eq_true (List.all_eq_true.mp aov_ok ty ht))
  have o1 := hao (.object "GlacierBook$Page") (by simp)
  have o2 := hao (.array .int) (by simp)
  have o3 := hao (.array .long) (by simp)
  have o4 := hao (.array .boolean) (by simp)
  have o5 := hao (.object "java/lang/String") (by simp)
  obtain ⟨a20, h20⟩ := hac .int (by simp)
  obtain ⟨a21, h21⟩ := hac .boolean (by simp)
  obtain ⟨a22, h22⟩ := hac .char (by simp)
  obtain ⟨a23, h23⟩ := hac .long (by simp)
  obtain ⟨a29, h29⟩ := hac .byte (by simp)
  obtain ⟨a25, h25⟩ := ao_get o1
  obtain ⟨a26, h26⟩ := aa_get o2
  obtain ⟨a27, h27⟩ := aa_get o3
  obtain ⟨a28, h28⟩ := aa_get o4
  obtain ⟨a30, h30⟩ := ao_get o5
  -- static rows
  have hrow : ∀ i : Nat, ∃ t : Nat, i < 3 → va_Z (stn (1000011 + i)).1 (stn (1000011 + i)).2.1 (stn (1000011 + i)).2.2 (.ref t) (fun q => s.heap.size ≤ q) s s.heap ∧ va_T .int t (ssp (1000011 + i)).2 (fun j => .int (sta (1000011 + i) j)) (fun q => s.heap.size ≤ q) s s.heap := by
    intro i
    by_cases hi : i < 3
    · have h := List.all_eq_true.mp sr_ok i (List.mem_range.mpr hi)
      simp only [Bool.and_eq_true, decide_eq_true_eq] at h
      obtain ⟨w1, w2, w3, w4, w5⟩ := h
      have hz : (ssp (1000011 + i)).2 < 2 ^ 31 := by
        rcases (show i = 0 ∨ i = 1 ∨ i = 2 by omega) with rfl | rfl | rfl <;> decide
      obtain ⟨t, ht, hT⟩ := va_Tof (f := fun j => .int (sta (1000011 + i) j)) hz (hn _ w3) (va_eqt (hn _ w4)) (fun j hj => va_eqt (hn _ (of_decide_eq_true (List.all_eq_true.mp w5 j (List.mem_range.mpr hj))))) hA
      exact ⟨t, fun _ => ⟨va_Zref (hts _ w1) (hts _ w2) ht hA, hT⟩⟩
    · exact ⟨0, fun h => absurd h hi⟩
  obtain ⟨rw9, hrw⟩ := Classical.axiomOfChoice hrow
  -- texts
  have hst : ∀ i : Nat, ∃ q : Nat × Nat, i < 17 → (stm i).eval #[Value.ref b] s none [] s = some (.ref q.1) ∧ va_O "java/lang/String" q.1 (fun q => s.heap.size ≤ q) s s.heap ∧ va_OF "java/lang/String" "coder" "B" (.int 0) q.1 (fun q => s.heap.size ≤ q) s s.heap ∧ va_OF "java/lang/String" "value" "[B" (.ref q.2) q.1 (fun q => s.heap.size ≤ q) s s.heap ∧ va_T .byte q.2 (slen.getD i 0) (fun j => .int ((sbyt.getD i []).getD j 0)) (fun q => s.heap.size ≤ q) s s.heap := by
    intro i
    by_cases hi : i < 17
    · have h := st_all i hi
      have w1 := h _ (List.mem_cons_self)
      have w2 := h _ (List.mem_cons_of_mem _ List.mem_cons_self)
      have w3 := h _ (List.mem_cons_of_mem _ (List.mem_cons_of_mem _ List.mem_cons_self))
      have w4 := h _ (List.mem_cons_of_mem _ (List.mem_cons_of_mem _ (List.mem_cons_of_mem _ List.mem_cons_self)))
      have w5 := fun j (hj : j < slen.getD i 0) => h _ (List.mem_cons_of_mem _ (List.mem_cons_of_mem _ (List.mem_cons_of_mem _ (List.mem_cons_of_mem _ (List.mem_map.mpr ⟨j, List.mem_range.mpr hj, rfl⟩)))))
      have hz : slen.getD i 0 < 2 ^ 31 := by
        have := Nat.ble_eq.mp (List.all_eq_true.mp slen_lt i (List.mem_range.mpr hi)); omega
      obtain ⟨a, c, cA, kA, q1, q2, q3, q4, q5, q6, -⟩ := Cond.exactly_spec (args := #[Value.ref b]) (first := s) (o := none) (s := s) (idx := []) (t := stm i) (cls := "java/lang/String") (hn _ w1)
      obtain ⟨t, ht, hT⟩ := va_Tof (f := fun j => .int ((sbyt.getD i []).getD j 0)) (A := fun q => s.heap.size ≤ q) hz (hn _ w3) (va_eqt (hn _ w4)) (fun j hj => va_eqt (hn _ (w5 j hj))) hA
      exact ⟨(a, t), fun _ => ⟨q1, ⟨cA, q3, q5, by rw [q6]; exact q2, hA a (Array.getElem?_eq_some_iff.mp q3).1⟩, vk_OFof q1 (va_eqt (hn _ w2)) hA, vk_OFof q1 ht hA, hT⟩⟩
    · exact ⟨(0, 0), fun h => absurd h hi⟩
  obtain ⟨st9, hst⟩ := Classical.axiomOfChoice hst
  have hz : ∀ i, i < 17 → slen.getD i 0 < 2 ^ 31 := by
    intro i hi
    have := Nat.ble_eq.mp (List.all_eq_true.mp slen_lt i (List.mem_range.mpr hi)); omega
  have hdif : ∀ i j, i < 17 → j < 17 → i ≠ j → slen.getD i 0 ≠ slen.getD j 0 ∨ ∃ k, k < slen.getD i 0 ∧ (sbyt.getD i []).getD k 0 ≠ (sbyt.getD j []).getD k 0 := by
    intro i j hi hj hij
    have h := List.all_eq_true.mp (List.all_eq_true.mp sdf_ok i (List.mem_range.mpr hi)) j (List.mem_range.mpr hj)
    simp only [Bool.or_eq_true, Bool.not_eq_true', List.any_eq_true, List.mem_range, decide_eq_true_eq] at h
    rcases h with h | h | ⟨k, hk, h⟩
    · exact absurd (beq_e h) hij
    · exact Or.inl (fun e => by rw [e] at h; simp at h)
    · exact Or.inr ⟨k, hk, h⟩
  have hinj := val_inj (adK := fun i => (st9 i).1) (adV := fun i => (st9 i).2) hz (fun i hi => (hst i hi).2) hdif
  obtain ⟨dg9, hdg, hdT⟩ : ∃ dg9 : Nat, va_Z "java/lang/Integer" "DigitOnes" "[B" (.ref dg9) (fun q => s.heap.size ≤ q) s s.heap ∧ va_T .byte dg9 100 (fun j => .int (sta 1000014 j)) (fun q => s.heap.size ≤ q) s s.heap := by
    have h := dg_ok
    simp only [Bool.and_eq_true, decide_eq_true_eq] at h
    have w3 := dg_all _ List.mem_cons_self
    have w4 := dg_all _ (List.mem_cons_of_mem _ List.mem_cons_self)
    have w5 := fun j (hj : j < 100) => dg_all _ (List.mem_cons_of_mem _ (List.mem_cons_of_mem _ (List.mem_map.mpr ⟨j, List.mem_range.mpr hj, rfl⟩)))
    obtain ⟨t, ht, hT⟩ := va_Tof (f := fun j => .int (sta 1000014 j)) (N := 100) (by decide) (hn _ w3) (va_eqt (hn _ w4)) (fun j hj => va_eqt (hn _ (w5 j hj))) hA
    exact ⟨t, va_Zref (hts _ h.1) (hts _ h.2.1) ht hA, hT⟩
  obtain ⟨sp, hsp⟩ : ∃ sp : Nat → Nat, sp = fun q => if q = iSCR then b else match (List.range 17).find? (fun k => Nat.beq (stp k) q) with
      | some i => (st9 i).1
      | none => match (List.range 17).find? (fun k => Nat.beq (stp k + 10) q) with
        | some i => (st9 i).2
        | none => if q = 1000014 then dg9 else rw9 (q - 1000011) := ⟨_, rfl⟩
  have s1 : sp iSCR = b := by rw [hsp]; exact if_pos rfl
  have s2 : ∀ i, i < 3 → sp (1000011 + i) = rw9 i := by
    intro i hi
    rw [hsp]
    dsimp only
    rw [if_neg (by show 1000011 + i ≠ 1000002; omega), (fd_4 i hi).1, (fd_4 i hi).2]
    rw [if_neg (by omega)]
    exact congrArg rw9 (Nat.add_sub_cancel_left ..)
  have s3 : ∀ i, i < 17 → sp (stp i) = (st9 i).1 := by
    intro i hi
    have hb9 := stp_b hi
    rw [hsp]
    dsimp only
    rw [if_neg (by show stp i ≠ 1000002; omega), fd_1 i hi]
  have s4 : ∀ i, i < 17 → sp (stp i + 10) = (st9 i).2 := by
    intro i hi
    have hb9 := stp_b hi
    rw [hsp]
    dsimp only
    rw [if_neg (by show stp i + 10 ≠ 1000002; omega), fd_2 i hi, fd_3 i hi]
  have s5 : sp 1000014 = dg9 := by
    rw [hsp]
    dsimp only
    rw [if_neg (by decide), fd_5.1, fd_5.2]
    exact if_pos rfl
  have hSB : SBG sp (fun q => s.heap.size ≤ q) s s.heap := by
    have h := dg_ok
    simp only [Bool.and_eq_true, decide_eq_true_eq] at h
    obtain ⟨-, -, h3, h4⟩ := h
    refine ⟨⟨hts _ h3, fun y hy => ?_⟩, by rw [s5]; exact hdg, by rw [s5]; exact hdT⟩
    have h5 := List.all_eq_true.mp h4 y hy
    simp only [Bool.and_eq_true, decide_eq_true_eq] at h5
    have hk : y.cls ≠ "java/lang/invoke/MethodHandle" ∧ y.cls ≠ "java/lang/invoke/VarHandle" := by
      simp only [List.mem_cons, List.not_mem_nil, or_false] at hy
      rcases hy with rfl | rfl | rfl <;> decide
    exact sel_priv hk (hts _ (of_decide_eq_true (List.all_eq_true.mp iw_ok 14 (List.mem_range.mpr (by decide))))) (hts _ h5.2.2) (hts _ h5.1) (hts _ h5.2.1)
  obtain ⟨cA, hcA⟩ : ∃ cA : Nat → ClassId, cA = fun k => match k with | 20 => a20 | 21 => a21 | 22 => a22 | 23 => a23 | 29 => a29 | 25 => a25 | 26 => a26 | 27 => a27 | 28 => a28 | _ => a30 := ⟨_, rfl⟩
  refine ⟨(fun c => (dd c).1, fun c => (dd c).2), cA, sp, s1, ⟨fun c q hq => ?_, fun k q hq => ?_⟩, fun _ => ⟨by rw [s1]; exact hX, by rw [s1]; exact hbl, by rw [s1]; exact Nat.not_le.mpr hbl⟩, fun i hi => ?_, ?_, ⟨fun i hi => ?_, fun i j hi hj he => ?_⟩, fun e he h9 => ?_, fun e he h9 => ?_, ⟨?_, ?_, fun w hw => ?_, va_AO.of o1, o2, o3, fun e he => ?_, o4, va_AO.of o5, hSB⟩, fun E F hE hF hne => ?_, ?_, fun q hq => hq⟩
  · by_cases hc : c < 15
    · rw [clsv_at c hc] at hq
      cases hq
      exact hdd c hc
    · have : clsv.length ≤ c := by show 15 ≤ c; omega
      rw [List.getElem?_eq_none this] at hq
      cases hq
  · rw [hcA] at hq
    match k, hq with
    | 0, hq => cases hq; exact h20
    | 1, hq => cases hq; exact h21
    | 2, hq => cases hq; exact h22
    | 3, hq => cases hq; exact h23
    | 4, hq => cases hq; exact h29
    | 5, hq => cases hq; exact h25
    | 6, hq => cases hq; exact h26
    | 7, hq => cases hq; exact h27
    | 8, hq => cases hq; exact h28
    | 9, hq => cases hq; exact h30
    | k + 10, hq => simp [tyl] at hq
  · rw [s2 i hi]
    exact hrw i hi
  · have h := zs_ok
    simp only [Bool.and_eq_true, decide_eq_true_eq] at h
    exact va_Zof (hts _ h.1) (hts _ h.2.1) (va_eqt (hn _ h.2.2)) hA
  · dsimp only
    rw [s3 i hi, s4 i hi]
    exact (hst i hi).2
  · dsimp only at he
    rw [s3 i hi, s3 j hj] at he
    exact hinj i j hi hj he
  · have h1 := List.all_eq_true.mp pS_tx e he
    obtain ⟨x, hx9, h1⟩ := List.any_eq_true.mp h1
    rw [Bool.and_eq_true] at h1
    have h2 := List.all_eq_true.mp pS_9 e he
    rw [Bool.or_eq_true] at h2
    have h2 := h2.resolve_left (fun z => by
      rcases h9 with h9 | h9 <;> rw [h9] at z <;> cases z)
    obtain ⟨i, hi, h2⟩ := List.any_eq_true.mp h2
    have hi := List.mem_range.mp hi
    obtain ⟨h2, h3⟩ := Bool.and_eq_true_iff.mp h2
    have h4 := List.all_eq_true.mp tx_ok x hx9
    simp only [Bool.and_eq_true, decide_eq_true_eq] at h4
    refine ⟨x.2.2, ?_⟩
    have k1 := beq_e h1.1
    have k2 := beq_e h1.2
    have k3 := of_decide_eq_true h2
    have k4 := beq_e h3
    rw [k1, k2] at h4
    rw [k4, s3 i hi]
    refine va_strR (hts _ h4.1) ?_
    have e7 := (hst i hi).1
    unfold stm at e7
    rw [k3] at e7
    exact e7
  · have h4 := List.all_eq_true.mp tx_ok e he
    simp only [Bool.and_eq_true, decide_eq_true_eq] at h4
    rw [h9] at h4
    obtain ⟨a, c, cA9, kA, q1, -⟩ := Cond.exactly_spec (args := #[Value.ref b]) (first := s) (o := none) (s := s) (idx := []) (cls := "java/lang/String") (hn _ h4.2)
    exact ⟨a, va_strR (hts _ h4.1) q1⟩
  · have h := List.all_eq_true.mp zq_ok (Bundle.tN, "UNASSIGNED_STACK", Bundle.steD) (by simp)
    simp only [Bool.and_eq_true, decide_eq_true_eq] at h
    exact vx_Zqof (hts _ h.1) (hts _ h.2.1) (hn _ h.2.2) hA
  · have h := List.all_eq_true.mp zq_ok (Bundle.tN, "SUPPRESSED_SENTINEL", Bundle.listD) (by simp)
    simp only [Bool.and_eq_true, decide_eq_true_eq] at h
    exact vx_Zqof (hts _ h.1) (hts _ h.2.1) (hn _ h.2.2) hA
  · exact va_tabs (bw_tab w hw) rfl (hts _ (of_decide_eq_true (List.all_eq_true.mp bw_ok w hw)))
  · exact va_Nw.of rfl (hts _ (of_decide_eq_true (List.all_eq_true.mp pn_ok e he)))
  · have h := List.all_eq_true.mp (List.all_eq_true.mp nc_ok E (List.mem_range.mpr hE)) F (by rcases hF with rfl | rfl <;> simp)
    rw [Bool.or_eq_true] at h
    rcases h with h | h
    · exact absurd (beq_e h) hne
    · exact va_Nc.of (hn _ (of_decide_eq_true h))
  · have h := List.all_eq_true.mp zq_ok ("jdk/internal/util/Preconditions", "SIOOBE_FORMATTER", "Ljava/util/function/BiFunction;") (by simp)
    simp only [Bool.and_eq_true, decide_eq_true_eq] at h
    exact va_Zqof (hts _ h.1) (hts _ h.2.1) (hn _ h.2.2) hA
