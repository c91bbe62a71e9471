def dcB (μ pc : Nat) : Bool := match cins μ pc with
  | none => true
  | some e => decide (decode (byt μ) pc = .ok (e.1, e.2.1))
theorem dcB_O {μ pc : Nat} (h : dcB μ pc = true) : dcO μ pc := by
  unfold dcB at h
  unfold dcO
  cases hc : cins μ pc with
  | none => trivial
  | some e => rw [hc] at h; exact of_decide_eq_true h
theorem ddl_0 : (List.range 100).all (fun j => dcB 309 (0 + j)) = true := by decide +kernel
theorem ddl_100 : (List.range 100).all (fun j => dcB 309 (100 + j)) = true := by decide +kernel
theorem ddl_200 : (List.range 100).all (fun j => dcB 309 (200 + j)) = true := by decide +kernel
theorem ddl_300 : (List.range 100).all (fun j => dcB 309 (300 + j)) = true := by decide +kernel
theorem ddl_400 : (List.range 100).all (fun j => dcB 309 (400 + j)) = true := by decide +kernel
theorem ddl_500 : (List.range 100).all (fun j => dcB 309 (500 + j)) = true := by decide +kernel
theorem ddl_600 : (List.range 100).all (fun j => dcB 309 (600 + j)) = true := by decide +kernel
theorem ddl_700 : (List.range 100).all (fun j => dcB 309 (700 + j)) = true := by decide +kernel
theorem ddl_800 : (List.range 100).all (fun j => dcB 309 (800 + j)) = true := by decide +kernel
theorem ddl_900 : (List.range 100).all (fun j => dcB 309 (900 + j)) = true := by decide +kernel
theorem ddl_1000 : (List.range 100).all (fun j => dcB 309 (1000 + j)) = true := by decide +kernel
