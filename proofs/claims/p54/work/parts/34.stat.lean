/-! the static methods' words -/
theorem okQ_0 : (List.range 20).all (fun j => !(rl2 (0 + j)) || (Nat.beq (0 + j) 358 || (Nat.beq (wix (0 + j)).2.1 0 || inWb (wix (0 + j)).2.1 (.static (nm (0 + j)))))) = true := by decide +kernel
theorem okQ_20 : (List.range 20).all (fun j => !(rl2 (20 + j)) || (Nat.beq (20 + j) 358 || (Nat.beq (wix (20 + j)).2.1 0 || inWb (wix (20 + j)).2.1 (.static (nm (20 + j)))))) = true := by decide +kernel
theorem okQ_40 : (List.range 20).all (fun j => !(rl2 (40 + j)) || (Nat.beq (40 + j) 358 || (Nat.beq (wix (40 + j)).2.1 0 || inWb (wix (40 + j)).2.1 (.static (nm (40 + j)))))) = true := by decide +kernel
theorem okQ_60 : (List.range 20).all (fun j => !(rl2 (60 + j)) || (Nat.beq (60 + j) 358 || (Nat.beq (wix (60 + j)).2.1 0 || inWb (wix (60 + j)).2.1 (.static (nm (60 + j)))))) = true := by decide +kernel
theorem okQ_80 : (List.range 20).all (fun j => !(rl2 (80 + j)) || (Nat.beq (80 + j) 358 || (Nat.beq (wix (80 + j)).2.1 0 || inWb (wix (80 + j)).2.1 (.static (nm (80 + j)))))) = true := by decide +kernel
theorem okQ_100 : (List.range 20).all (fun j => !(rl2 (100 + j)) || (Nat.beq (100 + j) 358 || (Nat.beq (wix (100 + j)).2.1 0 || inWb (wix (100 + j)).2.1 (.static (nm (100 + j)))))) = true := by decide +kernel
theorem okQ_120 : (List.range 20).all (fun j => !(rl2 (120 + j)) || (Nat.beq (120 + j) 358 || (Nat.beq (wix (120 + j)).2.1 0 || inWb (wix (120 + j)).2.1 (.static (nm (120 + j)))))) = true := by decide +kernel
theorem okQ_140 : (List.range 20).all (fun j => !(rl2 (140 + j)) || (Nat.beq (140 + j) 358 || (Nat.beq (wix (140 + j)).2.1 0 || inWb (wix (140 + j)).2.1 (.static (nm (140 + j)))))) = true := by decide +kernel
theorem okQ_160 : (List.range 20).all (fun j => !(rl2 (160 + j)) || (Nat.beq (160 + j) 358 || (Nat.beq (wix (160 + j)).2.1 0 || inWb (wix (160 + j)).2.1 (.static (nm (160 + j)))))) = true := by decide +kernel
theorem okQ_180 : (List.range 20).all (fun j => !(rl2 (180 + j)) || (Nat.beq (180 + j) 358 || (Nat.beq (wix (180 + j)).2.1 0 || inWb (wix (180 + j)).2.1 (.static (nm (180 + j)))))) = true := by decide +kernel
theorem okQ_200 : (List.range 20).all (fun j => !(rl2 (200 + j)) || (Nat.beq (200 + j) 358 || (Nat.beq (wix (200 + j)).2.1 0 || inWb (wix (200 + j)).2.1 (.static (nm (200 + j)))))) = true := by decide +kernel
theorem okQ_220 : (List.range 20).all (fun j => !(rl2 (220 + j)) || (Nat.beq (220 + j) 358 || (Nat.beq (wix (220 + j)).2.1 0 || inWb (wix (220 + j)).2.1 (.static (nm (220 + j)))))) = true := by decide +kernel
theorem okQ_240 : (List.range 20).all (fun j => !(rl2 (240 + j)) || (Nat.beq (240 + j) 358 || (Nat.beq (wix (240 + j)).2.1 0 || inWb (wix (240 + j)).2.1 (.static (nm (240 + j)))))) = true := by decide +kernel
theorem okQ_260 : (List.range 20).all (fun j => !(rl2 (260 + j)) || (Nat.beq (260 + j) 358 || (Nat.beq (wix (260 + j)).2.1 0 || inWb (wix (260 + j)).2.1 (.static (nm (260 + j)))))) = true := by decide +kernel
theorem okQ_280 : (List.range 20).all (fun j => !(rl2 (280 + j)) || (Nat.beq (280 + j) 358 || (Nat.beq (wix (280 + j)).2.1 0 || inWb (wix (280 + j)).2.1 (.static (nm (280 + j)))))) = true := by decide +kernel
theorem okQ_300 : (List.range 20).all (fun j => !(rl2 (300 + j)) || (Nat.beq (300 + j) 358 || (Nat.beq (wix (300 + j)).2.1 0 || inWb (wix (300 + j)).2.1 (.static (nm (300 + j)))))) = true := by decide +kernel
theorem okQ_320 : (List.range 20).all (fun j => !(rl2 (320 + j)) || (Nat.beq (320 + j) 358 || (Nat.beq (wix (320 + j)).2.1 0 || inWb (wix (320 + j)).2.1 (.static (nm (320 + j)))))) = true := by decide +kernel
theorem okQ_340 : (List.range 20).all (fun j => !(rl2 (340 + j)) || (Nat.beq (340 + j) 358 || (Nat.beq (wix (340 + j)).2.1 0 || inWb (wix (340 + j)).2.1 (.static (nm (340 + j)))))) = true := by decide +kernel
theorem okQ_360 : (List.range 20).all (fun j => !(rl2 (360 + j)) || (Nat.beq (360 + j) 358 || (Nat.beq (wix (360 + j)).2.1 0 || inWb (wix (360 + j)).2.1 (.static (nm (360 + j)))))) = true := by decide +kernel
theorem okQ_380 : (List.range 1).all (fun j => !(rl2 (380 + j)) || (Nat.beq (380 + j) 358 || (Nat.beq (wix (380 + j)).2.1 0 || inWb (wix (380 + j)).2.1 (.static (nm (380 + j)))))) = true := by decide +kernel
theorem okQ_all : ∀ μ, rl2 μ = true → μ = 358 ∨ (Nat.beq (wix μ).2.1 0 || inWb (wix μ).2.1 (.static (nm μ))) = true := by
  intro μ hμ
  have hl := rl2_lt hμ
  have key : ∀ (k c : Nat), (List.range c).all (fun j => !(rl2 (k + j)) || (Nat.beq (k + j) 358 || (Nat.beq (wix (k + j)).2.1 0 || inWb (wix (k + j)).2.1 (.static (nm (k + j)))))) = true → k ≤ μ → μ < k + c → μ = 358 ∨ (Nat.beq (wix μ).2.1 0 || inWb (wix μ).2.1 (.static (nm μ))) = true := by
    intro k c hh h1 h2
    have h3 := List.all_eq_true.mp hh (μ - k) (List.mem_range.mpr (by omega))
    rw [show k + (μ - k) = μ by omega, hμ, Bool.not_true, Bool.false_or] at h3
    exact nlaw h3 id
  rcases Nat.lt_or_ge μ 20 with q20 | q20
  · exact key 0 20 okQ_0 (by omega) (by omega)
  rcases Nat.lt_or_ge μ 40 with q40 | q40
  · exact key 20 20 okQ_20 (by omega) (by omega)
  rcases Nat.lt_or_ge μ 60 with q60 | q60
  · exact key 40 20 okQ_40 (by omega) (by omega)
  rcases Nat.lt_or_ge μ 80 with q80 | q80
  · exact key 60 20 okQ_60 (by omega) (by omega)
  rcases Nat.lt_or_ge μ 100 with q100 | q100
  · exact key 80 20 okQ_80 (by omega) (by omega)
  rcases Nat.lt_or_ge μ 120 with q120 | q120
  · exact key 100 20 okQ_100 (by omega) (by omega)
  rcases Nat.lt_or_ge μ 140 with q140 | q140
  · exact key 120 20 okQ_120 (by omega) (by omega)
  rcases Nat.lt_or_ge μ 160 with q160 | q160
  · exact key 140 20 okQ_140 (by omega) (by omega)
  rcases Nat.lt_or_ge μ 180 with q180 | q180
  · exact key 160 20 okQ_160 (by omega) (by omega)
  rcases Nat.lt_or_ge μ 200 with q200 | q200
  · exact key 180 20 okQ_180 (by omega) (by omega)
  rcases Nat.lt_or_ge μ 220 with q220 | q220
  · exact key 200 20 okQ_200 (by omega) (by omega)
  rcases Nat.lt_or_ge μ 240 with q240 | q240
  · exact key 220 20 okQ_220 (by omega) (by omega)
  rcases Nat.lt_or_ge μ 260 with q260 | q260
  · exact key 240 20 okQ_240 (by omega) (by omega)
  rcases Nat.lt_or_ge μ 280 with q280 | q280
  · exact key 260 20 okQ_260 (by omega) (by omega)
  rcases Nat.lt_or_ge μ 300 with q300 | q300
  · exact key 280 20 okQ_280 (by omega) (by omega)
  rcases Nat.lt_or_ge μ 320 with q320 | q320
  · exact key 300 20 okQ_300 (by omega) (by omega)
  rcases Nat.lt_or_ge μ 340 with q340 | q340
  · exact key 320 20 okQ_320 (by omega) (by omega)
  rcases Nat.lt_or_ge μ 360 with q360 | q360
  · exact key 340 20 okQ_340 (by omega) (by omega)
  rcases Nat.lt_or_ge μ 380 with q380 | q380
  · exact key 360 20 okQ_360 (by omega) (by omega)
  exact key 380 1 okQ_380 (by omega) (by omega)
