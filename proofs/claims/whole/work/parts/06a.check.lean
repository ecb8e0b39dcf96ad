/-! Every block says what the bytes say. -/
def chkY (y : Nat) : Bool := chkM y (mT y).2.1 (cdl.getD y [])
theorem chkY_0 : (List.range' 0 10).all chkY = true := by decide +kernel
theorem chkY_10 : (List.range' 10 10).all chkY = true := by decide +kernel
theorem chkY_20 : (List.range' 20 10).all chkY = true := by decide +kernel
theorem chkY_30 : (List.range' 30 10).all chkY = true := by decide +kernel
theorem chkY_40 : (List.range' 40 10).all chkY = true := by decide +kernel
theorem chkY_50 : (List.range' 50 10).all chkY = true := by decide +kernel
theorem chkY_60 : (List.range' 60 10).all chkY = true := by decide +kernel
theorem chkY_70 : (List.range' 70 10).all chkY = true := by decide +kernel
theorem chkY_80 : (List.range' 80 10).all chkY = true := by decide +kernel
theorem chkY_90 : (List.range' 90 10).all chkY = true := by decide +kernel
theorem chkY_100 : (List.range' 100 10).all chkY = true := by decide +kernel
theorem chkY_110 : (List.range' 110 10).all chkY = true := by decide +kernel
theorem chkY_120 : (List.range' 120 10).all chkY = true := by decide +kernel
theorem chkY_130 : (List.range' 130 10).all chkY = true := by decide +kernel
theorem chkY_140 : (List.range' 140 10).all chkY = true := by decide +kernel
theorem chkY_150 : (List.range' 150 10).all chkY = true := by decide +kernel
theorem chkY_160 : (List.range' 160 10).all chkY = true := by decide +kernel
theorem chkY_170 : (List.range' 170 10).all chkY = true := by decide +kernel
theorem chkY_180 : (List.range' 180 10).all chkY = true := by decide +kernel
theorem chkY_190 : (List.range' 190 10).all chkY = true := by decide +kernel
theorem chkY_200 : (List.range' 200 10).all chkY = true := by decide +kernel
theorem chkY_210 : (List.range' 210 10).all chkY = true := by decide +kernel
theorem chkY_220 : (List.range' 220 10).all chkY = true := by decide +kernel
theorem chkY_230 : (List.range' 230 10).all chkY = true := by decide +kernel
theorem chkY_240 : (List.range' 240 10).all chkY = true := by decide +kernel
theorem chkY_250 : (List.range' 250 10).all chkY = true := by decide +kernel
theorem chkY_260 : (List.range' 260 10).all chkY = true := by decide +kernel
theorem chkY_270 : (List.range' 270 10).all chkY = true := by decide +kernel
theorem chkY_280 : (List.range' 280 10).all chkY = true := by decide +kernel
theorem chkY_290 : (List.range' 290 10).all chkY = true := by decide +kernel
theorem chkY_300 : (List.range' 300 10).all chkY = true := by decide +kernel
theorem chkY_310 : (List.range' 310 10).all chkY = true := by decide +kernel
theorem chkY_320 : (List.range' 320 10).all chkY = true := by decide +kernel
theorem chkY_330 : (List.range' 330 10).all chkY = true := by decide +kernel
theorem chkY_340 : (List.range' 340 10).all chkY = true := by decide +kernel
theorem chkY_350 : (List.range' 350 10).all chkY = true := by decide +kernel
theorem chkY_360 : (List.range' 360 5).all chkY = true := by decide +kernel
theorem chkY_most {k : Nat} (h : k < 365) : chkY k = true := by
  have key : ∀ {lo n : Nat}, (List.range' lo n).all chkY = true → lo ≤ k → k < lo + n → chkY k = true := fun e h1 h2 => List.all_eq_true.mp e k (List.mem_range'_1.mpr ⟨h1, h2⟩)
  rcases (by omega : (0 ≤ k ∧ k < 0 + 10) ∨ (10 ≤ k ∧ k < 10 + 10) ∨ (20 ≤ k ∧ k < 20 + 10) ∨ (30 ≤ k ∧ k < 30 + 10) ∨ (40 ≤ k ∧ k < 40 + 10) ∨ (50 ≤ k ∧ k < 50 + 10) ∨ (60 ≤ k ∧ k < 60 + 10) ∨ (70 ≤ k ∧ k < 70 + 10) ∨ (80 ≤ k ∧ k < 80 + 10) ∨ (90 ≤ k ∧ k < 90 + 10) ∨ (100 ≤ k ∧ k < 100 + 10) ∨ (110 ≤ k ∧ k < 110 + 10) ∨ (120 ≤ k ∧ k < 120 + 10) ∨ (130 ≤ k ∧ k < 130 + 10) ∨ (140 ≤ k ∧ k < 140 + 10) ∨ (150 ≤ k ∧ k < 150 + 10) ∨ (160 ≤ k ∧ k < 160 + 10) ∨ (170 ≤ k ∧ k < 170 + 10) ∨ (180 ≤ k ∧ k < 180 + 10) ∨ (190 ≤ k ∧ k < 190 + 10) ∨ (200 ≤ k ∧ k < 200 + 10) ∨ (210 ≤ k ∧ k < 210 + 10) ∨ (220 ≤ k ∧ k < 220 + 10) ∨ (230 ≤ k ∧ k < 230 + 10) ∨ (240 ≤ k ∧ k < 240 + 10) ∨ (250 ≤ k ∧ k < 250 + 10) ∨ (260 ≤ k ∧ k < 260 + 10) ∨ (270 ≤ k ∧ k < 270 + 10) ∨ (280 ≤ k ∧ k < 280 + 10) ∨ (290 ≤ k ∧ k < 290 + 10) ∨ (300 ≤ k ∧ k < 300 + 10) ∨ (310 ≤ k ∧ k < 310 + 10) ∨ (320 ≤ k ∧ k < 320 + 10) ∨ (330 ≤ k ∧ k < 330 + 10) ∨ (340 ≤ k ∧ k < 340 + 10) ∨ (350 ≤ k ∧ k < 350 + 10) ∨ (360 ≤ k ∧ k < 360 + 5)) with h | h | h | h | h | h | h | h | h | h | h | h | h | h | h | h | h | h | h | h | h | h | h | h | h | h | h | h | h | h | h | h | h | h | h | h | h
  · exact key chkY_0 h.1 h.2
  · exact key chkY_10 h.1 h.2
  · exact key chkY_20 h.1 h.2
  · exact key chkY_30 h.1 h.2
  · exact key chkY_40 h.1 h.2
  · exact key chkY_50 h.1 h.2
  · exact key chkY_60 h.1 h.2
  · exact key chkY_70 h.1 h.2
  · exact key chkY_80 h.1 h.2
  · exact key chkY_90 h.1 h.2
  · exact key chkY_100 h.1 h.2
  · exact key chkY_110 h.1 h.2
  · exact key chkY_120 h.1 h.2
  · exact key chkY_130 h.1 h.2
  · exact key chkY_140 h.1 h.2
  · exact key chkY_150 h.1 h.2
  · exact key chkY_160 h.1 h.2
  · exact key chkY_170 h.1 h.2
  · exact key chkY_180 h.1 h.2
  · exact key chkY_190 h.1 h.2
  · exact key chkY_200 h.1 h.2
  · exact key chkY_210 h.1 h.2
  · exact key chkY_220 h.1 h.2
  · exact key chkY_230 h.1 h.2
  · exact key chkY_240 h.1 h.2
  · exact key chkY_250 h.1 h.2
  · exact key chkY_260 h.1 h.2
  · exact key chkY_270 h.1 h.2
  · exact key chkY_280 h.1 h.2
  · exact key chkY_290 h.1 h.2
  · exact key chkY_300 h.1 h.2
  · exact key chkY_310 h.1 h.2
  · exact key chkY_320 h.1 h.2
  · exact key chkY_330 h.1 h.2
  · exact key chkY_340 h.1 h.2
  · exact key chkY_350 h.1 h.2
  · exact key chkY_360 h.1 h.2
