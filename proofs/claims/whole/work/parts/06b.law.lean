/-! The law: block by block. -/
def chkLaw (i : Nat) : Bool := chkB 365 code cd_365 (cd_365.getD i (0, []))
theorem chkLaw_0 : (List.range' 0 3).all chkLaw = true := by decide +kernel
theorem chkLaw_3 : (List.range' 3 3).all chkLaw = true := by decide +kernel
theorem chkLaw_6 : (List.range' 6 3).all chkLaw = true := by decide +kernel
theorem chkLaw_9 : (List.range' 9 3).all chkLaw = true := by decide +kernel
theorem chkLaw_12 : (List.range' 12 3).all chkLaw = true := by decide +kernel
theorem chkLaw_15 : (List.range' 15 3).all chkLaw = true := by decide +kernel
theorem chkLaw_18 : (List.range' 18 3).all chkLaw = true := by decide +kernel
theorem chkLaw_21 : (List.range' 21 3).all chkLaw = true := by decide +kernel
theorem chkLaw_24 : (List.range' 24 3).all chkLaw = true := by decide +kernel
theorem chkLaw_27 : (List.range' 27 3).all chkLaw = true := by decide +kernel
theorem chkLaw_30 : (List.range' 30 3).all chkLaw = true := by decide +kernel
theorem chkLaw_33 : (List.range' 33 3).all chkLaw = true := by decide +kernel
theorem chkLaw_36 : (List.range' 36 3).all chkLaw = true := by decide +kernel
theorem chkLaw_39 : (List.range' 39 3).all chkLaw = true := by decide +kernel
theorem chkLaw_42 : (List.range' 42 3).all chkLaw = true := by decide +kernel
theorem chkLaw_45 : (List.range' 45 3).all chkLaw = true := by decide +kernel
theorem chkLaw_48 : (List.range' 48 3).all chkLaw = true := by decide +kernel
theorem chkLaw_51 : (List.range' 51 3).all chkLaw = true := by decide +kernel
theorem chkLaw_54 : (List.range' 54 3).all chkLaw = true := by decide +kernel
theorem chkLaw_57 : (List.range' 57 3).all chkLaw = true := by decide +kernel
theorem chkLaw_60 : (List.range' 60 3).all chkLaw = true := by decide +kernel
theorem chkLaw_63 : (List.range' 63 3).all chkLaw = true := by decide +kernel
theorem chkLaw_66 : (List.range' 66 3).all chkLaw = true := by decide +kernel
theorem chkLaw_all {k : Nat} (h : k < 69) : chkLaw k = true := by
  have key : ∀ {lo n : Nat}, (List.range' lo n).all chkLaw = true → lo ≤ k → k < lo + n → chkLaw k = true := fun e h1 h2 => List.all_eq_true.mp e k (List.mem_range'_1.mpr ⟨h1, h2⟩)
  rcases (by omega : (0 ≤ k ∧ k < 0 + 3) ∨ (3 ≤ k ∧ k < 3 + 3) ∨ (6 ≤ k ∧ k < 6 + 3) ∨ (9 ≤ k ∧ k < 9 + 3) ∨ (12 ≤ k ∧ k < 12 + 3) ∨ (15 ≤ k ∧ k < 15 + 3) ∨ (18 ≤ k ∧ k < 18 + 3) ∨ (21 ≤ k ∧ k < 21 + 3) ∨ (24 ≤ k ∧ k < 24 + 3) ∨ (27 ≤ k ∧ k < 27 + 3) ∨ (30 ≤ k ∧ k < 30 + 3) ∨ (33 ≤ k ∧ k < 33 + 3) ∨ (36 ≤ k ∧ k < 36 + 3) ∨ (39 ≤ k ∧ k < 39 + 3) ∨ (42 ≤ k ∧ k < 42 + 3) ∨ (45 ≤ k ∧ k < 45 + 3) ∨ (48 ≤ k ∧ k < 48 + 3) ∨ (51 ≤ k ∧ k < 51 + 3) ∨ (54 ≤ k ∧ k < 54 + 3) ∨ (57 ≤ k ∧ k < 57 + 3) ∨ (60 ≤ k ∧ k < 60 + 3) ∨ (63 ≤ k ∧ k < 63 + 3) ∨ (66 ≤ k ∧ k < 66 + 3)) with h | h | h | h | h | h | h | h | h | h | h | h | h | h | h | h | h | h | h | h | h | h | h
  · exact key chkLaw_0 h.1 h.2
  · exact key chkLaw_3 h.1 h.2
  · exact key chkLaw_6 h.1 h.2
  · exact key chkLaw_9 h.1 h.2
  · exact key chkLaw_12 h.1 h.2
  · exact key chkLaw_15 h.1 h.2
  · exact key chkLaw_18 h.1 h.2
  · exact key chkLaw_21 h.1 h.2
  · exact key chkLaw_24 h.1 h.2
  · exact key chkLaw_27 h.1 h.2
  · exact key chkLaw_30 h.1 h.2
  · exact key chkLaw_33 h.1 h.2
  · exact key chkLaw_36 h.1 h.2
  · exact key chkLaw_39 h.1 h.2
  · exact key chkLaw_42 h.1 h.2
  · exact key chkLaw_45 h.1 h.2
  · exact key chkLaw_48 h.1 h.2
  · exact key chkLaw_51 h.1 h.2
  · exact key chkLaw_54 h.1 h.2
  · exact key chkLaw_57 h.1 h.2
  · exact key chkLaw_60 h.1 h.2
  · exact key chkLaw_63 h.1 h.2
  · exact key chkLaw_66 h.1 h.2
theorem cd_365_len : cd_365.length = 69 := rfl
theorem mT_law : mT 365 = mlaw := by
  unfold mT mtab
  rw [List.getD_eq_getElem?_getD, List.getElem?_append_right (by rw [mtabA_len]; exact Nat.le_refl _), mtabA_len]
  rfl
theorem chkY_all {k : Nat} (h : k < 366) : chkY k = true := by
  rcases Nat.lt_or_ge k 365 with q | q
  · exact chkY_most q
  · have e : k = 365 := by omega
    subst e
    have e1 : (mT 365).2.1 = code := by rw [mT_law]; rfl
    show chkM 365 (mT 365).2.1 cd_365 = true
    rw [e1]
    refine List.all_eq_true.mpr fun b hb => ?_
    obtain ⟨i, hi⟩ := List.getElem?_of_mem hb
    have hl := (List.getElem?_eq_some_iff.mp hi).1
    have h1 := chkLaw_all (k := i) (by rw [← cd_365_len]; exact hl)
    unfold chkLaw at h1
    rwa [List.getD_eq_getElem?_getD, hi] at h1
