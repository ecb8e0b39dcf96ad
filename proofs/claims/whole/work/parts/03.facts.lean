/-! What the tables say is so. -/
def fname (n : Nat) : String := ((kcl.getD (n / 64) ("", kT0, 0)).2.1 (n % 64)).2.1
def fdesc (n : Nat) : String := ((kcl.getD (n / 64) ("", kT0, 0)).2.1 (n % 64)).2.2.1
def ffin (n : Nat) : Bool := ((kcl.getD (n / 64) ("", kT0, 0)).2.1 (n % 64)).2.2.2
theorem ftb_ok : (List.range 16).all (fun o => (ftb o).all (fun q => decide (q.2.1 / 64 < 13) && decide (q.2.1 % 64 < cN (q.2.1 / 64)) && decide (tables_1[q.2.2]? = some (.fieldLink (cid o) q.1 (cid (q.2.1 / 64)) (fname q.2.1) (fdesc q.2.1))))) = true := by decide +kernel
def mtbf (o : Nat) (q : Nat × Nat × Nat) : Bool := decide (q.2.1 < 365) && decide (tables_1[q.2.2]? = some (.methodLink (cid o) q.1 (mT q.2.1).1))
def mtbg (o i : Nat) : Bool := match (mtb o)[i]? with | some q => mtbf o q | none => true
theorem mtb_ok_0_0 : (List.range' 0 30).all (mtbg 0) = true := by decide +kernel
theorem mtb_ok_0_30 : (List.range' 30 30).all (mtbg 0) = true := by decide +kernel
theorem mtb_ok_0_60 : (List.range' 60 23).all (mtbg 0) = true := by decide +kernel
theorem mtb_len_0 : (mtb 0).length = 83 := by decide +kernel
theorem mtb_all_0 : (mtb 0).all (fun q => mtbf 0 q) = true := by
  refine List.all_eq_true.mpr fun q hq => ?_
  obtain ⟨i, hi⟩ := List.getElem?_of_mem hq
  have hl := (List.getElem?_eq_some_iff.mp hi).1
  rw [mtb_len_0] at hl
  have key : ∀ {lo n : Nat}, (List.range' lo n).all (mtbg 0) = true → lo ≤ i → i < lo + n → mtbf 0 q = true := fun e h1 h2 => by have h3 := List.all_eq_true.mp e i (List.mem_range'_1.mpr ⟨h1, h2⟩); unfold mtbg at h3; rw [hi] at h3; exact h3
  rcases (by omega : (0 ≤ i ∧ i < 0 + 30) ∨ (30 ≤ i ∧ i < 30 + 30) ∨ (60 ≤ i ∧ i < 60 + 23)) with h | h | h
  · exact key mtb_ok_0_0 h.1 h.2
  · exact key mtb_ok_0_30 h.1 h.2
  · exact key mtb_ok_0_60 h.1 h.2
theorem mtb_ok_1_0 : (List.range' 0 5).all (mtbg 1) = true := by decide +kernel
theorem mtb_len_1 : (mtb 1).length = 5 := by decide +kernel
theorem mtb_all_1 : (mtb 1).all (fun q => mtbf 1 q) = true := by
  refine List.all_eq_true.mpr fun q hq => ?_
  obtain ⟨i, hi⟩ := List.getElem?_of_mem hq
  have hl := (List.getElem?_eq_some_iff.mp hi).1
  rw [mtb_len_1] at hl
  have key : ∀ {lo n : Nat}, (List.range' lo n).all (mtbg 1) = true → lo ≤ i → i < lo + n → mtbf 1 q = true := fun e h1 h2 => by have h3 := List.all_eq_true.mp e i (List.mem_range'_1.mpr ⟨h1, h2⟩); unfold mtbg at h3; rw [hi] at h3; exact h3
  exact key mtb_ok_1_0 (Nat.zero_le _) (by omega)
theorem mtb_ok_2_0 : (List.range' 0 13).all (mtbg 2) = true := by decide +kernel
theorem mtb_len_2 : (mtb 2).length = 13 := by decide +kernel
theorem mtb_all_2 : (mtb 2).all (fun q => mtbf 2 q) = true := by
  refine List.all_eq_true.mpr fun q hq => ?_
  obtain ⟨i, hi⟩ := List.getElem?_of_mem hq
  have hl := (List.getElem?_eq_some_iff.mp hi).1
  rw [mtb_len_2] at hl
  have key : ∀ {lo n : Nat}, (List.range' lo n).all (mtbg 2) = true → lo ≤ i → i < lo + n → mtbf 2 q = true := fun e h1 h2 => by have h3 := List.all_eq_true.mp e i (List.mem_range'_1.mpr ⟨h1, h2⟩); unfold mtbg at h3; rw [hi] at h3; exact h3
  exact key mtb_ok_2_0 (Nat.zero_le _) (by omega)
theorem mtb_ok_3_0 : (List.range' 0 18).all (mtbg 3) = true := by decide +kernel
theorem mtb_len_3 : (mtb 3).length = 18 := by decide +kernel
theorem mtb_all_3 : (mtb 3).all (fun q => mtbf 3 q) = true := by
  refine List.all_eq_true.mpr fun q hq => ?_
  obtain ⟨i, hi⟩ := List.getElem?_of_mem hq
  have hl := (List.getElem?_eq_some_iff.mp hi).1
  rw [mtb_len_3] at hl
  have key : ∀ {lo n : Nat}, (List.range' lo n).all (mtbg 3) = true → lo ≤ i → i < lo + n → mtbf 3 q = true := fun e h1 h2 => by have h3 := List.all_eq_true.mp e i (List.mem_range'_1.mpr ⟨h1, h2⟩); unfold mtbg at h3; rw [hi] at h3; exact h3
  exact key mtb_ok_3_0 (Nat.zero_le _) (by omega)
theorem mtb_len_4 : (mtb 4).length = 0 := by decide +kernel
theorem mtb_all_4 : (mtb 4).all (fun q => mtbf 4 q) = true := by
  refine List.all_eq_true.mpr fun q hq => ?_
  obtain ⟨i, hi⟩ := List.getElem?_of_mem hq
  have hl := (List.getElem?_eq_some_iff.mp hi).1
  rw [mtb_len_4] at hl
  exact absurd hl (Nat.not_lt_zero _)
theorem mtb_ok_5_0 : (List.range' 0 23).all (mtbg 5) = true := by decide +kernel
theorem mtb_len_5 : (mtb 5).length = 23 := by decide +kernel
theorem mtb_all_5 : (mtb 5).all (fun q => mtbf 5 q) = true := by
  refine List.all_eq_true.mpr fun q hq => ?_
  obtain ⟨i, hi⟩ := List.getElem?_of_mem hq
  have hl := (List.getElem?_eq_some_iff.mp hi).1
  rw [mtb_len_5] at hl
  have key : ∀ {lo n : Nat}, (List.range' lo n).all (mtbg 5) = true → lo ≤ i → i < lo + n → mtbf 5 q = true := fun e h1 h2 => by have h3 := List.all_eq_true.mp e i (List.mem_range'_1.mpr ⟨h1, h2⟩); unfold mtbg at h3; rw [hi] at h3; exact h3
  exact key mtb_ok_5_0 (Nat.zero_le _) (by omega)
theorem mtb_ok_6_0 : (List.range' 0 17).all (mtbg 6) = true := by decide +kernel
theorem mtb_len_6 : (mtb 6).length = 17 := by decide +kernel
theorem mtb_all_6 : (mtb 6).all (fun q => mtbf 6 q) = true := by
  refine List.all_eq_true.mpr fun q hq => ?_
  obtain ⟨i, hi⟩ := List.getElem?_of_mem hq
  have hl := (List.getElem?_eq_some_iff.mp hi).1
  rw [mtb_len_6] at hl
  have key : ∀ {lo n : Nat}, (List.range' lo n).all (mtbg 6) = true → lo ≤ i → i < lo + n → mtbf 6 q = true := fun e h1 h2 => by have h3 := List.all_eq_true.mp e i (List.mem_range'_1.mpr ⟨h1, h2⟩); unfold mtbg at h3; rw [hi] at h3; exact h3
  exact key mtb_ok_6_0 (Nat.zero_le _) (by omega)
theorem mtb_ok_7_0 : (List.range' 0 14).all (mtbg 7) = true := by decide +kernel
theorem mtb_len_7 : (mtb 7).length = 14 := by decide +kernel
theorem mtb_all_7 : (mtb 7).all (fun q => mtbf 7 q) = true := by
  refine List.all_eq_true.mpr fun q hq => ?_
  obtain ⟨i, hi⟩ := List.getElem?_of_mem hq
  have hl := (List.getElem?_eq_some_iff.mp hi).1
  rw [mtb_len_7] at hl
  have key : ∀ {lo n : Nat}, (List.range' lo n).all (mtbg 7) = true → lo ≤ i → i < lo + n → mtbf 7 q = true := fun e h1 h2 => by have h3 := List.all_eq_true.mp e i (List.mem_range'_1.mpr ⟨h1, h2⟩); unfold mtbg at h3; rw [hi] at h3; exact h3
  exact key mtb_ok_7_0 (Nat.zero_le _) (by omega)
theorem mtb_ok_8_0 : (List.range' 0 5).all (mtbg 8) = true := by decide +kernel
theorem mtb_len_8 : (mtb 8).length = 5 := by decide +kernel
theorem mtb_all_8 : (mtb 8).all (fun q => mtbf 8 q) = true := by
  refine List.all_eq_true.mpr fun q hq => ?_
  obtain ⟨i, hi⟩ := List.getElem?_of_mem hq
  have hl := (List.getElem?_eq_some_iff.mp hi).1
  rw [mtb_len_8] at hl
  have key : ∀ {lo n : Nat}, (List.range' lo n).all (mtbg 8) = true → lo ≤ i → i < lo + n → mtbf 8 q = true := fun e h1 h2 => by have h3 := List.all_eq_true.mp e i (List.mem_range'_1.mpr ⟨h1, h2⟩); unfold mtbg at h3; rw [hi] at h3; exact h3
  exact key mtb_ok_8_0 (Nat.zero_le _) (by omega)
theorem mtb_ok_9_0 : (List.range' 0 14).all (mtbg 9) = true := by decide +kernel
theorem mtb_len_9 : (mtb 9).length = 14 := by decide +kernel
theorem mtb_all_9 : (mtb 9).all (fun q => mtbf 9 q) = true := by
  refine List.all_eq_true.mpr fun q hq => ?_
  obtain ⟨i, hi⟩ := List.getElem?_of_mem hq
  have hl := (List.getElem?_eq_some_iff.mp hi).1
  rw [mtb_len_9] at hl
  have key : ∀ {lo n : Nat}, (List.range' lo n).all (mtbg 9) = true → lo ≤ i → i < lo + n → mtbf 9 q = true := fun e h1 h2 => by have h3 := List.all_eq_true.mp e i (List.mem_range'_1.mpr ⟨h1, h2⟩); unfold mtbg at h3; rw [hi] at h3; exact h3
  exact key mtb_ok_9_0 (Nat.zero_le _) (by omega)
theorem mtb_ok_10_0 : (List.range' 0 3).all (mtbg 10) = true := by decide +kernel
theorem mtb_len_10 : (mtb 10).length = 3 := by decide +kernel
theorem mtb_all_10 : (mtb 10).all (fun q => mtbf 10 q) = true := by
  refine List.all_eq_true.mpr fun q hq => ?_
  obtain ⟨i, hi⟩ := List.getElem?_of_mem hq
  have hl := (List.getElem?_eq_some_iff.mp hi).1
  rw [mtb_len_10] at hl
  have key : ∀ {lo n : Nat}, (List.range' lo n).all (mtbg 10) = true → lo ≤ i → i < lo + n → mtbf 10 q = true := fun e h1 h2 => by have h3 := List.all_eq_true.mp e i (List.mem_range'_1.mpr ⟨h1, h2⟩); unfold mtbg at h3; rw [hi] at h3; exact h3
  exact key mtb_ok_10_0 (Nat.zero_le _) (by omega)
theorem mtb_ok_11_0 : (List.range' 0 3).all (mtbg 11) = true := by decide +kernel
theorem mtb_len_11 : (mtb 11).length = 3 := by decide +kernel
theorem mtb_all_11 : (mtb 11).all (fun q => mtbf 11 q) = true := by
  refine List.all_eq_true.mpr fun q hq => ?_
  obtain ⟨i, hi⟩ := List.getElem?_of_mem hq
  have hl := (List.getElem?_eq_some_iff.mp hi).1
  rw [mtb_len_11] at hl
  have key : ∀ {lo n : Nat}, (List.range' lo n).all (mtbg 11) = true → lo ≤ i → i < lo + n → mtbf 11 q = true := fun e h1 h2 => by have h3 := List.all_eq_true.mp e i (List.mem_range'_1.mpr ⟨h1, h2⟩); unfold mtbg at h3; rw [hi] at h3; exact h3
  exact key mtb_ok_11_0 (Nat.zero_le _) (by omega)
theorem mtb_ok_12_0 : (List.range' 0 30).all (mtbg 12) = true := by decide +kernel
theorem mtb_ok_12_30 : (List.range' 30 30).all (mtbg 12) = true := by decide +kernel
theorem mtb_ok_12_60 : (List.range' 60 17).all (mtbg 12) = true := by decide +kernel
theorem mtb_len_12 : (mtb 12).length = 77 := by decide +kernel
theorem mtb_all_12 : (mtb 12).all (fun q => mtbf 12 q) = true := by
  refine List.all_eq_true.mpr fun q hq => ?_
  obtain ⟨i, hi⟩ := List.getElem?_of_mem hq
  have hl := (List.getElem?_eq_some_iff.mp hi).1
  rw [mtb_len_12] at hl
  have key : ∀ {lo n : Nat}, (List.range' lo n).all (mtbg 12) = true → lo ≤ i → i < lo + n → mtbf 12 q = true := fun e h1 h2 => by have h3 := List.all_eq_true.mp e i (List.mem_range'_1.mpr ⟨h1, h2⟩); unfold mtbg at h3; rw [hi] at h3; exact h3
  rcases (by omega : (0 ≤ i ∧ i < 0 + 30) ∨ (30 ≤ i ∧ i < 30 + 30) ∨ (60 ≤ i ∧ i < 60 + 17)) with h | h | h
  · exact key mtb_ok_12_0 h.1 h.2
  · exact key mtb_ok_12_30 h.1 h.2
  · exact key mtb_ok_12_60 h.1 h.2
theorem mtb_ok_13_0 : (List.range' 0 30).all (mtbg 13) = true := by decide +kernel
theorem mtb_ok_13_30 : (List.range' 30 30).all (mtbg 13) = true := by decide +kernel
theorem mtb_ok_13_60 : (List.range' 60 30).all (mtbg 13) = true := by decide +kernel
theorem mtb_ok_13_90 : (List.range' 90 30).all (mtbg 13) = true := by decide +kernel
theorem mtb_ok_13_120 : (List.range' 120 12).all (mtbg 13) = true := by decide +kernel
theorem mtb_len_13 : (mtb 13).length = 132 := by decide +kernel
theorem mtb_all_13 : (mtb 13).all (fun q => mtbf 13 q) = true := by
  refine List.all_eq_true.mpr fun q hq => ?_
  obtain ⟨i, hi⟩ := List.getElem?_of_mem hq
  have hl := (List.getElem?_eq_some_iff.mp hi).1
  rw [mtb_len_13] at hl
  have key : ∀ {lo n : Nat}, (List.range' lo n).all (mtbg 13) = true → lo ≤ i → i < lo + n → mtbf 13 q = true := fun e h1 h2 => by have h3 := List.all_eq_true.mp e i (List.mem_range'_1.mpr ⟨h1, h2⟩); unfold mtbg at h3; rw [hi] at h3; exact h3
  rcases (by omega : (0 ≤ i ∧ i < 0 + 30) ∨ (30 ≤ i ∧ i < 30 + 30) ∨ (60 ≤ i ∧ i < 60 + 30) ∨ (90 ≤ i ∧ i < 90 + 30) ∨ (120 ≤ i ∧ i < 120 + 12)) with h | h | h | h | h
  · exact key mtb_ok_13_0 h.1 h.2
  · exact key mtb_ok_13_30 h.1 h.2
  · exact key mtb_ok_13_60 h.1 h.2
  · exact key mtb_ok_13_90 h.1 h.2
  · exact key mtb_ok_13_120 h.1 h.2
theorem mtb_len_14 : (mtb 14).length = 0 := by decide +kernel
theorem mtb_all_14 : (mtb 14).all (fun q => mtbf 14 q) = true := by
  refine List.all_eq_true.mpr fun q hq => ?_
  obtain ⟨i, hi⟩ := List.getElem?_of_mem hq
  have hl := (List.getElem?_eq_some_iff.mp hi).1
  rw [mtb_len_14] at hl
  exact absurd hl (Nat.not_lt_zero _)
theorem mtb_len_15 : (mtb 15).length = 0 := by decide +kernel
theorem mtb_all_15 : (mtb 15).all (fun q => mtbf 15 q) = true := by
  refine List.all_eq_true.mpr fun q hq => ?_
  obtain ⟨i, hi⟩ := List.getElem?_of_mem hq
  have hl := (List.getElem?_eq_some_iff.mp hi).1
  rw [mtb_len_15] at hl
  exact absurd hl (Nat.not_lt_zero _)
theorem mtb_ok : (List.range 16).all (fun o => (mtb o).all (fun q => decide (q.2.1 < 365) && decide (tables_1[q.2.2]? = some (.methodLink (cid o) q.1 (mT q.2.1).1)))) = true := by
  refine List.all_eq_true.mpr fun o ho => ?_
  have h := List.mem_range.mp ho
  rcases (by omega : o = 0 ∨ o = 1 ∨ o = 2 ∨ o = 3 ∨ o = 4 ∨ o = 5 ∨ o = 6 ∨ o = 7 ∨ o = 8 ∨ o = 9 ∨ o = 10 ∨ o = 11 ∨ o = 12 ∨ o = 13 ∨ o = 14 ∨ o = 15) with rfl | rfl | rfl | rfl | rfl | rfl | rfl | rfl | rfl | rfl | rfl | rfl | rfl | rfl | rfl | rfl
  · exact mtb_all_0
  · exact mtb_all_1
  · exact mtb_all_2
  · exact mtb_all_3
  · exact mtb_all_4
  · exact mtb_all_5
  · exact mtb_all_6
  · exact mtb_all_7
  · exact mtb_all_8
  · exact mtb_all_9
  · exact mtb_all_10
  · exact mtb_all_11
  · exact mtb_all_12
  · exact mtb_all_13
  · exact mtb_all_14
  · exact mtb_all_15
theorem ctb_ok : (List.range 16).all (fun o => (ctb o).all (fun q => decide (-2147483648 ≤ q.2.1 ∧ q.2.1 < 2147483648) && decide (tables_1[q.2.2]? = some (.constant (cid o) q.1 (Int32.ofInt q.2.1))))) = true := by decide +kernel
theorem ltb_ok : (List.range 16).all (fun o => (ltb o).all (fun q => decide (-9223372036854775808 ≤ q.2.1 ∧ q.2.1 < 9223372036854775808) && decide (tables_1[q.2.2]? = some (.constantLong (cid o) q.1 (Int64.ofInt q.2.1))))) = true := by decide +kernel
theorem ktb_ok : (List.range 16).all (fun o => (ktb o).all (fun q => decide (q.2.1 < 13) && decide (tables_1[q.2.2]? = some (.classLink (cid o) q.1 (cid q.2.1))))) = true := by decide +kernel
theorem itb_ok : (List.range 16).all (fun o => (itb o).all (fun q => decide (tables_1[q.2.2]? = some (.methodLink (cid o) q.1 (inm q.2.1))))) = true := by decide +kernel
def mwdf (k : Nat) : Bool := let q := mwd k; q.1 == 9 || (decide (tables_1[q.2.2.2]? = some (.initialized (mT k).1.cls)) && ((q.1 == 1 && decide (tables_1[q.2.1]? = some (.static (mT k).1))) || (decide (tables_1[q.2.1]? = some (.instanceMethod (mT k).1)) && ((q.1 == 2 && decide ((mT k).1.name = "<init>")) || (q.1 == 0 && decide (lw_tbl[q.2.2.1]? = some (.selects (mT k).1.cls (mT k).1 (mT k).1)))))))
theorem mwd_ok_0 : (List.range' 0 30).all mwdf = true := by decide +kernel
theorem mwd_ok_30 : (List.range' 30 30).all mwdf = true := by decide +kernel
theorem mwd_ok_60 : (List.range' 60 30).all mwdf = true := by decide +kernel
theorem mwd_ok_90 : (List.range' 90 30).all mwdf = true := by decide +kernel
theorem mwd_ok_120 : (List.range' 120 30).all mwdf = true := by decide +kernel
theorem mwd_ok_150 : (List.range' 150 30).all mwdf = true := by decide +kernel
theorem mwd_ok_180 : (List.range' 180 30).all mwdf = true := by decide +kernel
theorem mwd_ok_210 : (List.range' 210 30).all mwdf = true := by decide +kernel
theorem mwd_ok_240 : (List.range' 240 30).all mwdf = true := by decide +kernel
theorem mwd_ok_270 : (List.range' 270 30).all mwdf = true := by decide +kernel
theorem mwd_ok_300 : (List.range' 300 30).all mwdf = true := by decide +kernel
theorem mwd_ok_330 : (List.range' 330 30).all mwdf = true := by decide +kernel
theorem mwd_ok_360 : (List.range' 360 5).all mwdf = true := by decide +kernel
theorem mwd_all {k : Nat} (h : k < 365) : mwdf k = true := by
  have key : ∀ {lo n : Nat}, (List.range' lo n).all mwdf = true → lo ≤ k → k < lo + n → mwdf k = true := fun e h1 h2 => List.all_eq_true.mp e k (List.mem_range'_1.mpr ⟨h1, h2⟩)
  rcases (by omega : (0 ≤ k ∧ k < 0 + 30) ∨ (30 ≤ k ∧ k < 30 + 30) ∨ (60 ≤ k ∧ k < 60 + 30) ∨ (90 ≤ k ∧ k < 90 + 30) ∨ (120 ≤ k ∧ k < 120 + 30) ∨ (150 ≤ k ∧ k < 150 + 30) ∨ (180 ≤ k ∧ k < 180 + 30) ∨ (210 ≤ k ∧ k < 210 + 30) ∨ (240 ≤ k ∧ k < 240 + 30) ∨ (270 ≤ k ∧ k < 270 + 30) ∨ (300 ≤ k ∧ k < 300 + 30) ∨ (330 ≤ k ∧ k < 330 + 30) ∨ (360 ≤ k ∧ k < 360 + 5)) with h | h | h | h | h | h | h | h | h | h | h | h | h
  · exact key mwd_ok_0 h.1 h.2
  · exact key mwd_ok_30 h.1 h.2
  · exact key mwd_ok_60 h.1 h.2
  · exact key mwd_ok_90 h.1 h.2
  · exact key mwd_ok_120 h.1 h.2
  · exact key mwd_ok_150 h.1 h.2
  · exact key mwd_ok_180 h.1 h.2
  · exact key mwd_ok_210 h.1 h.2
  · exact key mwd_ok_240 h.1 h.2
  · exact key mwd_ok_270 h.1 h.2
  · exact key mwd_ok_300 h.1 h.2
  · exact key mwd_ok_330 h.1 h.2
  · exact key mwd_ok_360 h.1 h.2
theorem mcl_ok : (List.range 366).all (fun k => mcl k == 99 || decide (cid (mcl k) = (mT k).1.cls)) = true := by decide +kernel
theorem kcl_in : (List.range 13).all (fun ci => (u_ws (kcl.getD ci ("", kT0, 0)).1 (kcl.getD ci ("", kT0, 0)).2.1 (kcl.getD ci ("", kT0, 0)).2.2).all (fun w => decide (w ∈ lw_tbl) && goodWord w)) = true := by decide +kernel
theorem kcl_ty : (List.range 13).all (fun ci => (List.range (cN ci)).all (fun k => decide (parseFieldDescriptor ((kcl.getD ci ("", kT0, 0)).2.1 k).2.2.1 = some (cty ci k)) && decide (((kcl.getD ci ("", kT0, 0)).2.1 k).1 = cid ci))) = true := by decide +kernel
theorem kcl_nm : (List.range 13).all (fun ci => (List.range (cN ci)).all (fun i => (List.range (cN ci)).all (fun j => i == j || decide (((kcl.getD ci ("", kT0, 0)).2.1 i).2.1 ≠ ((kcl.getD ci ("", kT0, 0)).2.1 j).2.1)))) = true := by decide +kernel
theorem kcl_inst : (List.range 13).all (fun ci => decide (Cond.instantiable (cid ci) (cN ci) ∈ lw_tbl) && decide (Cond.initialized (cid ci) ∈ lw_tbl) && decide ((kcl.getD ci ("", kT0, 0)).1 = cid ci)) = true := by decide +kernel
