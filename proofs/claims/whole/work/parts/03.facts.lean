/-! What the tables say is so. -/
def fname (n : Nat) : String := ((kcl.getD (n / 64) ("", kT0, 0)).2.1 (n % 64)).2.1
def fdesc (n : Nat) : String := ((kcl.getD (n / 64) ("", kT0, 0)).2.1 (n % 64)).2.2.1
def ffin (n : Nat) : Bool := ((kcl.getD (n / 64) ("", kT0, 0)).2.1 (n % 64)).2.2.2
theorem ftb_ok : (List.range 16).all (fun o => (ftb o).all (fun q => decide (q.2.1 / 64 < 13) && decide (q.2.1 % 64 < cN (q.2.1 / 64)) && decide (tables_1[q.2.2]? = some (.fieldLink (cid o) q.1 (cid (q.2.1 / 64)) (fname q.2.1) (fdesc q.2.1))))) = true := by decide +kernel
theorem mtb_ok : (List.range 16).all (fun o => (mtb o).all (fun q => decide (q.2.1 < 365) && decide (tables_1[q.2.2]? = some (.methodLink (cid o) q.1 (mT q.2.1).1)))) = true := by decide +kernel
theorem ctb_ok : (List.range 16).all (fun o => (ctb o).all (fun q => decide (-2147483648 ≤ q.2.1 ∧ q.2.1 < 2147483648) && decide (tables_1[q.2.2]? = some (.constant (cid o) q.1 (Int32.ofInt q.2.1))))) = true := by decide +kernel
theorem ltb_ok : (List.range 16).all (fun o => (ltb o).all (fun q => decide (-9223372036854775808 ≤ q.2.1 ∧ q.2.1 < 9223372036854775808) && decide (tables_1[q.2.2]? = some (.constantLong (cid o) q.1 (Int64.ofInt q.2.1))))) = true := by decide +kernel
theorem ktb_ok : (List.range 16).all (fun o => (ktb o).all (fun q => decide (q.2.1 < 13) && decide (tables_1[q.2.2]? = some (.classLink (cid o) q.1 (cid q.2.1))))) = true := by decide +kernel
theorem itb_ok : (List.range 16).all (fun o => (itb o).all (fun q => decide (tables_1[q.2.2]? = some (.methodLink (cid o) q.1 (inm q.2.1))))) = true := by decide +kernel
def mwdf (k : Nat) : Bool := let q := mwd k; q.1 == 9 || (decide (tables_1[q.2.2.2]? = some (.initialized (mT k).1.cls)) && ((q.1 == 1 && decide (tables_1[q.2.1]? = some (.static (mT k).1))) || (decide (tables_1[q.2.1]? = some (.instanceMethod (mT k).1)) && ((q.1 == 2 && decide ((mT k).1.name = "<init>")) || (q.1 == 0 && decide (lw_tbl[q.2.2.1]? = some (.selects (mT k).1.cls (mT k).1 (mT k).1)))))))
theorem mwd_ok_0 : (List.range' 0 30).all mwdf = true := by decide +kernel
theorem mwd_ok_30 : (List.range' 30 30).all mwdf = true := by decide +kernel
theorem mwd_ok_60 : (List.range' 60 30).all mwdf = true := by decide +kernel
theorem mwd_ok_90 : (List.range' 90 30).all mwdf = true := by decide +kernel
theorem mwd_ok_120 : (List.range' 120 30).all mwdf = true := by decide +kernel
theorem mwd_ok_150 : (List.range' 150 30).all mwdf = true := by decide +kernel
theorem mwd_ok_180 : (List.range' 180 30).all mwdf = true := by decide +kernel
theorem mwd_ok_210 : (List.range' 210 30).all mwdf = true := by decide +kernel
theorem mwd_ok_240 : (List.range' 240 30).all mwdf = true := by decide +kernel
theorem mwd_ok_270 : (List.range' 270 30).all mwdf = true := by decide +kernel
theorem mwd_ok_300 : (List.range' 300 30).all mwdf = true := by decide +kernel
theorem mwd_ok_330 : (List.range' 330 30).all mwdf = true := by decide +kernel
theorem mwd_ok_360 : (List.range' 360 5).all mwdf = true := by decide +kernel
theorem mwd_all {k : Nat} (h : k < 365) : mwdf k = true := by
  have key : ∀ {lo n : Nat}, (List.range' lo n).all mwdf = true → lo ≤ k → k < lo + n → mwdf k = true := fun e h1 h2 => List.all_eq_true.mp e k (List.mem_range'_1.mpr ⟨h1, h2⟩)
  rcases (by omega : (0 ≤ k ∧ k < 0 + 30) ∨ (30 ≤ k ∧ k < 30 + 30) ∨ (60 ≤ k ∧ k < 60 + 30) ∨ (90 ≤ k ∧ k < 90 + 30) ∨ (120 ≤ k ∧ k < 120 + 30) ∨ (150 ≤ k ∧ k < 150 + 30) ∨ (180 ≤ k ∧ k < 180 + 30) ∨ (210 ≤ k ∧ k < 210 + 30) ∨ (240 ≤ k ∧ k < 240 + 30) ∨ (270 ≤ k ∧ k < 270 + 30) ∨ (300 ≤ k ∧ k < 300 + 30) ∨ (330 ≤ k ∧ k < 330 + 30) ∨ (360 ≤ k ∧ k < 360 + 5)) with h | h | h | h | h | h | h | h | h | h | h | h | h
  · exact key mwd_ok_0 h.1 h.2
  · exact key mwd_ok_30 h.1 h.2
  · exact key mwd_ok_60 h.1 h.2
  · exact key mwd_ok_90 h.1 h.2
  · exact key mwd_ok_120 h.1 h.2
  · exact key mwd_ok_150 h.1 h.2
  · exact key mwd_ok_180 h.1 h.2
  · exact key mwd_ok_210 h.1 h.2
  · exact key mwd_ok_240 h.1 h.2
  · exact key mwd_ok_270 h.1 h.2
  · exact key mwd_ok_300 h.1 h.2
  · exact key mwd_ok_330 h.1 h.2
  · exact key mwd_ok_360 h.1 h.2
theorem mcl_ok : (List.range 366).all (fun k => mcl k == 99 || decide (cid (mcl k) = (mT k).1.cls)) = true := by decide +kernel
theorem kcl_in : (List.range 13).all (fun ci => (u_ws (kcl.getD ci ("", kT0, 0)).1 (kcl.getD ci ("", kT0, 0)).2.1 (kcl.getD ci ("", kT0, 0)).2.2).all (fun w => decide (w ∈ lw_tbl) && goodWord w)) = true := by decide +kernel
theorem kcl_ty : (List.range 13).all (fun ci => (List.range (cN ci)).all (fun k => decide (parseFieldDescriptor ((kcl.getD ci ("", kT0, 0)).2.1 k).2.2.1 = some (cty ci k)) && decide (((kcl.getD ci ("", kT0, 0)).2.1 k).1 = cid ci))) = true := by decide +kernel
theorem kcl_nm : (List.range 13).all (fun ci => (List.range (cN ci)).all (fun i => (List.range (cN ci)).all (fun j => i == j || decide (((kcl.getD ci ("", kT0, 0)).2.1 i).2.1 ≠ ((kcl.getD ci ("", kT0, 0)).2.1 j).2.1)))) = true := by decide +kernel
theorem kcl_inst : (List.range 13).all (fun ci => decide (Cond.instantiable (cid ci) (cN ci) ∈ lw_tbl) && decide (Cond.initialized (cid ci) ∈ lw_tbl) && decide ((kcl.getD ci ("", kT0, 0)).1 = cid ci)) = true := by decide +kernel
