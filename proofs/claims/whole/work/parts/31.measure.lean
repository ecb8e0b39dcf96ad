/-! PAIRING: the steps of a tree's growth. -/
/-- a loop with locals of no account -/
theorem ev_loopW {α : Type} {X : Int → Int} {y : Nat} {b : Int} {K : List Instr} {Sh : List SE} (L : Nat → α → PLS) (m : Nat → Mem) (hK : jmp y b = K) : ∀ (n : Nat), (∀ i, i < n → ∀ w, ∃ w', ev X y K (L i w) [] Sh (m i) = ev X y (jmp y b) (L (i + 1) w') [] Sh (m (i + 1))) → ∀ w, ∃ w', ev X y (jmp y b) (L 0 w) [] Sh (m 0) = ev X y K (L n w') [] Sh (m n)
  | 0, _, w => ⟨w, by rw [hK]⟩
  | n + 1, h, w => by
    obtain ⟨w1, e1⟩ := ev_loopW L m hK n (fun i hi => h i (Nat.lt_succ_of_lt hi)) w
    obtain ⟨w2, e2⟩ := h n (Nat.lt_succ_self n) w1
    exact ⟨w2, by rw [e1, e2, hK]⟩
section MEA
variable {X : Int → Int} {Sh : List SE} {M : Mem} {p : Nat}
/-- the slack of a column to a goal -/
def slk (M : Mem) (p : Nat) (x c : Int) : Int := M (p + 3) (x * 50 + c) - M (p + 4) x - M (p + 5) c
/-- measured from a column that goal x holds, up to n -/
def meas (M : Mem) (p : Nat) (at_ : Int) (n : Int) : Mem := fun b i => if (b = p + 8 ∨ b = p + 7) ∧ 0 ≤ i ∧ i < n ∧ M (p + 9) i = 0 ∧ slk M p (M (p + 6) at_) i < M (p + 8) i then (if b = p + 8 then slk M p (M (p + 6) at_) i else at_) else M b i
theorem meas_0 {t : Int} : meas M p t 0 = M := by
  funext b i
  unfold meas
  rw [if_neg (by omega)]
theorem meas_oth {t n : Int} {b : Nat} (h1 : b ≠ p + 8) (h2 : b ≠ p + 7) : meas M p t n b = M b := by
  funext i
  unfold meas
  rw [if_neg (fun h => h.1.elim h1 h2)]
theorem meas_ge {t n i : Int} {b : Nat} (h : n ≤ i) : meas M p t n b i = M b i := by
  unfold meas
  rw [if_neg (by omega)]
theorem meas_no {t : Int} {n : Nat} (h : ¬ (M (p + 9) n = 0 ∧ slk M p (M (p + 6) t) n < M (p + 8) n)) : meas M p t n = meas M p t ((n + 1 : Nat) : Int) := by
  funext b i
  unfold meas
  rw [nc_s]
  by_cases q : (b = p + 8 ∨ b = p + 7) ∧ 0 ≤ i ∧ i < n ∧ M (p + 9) i = 0 ∧ slk M p (M (p + 6) t) i < M (p + 8) i
  · rw [if_pos q]
    exact (if_pos ⟨q.1, q.2.1, by omega, q.2.2.2.1, q.2.2.2.2⟩).symm
  · rw [if_neg q]
    refine (if_neg ?_).symm
    intro z
    by_cases e : i = n
    · subst e
      exact h z.2.2.2
    · exact q ⟨z.1, z.2.1, by omega, z.2.2.2.1, z.2.2.2.2⟩
theorem meas_yes {t : Int} {n : Nat} (h1 : M (p + 9) n = 0) (h2 : slk M p (M (p + 6) t) n < M (p + 8) n) : up (up (meas M p t n) (p + 8) n (slk M p (M (p + 6) t) n)) (p + 7) n t = meas M p t ((n + 1 : Nat) : Int) := by
  funext b i
  by_cases e : i = n
  · subst e
    unfold up meas
    rw [nc_s]
    by_cases q7 : b = p + 7
    · rw [if_pos ⟨q7, rfl⟩, if_pos ⟨Or.inr q7, by omega, by omega, h1, h2⟩, if_neg (by omega)]
    · rw [if_neg (fun z => q7 z.1)]
      by_cases q8 : b = p + 8
      · rw [if_pos ⟨q8, rfl⟩, if_pos ⟨Or.inl q8, by omega, by omega, h1, h2⟩, if_pos q8]
      · rw [if_neg (fun z => q8 z.1), if_neg (fun z => z.1.elim q8 q7), if_neg (fun z => z.1.elim q8 q7)]
  · have e1 : up (up (meas M p t n) (p + 8) n (slk M p (M (p + 6) t) n)) (p + 7) n t b i = meas M p t n b i := by
      unfold up
      rw [if_neg (fun z => e z.2), if_neg (fun z => e z.2)]
    rw [e1]
    unfold meas
    rw [nc_s]
    by_cases q : (b = p + 8 ∨ b = p + 7) ∧ 0 ≤ i ∧ i < n ∧ M (p + 9) i = 0 ∧ slk M p (M (p + 6) t) i < M (p + 8) i
    · rw [if_pos q]
      exact (if_pos ⟨q.1, q.2.1, by omega, q.2.2.2.1, q.2.2.2.2⟩).symm
    · rw [if_neg q]
      refine (if_neg ?_).symm
      intro z
      exact q ⟨z.1, z.2.1, by omega, z.2.2.2.1, z.2.2.2.2⟩
/-- numbers of a pairing in range, for one goal -/
def paB (M : Mem) (p : Nat) (x : Int) : Prop := (0 ≤ M p 2 ∧ M p 2 ≤ 48) ∧ (∀ c, 0 ≤ c → c ≤ M p 2 → -10000000 ≤ M (p + 3) (x * 50 + c) ∧ M (p + 3) (x * 50 + c) ≤ 10000000) ∧ (-10000000 ≤ M (p + 4) x ∧ M (p + 4) x ≤ 10000000) ∧ (∀ c, 0 ≤ c → c ≤ M p 2 → -10000000 ≤ M (p + 5) c ∧ M (p + 5) c ≤ 10000000)
theorem s_measure (h : PA Sh p) {t : Int} (hb : paB M p (M (p + 6) t)) (ht : 0 ≤ t ∧ t < 50) (hx : 0 ≤ M (p + 6) t ∧ M (p + 6) t < 48) : evc X 148 [vR (some p), vI t] Sh M = some (none, Sh, meas M p t (M p 2 + 1)) := by
  have hk0 := h.1; obtain ⟨r_prices, k_prices, l_prices⟩ := pa_prices h; obtain ⟨r_goalShares, k_goalShares, l_goalShares⟩ := pa_goalShares h; obtain ⟨r_columnShares, k_columnShares, l_columnShares⟩ := pa_columnShares h; obtain ⟨r_holders, k_holders, l_holders⟩ := pa_holders h; obtain ⟨r_comeFrom, k_comeFrom, l_comeFrom⟩ := pa_comeFrom h; obtain ⟨r_distances, k_distances, l_distances⟩ := pa_distances h; obtain ⟨r_reached, k_reached, l_reached⟩ := pa_reached h
  obtain ⟨⟨b1, b2⟩, b3, b4, b5⟩ := hb
  generalize hxx : M (p + 6) t = x at hx b3 b4
  rw [E_148 hk0]
  simp (disch := first | assumption | decide | omega | (simp only [List.length_cons, List.length_nil] <;> omega)) only [lgt_0, lgt_s, lset_0, lset_s, lst1_0, lst1_s, lst2_0, lst2_s, ev_iconst, ev_lconst, ev_ldc, ev_null, ev_iload, ev_lload, ev_aload, ev_istore, ev_lstore, ev_astore, ev_iinc, ev_iadd, ev_isub, ev_imul, ev_iand, ev_ior, ev_ishl, ev_ishr, ev_idiv, ev_irem, ev_ineg, ev_ladd, ev_lsub, ev_lmul, ev_land, ev_lor, ev_ldiv, ev_lrem, ev_lshl, ev_i2l, ev_l2i, ev_i2b, ev_i2s, ev_lcmp, ev_dupI, ev_dupR, ev_dup2, ev_popI, ev_popR, ev_alen, ev_xlen, ev_xald, ev_iald, ev_lald, ev_bald, ev_zald, ev_aald, ev_iast, ev_last, ev_bast, ev_zast, ev_aast, ev_gfI, ev_gfL, ev_gfR, ev_pfI, ev_pfZ, ev_pfL, ev_pfR, ev_new, ev_newa, ev_newq, ev_copy, ev_slen, ev_schr, ev_obj, ev_mmin, ev_mabs, ev_mmax, ev_goto, ev_jsr, ev_icmp_eq, ev_if_eq, ev_icmp_ne, ev_if_ne, ev_icmp_lt, ev_if_lt, ev_icmp_ge, ev_if_ge, ev_icmp_gt, ev_if_gt, ev_icmp_le, ev_if_le, ev_ifnull0, ev_ifnull1, ev_ifnn0, ev_ifnn1, ev_tsw, ev_lsw, ev_iret, ev_zret, ev_lret, ev_aret, ev_ret, ev_call0, ev_call1, ev_call2, ev_call3, ev_call4, ev_call5, ev_call6, Option.toList_some, Option.toList_none, List.cons_append, List.nil_append, List.length_cons, List.length_nil, Nat.reduceMod, Nat.reduceDiv, Nat.reduceAdd, Nat.reduceLeDiff, nc, ↓reduceIte, Nat.zero_le, reduceCtorEq, w32_id, Int.reduceEq, Int.reduceNe, Int.reduceLT, Int.reduceLE, Int.reduceGT, Int.reduceGE, Int.reduceAdd, Int.reduceSub, Int.reduceMul, Int.reduceNeg, ne_eq, not_true_eq_false, not_false_eq_true, eq_self, r_holders, J_148_0, k_148_0, J_148_79, k_148_79, J_148_85, k_148_85, hxx]
  obtain ⟨w, hw⟩ := ev_loopW (X := X) (Sh := Sh) (K := k_148_9) (fun i (w : Option PV) => [some (vR (some p)), some (vI t), some (vI x), some (vI i), w]) (fun i => meas M p t i) J_148_9 (M p 2 + 1).toNat (fun i hi w => by
    have m0 := meas_oth (M := M) (p := p) (t := t) (n := i) (b := p) (by omega) (by omega)
    have m3 := meas_oth (M := M) (p := p) (t := t) (n := i) (b := p + 3) (by omega) (by omega)
    have m4 := meas_oth (M := M) (p := p) (t := t) (n := i) (b := p + 4) (by omega) (by omega)
    have m5 := meas_oth (M := M) (p := p) (t := t) (n := i) (b := p + 5) (by omega) (by omega)
    have m9 := meas_oth (M := M) (p := p) (t := t) (n := i) (b := p + 9) (by omega) (by omega)
    have m8 := meas_ge (M := M) (p := p) (t := t) (n := i) (i := i) (b := p + 8) (by omega)
    have c1 := b3 i (by omega) (by omega)
    have c2 := b4
    have c3 := b5 i (by omega) (by omega)
    have q1 : ¬ M p 2 < (i : Int) := by omega
    have hs : M (p + 3) (x * 50 + i) - M (p + 4) x - M (p + 5) i = slk M p x i := rfl
    by_cases r1 : M (p + 9) i = 0
    · by_cases r2 : slk M p x i < M (p + 8) i
      · have r3 : ¬ M (p + 8) i ≤ slk M p x i := by omega
        refine ⟨some (vI (slk M p x i)), ?_⟩
        simp (disch := first | assumption | decide | omega | (simp only [List.length_cons, List.length_nil] <;> omega)) only [lgt_0, lgt_s, lset_0, lset_s, lst1_0, lst1_s, lst2_0, lst2_s, ev_iconst, ev_lconst, ev_ldc, ev_null, ev_iload, ev_lload, ev_aload, ev_istore, ev_lstore, ev_astore, ev_iinc, ev_iadd, ev_isub, ev_imul, ev_iand, ev_ior, ev_ishl, ev_ishr, ev_idiv, ev_irem, ev_ineg, ev_ladd, ev_lsub, ev_lmul, ev_land, ev_lor, ev_ldiv, ev_lrem, ev_lshl, ev_i2l, ev_l2i, ev_i2b, ev_i2s, ev_lcmp, ev_dupI, ev_dupR, ev_dup2, ev_popI, ev_popR, ev_alen, ev_xlen, ev_xald, ev_iald, ev_lald, ev_bald, ev_zald, ev_aald, ev_iast, ev_last, ev_bast, ev_zast, ev_aast, ev_gfI, ev_gfL, ev_gfR, ev_pfI, ev_pfZ, ev_pfL, ev_pfR, ev_new, ev_newa, ev_newq, ev_copy, ev_slen, ev_schr, ev_obj, ev_mmin, ev_mabs, ev_mmax, ev_goto, ev_jsr, ev_icmp_eq, ev_if_eq, ev_icmp_ne, ev_if_ne, ev_icmp_lt, ev_if_lt, ev_icmp_ge, ev_if_ge, ev_icmp_gt, ev_if_gt, ev_icmp_le, ev_if_le, ev_ifnull0, ev_ifnull1, ev_ifnn0, ev_ifnn1, ev_tsw, ev_lsw, ev_iret, ev_zret, ev_lret, ev_aret, ev_ret, ev_call0, ev_call1, ev_call2, ev_call3, ev_call4, ev_call5, ev_call6, Option.toList_some, Option.toList_none, List.cons_append, List.nil_append, List.length_cons, List.length_nil, Nat.reduceMod, Nat.reduceDiv, Nat.reduceAdd, Nat.reduceLeDiff, nc, ↓reduceIte, Nat.zero_le, reduceCtorEq, w32_id, Int.reduceEq, Int.reduceNe, Int.reduceLT, Int.reduceLE, Int.reduceGT, Int.reduceGE, Int.reduceAdd, Int.reduceSub, Int.reduceMul, Int.reduceNeg, ne_eq, not_true_eq_false, not_false_eq_true, eq_self, r_prices, r_goalShares, r_columnShares, r_holders, r_comeFrom, r_distances, r_reached, k_148_9, J_148_79, k_148_79, J_148_85, k_148_85, k_148_0, m0, m3, m4, m5, m9, m8, q1, r1, hs, r3, nc_s]
        rw [← hxx, meas_yes r1 (by rw [hxx]; exact r2)]
        rfl
      · have r3 : M (p + 8) i ≤ slk M p x i := by omega
        refine ⟨some (vI (slk M p x i)), ?_⟩
        simp (disch := first | assumption | decide | omega | (simp only [List.length_cons, List.length_nil] <;> omega)) only [lgt_0, lgt_s, lset_0, lset_s, lst1_0, lst1_s, lst2_0, lst2_s, ev_iconst, ev_lconst, ev_ldc, ev_null, ev_iload, ev_lload, ev_aload, ev_istore, ev_lstore, ev_astore, ev_iinc, ev_iadd, ev_isub, ev_imul, ev_iand, ev_ior, ev_ishl, ev_ishr, ev_idiv, ev_irem, ev_ineg, ev_ladd, ev_lsub, ev_lmul, ev_land, ev_lor, ev_ldiv, ev_lrem, ev_lshl, ev_i2l, ev_l2i, ev_i2b, ev_i2s, ev_lcmp, ev_dupI, ev_dupR, ev_dup2, ev_popI, ev_popR, ev_alen, ev_xlen, ev_xald, ev_iald, ev_lald, ev_bald, ev_zald, ev_aald, ev_iast, ev_last, ev_bast, ev_zast, ev_aast, ev_gfI, ev_gfL, ev_gfR, ev_pfI, ev_pfZ, ev_pfL, ev_pfR, ev_new, ev_newa, ev_newq, ev_copy, ev_slen, ev_schr, ev_obj, ev_mmin, ev_mabs, ev_mmax, ev_goto, ev_jsr, ev_icmp_eq, ev_if_eq, ev_icmp_ne, ev_if_ne, ev_icmp_lt, ev_if_lt, ev_icmp_ge, ev_if_ge, ev_icmp_gt, ev_if_gt, ev_icmp_le, ev_if_le, ev_ifnull0, ev_ifnull1, ev_ifnn0, ev_ifnn1, ev_tsw, ev_lsw, ev_iret, ev_zret, ev_lret, ev_aret, ev_ret, ev_call0, ev_call1, ev_call2, ev_call3, ev_call4, ev_call5, ev_call6, Option.toList_some, Option.toList_none, List.cons_append, List.nil_append, List.length_cons, List.length_nil, Nat.reduceMod, Nat.reduceDiv, Nat.reduceAdd, Nat.reduceLeDiff, nc, ↓reduceIte, Nat.zero_le, reduceCtorEq, w32_id, Int.reduceEq, Int.reduceNe, Int.reduceLT, Int.reduceLE, Int.reduceGT, Int.reduceGE, Int.reduceAdd, Int.reduceSub, Int.reduceMul, Int.reduceNeg, ne_eq, not_true_eq_false, not_false_eq_true, eq_self, r_prices, r_goalShares, r_columnShares, r_holders, r_comeFrom, r_distances, r_reached, k_148_9, J_148_79, k_148_79, J_148_85, k_148_85, k_148_0, m0, m3, m4, m5, m9, m8, q1, r1, hs, r3, nc_s]
        rw [meas_no (by rw [hxx]; exact fun z => r2 z.2)]
        rfl
    · refine ⟨w, ?_⟩
      simp (disch := first | assumption | decide | omega | (simp only [List.length_cons, List.length_nil] <;> omega)) only [lgt_0, lgt_s, lset_0, lset_s, lst1_0, lst1_s, lst2_0, lst2_s, ev_iconst, ev_lconst, ev_ldc, ev_null, ev_iload, ev_lload, ev_aload, ev_istore, ev_lstore, ev_astore, ev_iinc, ev_iadd, ev_isub, ev_imul, ev_iand, ev_ior, ev_ishl, ev_ishr, ev_idiv, ev_irem, ev_ineg, ev_ladd, ev_lsub, ev_lmul, ev_land, ev_lor, ev_ldiv, ev_lrem, ev_lshl, ev_i2l, ev_l2i, ev_i2b, ev_i2s, ev_lcmp, ev_dupI, ev_dupR, ev_dup2, ev_popI, ev_popR, ev_alen, ev_xlen, ev_xald, ev_iald, ev_lald, ev_bald, ev_zald, ev_aald, ev_iast, ev_last, ev_bast, ev_zast, ev_aast, ev_gfI, ev_gfL, ev_gfR, ev_pfI, ev_pfZ, ev_pfL, ev_pfR, ev_new, ev_newa, ev_newq, ev_copy, ev_slen, ev_schr, ev_obj, ev_mmin, ev_mabs, ev_mmax, ev_goto, ev_jsr, ev_icmp_eq, ev_if_eq, ev_icmp_ne, ev_if_ne, ev_icmp_lt, ev_if_lt, ev_icmp_ge, ev_if_ge, ev_icmp_gt, ev_if_gt, ev_icmp_le, ev_if_le, ev_ifnull0, ev_ifnull1, ev_ifnn0, ev_ifnn1, ev_tsw, ev_lsw, ev_iret, ev_zret, ev_lret, ev_aret, ev_ret, ev_call0, ev_call1, ev_call2, ev_call3, ev_call4, ev_call5, ev_call6, Option.toList_some, Option.toList_none, List.cons_append, List.nil_append, List.length_cons, List.length_nil, Nat.reduceMod, Nat.reduceDiv, Nat.reduceAdd, Nat.reduceLeDiff, nc, ↓reduceIte, Nat.zero_le, reduceCtorEq, w32_id, Int.reduceEq, Int.reduceNe, Int.reduceLT, Int.reduceLE, Int.reduceGT, Int.reduceGE, Int.reduceAdd, Int.reduceSub, Int.reduceMul, Int.reduceNeg, ne_eq, not_true_eq_false, not_false_eq_true, eq_self, r_prices, r_goalShares, r_columnShares, r_holders, r_comeFrom, r_distances, r_reached, k_148_9, J_148_79, k_148_79, J_148_85, k_148_85, k_148_0, m0, m9, q1, r1, nc_s]
      rw [meas_no (fun z => r1 z.1)]
      rfl) none
  rw [show ((0 : Nat) : Int) = 0 from rfl, meas_0] at hw
  rw [hw]
  have e : (((M p 2 + 1).toNat : Nat) : Int) = M p 2 + 1 := by omega
  rw [e]
  have m0 := meas_oth (M := M) (p := p) (t := t) (n := M p 2 + 1) (b := p) (by omega) (by omega)
  have q1 : M p 2 < M p 2 + 1 := by omega
  simp (disch := first | assumption | decide | omega | (simp only [List.length_cons, List.length_nil] <;> omega)) only [lgt_0, lgt_s, lset_0, lset_s, lst1_0, lst1_s, lst2_0, lst2_s, ev_iconst, ev_lconst, ev_ldc, ev_null, ev_iload, ev_lload, ev_aload, ev_istore, ev_lstore, ev_astore, ev_iinc, ev_iadd, ev_isub, ev_imul, ev_iand, ev_ior, ev_ishl, ev_ishr, ev_idiv, ev_irem, ev_ineg, ev_ladd, ev_lsub, ev_lmul, ev_land, ev_lor, ev_ldiv, ev_lrem, ev_lshl, ev_i2l, ev_l2i, ev_i2b, ev_i2s, ev_lcmp, ev_dupI, ev_dupR, ev_dup2, ev_popI, ev_popR, ev_alen, ev_xlen, ev_xald, ev_iald, ev_lald, ev_bald, ev_zald, ev_aald, ev_iast, ev_last, ev_bast, ev_zast, ev_aast, ev_gfI, ev_gfL, ev_gfR, ev_pfI, ev_pfZ, ev_pfL, ev_pfR, ev_new, ev_newa, ev_newq, ev_copy, ev_slen, ev_schr, ev_obj, ev_mmin, ev_mabs, ev_mmax, ev_goto, ev_jsr, ev_icmp_eq, ev_if_eq, ev_icmp_ne, ev_if_ne, ev_icmp_lt, ev_if_lt, ev_icmp_ge, ev_if_ge, ev_icmp_gt, ev_if_gt, ev_icmp_le, ev_if_le, ev_ifnull0, ev_ifnull1, ev_ifnn0, ev_ifnn1, ev_tsw, ev_lsw, ev_iret, ev_zret, ev_lret, ev_aret, ev_ret, ev_call0, ev_call1, ev_call2, ev_call3, ev_call4, ev_call5, ev_call6, Option.toList_some, Option.toList_none, List.cons_append, List.nil_append, List.length_cons, List.length_nil, Nat.reduceMod, Nat.reduceDiv, Nat.reduceAdd, Nat.reduceLeDiff, nc, ↓reduceIte, Nat.zero_le, reduceCtorEq, w32_id, Int.reduceEq, Int.reduceNe, Int.reduceLT, Int.reduceLE, Int.reduceGT, Int.reduceGE, Int.reduceAdd, Int.reduceSub, Int.reduceMul, Int.reduceNeg, ne_eq, not_true_eq_false, not_false_eq_true, eq_self, k_148_9, J_148_79, k_148_79, J_148_85, k_148_85, k_148_0, m0, q1]
end MEA
