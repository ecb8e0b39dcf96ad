/-! THE MODEL: ways, strands, whence. -/
section MWY
variable {X : Int → Int} {Sh : List SE} {M : Mem} {m : Nat}
/-- the model's chart is well -/
def goodM (M : Mem) (m : Nat) : Prop := goodN (M (m + 1)) (M (m + 10)) (fun i => M (m + 9) i % M (m + 1) 0) (fun i => i / M (m + 1) 0) (M (m + 1) 0 * M (m + 1) 1) ∧ ∀ i, 0 ≤ i → i < M (m + 1) 0 * M (m + 1) 1 → 0 ≤ M (m + 9) i ∧ M (m + 9) i < 48
theorem m_way (h : MD Sh m) (g : goodM M m) {i j : Int} (hi : 0 ≤ i) (hij : i < j) (hj : j < M (m + 1) 0 * M (m + 1) 1) : evc X 277 [vR (some m), vI i, vI j] Sh M = some (some (vI (wayF (M (m + 1)) (M (m + 10)) (fun i => M (m + 9) i % M (m + 1) 0) (fun i => i / M (m + 1) 0) (M (m + 1) 0 * M (m + 1) 1) i j)), Sh, M) := by
  obtain ⟨⟨gs, ⟨gn0, gn1⟩, gi⟩, gp⟩ := g
  have g0 := gs.1
  have g1 := gs.2.1
  have g4 := gs.2.2.2.2.1
  have g6 := gs.2.2.2.2.2.2.1
  have g7 := gs.2.2.2.2.2.2.2.1
  have g14 := gs.2.2.2.2.2.2.2.2.2.2.2.2.2.2
  have hw : 0 < M (m + 1) 0 := by
    have := (gi i hi (by omega)).2.1
    omega
  have p1 := gp i hi (by omega)
  have p2 := gp j (by omega) hj
  have gi1 := gi i hi (by omega)
  have gj1 := gi j (by omega) hj
  have r1 := m_rowOf (X := X) (M := M) h gs (i := i) (by omega) hw
  have r2 := m_rowOf (X := X) (M := M) h gs (i := j) (by omega) hw
  have x1 := m_xOf (X := X) (M := M) h gs (i := i) (by omega) (by omega) hw
  have x2 := m_xOf (X := X) (M := M) h gs (i := j) (by omega) (by omega) hw
  have hk0 := h.1; obtain ⟨r_at, k_at, l_at⟩ := md_at h; obtain ⟨r_colourOf, k_colourOf, l_colourOf⟩ := md_colourOf h
  rw [E_277 hk0]
  unfold wayF
  dsimp only at gi1 gj1 ⊢
  generalize M (m + 9) i % M (m + 1) 0 = xi at *
  generalize M (m + 9) j % M (m + 1) 0 = xj at *
  generalize i / M (m + 1) 0 = ri at *
  generalize j / M (m + 1) 0 = rj at *
  unfold wayV
  by_cases q1 : M (m + 10) i = M (m + 10) j
  · rw [if_pos ⟨hi, hij, hj, q1⟩]
    by_cases q2 : j - i - 1 = 0
    · rw [if_pos q2]
      simp (disch := first | assumption | decide | omega | (simp only [List.length_cons, List.length_nil] <;> omega)) only [lgt_0, lgt_s, lset_0, lset_s, lst1_0, lst1_s, lst2_0, lst2_s, ev_iconst, ev_lconst, ev_ldc, ev_null, ev_iload, ev_lload, ev_aload, ev_istore, ev_lstore, ev_astore, ev_iinc, ev_iadd, ev_isub, ev_imul, ev_iand, ev_ior, ev_ishl, ev_ishr, ev_idiv, ev_irem, ev_ineg, ev_ladd, ev_lsub, ev_lmul, ev_land, ev_lor, ev_ldiv, ev_lrem, ev_lshl, ev_i2l, ev_l2i, ev_i2b, ev_i2s, ev_lcmp, ev_dupI, ev_dupR, ev_dup2, ev_popI, ev_popR, ev_alen, ev_xlen, ev_xald, ev_iald, ev_lald, ev_bald, ev_zald, ev_aald, ev_iast, ev_last, ev_bast, ev_zast, ev_aast, ev_gfI, ev_gfL, ev_gfR, ev_pfI, ev_pfZ, ev_pfL, ev_pfR, ev_new, ev_newa, ev_newq, ev_copy, ev_slen, ev_schr, ev_obj, ev_mmin, ev_mabs, ev_mmax, ev_goto, ev_jsr, ev_icmp_eq, ev_if_eq, ev_icmp_ne, ev_if_ne, ev_icmp_lt, ev_if_lt, ev_icmp_ge, ev_if_ge, ev_icmp_gt, ev_if_gt, ev_icmp_le, ev_if_le, ev_ifnull0, ev_ifnull1, ev_ifnn0, ev_ifnn1, ev_tsw, ev_lsw, ev_iret, ev_zret, ev_lret, ev_aret, ev_ret, ev_call0, ev_call1, ev_call2, ev_call3, ev_call4, ev_call5, ev_call6, Option.toList_some, Option.toList_none, List.cons_append, List.nil_append, List.length_cons, List.length_nil, Nat.reduceMod, Nat.reduceDiv, Nat.reduceAdd, Nat.reduceLeDiff, nc, ↓reduceIte, Nat.zero_le, reduceCtorEq, w32_id, Int.reduceEq, Int.reduceNe, Int.reduceLT, Int.reduceLE, Int.reduceGT, Int.reduceGE, Int.reduceAdd, Int.reduceSub, Int.reduceMul, Int.reduceNeg, ne_eq, not_true_eq_false, not_false_eq_true, eq_self, r_at, r_colourOf, J_277_0, k_277_0, J_277_23, k_277_23, J_277_29, k_277_29, J_277_53, k_277_53, J_277_67, k_277_67, J_277_81, k_277_81, J_277_82, k_277_82, J_277_83, k_277_83, J_277_126, k_277_126, J_277_127, k_277_127, q1, q2]
    · rw [if_neg q2]
      by_cases q3 : M (m + 1) 14 = 1
      · rw [if_pos (Or.inl q3)]
        simp (disch := first | assumption | decide | omega | (simp only [List.length_cons, List.length_nil] <;> omega)) only [lgt_0, lgt_s, lset_0, lset_s, lst1_0, lst1_s, lst2_0, lst2_s, ev_iconst, ev_lconst, ev_ldc, ev_null, ev_iload, ev_lload, ev_aload, ev_istore, ev_lstore, ev_astore, ev_iinc, ev_iadd, ev_isub, ev_imul, ev_iand, ev_ior, ev_ishl, ev_ishr, ev_idiv, ev_irem, ev_ineg, ev_ladd, ev_lsub, ev_lmul, ev_land, ev_lor, ev_ldiv, ev_lrem, ev_lshl, ev_i2l, ev_l2i, ev_i2b, ev_i2s, ev_lcmp, ev_dupI, ev_dupR, ev_dup2, ev_popI, ev_popR, ev_alen, ev_xlen, ev_xald, ev_iald, ev_lald, ev_bald, ev_zald, ev_aald, ev_iast, ev_last, ev_bast, ev_zast, ev_aast, ev_gfI, ev_gfL, ev_gfR, ev_pfI, ev_pfZ, ev_pfL, ev_pfR, ev_new, ev_newa, ev_newq, ev_copy, ev_slen, ev_schr, ev_obj, ev_mmin, ev_mabs, ev_mmax, ev_goto, ev_jsr, ev_icmp_eq, ev_if_eq, ev_icmp_ne, ev_if_ne, ev_icmp_lt, ev_if_lt, ev_icmp_ge, ev_if_ge, ev_icmp_gt, ev_if_gt, ev_icmp_le, ev_if_le, ev_ifnull0, ev_ifnull1, ev_ifnn0, ev_ifnn1, ev_tsw, ev_lsw, ev_iret, ev_zret, ev_lret, ev_aret, ev_ret, ev_call0, ev_call1, ev_call2, ev_call3, ev_call4, ev_call5, ev_call6, Option.toList_some, Option.toList_none, List.cons_append, List.nil_append, List.length_cons, List.length_nil, Nat.reduceMod, Nat.reduceDiv, Nat.reduceAdd, Nat.reduceLeDiff, nc, ↓reduceIte, Nat.zero_le, reduceCtorEq, w32_id, Int.reduceEq, Int.reduceNe, Int.reduceLT, Int.reduceLE, Int.reduceGT, Int.reduceGE, Int.reduceAdd, Int.reduceSub, Int.reduceMul, Int.reduceNeg, ne_eq, not_true_eq_false, not_false_eq_true, eq_self, r_at, r_colourOf, J_277_0, k_277_0, J_277_23, k_277_23, J_277_29, k_277_29, J_277_53, k_277_53, J_277_67, k_277_67, J_277_81, k_277_81, J_277_82, k_277_82, J_277_83, k_277_83, J_277_126, k_277_126, J_277_127, k_277_127, q1, q2, q3]
        repeat' split
        all_goals first | rfl | omega
      · by_cases q4 : ri = rj
        · rw [if_pos (Or.inr q4)]
          simp (disch := first | assumption | decide | omega | (simp only [List.length_cons, List.length_nil] <;> omega)) only [lgt_0, lgt_s, lset_0, lset_s, lst1_0, lst1_s, lst2_0, lst2_s, ev_iconst, ev_lconst, ev_ldc, ev_null, ev_iload, ev_lload, ev_aload, ev_istore, ev_lstore, ev_astore, ev_iinc, ev_iadd, ev_isub, ev_imul, ev_iand, ev_ior, ev_ishl, ev_ishr, ev_idiv, ev_irem, ev_ineg, ev_ladd, ev_lsub, ev_lmul, ev_land, ev_lor, ev_ldiv, ev_lrem, ev_lshl, ev_i2l, ev_l2i, ev_i2b, ev_i2s, ev_lcmp, ev_dupI, ev_dupR, ev_dup2, ev_popI, ev_popR, ev_alen, ev_xlen, ev_xald, ev_iald, ev_lald, ev_bald, ev_zald, ev_aald, ev_iast, ev_last, ev_bast, ev_zast, ev_aast, ev_gfI, ev_gfL, ev_gfR, ev_pfI, ev_pfZ, ev_pfL, ev_pfR, ev_new, ev_newa, ev_newq, ev_copy, ev_slen, ev_schr, ev_obj, ev_mmin, ev_mabs, ev_mmax, ev_goto, ev_jsr, ev_icmp_eq, ev_if_eq, ev_icmp_ne, ev_if_ne, ev_icmp_lt, ev_if_lt, ev_icmp_ge, ev_if_ge, ev_icmp_gt, ev_if_gt, ev_icmp_le, ev_if_le, ev_ifnull0, ev_ifnull1, ev_ifnn0, ev_ifnn1, ev_tsw, ev_lsw, ev_iret, ev_zret, ev_lret, ev_aret, ev_ret, ev_call0, ev_call1, ev_call2, ev_call3, ev_call4, ev_call5, ev_call6, Option.toList_some, Option.toList_none, List.cons_append, List.nil_append, List.length_cons, List.length_nil, Nat.reduceMod, Nat.reduceDiv, Nat.reduceAdd, Nat.reduceLeDiff, nc, ↓reduceIte, Nat.zero_le, reduceCtorEq, w32_id, Int.reduceEq, Int.reduceNe, Int.reduceLT, Int.reduceLE, Int.reduceGT, Int.reduceGE, Int.reduceAdd, Int.reduceSub, Int.reduceMul, Int.reduceNeg, ne_eq, not_true_eq_false, not_false_eq_true, eq_self, r_at, r_colourOf, J_277_0, k_277_0, J_277_23, k_277_23, J_277_29, k_277_29, J_277_53, k_277_53, J_277_67, k_277_67, J_277_81, k_277_81, J_277_82, k_277_82, J_277_83, k_277_83, J_277_126, k_277_126, J_277_127, k_277_127, q1, q2, q3, r1, r2, q4]
          repeat' split
          all_goals first | rfl | omega
        · rw [if_neg (fun h => h.elim q3 q4)]
          simp (disch := first | assumption | decide | omega | (simp only [List.length_cons, List.length_nil] <;> omega)) only [lgt_0, lgt_s, lset_0, lset_s, lst1_0, lst1_s, lst2_0, lst2_s, ev_iconst, ev_lconst, ev_ldc, ev_null, ev_iload, ev_lload, ev_aload, ev_istore, ev_lstore, ev_astore, ev_iinc, ev_iadd, ev_isub, ev_imul, ev_iand, ev_ior, ev_ishl, ev_ishr, ev_idiv, ev_irem, ev_ineg, ev_ladd, ev_lsub, ev_lmul, ev_land, ev_lor, ev_ldiv, ev_lrem, ev_lshl, ev_i2l, ev_l2i, ev_i2b, ev_i2s, ev_lcmp, ev_dupI, ev_dupR, ev_dup2, ev_popI, ev_popR, ev_alen, ev_xlen, ev_xald, ev_iald, ev_lald, ev_bald, ev_zald, ev_aald, ev_iast, ev_last, ev_bast, ev_zast, ev_aast, ev_gfI, ev_gfL, ev_gfR, ev_pfI, ev_pfZ, ev_pfL, ev_pfR, ev_new, ev_newa, ev_newq, ev_copy, ev_slen, ev_schr, ev_obj, ev_mmin, ev_mabs, ev_mmax, ev_goto, ev_jsr, ev_icmp_eq, ev_if_eq, ev_icmp_ne, ev_if_ne, ev_icmp_lt, ev_if_lt, ev_icmp_ge, ev_if_ge, ev_icmp_gt, ev_if_gt, ev_icmp_le, ev_if_le, ev_ifnull0, ev_ifnull1, ev_ifnn0, ev_ifnn1, ev_tsw, ev_lsw, ev_iret, ev_zret, ev_lret, ev_aret, ev_ret, ev_call0, ev_call1, ev_call2, ev_call3, ev_call4, ev_call5, ev_call6, Option.toList_some, Option.toList_none, List.cons_append, List.nil_append, List.length_cons, List.length_nil, Nat.reduceMod, Nat.reduceDiv, Nat.reduceAdd, Nat.reduceLeDiff, nc, ↓reduceIte, Nat.zero_le, reduceCtorEq, w32_id, Int.reduceEq, Int.reduceNe, Int.reduceLT, Int.reduceLE, Int.reduceGT, Int.reduceGE, Int.reduceAdd, Int.reduceSub, Int.reduceMul, Int.reduceNeg, ne_eq, not_true_eq_false, not_false_eq_true, eq_self, r_at, r_colourOf, J_277_0, k_277_0, J_277_23, k_277_23, J_277_29, k_277_29, J_277_53, k_277_53, J_277_67, k_277_67, J_277_81, k_277_81, J_277_82, k_277_82, J_277_83, k_277_83, J_277_126, k_277_126, J_277_127, k_277_127, q1, q2, q3, q4, r1, r2, x1, x2]
          repeat' split
          all_goals first | rfl | omega
  · rw [if_neg (fun h => q1 h.2.2.2)]
    simp (disch := first | assumption | decide | omega | (simp only [List.length_cons, List.length_nil] <;> omega)) only [lgt_0, lgt_s, lset_0, lset_s, lst1_0, lst1_s, lst2_0, lst2_s, ev_iconst, ev_lconst, ev_ldc, ev_null, ev_iload, ev_lload, ev_aload, ev_istore, ev_lstore, ev_astore, ev_iinc, ev_iadd, ev_isub, ev_imul, ev_iand, ev_ior, ev_ishl, ev_ishr, ev_idiv, ev_irem, ev_ineg, ev_ladd, ev_lsub, ev_lmul, ev_land, ev_lor, ev_ldiv, ev_lrem, ev_lshl, ev_i2l, ev_l2i, ev_i2b, ev_i2s, ev_lcmp, ev_dupI, ev_dupR, ev_dup2, ev_popI, ev_popR, ev_alen, ev_xlen, ev_xald, ev_iald, ev_lald, ev_bald, ev_zald, ev_aald, ev_iast, ev_last, ev_bast, ev_zast, ev_aast, ev_gfI, ev_gfL, ev_gfR, ev_pfI, ev_pfZ, ev_pfL, ev_pfR, ev_new, ev_newa, ev_newq, ev_copy, ev_slen, ev_schr, ev_obj, ev_mmin, ev_mabs, ev_mmax, ev_goto, ev_jsr, ev_icmp_eq, ev_if_eq, ev_icmp_ne, ev_if_ne, ev_icmp_lt, ev_if_lt, ev_icmp_ge, ev_if_ge, ev_icmp_gt, ev_if_gt, ev_icmp_le, ev_if_le, ev_ifnull0, ev_ifnull1, ev_ifnn0, ev_ifnn1, ev_tsw, ev_lsw, ev_iret, ev_zret, ev_lret, ev_aret, ev_ret, ev_call0, ev_call1, ev_call2, ev_call3, ev_call4, ev_call5, ev_call6, Option.toList_some, Option.toList_none, List.cons_append, List.nil_append, List.length_cons, List.length_nil, Nat.reduceMod, Nat.reduceDiv, Nat.reduceAdd, Nat.reduceLeDiff, nc, ↓reduceIte, Nat.zero_le, reduceCtorEq, w32_id, Int.reduceEq, Int.reduceNe, Int.reduceLT, Int.reduceLE, Int.reduceGT, Int.reduceGE, Int.reduceAdd, Int.reduceSub, Int.reduceMul, Int.reduceNeg, ne_eq, not_true_eq_false, not_false_eq_true, eq_self, r_at, r_colourOf, J_277_0, k_277_0, J_277_23, k_277_23, J_277_29, k_277_29, J_277_53, k_277_53, J_277_67, k_277_67, J_277_81, k_277_81, J_277_82, k_277_82, J_277_83, k_277_83, J_277_126, k_277_126, J_277_127, k_277_127, q1]
theorem m_strandOf (h : MD Sh m) (g : goodM M m) {i j : Int} (hi : 0 ≤ i) (hij : i < j) (hj : j < M (m + 1) 0 * M (m + 1) 1) (hne : wayF (M (m + 1)) (M (m + 10)) (fun i => M (m + 9) i % M (m + 1) 0) (fun i => i / M (m + 1) 0) (M (m + 1) 0 * M (m + 1) 1) i j ≠ 0) : evc X 281 [vR (some m), vI i, vI j] Sh M = some (some (vI (strF (M (m + 1)) (fun i => M (m + 9) i % M (m + 1) 0) (wayF (M (m + 1)) (M (m + 10)) (fun i => M (m + 9) i % M (m + 1) 0) (fun i => i / M (m + 1) 0) (M (m + 1) 0 * M (m + 1) 1) i j) i j)), Sh, M) := by
  have hw := m_way (X := X) h g hi hij hj
  have hr := @wayF_rng (M (m + 1)) (M (m + 10)) (fun i => M (m + 9) i % M (m + 1) 0) (fun i => i / M (m + 1) 0) (M (m + 1) 0 * M (m + 1) 1) i j
  generalize wayF (M (m + 1)) (M (m + 10)) (fun i => M (m + 9) i % M (m + 1) 0) (fun i => i / M (m + 1) 0) (M (m + 1) 0 * M (m + 1) 1) i j = w at hw hr hne ⊢
  obtain ⟨⟨gs, ⟨gn0, gn1⟩, gi⟩, gp⟩ := g
  have g0 := gs.1
  have g11 := gs.2.2.2.2.2.2.2.2.2.2.2.1
  have hw0 : 0 < M (m + 1) 0 := by
    have := (gi i hi (by omega)).2.1
    omega
  have p1 := gp i hi (by omega)
  have p2 := gp j (by omega) hj
  have gi1 := (gi i hi (by omega)).2.1
  have gj1 := (gi j (by omega) hj).2.1
  have x1 := m_xOf (X := X) (M := M) h gs (i := i) (by omega) (by omega) hw0
  have x2 := m_xOf (X := X) (M := M) h gs (i := j) (by omega) (by omega) hw0
  have hk0 := h.1; obtain ⟨r_at, k_at, l_at⟩ := md_at h
  rw [E_281 hk0]
  unfold strF
  dsimp only at gi1 gj1 ⊢
  generalize M (m + 9) i % M (m + 1) 0 = xi at *
  generalize M (m + 9) j % M (m + 1) 0 = xj at *
  by_cases q4 : w = 4
  · subst q4
    rw [if_pos rfl]
    have e : (if 0 ≤ xi - xj then xi - xj else 0 - (xi - xj)) = iabs (xi - xj) := rfl
    have b0 : 0 ≤ iabs (xi - xj) ∧ iabs (xi - xj) ≤ 8 := by
      unfold iabs
      split <;> omega
    have b1 : 0 ≤ M (m + 1) 11 * iabs (xi - xj) := Int.mul_nonneg g11.1 b0.1
    have b2 : M (m + 1) 11 * iabs (xi - xj) ≤ 99 * 8 := Int.mul_le_mul g11.2 b0.2 b0.1 (by omega)
    simp (disch := first | assumption | decide | omega | (simp only [List.length_cons, List.length_nil] <;> omega)) only [lgt_0, lgt_s, lset_0, lset_s, lst1_0, lst1_s, lst2_0, lst2_s, ev_iconst, ev_lconst, ev_ldc, ev_null, ev_iload, ev_lload, ev_aload, ev_istore, ev_lstore, ev_astore, ev_iinc, ev_iadd, ev_isub, ev_imul, ev_iand, ev_ior, ev_ishl, ev_ishr, ev_idiv, ev_irem, ev_ineg, ev_ladd, ev_lsub, ev_lmul, ev_land, ev_lor, ev_ldiv, ev_lrem, ev_lshl, ev_i2l, ev_l2i, ev_i2b, ev_i2s, ev_lcmp, ev_dupI, ev_dupR, ev_dup2, ev_popI, ev_popR, ev_alen, ev_xlen, ev_xald, ev_iald, ev_lald, ev_bald, ev_zald, ev_aald, ev_iast, ev_last, ev_bast, ev_zast, ev_aast, ev_gfI, ev_gfL, ev_gfR, ev_pfI, ev_pfZ, ev_pfL, ev_pfR, ev_new, ev_newa, ev_newq, ev_copy, ev_slen, ev_schr, ev_obj, ev_mmin, ev_mabs, ev_mmax, ev_goto, ev_jsr, ev_icmp_eq, ev_if_eq, ev_icmp_ne, ev_if_ne, ev_icmp_lt, ev_if_lt, ev_icmp_ge, ev_if_ge, ev_icmp_gt, ev_if_gt, ev_icmp_le, ev_if_le, ev_ifnull0, ev_ifnull1, ev_ifnn0, ev_ifnn1, ev_tsw, ev_lsw, ev_iret, ev_zret, ev_lret, ev_aret, ev_ret, ev_call0, ev_call1, ev_call2, ev_call3, ev_call4, ev_call5, ev_call6, Option.toList_some, Option.toList_none, List.cons_append, List.nil_append, List.length_cons, List.length_nil, Nat.reduceMod, Nat.reduceDiv, Nat.reduceAdd, Nat.reduceLeDiff, nc, ↓reduceIte, Nat.zero_le, reduceCtorEq, w32_id, Int.reduceEq, Int.reduceNe, Int.reduceLT, Int.reduceLE, Int.reduceGT, Int.reduceGE, Int.reduceAdd, Int.reduceSub, Int.reduceMul, Int.reduceNeg, ne_eq, not_true_eq_false, not_false_eq_true, eq_self, r_at, J_281_0, k_281_0, J_281_16, k_281_16, J_281_45, k_281_45, J_281_50, k_281_50, J_281_51, k_281_51, hw, x1, x2, e]
  · rw [if_neg q4]
    have b1 : 0 ≤ M (m + 1) 11 * (j - i - 1) := Int.mul_nonneg g11.1 (by omega)
    have b2 : M (m + 1) 11 * (j - i - 1) ≤ 99 * 48 := Int.mul_le_mul g11.2 (by omega) (by omega) (by omega)
    by_cases q1 : w = 1
    · subst q1
      rw [if_neg (by omega)]
      simp (disch := first | assumption | decide | omega | (simp only [List.length_cons, List.length_nil] <;> omega)) only [lgt_0, lgt_s, lset_0, lset_s, lst1_0, lst1_s, lst2_0, lst2_s, ev_iconst, ev_lconst, ev_ldc, ev_null, ev_iload, ev_lload, ev_aload, ev_istore, ev_lstore, ev_astore, ev_iinc, ev_iadd, ev_isub, ev_imul, ev_iand, ev_ior, ev_ishl, ev_ishr, ev_idiv, ev_irem, ev_ineg, ev_ladd, ev_lsub, ev_lmul, ev_land, ev_lor, ev_ldiv, ev_lrem, ev_lshl, ev_i2l, ev_l2i, ev_i2b, ev_i2s, ev_lcmp, ev_dupI, ev_dupR, ev_dup2, ev_popI, ev_popR, ev_alen, ev_xlen, ev_xald, ev_iald, ev_lald, ev_bald, ev_zald, ev_aald, ev_iast, ev_last, ev_bast, ev_zast, ev_aast, ev_gfI, ev_gfL, ev_gfR, ev_pfI, ev_pfZ, ev_pfL, ev_pfR, ev_new, ev_newa, ev_newq, ev_copy, ev_slen, ev_schr, ev_obj, ev_mmin, ev_mabs, ev_mmax, ev_goto, ev_jsr, ev_icmp_eq, ev_if_eq, ev_icmp_ne, ev_if_ne, ev_icmp_lt, ev_if_lt, ev_icmp_ge, ev_if_ge, ev_icmp_gt, ev_if_gt, ev_icmp_le, ev_if_le, ev_ifnull0, ev_ifnull1, ev_ifnn0, ev_ifnn1, ev_tsw, ev_lsw, ev_iret, ev_zret, ev_lret, ev_aret, ev_ret, ev_call0, ev_call1, ev_call2, ev_call3, ev_call4, ev_call5, ev_call6, Option.toList_some, Option.toList_none, List.cons_append, List.nil_append, List.length_cons, List.length_nil, Nat.reduceMod, Nat.reduceDiv, Nat.reduceAdd, Nat.reduceLeDiff, nc, ↓reduceIte, Nat.zero_le, reduceCtorEq, w32_id, Int.reduceEq, Int.reduceNe, Int.reduceLT, Int.reduceLE, Int.reduceGT, Int.reduceGE, Int.reduceAdd, Int.reduceSub, Int.reduceMul, Int.reduceNeg, ne_eq, not_true_eq_false, not_false_eq_true, eq_self, r_at, J_281_0, k_281_0, J_281_16, k_281_16, J_281_45, k_281_45, J_281_50, k_281_50, J_281_51, k_281_51, hw]
    · rw [if_pos (by omega)]
      simp (disch := first | assumption | decide | omega | (simp only [List.length_cons, List.length_nil] <;> omega)) only [lgt_0, lgt_s, lset_0, lset_s, lst1_0, lst1_s, lst2_0, lst2_s, ev_iconst, ev_lconst, ev_ldc, ev_null, ev_iload, ev_lload, ev_aload, ev_istore, ev_lstore, ev_astore, ev_iinc, ev_iadd, ev_isub, ev_imul, ev_iand, ev_ior, ev_ishl, ev_ishr, ev_idiv, ev_irem, ev_ineg, ev_ladd, ev_lsub, ev_lmul, ev_land, ev_lor, ev_ldiv, ev_lrem, ev_lshl, ev_i2l, ev_l2i, ev_i2b, ev_i2s, ev_lcmp, ev_dupI, ev_dupR, ev_dup2, ev_popI, ev_popR, ev_alen, ev_xlen, ev_xald, ev_iald, ev_lald, ev_bald, ev_zald, ev_aald, ev_iast, ev_last, ev_bast, ev_zast, ev_aast, ev_gfI, ev_gfL, ev_gfR, ev_pfI, ev_pfZ, ev_pfL, ev_pfR, ev_new, ev_newa, ev_newq, ev_copy, ev_slen, ev_schr, ev_obj, ev_mmin, ev_mabs, ev_mmax, ev_goto, ev_jsr, ev_icmp_eq, ev_if_eq, ev_icmp_ne, ev_if_ne, ev_icmp_lt, ev_if_lt, ev_icmp_ge, ev_if_ge, ev_icmp_gt, ev_if_gt, ev_icmp_le, ev_if_le, ev_ifnull0, ev_ifnull1, ev_ifnn0, ev_ifnn1, ev_tsw, ev_lsw, ev_iret, ev_zret, ev_lret, ev_aret, ev_ret, ev_call0, ev_call1, ev_call2, ev_call3, ev_call4, ev_call5, ev_call6, Option.toList_some, Option.toList_none, List.cons_append, List.nil_append, List.length_cons, List.length_nil, Nat.reduceMod, Nat.reduceDiv, Nat.reduceAdd, Nat.reduceLeDiff, nc, ↓reduceIte, Nat.zero_le, reduceCtorEq, w32_id, Int.reduceEq, Int.reduceNe, Int.reduceLT, Int.reduceLE, Int.reduceGT, Int.reduceGE, Int.reduceAdd, Int.reduceSub, Int.reduceMul, Int.reduceNeg, ne_eq, not_true_eq_false, not_false_eq_true, eq_self, r_at, J_281_0, k_281_0, J_281_16, k_281_16, J_281_45, k_281_45, J_281_50, k_281_50, J_281_51, k_281_51, hw, q4, q1]
end MWY
