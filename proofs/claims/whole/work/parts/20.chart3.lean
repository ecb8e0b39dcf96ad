/-! CHARTS: strands, prices, names. -/
section CH3
variable {X : Int → Int} {Sh : List SE} {M : Mem} {c : Nat}
def iabs (a : Int) : Int := if 0 ≤ a then a else 0 - a
/-- yarn of a link, by its way -/
def strF (S P : Int → Int) (w i j : Int) : Int := if w = 4 then S 11 * iabs (P i - P j) else if w = 2 ∨ w = 3 then S 11 * (j - i - 1) else 0
theorem wayF_in {S H P R : Int → Int} {n i j : Int} (h : wayF S H P R n i j ≠ 0) : 0 ≤ i ∧ i < j ∧ j < n ∧ H i = H j := by
  unfold wayF wayV at h
  split at h
  · assumption
  · exact absurd rfl h
theorem s_strandOf (h : CH Sh c) (g : goodC M c) {i j : Int} (hi : -2147483648 ≤ i ∧ i < 2147483648) (hj : -2147483648 ≤ j ∧ j < 2147483648) : evc X 106 [vR (some c), vI i, vI j] Sh M = some (some (vI (strF (M (c + 1)) (M (c + 7)) (wayF (M (c + 1)) (M (c + 6)) (M (c + 7)) (M (c + 8)) (M c 8) i j) i j)), Sh, M) := by
  have hw := s_way (X := X) h g hi hj
  have hin := @wayF_in (M (c + 1)) (M (c + 6)) (M (c + 7)) (M (c + 8)) (M c 8) i j
  generalize wayF (M (c + 1)) (M (c + 6)) (M (c + 7)) (M (c + 8)) (M c 8) i j = w at hw hin ⊢
  obtain ⟨hk0, hr0, hr1, hr2, hr3, hr4, hr5, hr6, hr7, hk1, hk2, hk3, hk4, hk5, hk6, hk7, hk8, hl1, hl2, hl3, hl4, hl5, hl6, hl7, hl8⟩ := h
  obtain ⟨gs, ⟨gn0, gn1⟩, gi⟩ := g
  have g11 := gs.2.2.2.2.2.2.2.2.2.2.2.1
  have g0 := gs.1
  rw [E_106 hk0]
  unfold strF
  by_cases q0 : w = 0
  · subst q0
    rw [if_neg (by omega), if_neg (by omega)]
    simp (disch := first | assumption | decide | omega | (simp only [List.length_cons, List.length_nil] <;> omega)) only [lgt_0, lgt_s, lset_0, lset_s, lst1_0, lst1_s, lst2_0, lst2_s, ev_iconst, ev_lconst, ev_ldc, ev_null, ev_iload, ev_lload, ev_aload, ev_istore, ev_lstore, ev_astore, ev_iinc, ev_iadd, ev_isub, ev_imul, ev_iand, ev_ior, ev_ishl, ev_ishr, ev_idiv, ev_irem, ev_ineg, ev_ladd, ev_lsub, ev_lmul, ev_land, ev_lor, ev_ldiv, ev_lrem, ev_lshl, ev_i2l, ev_l2i, ev_i2b, ev_i2s, ev_lcmp, ev_dupI, ev_dupR, ev_dup2, ev_popI, ev_popR, ev_alen, ev_xlen, ev_xald, ev_iald, ev_lald, ev_bald, ev_zald, ev_aald, ev_iast, ev_last, ev_bast, ev_zast, ev_aast, ev_gfI, ev_gfL, ev_gfR, ev_pfI, ev_pfZ, ev_pfL, ev_pfR, ev_new, ev_newa, ev_newq, ev_copy, ev_slen, ev_schr, ev_obj, ev_mmin, ev_mabs, ev_mmax, ev_goto, ev_jsr, ev_icmp_eq, ev_if_eq, ev_icmp_ne, ev_if_ne, ev_icmp_lt, ev_if_lt, ev_icmp_ge, ev_if_ge, ev_icmp_gt, ev_if_gt, ev_icmp_le, ev_if_le, ev_ifnull0, ev_ifnull1, ev_ifnn0, ev_ifnn1, ev_tsw, ev_lsw, ev_iret, ev_zret, ev_lret, ev_aret, ev_ret, ev_call0, ev_call1, ev_call2, ev_call3, ev_call4, ev_call5, ev_call6, Option.toList_some, Option.toList_none, List.cons_append, List.nil_append, List.length_cons, List.length_nil, Nat.reduceMod, Nat.reduceDiv, Nat.reduceAdd, Nat.reduceLeDiff, nc, ↓reduceIte, Nat.zero_le, reduceCtorEq, w32_id, Int.reduceEq, Int.reduceNe, Int.reduceLT, Int.reduceLE, Int.reduceGT, Int.reduceGE, Int.reduceAdd, Int.reduceSub, Int.reduceMul, Int.reduceNeg, ne_eq, not_true_eq_false, not_false_eq_true, eq_self, hr0, hr1, hr2, hr3, hr4, hr5, hr6, hr7, J_106_0, k_106_0, J_106_37, k_106_37, J_106_47, k_106_47, J_106_63, k_106_63, J_106_64, k_106_64, hw]
  · obtain ⟨h1, h2, h3, -⟩ := hin q0
    have gi1 := gi i h1 (by omega)
    have gj1 := gi j (by omega) h3
    by_cases q4 : w = 4
    · subst q4
      rw [if_pos rfl]
      have e : (if 0 ≤ M (c + 7) i - M (c + 7) j then M (c + 7) i - M (c + 7) j else 0 - (M (c + 7) i - M (c + 7) j)) = iabs (M (c + 7) i - M (c + 7) j) := rfl
      have b0 : 0 ≤ iabs (M (c + 7) i - M (c + 7) j) ∧ iabs (M (c + 7) i - M (c + 7) j) ≤ 8 := by
        unfold iabs
        split <;> omega
      have b1 : 0 ≤ M (c + 1) 11 * iabs (M (c + 7) i - M (c + 7) j) := Int.mul_nonneg g11.1 b0.1
      have b2 : M (c + 1) 11 * iabs (M (c + 7) i - M (c + 7) j) ≤ 99 * 8 := Int.mul_le_mul g11.2 b0.2 b0.1 (by omega)
      simp (disch := first | assumption | decide | omega | (simp only [List.length_cons, List.length_nil] <;> omega)) only [lgt_0, lgt_s, lset_0, lset_s, lst1_0, lst1_s, lst2_0, lst2_s, ev_iconst, ev_lconst, ev_ldc, ev_null, ev_iload, ev_lload, ev_aload, ev_istore, ev_lstore, ev_astore, ev_iinc, ev_iadd, ev_isub, ev_imul, ev_iand, ev_ior, ev_ishl, ev_ishr, ev_idiv, ev_irem, ev_ineg, ev_ladd, ev_lsub, ev_lmul, ev_land, ev_lor, ev_ldiv, ev_lrem, ev_lshl, ev_i2l, ev_l2i, ev_i2b, ev_i2s, ev_lcmp, ev_dupI, ev_dupR, ev_dup2, ev_popI, ev_popR, ev_alen, ev_xlen, ev_xald, ev_iald, ev_lald, ev_bald, ev_zald, ev_aald, ev_iast, ev_last, ev_bast, ev_zast, ev_aast, ev_gfI, ev_gfL, ev_gfR, ev_pfI, ev_pfZ, ev_pfL, ev_pfR, ev_new, ev_newa, ev_newq, ev_copy, ev_slen, ev_schr, ev_obj, ev_mmin, ev_mabs, ev_mmax, ev_goto, ev_jsr, ev_icmp_eq, ev_if_eq, ev_icmp_ne, ev_if_ne, ev_icmp_lt, ev_if_lt, ev_icmp_ge, ev_if_ge, ev_icmp_gt, ev_if_gt, ev_icmp_le, ev_if_le, ev_ifnull0, ev_ifnull1, ev_ifnn0, ev_ifnn1, ev_tsw, ev_lsw, ev_iret, ev_zret, ev_lret, ev_aret, ev_ret, ev_call0, ev_call1, ev_call2, ev_call3, ev_call4, ev_call5, ev_call6, Option.toList_some, Option.toList_none, List.cons_append, List.nil_append, List.length_cons, List.length_nil, Nat.reduceMod, Nat.reduceDiv, Nat.reduceAdd, Nat.reduceLeDiff, nc, ↓reduceIte, Nat.zero_le, reduceCtorEq, w32_id, Int.reduceEq, Int.reduceNe, Int.reduceLT, Int.reduceLE, Int.reduceGT, Int.reduceGE, Int.reduceAdd, Int.reduceSub, Int.reduceMul, Int.reduceNeg, ne_eq, not_true_eq_false, not_false_eq_true, eq_self, hr0, hr1, hr2, hr3, hr4, hr5, hr6, hr7, J_106_0, k_106_0, J_106_37, k_106_37, J_106_47, k_106_47, J_106_63, k_106_63, J_106_64, k_106_64, hw, e]
    · rw [if_neg q4]
      by_cases q2 : w = 2 ∨ w = 3
      · rw [if_pos q2]
        have b1 : 0 ≤ M (c + 1) 11 * (j - i - 1) := Int.mul_nonneg g11.1 (by omega)
        have b2 : M (c + 1) 11 * (j - i - 1) ≤ 99 * 48 := Int.mul_le_mul g11.2 (by omega) (by omega) (by omega)
        rcases q2 with q2 | q2 <;> subst q2 <;> simp (disch := first | assumption | decide | omega | (simp only [List.length_cons, List.length_nil] <;> omega)) only [lgt_0, lgt_s, lset_0, lset_s, lst1_0, lst1_s, lst2_0, lst2_s, ev_iconst, ev_lconst, ev_ldc, ev_null, ev_iload, ev_lload, ev_aload, ev_istore, ev_lstore, ev_astore, ev_iinc, ev_iadd, ev_isub, ev_imul, ev_iand, ev_ior, ev_ishl, ev_ishr, ev_idiv, ev_irem, ev_ineg, ev_ladd, ev_lsub, ev_lmul, ev_land, ev_lor, ev_ldiv, ev_lrem, ev_lshl, ev_i2l, ev_l2i, ev_i2b, ev_i2s, ev_lcmp, ev_dupI, ev_dupR, ev_dup2, ev_popI, ev_popR, ev_alen, ev_xlen, ev_xald, ev_iald, ev_lald, ev_bald, ev_zald, ev_aald, ev_iast, ev_last, ev_bast, ev_zast, ev_aast, ev_gfI, ev_gfL, ev_gfR, ev_pfI, ev_pfZ, ev_pfL, ev_pfR, ev_new, ev_newa, ev_newq, ev_copy, ev_slen, ev_schr, ev_obj, ev_mmin, ev_mabs, ev_mmax, ev_goto, ev_jsr, ev_icmp_eq, ev_if_eq, ev_icmp_ne, ev_if_ne, ev_icmp_lt, ev_if_lt, ev_icmp_ge, ev_if_ge, ev_icmp_gt, ev_if_gt, ev_icmp_le, ev_if_le, ev_ifnull0, ev_ifnull1, ev_ifnn0, ev_ifnn1, ev_tsw, ev_lsw, ev_iret, ev_zret, ev_lret, ev_aret, ev_ret, ev_call0, ev_call1, ev_call2, ev_call3, ev_call4, ev_call5, ev_call6, Option.toList_some, Option.toList_none, List.cons_append, List.nil_append, List.length_cons, List.length_nil, Nat.reduceMod, Nat.reduceDiv, Nat.reduceAdd, Nat.reduceLeDiff, nc, ↓reduceIte, Nat.zero_le, reduceCtorEq, w32_id, Int.reduceEq, Int.reduceNe, Int.reduceLT, Int.reduceLE, Int.reduceGT, Int.reduceGE, Int.reduceAdd, Int.reduceSub, Int.reduceMul, Int.reduceNeg, ne_eq, not_true_eq_false, not_false_eq_true, eq_self, hr0, hr1, hr2, hr3, hr4, hr5, hr6, hr7, J_106_0, k_106_0, J_106_37, k_106_37, J_106_47, k_106_47, J_106_63, k_106_63, J_106_64, k_106_64, hw]
      · rw [if_neg q2]
        have q5 : ¬ w = 2 := fun h => q2 (Or.inl h)
        have q6 : ¬ w = 3 := fun h => q2 (Or.inr h)
        simp (disch := first | assumption | decide | omega | (simp only [List.length_cons, List.length_nil] <;> omega)) only [lgt_0, lgt_s, lset_0, lset_s, lst1_0, lst1_s, lst2_0, lst2_s, ev_iconst, ev_lconst, ev_ldc, ev_null, ev_iload, ev_lload, ev_aload, ev_istore, ev_lstore, ev_astore, ev_iinc, ev_iadd, ev_isub, ev_imul, ev_iand, ev_ior, ev_ishl, ev_ishr, ev_idiv, ev_irem, ev_ineg, ev_ladd, ev_lsub, ev_lmul, ev_land, ev_lor, ev_ldiv, ev_lrem, ev_lshl, ev_i2l, ev_l2i, ev_i2b, ev_i2s, ev_lcmp, ev_dupI, ev_dupR, ev_dup2, ev_popI, ev_popR, ev_alen, ev_xlen, ev_xald, ev_iald, ev_lald, ev_bald, ev_zald, ev_aald, ev_iast, ev_last, ev_bast, ev_zast, ev_aast, ev_gfI, ev_gfL, ev_gfR, ev_pfI, ev_pfZ, ev_pfL, ev_pfR, ev_new, ev_newa, ev_newq, ev_copy, ev_slen, ev_schr, ev_obj, ev_mmin, ev_mabs, ev_mmax, ev_goto, ev_jsr, ev_icmp_eq, ev_if_eq, ev_icmp_ne, ev_if_ne, ev_icmp_lt, ev_if_lt, ev_icmp_ge, ev_if_ge, ev_icmp_gt, ev_if_gt, ev_icmp_le, ev_if_le, ev_ifnull0, ev_ifnull1, ev_ifnn0, ev_ifnn1, ev_tsw, ev_lsw, ev_iret, ev_zret, ev_lret, ev_aret, ev_ret, ev_call0, ev_call1, ev_call2, ev_call3, ev_call4, ev_call5, ev_call6, Option.toList_some, Option.toList_none, List.cons_append, List.nil_append, List.length_cons, List.length_nil, Nat.reduceMod, Nat.reduceDiv, Nat.reduceAdd, Nat.reduceLeDiff, nc, ↓reduceIte, Nat.zero_le, reduceCtorEq, w32_id, Int.reduceEq, Int.reduceNe, Int.reduceLT, Int.reduceLE, Int.reduceGT, Int.reduceGE, Int.reduceAdd, Int.reduceSub, Int.reduceMul, Int.reduceNeg, ne_eq, not_true_eq_false, not_false_eq_true, eq_self, hr0, hr1, hr2, hr3, hr4, hr5, hr6, hr7, J_106_0, k_106_0, J_106_37, k_106_37, J_106_47, k_106_47, J_106_63, k_106_63, J_106_64, k_106_64, hw, q4, q5, q6]
end CH3
