/-! PAIRING in the world: its cell p, its rows behind it; gathering. -/
def pal : List (Nat × Nat × Nat × Int) := [(0, 1, 100, 48), (1, 2, 100, 48), (4, 3, 100, 2400), (5, 4, 100, 48), (6, 5, 100, 50), (7, 6, 100, 50), (8, 7, 100, 50), (9, 8, 100, 50), (10, 9, 103, 50)]
def PA (Sh : List SE) (p : Nat) : Prop := knd Sh p = 7 ∧ ∀ q ∈ pal, rfs Sh p q.1 = some (p + q.2.1) ∧ knd Sh (p + q.2.1) = q.2.2.1 ∧ len Sh (p + q.2.1) = q.2.2.2
section PAL
variable {X : Int → Int} {Sh : List SE} {M : Mem} {p : Nat}
theorem pa_sources (h : PA Sh p) : rfs Sh p 0 = some (p + 1) ∧ knd Sh (p + 1) = 100 ∧ len Sh (p + 1) = 48 := h.2 (0, 1, 100, 48) (by decide)
theorem pa_goals (h : PA Sh p) : rfs Sh p 1 = some (p + 2) ∧ knd Sh (p + 2) = 100 ∧ len Sh (p + 2) = 48 := h.2 (1, 2, 100, 48) (by decide)
theorem pa_prices (h : PA Sh p) : rfs Sh p 4 = some (p + 3) ∧ knd Sh (p + 3) = 100 ∧ len Sh (p + 3) = 2400 := h.2 (4, 3, 100, 2400) (by decide)
theorem pa_goalShares (h : PA Sh p) : rfs Sh p 5 = some (p + 4) ∧ knd Sh (p + 4) = 100 ∧ len Sh (p + 4) = 48 := h.2 (5, 4, 100, 48) (by decide)
theorem pa_columnShares (h : PA Sh p) : rfs Sh p 6 = some (p + 5) ∧ knd Sh (p + 5) = 100 ∧ len Sh (p + 5) = 50 := h.2 (6, 5, 100, 50) (by decide)
theorem pa_holders (h : PA Sh p) : rfs Sh p 7 = some (p + 6) ∧ knd Sh (p + 6) = 100 ∧ len Sh (p + 6) = 50 := h.2 (7, 6, 100, 50) (by decide)
theorem pa_comeFrom (h : PA Sh p) : rfs Sh p 8 = some (p + 7) ∧ knd Sh (p + 7) = 100 ∧ len Sh (p + 7) = 50 := h.2 (8, 7, 100, 50) (by decide)
theorem pa_distances (h : PA Sh p) : rfs Sh p 9 = some (p + 8) ∧ knd Sh (p + 8) = 100 ∧ len Sh (p + 8) = 50 := h.2 (9, 8, 100, 50) (by decide)
theorem pa_reached (h : PA Sh p) : rfs Sh p 10 = some (p + 9) ∧ knd Sh (p + 9) = 103 ∧ len Sh (p + 9) = 50 := h.2 (10, 9, 103, 50) (by decide)
theorem s_addSource (h : PA Sh p) {i : Int} (hc : 0 ≤ M p 2 ∧ M p 2 < 48) : evc X 143 [vR (some p), vI i] Sh M = some (none, Sh, up (up M (p + 1) (M p 2) i) p 2 (M p 2 + 1)) := by
  have hk0 := h.1; obtain ⟨r_sources, k_sources, l_sources⟩ := pa_sources h
  obtain ⟨c1, c2⟩ := hc
  have e : up M (p + 1) (M p 2) i p 2 = M p 2 := by rw [up_ne (by omega)]
  have q : ¬ 48 ≤ M p 2 := by omega
  rw [E_143 hk0]
  simp (disch := first | assumption | decide | omega | (simp only [List.length_cons, List.length_nil] <;> omega)) only [lgt_0, lgt_s, lset_0, lset_s, lst1_0, lst1_s, lst2_0, lst2_s, ev_iconst, ev_lconst, ev_ldc, ev_null, ev_iload, ev_lload, ev_aload, ev_istore, ev_lstore, ev_astore, ev_iinc, ev_iadd, ev_isub, ev_imul, ev_iand, ev_ior, ev_ishl, ev_ishr, ev_idiv, ev_irem, ev_ineg, ev_ladd, ev_lsub, ev_lmul, ev_land, ev_lor, ev_ldiv, ev_lrem, ev_lshl, ev_i2l, ev_l2i, ev_i2b, ev_i2s, ev_lcmp, ev_dupI, ev_dupR, ev_dup2, ev_popI, ev_popR, ev_alen, ev_xlen, ev_xald, ev_iald, ev_lald, ev_bald, ev_zald, ev_aald, ev_iast, ev_last, ev_bast, ev_zast, ev_aast, ev_gfI, ev_gfL, ev_gfR, ev_pfI, ev_pfZ, ev_pfL, ev_pfR, ev_new, ev_newa, ev_newq, ev_copy, ev_slen, ev_schr, ev_obj, ev_mmin, ev_mabs, ev_mmax, ev_goto, ev_jsr, ev_icmp_eq, ev_if_eq, ev_icmp_ne, ev_if_ne, ev_icmp_lt, ev_if_lt, ev_icmp_ge, ev_if_ge, ev_icmp_gt, ev_if_gt, ev_icmp_le, ev_if_le, ev_ifnull0, ev_ifnull1, ev_ifnn0, ev_ifnn1, ev_tsw, ev_lsw, ev_iret, ev_zret, ev_lret, ev_aret, ev_ret, ev_call0, ev_call1, ev_call2, ev_call3, ev_call4, ev_call5, ev_call6, Option.toList_some, Option.toList_none, List.cons_append, List.nil_append, List.length_cons, List.length_nil, Nat.reduceMod, Nat.reduceDiv, Nat.reduceAdd, Nat.reduceLeDiff, nc, ↓reduceIte, Nat.zero_le, reduceCtorEq, w32_id, Int.reduceEq, Int.reduceNe, Int.reduceLT, Int.reduceLE, Int.reduceGT, Int.reduceGE, Int.reduceAdd, Int.reduceSub, Int.reduceMul, Int.reduceNeg, ne_eq, not_true_eq_false, not_false_eq_true, eq_self, r_sources, J_143_0, k_143_0, J_143_29, k_143_29, q, e]
theorem s_addGoal (h : PA Sh p) {i : Int} (hc : 0 ≤ M p 3 ∧ M p 3 < 48) : evc X 144 [vR (some p), vI i] Sh M = some (none, Sh, up (up M (p + 2) (M p 3) i) p 3 (M p 3 + 1)) := by
  have hk0 := h.1; obtain ⟨r_goals, k_goals, l_goals⟩ := pa_goals h
  obtain ⟨c1, c2⟩ := hc
  have e : up M (p + 2) (M p 3) i p 3 = M p 3 := by rw [up_ne (by omega)]
  have q : ¬ 48 ≤ M p 3 := by omega
  rw [E_144 hk0]
  simp (disch := first | assumption | decide | omega | (simp only [List.length_cons, List.length_nil] <;> omega)) only [lgt_0, lgt_s, lset_0, lset_s, lst1_0, lst1_s, lst2_0, lst2_s, ev_iconst, ev_lconst, ev_ldc, ev_null, ev_iload, ev_lload, ev_aload, ev_istore, ev_lstore, ev_astore, ev_iinc, ev_iadd, ev_isub, ev_imul, ev_iand, ev_ior, ev_ishl, ev_ishr, ev_idiv, ev_irem, ev_ineg, ev_ladd, ev_lsub, ev_lmul, ev_land, ev_lor, ev_ldiv, ev_lrem, ev_lshl, ev_i2l, ev_l2i, ev_i2b, ev_i2s, ev_lcmp, ev_dupI, ev_dupR, ev_dup2, ev_popI, ev_popR, ev_alen, ev_xlen, ev_xald, ev_iald, ev_lald, ev_bald, ev_zald, ev_aald, ev_iast, ev_last, ev_bast, ev_zast, ev_aast, ev_gfI, ev_gfL, ev_gfR, ev_pfI, ev_pfZ, ev_pfL, ev_pfR, ev_new, ev_newa, ev_newq, ev_copy, ev_slen, ev_schr, ev_obj, ev_mmin, ev_mabs, ev_mmax, ev_goto, ev_jsr, ev_icmp_eq, ev_if_eq, ev_icmp_ne, ev_if_ne, ev_icmp_lt, ev_if_lt, ev_icmp_ge, ev_if_ge, ev_icmp_gt, ev_if_gt, ev_icmp_le, ev_if_le, ev_ifnull0, ev_ifnull1, ev_ifnn0, ev_ifnn1, ev_tsw, ev_lsw, ev_iret, ev_zret, ev_lret, ev_aret, ev_ret, ev_call0, ev_call1, ev_call2, ev_call3, ev_call4, ev_call5, ev_call6, Option.toList_some, Option.toList_none, List.cons_append, List.nil_append, List.length_cons, List.length_nil, Nat.reduceMod, Nat.reduceDiv, Nat.reduceAdd, Nat.reduceLeDiff, nc, ↓reduceIte, Nat.zero_le, reduceCtorEq, w32_id, Int.reduceEq, Int.reduceNe, Int.reduceLT, Int.reduceLE, Int.reduceGT, Int.reduceGE, Int.reduceAdd, Int.reduceSub, Int.reduceMul, Int.reduceNeg, ne_eq, not_true_eq_false, not_false_eq_true, eq_self, r_goals, J_144_0, k_144_0, J_144_29, k_144_29, q, e]
end PAL
