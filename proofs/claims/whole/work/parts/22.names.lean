/-! CHARTS: the price of a link; names. -/
section CH5
variable {X : Int → Int} {Sh : List SE} {M : Mem} {c : Nat}
theorem wayF_3 {S H P R : Int → Int} {n i j : Int} (h : wayF S H P R n i j = 3) : S 6 ≠ 0 := by
  unfold wayF wayV at h
  intro h6
  rw [h6] at h
  repeat' split at h
  all_goals first | omega | (rename_i q; exact absurd rfl q)
theorem s_priceOf (h : CH Sh c) (g : goodC M c) (gw : goodW M c) {i j : Int} (hi : -2147483648 ≤ i ∧ i < 2147483648) (hj : -2147483648 ≤ j ∧ j < 2147483648) : evc X 103 [vR (some c), vI i, vI j] Sh M = some (some (vI (priF (M (c + 1)) (M (c + 6)) (M (c + 3)) (wayF (M (c + 1)) (M (c + 6)) (M (c + 7)) (M (c + 8)) (M c 8) i j) i j)), Sh, M) := by
  have hw := s_way (X := X) h g hi hj
  have hin := @wayF_in (M (c + 1)) (M (c + 6)) (M (c + 7)) (M (c + 8)) (M c 8) i j
  have h3 := @wayF_3 (M (c + 1)) (M (c + 6)) (M (c + 7)) (M (c + 8)) (M c 8) i j
  have g6 := g.1.2.2.2.2.2.2.1
  generalize wayF (M (c + 1)) (M (c + 6)) (M (c + 7)) (M (c + 8)) (M c 8) i j = w at hw hin h3 ⊢
  have hp := s_priceBy (X := X) h g gw (w := w) (i := i) (j := j) (fun q => ⟨(hin (by omega)).1, (hin (by omega)).2.1, (hin (by omega)).2.2.1⟩) (fun q => by have := h3 q; omega)
  rw [E_103 h.1]
  simp (disch := first | assumption | decide | omega | (simp only [List.length_cons, List.length_nil] <;> omega)) only [lgt_0, lgt_s, lset_0, lset_s, lst1_0, lst1_s, lst2_0, lst2_s, ev_iconst, ev_lconst, ev_ldc, ev_null, ev_iload, ev_lload, ev_aload, ev_istore, ev_lstore, ev_astore, ev_iinc, ev_iadd, ev_isub, ev_imul, ev_iand, ev_ior, ev_ishl, ev_ishr, ev_idiv, ev_irem, ev_ineg, ev_ladd, ev_lsub, ev_lmul, ev_land, ev_lor, ev_ldiv, ev_lrem, ev_lshl, ev_i2l, ev_l2i, ev_i2b, ev_i2s, ev_lcmp, ev_dupI, ev_dupR, ev_dup2, ev_popI, ev_popR, ev_alen, ev_xlen, ev_xald, ev_iald, ev_lald, ev_bald, ev_zald, ev_aald, ev_iast, ev_last, ev_bast, ev_zast, ev_aast, ev_gfI, ev_gfL, ev_gfR, ev_pfI, ev_pfZ, ev_pfL, ev_pfR, ev_new, ev_newa, ev_newq, ev_copy, ev_slen, ev_schr, ev_obj, ev_mmin, ev_mabs, ev_mmax, ev_goto, ev_jsr, ev_icmp_eq, ev_if_eq, ev_icmp_ne, ev_if_ne, ev_icmp_lt, ev_if_lt, ev_icmp_ge, ev_if_ge, ev_icmp_gt, ev_if_gt, ev_icmp_le, ev_if_le, ev_ifnull0, ev_ifnull1, ev_ifnn0, ev_ifnn1, ev_tsw, ev_lsw, ev_iret, ev_zret, ev_lret, ev_aret, ev_ret, ev_call0, ev_call1, ev_call2, ev_call3, ev_call4, ev_call5, ev_call6, Option.toList_some, Option.toList_none, List.cons_append, List.nil_append, List.length_cons, List.length_nil, Nat.reduceMod, Nat.reduceDiv, Nat.reduceAdd, Nat.reduceLeDiff, nc, ↓reduceIte, Nat.zero_le, reduceCtorEq, w32_id, Int.reduceEq, Int.reduceNe, Int.reduceLT, Int.reduceLE, Int.reduceGT, Int.reduceGE, Int.reduceAdd, Int.reduceSub, Int.reduceMul, Int.reduceNeg, ne_eq, not_true_eq_false, not_false_eq_true, eq_self, J_103_0, k_103_0, hw, hp]
/-- the first index below n of which f holds, -1 without one -/
def firstN (f : Int → Bool) : Nat → Int
  | 0 => -1
  | n + 1 => if firstN f n = -1 then (if f n = true then (n : Int) else -1) else firstN f n
theorem firstN_no {f : Int → Bool} : ∀ {n : Nat}, (∀ i : Nat, i < n → f i = false) → firstN f n = -1
  | 0, _ => rfl
  | n + 1, h => by
    unfold firstN
    rw [if_pos (firstN_no (fun i hi => h i (Nat.lt_succ_of_lt hi))), h n (Nat.lt_succ_self n)]
    rfl
theorem firstN_at {f : Int → Bool} {k : Nat} (hk : f k = true) (h : ∀ i : Nat, i < k → f i = false) : ∀ {n : Nat}, k < n → firstN f n = (k : Int)
  | 0, h2 => absurd h2 (Nat.not_lt_zero k)
  | n + 1, h2 => by
    unfold firstN
    rcases Nat.lt_succ_iff_lt_or_eq.mp h2 with q | q
    · rw [firstN_at hk h q, if_neg (by omega)]
    · subst q
      rw [if_pos (firstN_no h), if_pos hk]
theorem first_or (f : Int → Bool) : ∀ n : Nat, (∀ i : Nat, i < n → f i = false) ∨ ∃ k : Nat, k < n ∧ f k = true ∧ ∀ i : Nat, i < k → f i = false
  | 0 => Or.inl fun i hi => absurd hi (Nat.not_lt_zero i)
  | n + 1 => by
    rcases first_or f n with h | ⟨k, h1, h2, h3⟩
    · by_cases hf : f n = true
      · exact Or.inr ⟨n, Nat.lt_succ_self n, hf, h⟩
      · refine Or.inl fun i hi => ?_
        rcases Nat.lt_succ_iff_lt_or_eq.mp hi with q | q
        · exact h i q
        · rw [q]
          simpa using hf
    · exact Or.inr ⟨k, Nat.lt_succ_of_lt h1, h2, h3⟩
theorem s_named (h : CH Sh c) (gs : goodS (M (c + 1))) {z : Int} : evc X 66 [vR (some c), vL z] Sh M = some (some (vI (firstN (fun k => decide (M (c + 2) k = z)) (M (c + 1) 2).toNat)), Sh, M) := by
  obtain ⟨hk0, hr0, hr1, hr2, hr3, hr4, hr5, hr6, hr7, hk1, hk2, hk3, hk4, hk5, hk6, hk7, hk8, hl1, hl2, hl3, hl4, hl5, hl6, hl7, hl8⟩ := h
  have g2 := gs.2.2.1
  rw [E_66 hk0]
  simp (disch := first | assumption | decide | omega | (simp only [List.length_cons, List.length_nil] <;> omega)) only [lgt_0, lgt_s, lset_0, lset_s, lst1_0, lst1_s, lst2_0, lst2_s, ev_iconst, ev_lconst, ev_ldc, ev_null, ev_iload, ev_lload, ev_aload, ev_istore, ev_lstore, ev_astore, ev_iinc, ev_iadd, ev_isub, ev_imul, ev_iand, ev_ior, ev_ishl, ev_ishr, ev_idiv, ev_irem, ev_ineg, ev_ladd, ev_lsub, ev_lmul, ev_land, ev_lor, ev_ldiv, ev_lrem, ev_lshl, ev_i2l, ev_l2i, ev_i2b, ev_i2s, ev_lcmp, ev_dupI, ev_dupR, ev_dup2, ev_popI, ev_popR, ev_alen, ev_xlen, ev_xald, ev_iald, ev_lald, ev_bald, ev_zald, ev_aald, ev_iast, ev_last, ev_bast, ev_zast, ev_aast, ev_gfI, ev_gfL, ev_gfR, ev_pfI, ev_pfZ, ev_pfL, ev_pfR, ev_new, ev_newa, ev_newq, ev_copy, ev_slen, ev_schr, ev_obj, ev_mmin, ev_mabs, ev_mmax, ev_goto, ev_jsr, ev_icmp_eq, ev_if_eq, ev_icmp_ne, ev_if_ne, ev_icmp_lt, ev_if_lt, ev_icmp_ge, ev_if_ge, ev_icmp_gt, ev_if_gt, ev_icmp_le, ev_if_le, ev_ifnull0, ev_ifnull1, ev_ifnn0, ev_ifnn1, ev_tsw, ev_lsw, ev_iret, ev_zret, ev_lret, ev_aret, ev_ret, ev_call0, ev_call1, ev_call2, ev_call3, ev_call4, ev_call5, ev_call6, Option.toList_some, Option.toList_none, List.cons_append, List.nil_append, List.length_cons, List.length_nil, Nat.reduceMod, Nat.reduceDiv, Nat.reduceAdd, Nat.reduceLeDiff, nc, ↓reduceIte, Nat.zero_le, reduceCtorEq, w32_id, Int.reduceEq, Int.reduceNe, Int.reduceLT, Int.reduceLE, Int.reduceGT, Int.reduceGE, Int.reduceAdd, Int.reduceSub, Int.reduceMul, Int.reduceNeg, ne_eq, not_true_eq_false, not_false_eq_true, eq_self, J_66_0, k_66_0, J_66_25, k_66_25, J_66_31, k_66_31]
  have key : ∀ n : Nat, n ≤ (M (c + 1) 2).toNat → (∀ i : Nat, i < n → decide (M (c + 2) (i : Int) = z) = false) → ev X 66 (jmp 66 2) [some (vR (some c)), some (vL z), none, some (vI 0)] [] Sh M = ev X 66 k_66_2 [some (vR (some c)), some (vL z), none, some (vI n)] [] Sh M := fun n hn hf =>
    ev_loopK (X := X) (Sh := Sh) (K := k_66_2) (fun i => [some (vR (some c)), some (vL z), none, some (vI i)]) (fun _ => M) n J_66_2 (fun i hi => by
      have h1 := of_decide_eq_false (hf i hi)
      have h2 : ¬ M (c + 1) 2 ≤ (i : Int) := by omega
      have h3 : (if M (c + 2) i < z then (-1 : Int) else if M (c + 2) i = z then 0 else 1) ≠ 0 := by
        rw [if_neg h1]
        split <;> omega
      simp (disch := first | assumption | decide | omega | (simp only [List.length_cons, List.length_nil] <;> omega)) only [lgt_0, lgt_s, lset_0, lset_s, lst1_0, lst1_s, lst2_0, lst2_s, ev_iconst, ev_lconst, ev_ldc, ev_null, ev_iload, ev_lload, ev_aload, ev_istore, ev_lstore, ev_astore, ev_iinc, ev_iadd, ev_isub, ev_imul, ev_iand, ev_ior, ev_ishl, ev_ishr, ev_idiv, ev_irem, ev_ineg, ev_ladd, ev_lsub, ev_lmul, ev_land, ev_lor, ev_ldiv, ev_lrem, ev_lshl, ev_i2l, ev_l2i, ev_i2b, ev_i2s, ev_lcmp, ev_dupI, ev_dupR, ev_dup2, ev_popI, ev_popR, ev_alen, ev_xlen, ev_xald, ev_iald, ev_lald, ev_bald, ev_zald, ev_aald, ev_iast, ev_last, ev_bast, ev_zast, ev_aast, ev_gfI, ev_gfL, ev_gfR, ev_pfI, ev_pfZ, ev_pfL, ev_pfR, ev_new, ev_newa, ev_newq, ev_copy, ev_slen, ev_schr, ev_obj, ev_mmin, ev_mabs, ev_mmax, ev_goto, ev_jsr, ev_icmp_eq, ev_if_eq, ev_icmp_ne, ev_if_ne, ev_icmp_lt, ev_if_lt, ev_icmp_ge, ev_if_ge, ev_icmp_gt, ev_if_gt, ev_icmp_le, ev_if_le, ev_ifnull0, ev_ifnull1, ev_ifnn0, ev_ifnn1, ev_tsw, ev_lsw, ev_iret, ev_zret, ev_lret, ev_aret, ev_ret, ev_call0, ev_call1, ev_call2, ev_call3, ev_call4, ev_call5, ev_call6, Option.toList_some, Option.toList_none, List.cons_append, List.nil_append, List.length_cons, List.length_nil, Nat.reduceMod, Nat.reduceDiv, Nat.reduceAdd, Nat.reduceLeDiff, nc, ↓reduceIte, Nat.zero_le, reduceCtorEq, w32_id, Int.reduceEq, Int.reduceNe, Int.reduceLT, Int.reduceLE, Int.reduceGT, Int.reduceGE, Int.reduceAdd, Int.reduceSub, Int.reduceMul, Int.reduceNeg, ne_eq, not_true_eq_false, not_false_eq_true, eq_self, hr0, hr1, hr2, hr3, hr4, hr5, hr6, hr7, k_66_2, J_66_25, k_66_25, J_66_31, k_66_31, k_66_0, h2, h3, nc_s])
  rcases first_or (fun k => decide (M (c + 2) k = z)) (M (c + 1) 2).toNat with hn | ⟨k, h1, h2, h3⟩
  · rw [firstN_no hn, key _ (Nat.le_refl _) hn]
    have h4 : M (c + 1) 2 ≤ ((M (c + 1) 2).toNat : Int) := by omega
    simp (disch := first | assumption | decide | omega | (simp only [List.length_cons, List.length_nil] <;> omega)) only [lgt_0, lgt_s, lset_0, lset_s, lst1_0, lst1_s, lst2_0, lst2_s, ev_iconst, ev_lconst, ev_ldc, ev_null, ev_iload, ev_lload, ev_aload, ev_istore, ev_lstore, ev_astore, ev_iinc, ev_iadd, ev_isub, ev_imul, ev_iand, ev_ior, ev_ishl, ev_ishr, ev_idiv, ev_irem, ev_ineg, ev_ladd, ev_lsub, ev_lmul, ev_land, ev_lor, ev_ldiv, ev_lrem, ev_lshl, ev_i2l, ev_l2i, ev_i2b, ev_i2s, ev_lcmp, ev_dupI, ev_dupR, ev_dup2, ev_popI, ev_popR, ev_alen, ev_xlen, ev_xald, ev_iald, ev_lald, ev_bald, ev_zald, ev_aald, ev_iast, ev_last, ev_bast, ev_zast, ev_aast, ev_gfI, ev_gfL, ev_gfR, ev_pfI, ev_pfZ, ev_pfL, ev_pfR, ev_new, ev_newa, ev_newq, ev_copy, ev_slen, ev_schr, ev_obj, ev_mmin, ev_mabs, ev_mmax, ev_goto, ev_jsr, ev_icmp_eq, ev_if_eq, ev_icmp_ne, ev_if_ne, ev_icmp_lt, ev_if_lt, ev_icmp_ge, ev_if_ge, ev_icmp_gt, ev_if_gt, ev_icmp_le, ev_if_le, ev_ifnull0, ev_ifnull1, ev_ifnn0, ev_ifnn1, ev_tsw, ev_lsw, ev_iret, ev_zret, ev_lret, ev_aret, ev_ret, ev_call0, ev_call1, ev_call2, ev_call3, ev_call4, ev_call5, ev_call6, Option.toList_some, Option.toList_none, List.cons_append, List.nil_append, List.length_cons, List.length_nil, Nat.reduceMod, Nat.reduceDiv, Nat.reduceAdd, Nat.reduceLeDiff, nc, ↓reduceIte, Nat.zero_le, reduceCtorEq, w32_id, Int.reduceEq, Int.reduceNe, Int.reduceLT, Int.reduceLE, Int.reduceGT, Int.reduceGE, Int.reduceAdd, Int.reduceSub, Int.reduceMul, Int.reduceNeg, ne_eq, not_true_eq_false, not_false_eq_true, eq_self, hr0, hr1, hr2, hr3, hr4, hr5, hr6, hr7, k_66_2, J_66_25, k_66_25, J_66_31, k_66_31, k_66_0, h4]
  · rw [firstN_at h2 h3 h1, key k (Nat.le_of_lt h1) h3]
    have h4 : ¬ M (c + 1) 2 ≤ (k : Int) := by omega
    have h5 := of_decide_eq_true h2
    simp (disch := first | assumption | decide | omega | (simp only [List.length_cons, List.length_nil] <;> omega)) only [lgt_0, lgt_s, lset_0, lset_s, lst1_0, lst1_s, lst2_0, lst2_s, ev_iconst, ev_lconst, ev_ldc, ev_null, ev_iload, ev_lload, ev_aload, ev_istore, ev_lstore, ev_astore, ev_iinc, ev_iadd, ev_isub, ev_imul, ev_iand, ev_ior, ev_ishl, ev_ishr, ev_idiv, ev_irem, ev_ineg, ev_ladd, ev_lsub, ev_lmul, ev_land, ev_lor, ev_ldiv, ev_lrem, ev_lshl, ev_i2l, ev_l2i, ev_i2b, ev_i2s, ev_lcmp, ev_dupI, ev_dupR, ev_dup2, ev_popI, ev_popR, ev_alen, ev_xlen, ev_xald, ev_iald, ev_lald, ev_bald, ev_zald, ev_aald, ev_iast, ev_last, ev_bast, ev_zast, ev_aast, ev_gfI, ev_gfL, ev_gfR, ev_pfI, ev_pfZ, ev_pfL, ev_pfR, ev_new, ev_newa, ev_newq, ev_copy, ev_slen, ev_schr, ev_obj, ev_mmin, ev_mabs, ev_mmax, ev_goto, ev_jsr, ev_icmp_eq, ev_if_eq, ev_icmp_ne, ev_if_ne, ev_icmp_lt, ev_if_lt, ev_icmp_ge, ev_if_ge, ev_icmp_gt, ev_if_gt, ev_icmp_le, ev_if_le, ev_ifnull0, ev_ifnull1, ev_ifnn0, ev_ifnn1, ev_tsw, ev_lsw, ev_iret, ev_zret, ev_lret, ev_aret, ev_ret, ev_call0, ev_call1, ev_call2, ev_call3, ev_call4, ev_call5, ev_call6, Option.toList_some, Option.toList_none, List.cons_append, List.nil_append, List.length_cons, List.length_nil, Nat.reduceMod, Nat.reduceDiv, Nat.reduceAdd, Nat.reduceLeDiff, nc, ↓reduceIte, Nat.zero_le, reduceCtorEq, w32_id, Int.reduceEq, Int.reduceNe, Int.reduceLT, Int.reduceLE, Int.reduceGT, Int.reduceGE, Int.reduceAdd, Int.reduceSub, Int.reduceMul, Int.reduceNeg, ne_eq, not_true_eq_false, not_false_eq_true, eq_self, hr0, hr1, hr2, hr3, hr4, hr5, hr6, hr7, k_66_2, J_66_25, k_66_25, J_66_31, k_66_31, k_66_0, h4, h5, Int.lt_irrefl]
end CH5
