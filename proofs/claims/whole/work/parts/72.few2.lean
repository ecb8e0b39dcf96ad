/-! OPERATION: few. -/
section FW2
variable {X : Int → Int} {M M' : Mem}
theorem s_tell {many f : Int} (hm : 1 ≤ many ∧ many ≤ 4) (hf : M 46 3 = f) (hf2 : 0 ≤ f ∧ f ≤ 4) : ∃ M' t, (∀ b, b ≠ 46 → b ≠ 50 → M' b = M b) ∧ (∀ i, i ≠ 4 → M' 46 i = M 46 i) ∧ M' 46 4 = t ∧ (0 ≤ t ∧ t ≤ many ∧ t ≤ f) ∧ (∀ k, 0 ≤ k → k < t → 0 < M 49 k ∧ M' 50 (3 * k) = M 47 k ∧ M' 50 (3 * k + 1) = M 48 k ∧ M' 50 (3 * k + 2) = M 49 k) ∧ (t = many ∨ t = f ∨ M 49 t ≤ 0) ∧ evc X 168 [vR (some 46), vI many] SH0 M = some (none, SH0, M') := by
  have k46 := w0_k46
  have a0 := w0_r46_0
  have a1 := w0_r46_1
  have a2 := w0_r46_2
  have a5 := w0_r46_5
  have k47 := w0_k47
  have k48 := w0_k48
  have k49 := w0_k49
  have k50 := w0_k50
  have l47 := w0_l47
  have l48 := w0_l48
  have l49 := w0_l49
  have l50 := w0_l50
  have key := ev_while (X := X) (y := 168) (Sh := SH0) (fun m ls M' => ∃ t, ls = [some (vR (some 46)), some (vI many), some (vI t)] ∧ (∀ b, b ≠ 46 → b ≠ 50 → M' b = M b) ∧ (∀ i, i ≠ 4 → M' 46 i = M 46 i) ∧ M' 46 4 = t ∧ (0 ≤ t ∧ t ≤ many ∧ t ≤ f) ∧ (∀ k, 0 ≤ k → k < t → 0 < M 49 k ∧ M' 50 (3 * k) = M 47 k ∧ M' 50 (3 * k + 1) = M 48 k ∧ M' 50 (3 * k + 2) = M 49 k) ∧ m = (4 - t).toNat)
    (fun o => ∃ M' t, (∀ b, b ≠ 46 → b ≠ 50 → M' b = M b) ∧ (∀ i, i ≠ 4 → M' 46 i = M 46 i) ∧ M' 46 4 = t ∧ (0 ≤ t ∧ t ≤ many ∧ t ≤ f) ∧ (∀ k, 0 ≤ k → k < t → 0 < M 49 k ∧ M' 50 (3 * k) = M 47 k ∧ M' 50 (3 * k + 1) = M 48 k ∧ M' 50 (3 * k + 2) = M 49 k) ∧ (t = many ∨ t = f ∨ M 49 t ≤ 0) ∧ o = some (none, SH0, M')) J_168_7 (fun m ls M' hI => by
    obtain ⟨t, hls, fr, g, ht, hb, hk, hmm⟩ := hI
    subst hls
    have m3 : M' 46 3 = f := by rw [g 3 (by omega)]; exact hf
    have m47 := fr 47 (by omega) (by omega)
    have m48 := fr 48 (by omega) (by omega)
    have m49 := fr 49 (by omega) (by omega)
    by_cases q1 : many ≤ t
    · refine Or.inr ⟨M', t, fr, g, ht, hb, hk, Or.inl (by omega), ?_⟩
      simp (disch := first | assumption | decide | omega | (simp only [List.length_cons, List.length_nil] <;> omega)) only [lgt_0, lgt_s, lset_0, lset_s, lst1_0, lst1_s, lst2_0, lst2_s, ev_iconst, ev_lconst, ev_ldc, ev_null, ev_iload, ev_lload, ev_aload, ev_istore, ev_lstore, ev_astore, ev_iinc, ev_iadd, ev_isub, ev_imul, ev_iand, ev_ior, ev_ishl, ev_ishr, ev_idiv, ev_irem, ev_ineg, ev_ladd, ev_lsub, ev_lmul, ev_land, ev_lor, ev_ldiv, ev_lrem, ev_lshl, ev_i2l, ev_l2i, ev_i2b, ev_i2s, ev_lcmp, ev_dupI, ev_dupR, ev_dup2, ev_popI, ev_popR, ev_alen, ev_xlen, ev_xald, ev_iald, ev_lald, ev_bald, ev_zald, ev_aald, ev_iast, ev_last, ev_bast, ev_zast, ev_aast, ev_gfI, ev_gfL, ev_gfR, ev_pfI, ev_pfZ, ev_pfL, ev_pfR, ev_new, ev_newa, ev_newq, ev_copy, ev_slen, ev_schr, ev_obj, ev_mmin, ev_mabs, ev_mmax, ev_goto, ev_jsr, ev_icmp_eq, ev_if_eq, ev_icmp_ne, ev_if_ne, ev_icmp_lt, ev_if_lt, ev_icmp_ge, ev_if_ge, ev_icmp_gt, ev_if_gt, ev_icmp_le, ev_if_le, ev_ifnull0, ev_ifnull1, ev_ifnn0, ev_ifnn1, ev_tsw, ev_lsw, ev_iret, ev_zret, ev_lret, ev_aret, ev_ret, ev_call0, ev_call1, ev_call2, ev_call3, ev_call4, ev_call5, ev_call6, Option.toList_some, Option.toList_none, List.cons_append, List.nil_append, List.length_cons, List.length_nil, Nat.reduceMod, Nat.reduceDiv, Nat.reduceLeDiff, nc, ↓reduceIte, Nat.zero_le, reduceCtorEq, w32_id, Int.reduceEq, Int.reduceNe, Int.reduceLT, Int.reduceLE, Int.reduceGT, Int.reduceGE, Int.reduceAdd, Int.reduceSub, Int.reduceMul, Int.reduceNeg, ne_eq, not_true_eq_false, not_false_eq_true, eq_self, ↓if_pos, ↓if_neg, J_168_0, k_168_0, J_168_91, k_168_91, k_168_7]
    · by_cases q2 : f ≤ t
      · refine Or.inr ⟨M', t, fr, g, ht, hb, hk, Or.inr (Or.inl (by omega)), ?_⟩
        simp (disch := first | assumption | decide | omega | (simp only [List.length_cons, List.length_nil] <;> omega)) only [lgt_0, lgt_s, lset_0, lset_s, lst1_0, lst1_s, lst2_0, lst2_s, ev_iconst, ev_lconst, ev_ldc, ev_null, ev_iload, ev_lload, ev_aload, ev_istore, ev_lstore, ev_astore, ev_iinc, ev_iadd, ev_isub, ev_imul, ev_iand, ev_ior, ev_ishl, ev_ishr, ev_idiv, ev_irem, ev_ineg, ev_ladd, ev_lsub, ev_lmul, ev_land, ev_lor, ev_ldiv, ev_lrem, ev_lshl, ev_i2l, ev_l2i, ev_i2b, ev_i2s, ev_lcmp, ev_dupI, ev_dupR, ev_dup2, ev_popI, ev_popR, ev_alen, ev_xlen, ev_xald, ev_iald, ev_lald, ev_bald, ev_zald, ev_aald, ev_iast, ev_last, ev_bast, ev_zast, ev_aast, ev_gfI, ev_gfL, ev_gfR, ev_pfI, ev_pfZ, ev_pfL, ev_pfR, ev_new, ev_newa, ev_newq, ev_copy, ev_slen, ev_schr, ev_obj, ev_mmin, ev_mabs, ev_mmax, ev_goto, ev_jsr, ev_icmp_eq, ev_if_eq, ev_icmp_ne, ev_if_ne, ev_icmp_lt, ev_if_lt, ev_icmp_ge, ev_if_ge, ev_icmp_gt, ev_if_gt, ev_icmp_le, ev_if_le, ev_ifnull0, ev_ifnull1, ev_ifnn0, ev_ifnn1, ev_tsw, ev_lsw, ev_iret, ev_zret, ev_lret, ev_aret, ev_ret, ev_call0, ev_call1, ev_call2, ev_call3, ev_call4, ev_call5, ev_call6, Option.toList_some, Option.toList_none, List.cons_append, List.nil_append, List.length_cons, List.length_nil, Nat.reduceMod, Nat.reduceDiv, Nat.reduceLeDiff, nc, ↓reduceIte, Nat.zero_le, reduceCtorEq, w32_id, Int.reduceEq, Int.reduceNe, Int.reduceLT, Int.reduceLE, Int.reduceGT, Int.reduceGE, Int.reduceAdd, Int.reduceSub, Int.reduceMul, Int.reduceNeg, ne_eq, not_true_eq_false, not_false_eq_true, eq_self, ↓if_pos, ↓if_neg, J_168_0, k_168_0, J_168_91, k_168_91, k_168_7, m3]
      · by_cases q3 : M 49 t ≤ 0
        · refine Or.inr ⟨M', t, fr, g, ht, hb, hk, Or.inr (Or.inr q3), ?_⟩
          simp (disch := first | assumption | decide | omega | (simp only [List.length_cons, List.length_nil] <;> omega)) only [lgt_0, lgt_s, lset_0, lset_s, lst1_0, lst1_s, lst2_0, lst2_s, ev_iconst, ev_lconst, ev_ldc, ev_null, ev_iload, ev_lload, ev_aload, ev_istore, ev_lstore, ev_astore, ev_iinc, ev_iadd, ev_isub, ev_imul, ev_iand, ev_ior, ev_ishl, ev_ishr, ev_idiv, ev_irem, ev_ineg, ev_ladd, ev_lsub, ev_lmul, ev_land, ev_lor, ev_ldiv, ev_lrem, ev_lshl, ev_i2l, ev_l2i, ev_i2b, ev_i2s, ev_lcmp, ev_dupI, ev_dupR, ev_dup2, ev_popI, ev_popR, ev_alen, ev_xlen, ev_xald, ev_iald, ev_lald, ev_bald, ev_zald, ev_aald, ev_iast, ev_last, ev_bast, ev_zast, ev_aast, ev_gfI, ev_gfL, ev_gfR, ev_pfI, ev_pfZ, ev_pfL, ev_pfR, ev_new, ev_newa, ev_newq, ev_copy, ev_slen, ev_schr, ev_obj, ev_mmin, ev_mabs, ev_mmax, ev_goto, ev_jsr, ev_icmp_eq, ev_if_eq, ev_icmp_ne, ev_if_ne, ev_icmp_lt, ev_if_lt, ev_icmp_ge, ev_if_ge, ev_icmp_gt, ev_if_gt, ev_icmp_le, ev_if_le, ev_ifnull0, ev_ifnull1, ev_ifnn0, ev_ifnn1, ev_tsw, ev_lsw, ev_iret, ev_zret, ev_lret, ev_aret, ev_ret, ev_call0, ev_call1, ev_call2, ev_call3, ev_call4, ev_call5, ev_call6, Option.toList_some, Option.toList_none, List.cons_append, List.nil_append, List.length_cons, List.length_nil, Nat.reduceMod, Nat.reduceDiv, Nat.reduceLeDiff, nc, ↓reduceIte, Nat.zero_le, reduceCtorEq, w32_id, Int.reduceEq, Int.reduceNe, Int.reduceLT, Int.reduceLE, Int.reduceGT, Int.reduceGE, Int.reduceAdd, Int.reduceSub, Int.reduceMul, Int.reduceNeg, ne_eq, not_true_eq_false, not_false_eq_true, eq_self, ↓if_pos, ↓if_neg, J_168_0, k_168_0, J_168_91, k_168_91, k_168_7, m3, a2, m49]
        · refine Or.inl ⟨_, _, up (up (up (up M' 50 (3 * t) (M 47 t)) 50 (3 * t + 1) (M 48 t)) 50 (3 * t + 2) (M 49 t)) 46 4 (t + 1), ?_, ⟨t + 1, rfl, fun b b0 b1 => by simp (disch := omega) only [up_ne, up_eq, up_ne2]; exact fr b b0 b1, fun i hi => by simp (disch := omega) only [up_ne, up_eq, up_ne2]; exact g i hi, up_eq, by omega, fun k k0 k1 => ?_, rfl⟩, ?_⟩
          · omega
          · by_cases z : k = t
            · subst z
              refine ⟨by omega, ?_, ?_, ?_⟩
              · simp (disch := omega) only [up_ne, up_eq, up_ne2]
              · simp (disch := omega) only [up_ne, up_eq, up_ne2]
              · simp (disch := omega) only [up_ne, up_eq, up_ne2]
            · have e := hk k k0 (by omega)
              refine ⟨e.1, ?_, ?_, ?_⟩
              · simp (disch := omega) only [up_ne, up_eq, up_ne2]; exact e.2.1
              · simp (disch := omega) only [up_ne, up_eq, up_ne2]; exact e.2.2.1
              · simp (disch := omega) only [up_ne, up_eq, up_ne2]; exact e.2.2.2
          · simp (disch := first | assumption | decide | omega | (simp only [List.length_cons, List.length_nil] <;> omega)) only [lgt_0, lgt_s, lset_0, lset_s, lst1_0, lst1_s, lst2_0, lst2_s, ev_iconst, ev_lconst, ev_ldc, ev_null, ev_iload, ev_lload, ev_aload, ev_istore, ev_lstore, ev_astore, ev_iinc, ev_iadd, ev_isub, ev_imul, ev_iand, ev_ior, ev_ishl, ev_ishr, ev_idiv, ev_irem, ev_ineg, ev_ladd, ev_lsub, ev_lmul, ev_land, ev_lor, ev_ldiv, ev_lrem, ev_lshl, ev_i2l, ev_l2i, ev_i2b, ev_i2s, ev_lcmp, ev_dupI, ev_dupR, ev_dup2, ev_popI, ev_popR, ev_alen, ev_xlen, ev_xald, ev_iald, ev_lald, ev_bald, ev_zald, ev_aald, ev_iast, ev_last, ev_bast, ev_zast, ev_aast, ev_gfI, ev_gfL, ev_gfR, ev_pfI, ev_pfZ, ev_pfL, ev_pfR, ev_new, ev_newa, ev_newq, ev_copy, ev_slen, ev_schr, ev_obj, ev_mmin, ev_mabs, ev_mmax, ev_goto, ev_jsr, ev_icmp_eq, ev_if_eq, ev_icmp_ne, ev_if_ne, ev_icmp_lt, ev_if_lt, ev_icmp_ge, ev_if_ge, ev_icmp_gt, ev_if_gt, ev_icmp_le, ev_if_le, ev_ifnull0, ev_ifnull1, ev_ifnn0, ev_ifnn1, ev_tsw, ev_lsw, ev_iret, ev_zret, ev_lret, ev_aret, ev_ret, ev_call0, ev_call1, ev_call2, ev_call3, ev_call4, ev_call5, ev_call6, Option.toList_some, Option.toList_none, List.cons_append, List.nil_append, List.length_cons, List.length_nil, Nat.reduceMod, Nat.reduceDiv, Nat.reduceLeDiff, nc, ↓reduceIte, Nat.zero_le, reduceCtorEq, w32_id, Int.reduceEq, Int.reduceNe, Int.reduceLT, Int.reduceLE, Int.reduceGT, Int.reduceGE, Int.reduceAdd, Int.reduceSub, Int.reduceMul, Int.reduceNeg, ne_eq, not_true_eq_false, not_false_eq_true, eq_self, ↓if_pos, ↓if_neg, J_168_0, k_168_0, J_168_91, k_168_91, k_168_7, m3, a0, a1, a2, a5, m47, m48, m49, ht, up_ne])
  obtain ⟨M2, t, x1, x2, x3, x4, x5, x6, x7⟩ := key _ [some (vR (some 46)), some (vI many), some (vI 0)] (up M 46 4 0) ⟨0, rfl, fun b b0 _ => by rw [up_ne b0], fun i hi => by rw [up_ne2 hi], up_eq, by omega, fun k a b => by omega, rfl⟩
  refine ⟨M2, t, x1, x2, x3, x4, x5, x6, ?_⟩
  rw [E_168 k46]
  simp (disch := first | assumption | decide | omega | (simp only [List.length_cons, List.length_nil] <;> omega)) only [lgt_0, lgt_s, lset_0, lset_s, lst1_0, lst1_s, lst2_0, lst2_s, ev_iconst, ev_lconst, ev_ldc, ev_null, ev_iload, ev_lload, ev_aload, ev_istore, ev_lstore, ev_astore, ev_iinc, ev_iadd, ev_isub, ev_imul, ev_iand, ev_ior, ev_ishl, ev_ishr, ev_idiv, ev_irem, ev_ineg, ev_ladd, ev_lsub, ev_lmul, ev_land, ev_lor, ev_ldiv, ev_lrem, ev_lshl, ev_i2l, ev_l2i, ev_i2b, ev_i2s, ev_lcmp, ev_dupI, ev_dupR, ev_dup2, ev_popI, ev_popR, ev_alen, ev_xlen, ev_xald, ev_iald, ev_lald, ev_bald, ev_zald, ev_aald, ev_iast, ev_last, ev_bast, ev_zast, ev_aast, ev_gfI, ev_gfL, ev_gfR, ev_pfI, ev_pfZ, ev_pfL, ev_pfR, ev_new, ev_newa, ev_newq, ev_copy, ev_slen, ev_schr, ev_obj, ev_mmin, ev_mabs, ev_mmax, ev_goto, ev_jsr, ev_icmp_eq, ev_if_eq, ev_icmp_ne, ev_if_ne, ev_icmp_lt, ev_if_lt, ev_icmp_ge, ev_if_ge, ev_icmp_gt, ev_if_gt, ev_icmp_le, ev_if_le, ev_ifnull0, ev_ifnull1, ev_ifnn0, ev_ifnn1, ev_tsw, ev_lsw, ev_iret, ev_zret, ev_lret, ev_aret, ev_ret, ev_call0, ev_call1, ev_call2, ev_call3, ev_call4, ev_call5, ev_call6, Option.toList_some, Option.toList_none, List.cons_append, List.nil_append, List.length_cons, List.length_nil, Nat.reduceMod, Nat.reduceDiv, Nat.reduceLeDiff, nc, ↓reduceIte, Nat.zero_le, reduceCtorEq, w32_id, Int.reduceEq, Int.reduceNe, Int.reduceLT, Int.reduceLE, Int.reduceGT, Int.reduceGE, Int.reduceAdd, Int.reduceSub, Int.reduceMul, Int.reduceNeg, ne_eq, not_true_eq_false, not_false_eq_true, eq_self, ↓if_pos, ↓if_neg, J_168_0, k_168_0, J_168_91, k_168_91, ]
  exact x7
theorem op_few (h : RR' M) {a : Int} : OP X 167 [vI a] 326 [vI a] M := by
  have k0 := w0_k0; have hc4 := w0_ch4; have hmd := w0_md140; have mk0 := hmd.1; have hc4' := w0_ch4; obtain ⟨ck0, cr0, cr1, cr2, cr3, cr4, cr5, cr6, cr7, ck1, ck2, ck3, ck4, ck5, ck6, ck7, ck8, cl1, cl2, cl3, cl4, cl5, cl6, cl7, cl8⟩ := hc4'
  have k46 := w0_k46
  have hca := c_canBeAltered (X := X) h
  have ra := rr_ra h
  by_cases q : 1 ≤ a ∧ a ≤ 4
  · -- what is found
    have found : ∃ Ma, (∀ b, b < 36 ∨ (45 < b ∧ b ≠ 46 ∧ b ≠ 47 ∧ b ≠ 48 ∧ b ≠ 49 ∧ (b < 51 ∨ 59 < b)) → Ma b = M b) ∧ (∀ i, i ≠ 3 → Ma 46 i = M 46 i) ∧ (0 ≤ Ma 46 3 ∧ Ma 46 3 ≤ 4) ∧ (∀ k : Nat, (k : Int) < Ma 46 3 → isB (AA M) (altH (xH (AA M)) (Ma 47) (Ma 48) k) (Ma 47 k) (Ma 48 k) (Ma 49 k)) ∧ (a ≤ Ma 46 3 ∨ 4 ≤ Ma 46 3 ∨ (1 ≤ Ma 46 3 ∧ Ma 49 (Ma 46 3 - 1) ≤ 0) ∨ (¬ (0 < xn (AA M) ∧ 1 < AA M 2) ∧ Ma 46 3 = 0)) ∧ (RA M → ∀ M2 : Mem, (∀ b, 46 ≤ b → b ≤ 59 → b ≠ 46 → b ≠ 50 → M2 b = Ma b) → M2 46 3 = Ma 46 3 → AA M2 = AA M → (M2 46 4 = M2 140 41 ∧ (0 ≤ M2 140 41 ∧ M2 140 41 ≤ 4) ∧ ∀ k, 0 ≤ k → k < 3 * M2 140 41 → M2 50 k = M2 160 k) → RA M2) ∧
        ev X 167 k_167_0 [some (vR (some 0)), some (vI a)] [] SH0 M = ev X 167 k_167_38 [some (vR (some 0)), some (vI a)] [] SH0 Ma := by
      by_cases hn : 0 < xn (AA M) ∧ 1 < AA M 2
      · rw [if1 hn] at hca
        obtain ⟨Ma, fa, ga, fd, f1, fx, ea⟩ := s_find (X := X) h hn (many := a) q
        refine ⟨Ma, fa, ga, fd.1, fd.2.2.1, by omega, fun _ M2 m2 e3 eA ht => ?_, ?_⟩
        · refine RA_fd h ?_ hn eA ht
          have e47 := m2 47 (by omega) (by omega) (by omega) (by omega)
          have e48 := m2 48 (by omega) (by omega) (by omega) (by omega)
          have e49 := m2 49 (by omega) (by omega) (by omega) (by omega)
          unfold FD
          rw [e3, e47, e48, e49]
          exact ⟨fd.1, hc_f fd.2.1 (fun b x y => m2 b (by omega) (by omega) (by omega) (by omega)), fd.2.2⟩
        · simp (disch := first | assumption | decide | omega | (simp only [List.length_cons, List.length_nil] <;> omega)) only [lgt_0, lgt_s, lset_0, lset_s, lst1_0, lst1_s, lst2_0, lst2_s, ev_iconst, ev_lconst, ev_ldc, ev_null, ev_iload, ev_lload, ev_aload, ev_istore, ev_lstore, ev_astore, ev_iinc, ev_iadd, ev_isub, ev_imul, ev_iand, ev_ior, ev_ishl, ev_ishr, ev_idiv, ev_irem, ev_ineg, ev_ladd, ev_lsub, ev_lmul, ev_land, ev_lor, ev_ldiv, ev_lrem, ev_lshl, ev_i2l, ev_l2i, ev_i2b, ev_i2s, ev_lcmp, ev_dupI, ev_dupR, ev_dup2, ev_popI, ev_popR, ev_alen, ev_xlen, ev_xald, ev_iald, ev_lald, ev_bald, ev_zald, ev_aald, ev_iast, ev_last, ev_bast, ev_zast, ev_aast, ev_gfI, ev_gfL, ev_gfR, ev_pfI, ev_pfZ, ev_pfL, ev_pfR, ev_new, ev_newa, ev_newq, ev_copy, ev_slen, ev_schr, ev_obj, ev_mmin, ev_mabs, ev_mmax, ev_goto, ev_jsr, ev_icmp_eq, ev_if_eq, ev_icmp_ne, ev_if_ne, ev_icmp_lt, ev_if_lt, ev_icmp_ge, ev_if_ge, ev_icmp_gt, ev_if_gt, ev_icmp_le, ev_if_le, ev_ifnull0, ev_ifnull1, ev_ifnn0, ev_ifnn1, ev_tsw, ev_lsw, ev_iret, ev_zret, ev_lret, ev_aret, ev_ret, ev_call0, ev_call1, ev_call2, ev_call3, ev_call4, ev_call5, ev_call6, Option.toList_some, Option.toList_none, List.cons_append, List.nil_append, List.length_cons, List.length_nil, Nat.reduceMod, Nat.reduceDiv, Nat.reduceLeDiff, nc, ↓reduceIte, Nat.zero_le, reduceCtorEq, w32_id, Int.reduceEq, Int.reduceNe, Int.reduceLT, Int.reduceLE, Int.reduceGT, Int.reduceGE, Int.reduceAdd, Int.reduceSub, Int.reduceMul, Int.reduceNeg, ne_eq, not_true_eq_false, not_false_eq_true, eq_self, ↓if_pos, ↓if_neg, w0_r0_3, w0_r0_4, w0_r0_5, w0_r0_6, w0_r0_7, w0_r0_8, w0_r0_10, w0_r0_11, w0_r0_12, w0_r0_13, w0_r0_14, w0_r0_15, w0_r0_16, w0_r0_17, w0_r0_18, J_167_0, k_167_0, J_167_10, k_167_10, J_167_16, k_167_16, J_167_38, k_167_38, hca, ea]
      · rw [if0 hn] at hca
        have f0 : M 46 3 = 0 := by
          by_cases z : 0 < M 46 3
          · exact absurd (ra.2.2.1 z).1 hn
          · have := ra.2.1.1; omega
        refine ⟨M, fun _ _ => rfl, fun _ _ => rfl, ra.2.1, fun k hk => by omega, Or.inr (Or.inr (Or.inr ⟨hn, f0⟩)), fun _ M2 m2 e3 eA ht => ?_, ?_⟩
        · unfold RA
          show RAl _ _ _ _ _ _ _ _ _ _ _ _ _ _ (AA M2)
          rw [e3, f0]
          exact ⟨ht, by omega, fun z => by omega, fun k hk => by omega, fun k hk => by omega⟩
        · simp (disch := first | assumption | decide | omega | (simp only [List.length_cons, List.length_nil] <;> omega)) only [lgt_0, lgt_s, lset_0, lset_s, lst1_0, lst1_s, lst2_0, lst2_s, ev_iconst, ev_lconst, ev_ldc, ev_null, ev_iload, ev_lload, ev_aload, ev_istore, ev_lstore, ev_astore, ev_iinc, ev_iadd, ev_isub, ev_imul, ev_iand, ev_ior, ev_ishl, ev_ishr, ev_idiv, ev_irem, ev_ineg, ev_ladd, ev_lsub, ev_lmul, ev_land, ev_lor, ev_ldiv, ev_lrem, ev_lshl, ev_i2l, ev_l2i, ev_i2b, ev_i2s, ev_lcmp, ev_dupI, ev_dupR, ev_dup2, ev_popI, ev_popR, ev_alen, ev_xlen, ev_xald, ev_iald, ev_lald, ev_bald, ev_zald, ev_aald, ev_iast, ev_last, ev_bast, ev_zast, ev_aast, ev_gfI, ev_gfL, ev_gfR, ev_pfI, ev_pfZ, ev_pfL, ev_pfR, ev_new, ev_newa, ev_newq, ev_copy, ev_slen, ev_schr, ev_obj, ev_mmin, ev_mabs, ev_mmax, ev_goto, ev_jsr, ev_icmp_eq, ev_if_eq, ev_icmp_ne, ev_if_ne, ev_icmp_lt, ev_if_lt, ev_icmp_ge, ev_if_ge, ev_icmp_gt, ev_if_gt, ev_icmp_le, ev_if_le, ev_ifnull0, ev_ifnull1, ev_ifnn0, ev_ifnn1, ev_tsw, ev_lsw, ev_iret, ev_zret, ev_lret, ev_aret, ev_ret, ev_call0, ev_call1, ev_call2, ev_call3, ev_call4, ev_call5, ev_call6, Option.toList_some, Option.toList_none, List.cons_append, List.nil_append, List.length_cons, List.length_nil, Nat.reduceMod, Nat.reduceDiv, Nat.reduceLeDiff, nc, ↓reduceIte, Nat.zero_le, reduceCtorEq, w32_id, Int.reduceEq, Int.reduceNe, Int.reduceLT, Int.reduceLE, Int.reduceGT, Int.reduceGE, Int.reduceAdd, Int.reduceSub, Int.reduceMul, Int.reduceNeg, ne_eq, not_true_eq_false, not_false_eq_true, eq_self, ↓if_pos, ↓if_neg, w0_r0_3, w0_r0_4, w0_r0_5, w0_r0_6, w0_r0_7, w0_r0_8, w0_r0_10, w0_r0_11, w0_r0_12, w0_r0_13, w0_r0_14, w0_r0_15, w0_r0_16, w0_r0_17, w0_r0_18, J_167_0, k_167_0, J_167_10, k_167_10, J_167_16, k_167_16, J_167_38, k_167_38, hca]
    obtain ⟨Ma, fa, ga, f4, fB, fx, fRA, ea⟩ := found
    obtain ⟨Mb, t, fb, gb, bt, tb, tk, tx, eb⟩ := s_tell (X := X) (M := Ma) q rfl f4
    have cB : ∀ b, b < 36 ∨ (45 < b ∧ b ≠ 46 ∧ b ≠ 47 ∧ b ≠ 48 ∧ b ≠ 49 ∧ b ≠ 50 ∧ (b < 51 ∨ 59 < b)) → Mb b = M b := fun b hb => by rw [fb b (by omega) (by omega), fa b (by omega)]
    have hm : mds M (up Mb 0 0 0) := fun b hb => by rw [up_ne (by omega), cB b (by omega)]
    generalize hM1 : up Mb 0 0 0 = M1 at hm
    have m1c : ∀ b, b ≠ 0 → M1 b = Mb b := fun b hb => by rw [← hM1, up_ne hb]
    -- the model's loop
    have hv1 := rr_hv h hm
    have tpos : ∀ k : Nat, (k : Int) < t → 0 < Ma 49 k := fun k hk => (tk k (by omega) hk).1
    have key := ev_while (X := X) (y := 326) (Sh := SH0) (fun m ls M' => ∃ s : Nat, ls = [some (vR (some 140)), some (vI a)] ∧ M' 140 41 = s ∧ (s : Int) ≤ t ∧ (∀ b, b ≠ 140 → b ≠ 140 + 10 → b ≠ 160 → (b < 152 ∨ 159 < b) → M' b = M1 b) ∧ (∀ i, (i < 36 ∨ 41 < i) → M' 140 i = M1 140 i) ∧ HV M' (AA M) (altH (xH (AA M)) (Ma 47) (Ma 48) s) ∧ (∀ i, (i < 0 ∨ xn (AA M) ≤ i) → M' (140 + 10) i = M1 (140 + 10) i) ∧ (∀ k, 0 ≤ k → k < (s : Int) → M' 160 (3 * k) = Ma 47 k ∧ M' 160 (3 * k + 1) = Ma 48 k ∧ M' 160 (3 * k + 2) = Ma 49 k) ∧ m = (t - s).toNat)
      (fun o => ∃ M', M' 140 41 = t ∧ (∀ b, b ≠ 140 → b ≠ 140 + 10 → b ≠ 160 → (b < 152 ∨ 159 < b) → M' b = M1 b) ∧ (∀ i, (i < 36 ∨ 41 < i) → M' 140 i = M1 140 i) ∧ (∃ H, HV M' (AA M) H) ∧ (∀ i, (i < 0 ∨ xn (AA M) ≤ i) → M' (140 + 10) i = M1 (140 + 10) i) ∧ (∀ k, 0 ≤ k → k < t → M' 160 (3 * k) = Ma 47 k ∧ M' 160 (3 * k + 1) = Ma 48 k ∧ M' 160 (3 * k + 2) = Ma 49 k) ∧ o = ev X 326 k_326_120 [some (vR (some 140)), some (vI a)] [] SH0 M') J_326_23 (fun m ls M' hI => by
      obtain ⟨s, hls, e41, st, fr, fr2, hv, hout, hk, hmm⟩ := hI
      subst hls
      by_cases q1 : a ≤ (s : Int)
      · have es : (s : Int) = t := by omega
        refine Or.inr ⟨M', by rw [e41, es], fr, fr2, ⟨_, hv⟩, hout, by rw [← es]; exact hk, ?_⟩
        simp (disch := first | assumption | decide | omega | (simp only [List.length_cons, List.length_nil] <;> omega)) only [lgt_0, lgt_s, lset_0, lset_s, lst1_0, lst1_s, lst2_0, lst2_s, ev_iconst, ev_lconst, ev_ldc, ev_null, ev_iload, ev_lload, ev_aload, ev_istore, ev_lstore, ev_astore, ev_iinc, ev_iadd, ev_isub, ev_imul, ev_iand, ev_ior, ev_ishl, ev_ishr, ev_idiv, ev_irem, ev_ineg, ev_ladd, ev_lsub, ev_lmul, ev_land, ev_lor, ev_ldiv, ev_lrem, ev_lshl, ev_i2l, ev_l2i, ev_i2b, ev_i2s, ev_lcmp, ev_dupI, ev_dupR, ev_dup2, ev_popI, ev_popR, ev_alen, ev_xlen, ev_xald, ev_iald, ev_lald, ev_bald, ev_zald, ev_aald, ev_iast, ev_last, ev_bast, ev_zast, ev_aast, ev_gfI, ev_gfL, ev_gfR, ev_pfI, ev_pfZ, ev_pfL, ev_pfR, ev_new, ev_newa, ev_newq, ev_copy, ev_slen, ev_schr, ev_obj, ev_mmin, ev_mabs, ev_mmax, ev_goto, ev_jsr, ev_icmp_eq, ev_if_eq, ev_icmp_ne, ev_if_ne, ev_icmp_lt, ev_if_lt, ev_icmp_ge, ev_if_ge, ev_icmp_gt, ev_if_gt, ev_icmp_le, ev_if_le, ev_ifnull0, ev_ifnull1, ev_ifnn0, ev_ifnn1, ev_tsw, ev_lsw, ev_iret, ev_zret, ev_lret, ev_aret, ev_ret, ev_call0, ev_call1, ev_call2, ev_call3, ev_call4, ev_call5, ev_call6, Option.toList_some, Option.toList_none, List.cons_append, List.nil_append, List.length_cons, List.length_nil, Nat.reduceMod, Nat.reduceDiv, Nat.reduceLeDiff, nc, ↓reduceIte, Nat.zero_le, reduceCtorEq, w32_id, Int.reduceEq, Int.reduceNe, Int.reduceLT, Int.reduceLE, Int.reduceGT, Int.reduceGE, Int.reduceAdd, Int.reduceSub, Int.reduceMul, Int.reduceNeg, ne_eq, not_true_eq_false, not_false_eq_true, eq_self, ↓if_pos, ↓if_neg, J_326_0, k_326_0, J_326_18, k_326_18, J_326_120, k_326_120, k_326_23, e41]
      · obtain ⟨N1, gN, hb⟩ := m_seeksBest (X := X) hv
        have n41 : N1 140 41 = s := by rw [gN.2 41 (by omega)]; exact e41
        have frN : ∀ b, b ≠ 140 → b ≠ 140 + 10 → b ≠ 160 → (b < 152 ∨ 159 < b) → N1 b = M1 b := fun b b0 b1 b2 b3 => by rw [gN.1 b b0 b3]; exact fr b b0 b1 b2 b3
        have frN2 : ∀ i, (i < 36 ∨ 41 < i) → N1 140 i = M1 140 i := fun i hi => by rw [gN.2 i (by omega)]; exact fr2 i hi
        have n10 : N1 (140 + 10) = M' (140 + 10) := gN.1 _ (by omega) (by omega)
        have n160 : N1 160 = M' 160 := gN.1 _ (by omega) (by omega)
        have hvN := hv_b hv gN
        rcases hb with hb | hb
        · -- none such
          have nn : ¬ (0 < xn (AA M) ∧ 1 < AA M 2) := fun z => bsn_no hb.1 z
          have es : (s : Int) = t := by
            by_cases z : (s : Int) < t
            · have b := (fB 0 (by omega)).1
              have b2 := okH_x (rr_gwy h) _ b.1.1 b.1.2
              have b3 : altH (xH (AA M)) (Ma 47) (Ma 48) 0 = xH (AA M) := rfl
              rw [b3] at b
              exact absurd ⟨by omega, by omega⟩ nn
            · omega
          refine Or.inr ⟨N1, by rw [n41, es], frN, frN2, ⟨_, hvN⟩, fun i hi => by rw [n10]; exact hout i hi, by rw [n160, ← es]; exact hk, ?_⟩
          have e2 := hb.2
          simp (disch := first | assumption | decide | omega | (simp only [List.length_cons, List.length_nil] <;> omega)) only [lgt_0, lgt_s, lset_0, lset_s, lst1_0, lst1_s, lst2_0, lst2_s, ev_iconst, ev_lconst, ev_ldc, ev_null, ev_iload, ev_lload, ev_aload, ev_istore, ev_lstore, ev_astore, ev_iinc, ev_iadd, ev_isub, ev_imul, ev_iand, ev_ior, ev_ishl, ev_ishr, ev_idiv, ev_irem, ev_ineg, ev_ladd, ev_lsub, ev_lmul, ev_land, ev_lor, ev_ldiv, ev_lrem, ev_lshl, ev_i2l, ev_l2i, ev_i2b, ev_i2s, ev_lcmp, ev_dupI, ev_dupR, ev_dup2, ev_popI, ev_popR, ev_alen, ev_xlen, ev_xald, ev_iald, ev_lald, ev_bald, ev_zald, ev_aald, ev_iast, ev_last, ev_bast, ev_zast, ev_aast, ev_gfI, ev_gfL, ev_gfR, ev_pfI, ev_pfZ, ev_pfL, ev_pfR, ev_new, ev_newa, ev_newq, ev_copy, ev_slen, ev_schr, ev_obj, ev_mmin, ev_mabs, ev_mmax, ev_goto, ev_jsr, ev_icmp_eq, ev_if_eq, ev_icmp_ne, ev_if_ne, ev_icmp_lt, ev_if_lt, ev_icmp_ge, ev_if_ge, ev_icmp_gt, ev_if_gt, ev_icmp_le, ev_if_le, ev_ifnull0, ev_ifnull1, ev_ifnn0, ev_ifnn1, ev_tsw, ev_lsw, ev_iret, ev_zret, ev_lret, ev_aret, ev_ret, ev_call0, ev_call1, ev_call2, ev_call3, ev_call4, ev_call5, ev_call6, Option.toList_some, Option.toList_none, List.cons_append, List.nil_append, List.length_cons, List.length_nil, Nat.reduceMod, Nat.reduceDiv, Nat.reduceLeDiff, nc, ↓reduceIte, Nat.zero_le, reduceCtorEq, w32_id, Int.reduceEq, Int.reduceNe, Int.reduceLT, Int.reduceLE, Int.reduceGT, Int.reduceGE, Int.reduceAdd, Int.reduceSub, Int.reduceMul, Int.reduceNeg, ne_eq, not_true_eq_false, not_false_eq_true, eq_self, ↓if_pos, ↓if_neg, J_326_0, k_326_0, J_326_18, k_326_18, J_326_120, k_326_120, k_326_23, e41, e2]
        · by_cases z : (s : Int) < t
          · -- one more
            have u := isB_uniq (fB s (by omega)) hb.1
            have sp := tpos s z
            have e2 := hb.2
            have bv := (fB s (by omega)).1
            have hs4 : (s : Int) < 4 := by omega
            have hvU := hv_up hvN (i := Ma 47 s) (k := Ma 48 s) bv.2.1
            refine Or.inl ⟨_, _, up (up (up (up (up N1 160 (3 * (s : Int)) (Ma 47 s)) 160 (3 * (s : Int) + 1) (Ma 48 s)) 160 (3 * (s : Int) + 2) (Ma 49 s)) 140 41 ((s : Int) + 1)) (140 + 10) (Ma 47 s) (Ma 48 s), ?_, ⟨s + 1, rfl, ?_, by omega, fun b b0 b1 b2 b3 => ?_, fun i hi => ?_, ?_, fun i hi => ?_, fun k k0 k1 => ?_, rfl⟩, ?_⟩
            · omega
            · simp (disch := omega) only [up_ne, up_eq, up_ne2]
              rfl
            · simp (disch := omega) only [up_ne, up_eq, up_ne2]
              exact frN b b0 b1 b2 b3
            · simp (disch := omega) only [up_ne, up_eq, up_ne2]
              exact frN2 i hi
            · obtain ⟨v1, v2, v3, v4⟩ := hvU
              refine ⟨fun k a b => ?_, fun i a b => ?_, v3, v4⟩
              · have e := v1 k a b
                revert e
                simp (disch := omega) only [up_ne, up_eq, up_ne2]
                exact fun e => e
              · have e := v2 i a b
                have e9 : up (up (up (up (up N1 160 (3 * (s : Int)) (Ma 47 s)) 160 (3 * (s : Int) + 1) (Ma 48 s)) 160 (3 * (s : Int) + 2) (Ma 49 s)) 140 41 ((s : Int) + 1)) (140 + 10) (Ma 47 s) (Ma 48 s) (140 + 9) = up N1 (140 + 10) (Ma 47 s) (Ma 48 s) (140 + 9) := by simp (disch := omega) only [up_ne, up_eq, up_ne2]
                have e10 : up (up (up (up (up N1 160 (3 * (s : Int)) (Ma 47 s)) 160 (3 * (s : Int) + 1) (Ma 48 s)) 160 (3 * (s : Int) + 2) (Ma 49 s)) 140 41 ((s : Int) + 1)) (140 + 10) (Ma 47 s) (Ma 48 s) (140 + 10) i = up N1 (140 + 10) (Ma 47 s) (Ma 48 s) (140 + 10) i := by
                  rw [up_at, up_at]
                  simp (disch := omega) only [up_ne]
                rw [e9, e10]
                exact e
            · have b := bv.1
              simp (disch := omega) only [up_ne, up_eq, up_ne2]
              rw [n10]
              exact hout i hi
            · by_cases y : k = s
              · subst y
                refine ⟨?_, ?_, ?_⟩
                · simp (disch := omega) only [up_ne, up_eq, up_ne2]
                · simp (disch := omega) only [up_ne, up_eq, up_ne2]
                · simp (disch := omega) only [up_ne, up_eq, up_ne2]
              · have e := hk k k0 (by omega)
                refine ⟨?_, ?_, ?_⟩
                · simp (disch := omega) only [up_ne, up_eq, up_ne2]; rw [n160]; exact e.1
                · simp (disch := omega) only [up_ne, up_eq, up_ne2]; rw [n160]; exact e.2.1
                · simp (disch := omega) only [up_ne, up_eq, up_ne2]; rw [n160]; exact e.2.2
            · obtain ⟨r_fewTold, k_fewTold, l_fewTold⟩ := md_fewTold w0_md140; obtain ⟨r_colourOf, k_colourOf, l_colourOf⟩ := md_colourOf w0_md140
              have b := bv.1
              have nx := xn_rng h
              obtain ⟨u1, u2, u3⟩ := u
              have w37 : N1 140 37 = Ma 47 s := u1.symm
              have w38 : N1 140 38 = Ma 48 s := u2.symm
              have w39 : N1 140 39 = Ma 49 s := u3.symm
              simp (disch := first | assumption | decide | omega | (simp only [List.length_cons, List.length_nil] <;> omega)) only [lgt_0, lgt_s, lset_0, lset_s, lst1_0, lst1_s, lst2_0, lst2_s, ev_iconst, ev_lconst, ev_ldc, ev_null, ev_iload, ev_lload, ev_aload, ev_istore, ev_lstore, ev_astore, ev_iinc, ev_iadd, ev_isub, ev_imul, ev_iand, ev_ior, ev_ishl, ev_ishr, ev_idiv, ev_irem, ev_ineg, ev_ladd, ev_lsub, ev_lmul, ev_land, ev_lor, ev_ldiv, ev_lrem, ev_lshl, ev_i2l, ev_l2i, ev_i2b, ev_i2s, ev_lcmp, ev_dupI, ev_dupR, ev_dup2, ev_popI, ev_popR, ev_alen, ev_xlen, ev_xald, ev_iald, ev_lald, ev_bald, ev_zald, ev_aald, ev_iast, ev_last, ev_bast, ev_zast, ev_aast, ev_gfI, ev_gfL, ev_gfR, ev_pfI, ev_pfZ, ev_pfL, ev_pfR, ev_new, ev_newa, ev_newq, ev_copy, ev_slen, ev_schr, ev_obj, ev_mmin, ev_mabs, ev_mmax, ev_goto, ev_jsr, ev_icmp_eq, ev_if_eq, ev_icmp_ne, ev_if_ne, ev_icmp_lt, ev_if_lt, ev_icmp_ge, ev_if_ge, ev_icmp_gt, ev_if_gt, ev_icmp_le, ev_if_le, ev_ifnull0, ev_ifnull1, ev_ifnn0, ev_ifnn1, ev_tsw, ev_lsw, ev_iret, ev_zret, ev_lret, ev_aret, ev_ret, ev_call0, ev_call1, ev_call2, ev_call3, ev_call4, ev_call5, ev_call6, Option.toList_some, Option.toList_none, List.cons_append, List.nil_append, List.length_cons, List.length_nil, Nat.reduceMod, Nat.reduceDiv, Nat.reduceLeDiff, nc, ↓reduceIte, Nat.zero_le, reduceCtorEq, w32_id, Int.reduceEq, Int.reduceNe, Int.reduceLT, Int.reduceLE, Int.reduceGT, Int.reduceGE, Int.reduceAdd, Int.reduceSub, Int.reduceMul, Int.reduceNeg, ne_eq, not_true_eq_false, not_false_eq_true, eq_self, ↓if_pos, ↓if_neg, J_326_0, k_326_0, J_326_18, k_326_18, J_326_120, k_326_120, k_326_23, e41, e2, w37, w38, w39, n41, r_fewTold, r_colourOf, up_ne, up_ne2]
          · -- no more saves
            have es : (s : Int) = t := by omega
            have np : N1 140 39 ≤ 0 := by
              by_cases y : (s : Int) < Ma 46 3
              · have u := isB_uniq (fB s y) hb.1
                have := tx
                have e : Ma 49 s ≤ 0 := by
                  rcases tx with x | x | x
                  · omega
                  · omega
                  · rw [es]; exact x
                omega
              · exfalso
                rcases fx with x | x | x | x
                · omega
                · omega
                · have ef : (((Ma 46 3 - 1).toNat : Nat) : Int) = Ma 46 3 - 1 := by omega
                  have := tpos (Ma 46 3 - 1).toNat (by omega)
                  rw [ef] at this
                  omega
                · have b := hb.1.1
                  have hu := hv.2.2.2 _ b.1.1 b.1.2
                  exact x.1 ⟨by omega, by omega⟩
            refine Or.inr ⟨N1, by rw [n41, es], frN, frN2, ⟨_, hvN⟩, fun i hi => by rw [n10]; exact hout i hi, by rw [n160, ← es]; exact hk, ?_⟩
            have e2 := hb.2
            simp (disch := first | assumption | decide | omega | (simp only [List.length_cons, List.length_nil] <;> omega)) only [lgt_0, lgt_s, lset_0, lset_s, lst1_0, lst1_s, lst2_0, lst2_s, ev_iconst, ev_lconst, ev_ldc, ev_null, ev_iload, ev_lload, ev_aload, ev_istore, ev_lstore, ev_astore, ev_iinc, ev_iadd, ev_isub, ev_imul, ev_iand, ev_ior, ev_ishl, ev_ishr, ev_idiv, ev_irem, ev_ineg, ev_ladd, ev_lsub, ev_lmul, ev_land, ev_lor, ev_ldiv, ev_lrem, ev_lshl, ev_i2l, ev_l2i, ev_i2b, ev_i2s, ev_lcmp, ev_dupI, ev_dupR, ev_dup2, ev_popI, ev_popR, ev_alen, ev_xlen, ev_xald, ev_iald, ev_lald, ev_bald, ev_zald, ev_aald, ev_iast, ev_last, ev_bast, ev_zast, ev_aast, ev_gfI, ev_gfL, ev_gfR, ev_pfI, ev_pfZ, ev_pfL, ev_pfR, ev_new, ev_newa, ev_newq, ev_copy, ev_slen, ev_schr, ev_obj, ev_mmin, ev_mabs, ev_mmax, ev_goto, ev_jsr, ev_icmp_eq, ev_if_eq, ev_icmp_ne, ev_if_ne, ev_icmp_lt, ev_if_lt, ev_icmp_ge, ev_if_ge, ev_icmp_gt, ev_if_gt, ev_icmp_le, ev_if_le, ev_ifnull0, ev_ifnull1, ev_ifnn0, ev_ifnn1, ev_tsw, ev_lsw, ev_iret, ev_zret, ev_lret, ev_aret, ev_ret, ev_call0, ev_call1, ev_call2, ev_call3, ev_call4, ev_call5, ev_call6, Option.toList_some, Option.toList_none, List.cons_append, List.nil_append, List.length_cons, List.length_nil, Nat.reduceMod, Nat.reduceDiv, Nat.reduceLeDiff, nc, ↓reduceIte, Nat.zero_le, reduceCtorEq, w32_id, Int.reduceEq, Int.reduceNe, Int.reduceLT, Int.reduceLE, Int.reduceGT, Int.reduceGE, Int.reduceAdd, Int.reduceSub, Int.reduceMul, Int.reduceNeg, ne_eq, not_true_eq_false, not_false_eq_true, eq_self, ↓if_pos, ↓if_neg, J_326_0, k_326_0, J_326_18, k_326_18, J_326_120, k_326_120, k_326_23, e41, e2])
    obtain ⟨N2, x1, x2, x3, ⟨Hx, x4⟩, x5, x6, x7⟩ := key (t - 0).toNat _ (up M1 140 41 0) ⟨0, rfl, up_eq, by omega, fun b b0 _ _ _ => by rw [up_ne b0], fun i hi => by rw [up_ne2 (by omega)], ⟨fun k a b => by rw [up_ne (by omega)]; exact hv1.1 k a b, fun i a b => by rw [up_ne (by omega), up_ne (by omega)]; exact hv1.2.1 i a b, hv1.2.2⟩, fun i _ => by rw [up_ne (by omega)], fun k a b => by omega, rfl⟩
    have n141 : N2 (140 + 1) = M (140 + 1) := by rw [x2 _ (by omega) (by omega) (by omega) (by omega), hm _ (by omega)]
    obtain ⟨N3, f3, i3, o3, e3⟩ := m_numbers (X := X) (M := N2) (by rw [n141]; exact (rr_gm h).1.1)
    rw [n141] at i3 o3
    have xn4 : xn (M (140 + 1)) = xn (AA M) := n_m h
    have ep : ∀ i, plF (M (140 + 1)) i = plF (AA M) i := fun i => by
      unfold plF
      rw [rr_at (M := M) (k := 0) (by omega) (by omega), rr_at (M := M) (k := 14) (by omega) (by omega)]
    have n9 : N3 (140 + 9) = M (140 + 9) := by
      funext i
      by_cases z : 0 ≤ i ∧ i < xn (AA M)
      · rw [(i3 i z.1 (by rw [xn4]; exact z.2)).1, PO_m h z.1 z.2, ep]
      · rw [(o3 i (by rw [xn4]; omega)).1, x2 _ (by omega) (by omega) (by omega) (by omega), hm _ (by omega)]
    have n10 : N3 (140 + 10) = M (140 + 10) := by
      funext i
      by_cases z : 0 ≤ i ∧ i < xn (AA M)
      · rw [(i3 i z.1 (by rw [xn4]; exact z.2)).2, CO_m h z.1 z.2, ep]
        have hw := xn_pos (rr_gA h).1 (show 0 < xn (AA M) by omega)
        have p := plF_rng (A := AA M) z.1 z.2 hw
        have n48 := (xn_rng h).2
        have p2 : plF (AA M) i < 48 := Int.lt_of_lt_of_le p.2.1 n48
        exact rr_at (by omega) (by omega)
      · rw [(o3 i (by rw [xn4]; omega)).2, x5 i (by omega), hm _ (by omega)]
    have all : ∀ b, b ≠ 0 → b ≠ 140 → b ≠ 160 → (b < 152 ∨ 159 < b) → up N3 140 2 0 b = Mb b := fun b b0 b1 b2 b3 => by
      rw [up_ne b1]
      by_cases z9 : b = 140 + 9
      · rw [z9, n9, cB _ (by omega)]
      · by_cases z10 : b = 140 + 10
        · rw [z10, n10, cB _ (by omega)]
        · rw [f3 b z9 z10, x2 b b1 z10 b2 b3, m1c b b0]
    have c41 : up N3 140 2 0 140 41 = t := by rw [up_ne2 (by omega), f3 140 (by omega) (by omega)]; exact x1
    have c160 : up N3 140 2 0 160 = N2 160 := by rw [up_ne (by omega), f3 160 (by omega) (by omega)]
    refine ⟨vI t, M1, up N3 140 2 0, ?_, ?_, ?_⟩
    · rw [E_167 k0, ea]
      simp (disch := first | assumption | decide | omega | (simp only [List.length_cons, List.length_nil] <;> omega)) only [lgt_0, lgt_s, lset_0, lset_s, lst1_0, lst1_s, lst2_0, lst2_s, ev_iconst, ev_lconst, ev_ldc, ev_null, ev_iload, ev_lload, ev_aload, ev_istore, ev_lstore, ev_astore, ev_iinc, ev_iadd, ev_isub, ev_imul, ev_iand, ev_ior, ev_ishl, ev_ishr, ev_idiv, ev_irem, ev_ineg, ev_ladd, ev_lsub, ev_lmul, ev_land, ev_lor, ev_ldiv, ev_lrem, ev_lshl, ev_i2l, ev_l2i, ev_i2b, ev_i2s, ev_lcmp, ev_dupI, ev_dupR, ev_dup2, ev_popI, ev_popR, ev_alen, ev_xlen, ev_xald, ev_iald, ev_lald, ev_bald, ev_zald, ev_aald, ev_iast, ev_last, ev_bast, ev_zast, ev_aast, ev_gfI, ev_gfL, ev_gfR, ev_pfI, ev_pfZ, ev_pfL, ev_pfR, ev_new, ev_newa, ev_newq, ev_copy, ev_slen, ev_schr, ev_obj, ev_mmin, ev_mabs, ev_mmax, ev_goto, ev_jsr, ev_icmp_eq, ev_if_eq, ev_icmp_ne, ev_if_ne, ev_icmp_lt, ev_if_lt, ev_icmp_ge, ev_if_ge, ev_icmp_gt, ev_if_gt, ev_icmp_le, ev_if_le, ev_ifnull0, ev_ifnull1, ev_ifnn0, ev_ifnn1, ev_tsw, ev_lsw, ev_iret, ev_zret, ev_lret, ev_aret, ev_ret, ev_call0, ev_call1, ev_call2, ev_call3, ev_call4, ev_call5, ev_call6, Option.toList_some, Option.toList_none, List.cons_append, List.nil_append, List.length_cons, List.length_nil, Nat.reduceMod, Nat.reduceDiv, Nat.reduceLeDiff, nc, ↓reduceIte, Nat.zero_le, reduceCtorEq, w32_id, Int.reduceEq, Int.reduceNe, Int.reduceLT, Int.reduceLE, Int.reduceGT, Int.reduceGE, Int.reduceAdd, Int.reduceSub, Int.reduceMul, Int.reduceNeg, ne_eq, not_true_eq_false, not_false_eq_true, eq_self, ↓if_pos, ↓if_neg, w0_r0_3, w0_r0_4, w0_r0_5, w0_r0_6, w0_r0_7, w0_r0_8, w0_r0_10, w0_r0_11, w0_r0_12, w0_r0_13, w0_r0_14, w0_r0_15, w0_r0_16, w0_r0_17, w0_r0_18, J_167_0, k_167_0, J_167_10, k_167_10, J_167_16, k_167_16, J_167_38, k_167_38, eb, bt, s_answer, hM1]
    · have f := m_isFrom (X := X) (M := M1) (v := a) (l := 1) (u := 4)
      rw [if1 q] at f
      have n41 : N3 140 41 = t := by rw [f3 140 (by omega) (by omega)]; exact x1
      rw [E_326 mk0]
      simp (disch := first | assumption | decide | omega | (simp only [List.length_cons, List.length_nil] <;> omega)) only [lgt_0, lgt_s, lset_0, lset_s, lst1_0, lst1_s, lst2_0, lst2_s, ev_iconst, ev_lconst, ev_ldc, ev_null, ev_iload, ev_lload, ev_aload, ev_istore, ev_lstore, ev_astore, ev_iinc, ev_iadd, ev_isub, ev_imul, ev_iand, ev_ior, ev_ishl, ev_ishr, ev_idiv, ev_irem, ev_ineg, ev_ladd, ev_lsub, ev_lmul, ev_land, ev_lor, ev_ldiv, ev_lrem, ev_lshl, ev_i2l, ev_l2i, ev_i2b, ev_i2s, ev_lcmp, ev_dupI, ev_dupR, ev_dup2, ev_popI, ev_popR, ev_alen, ev_xlen, ev_xald, ev_iald, ev_lald, ev_bald, ev_zald, ev_aald, ev_iast, ev_last, ev_bast, ev_zast, ev_aast, ev_gfI, ev_gfL, ev_gfR, ev_pfI, ev_pfZ, ev_pfL, ev_pfR, ev_new, ev_newa, ev_newq, ev_copy, ev_slen, ev_schr, ev_obj, ev_mmin, ev_mabs, ev_mmax, ev_goto, ev_jsr, ev_icmp_eq, ev_if_eq, ev_icmp_ne, ev_if_ne, ev_icmp_lt, ev_if_lt, ev_icmp_ge, ev_if_ge, ev_icmp_gt, ev_if_gt, ev_icmp_le, ev_if_le, ev_ifnull0, ev_ifnull1, ev_ifnn0, ev_ifnn1, ev_tsw, ev_lsw, ev_iret, ev_zret, ev_lret, ev_aret, ev_ret, ev_call0, ev_call1, ev_call2, ev_call3, ev_call4, ev_call5, ev_call6, Option.toList_some, Option.toList_none, List.cons_append, List.nil_append, List.length_cons, List.length_nil, Nat.reduceMod, Nat.reduceDiv, Nat.reduceLeDiff, nc, ↓reduceIte, Nat.zero_le, reduceCtorEq, w32_id, Int.reduceEq, Int.reduceNe, Int.reduceLT, Int.reduceLE, Int.reduceGT, Int.reduceGE, Int.reduceAdd, Int.reduceSub, Int.reduceMul, Int.reduceNeg, ne_eq, not_true_eq_false, not_false_eq_true, eq_self, ↓if_pos, ↓if_neg, J_326_0, k_326_0, J_326_18, k_326_18, J_326_120, k_326_120, f]
      rw [x7]
      simp (disch := first | assumption | decide | omega | (simp only [List.length_cons, List.length_nil] <;> omega)) only [lgt_0, lgt_s, lset_0, lset_s, lst1_0, lst1_s, lst2_0, lst2_s, ev_iconst, ev_lconst, ev_ldc, ev_null, ev_iload, ev_lload, ev_aload, ev_istore, ev_lstore, ev_astore, ev_iinc, ev_iadd, ev_isub, ev_imul, ev_iand, ev_ior, ev_ishl, ev_ishr, ev_idiv, ev_irem, ev_ineg, ev_ladd, ev_lsub, ev_lmul, ev_land, ev_lor, ev_ldiv, ev_lrem, ev_lshl, ev_i2l, ev_l2i, ev_i2b, ev_i2s, ev_lcmp, ev_dupI, ev_dupR, ev_dup2, ev_popI, ev_popR, ev_alen, ev_xlen, ev_xald, ev_iald, ev_lald, ev_bald, ev_zald, ev_aald, ev_iast, ev_last, ev_bast, ev_zast, ev_aast, ev_gfI, ev_gfL, ev_gfR, ev_pfI, ev_pfZ, ev_pfL, ev_pfR, ev_new, ev_newa, ev_newq, ev_copy, ev_slen, ev_schr, ev_obj, ev_mmin, ev_mabs, ev_mmax, ev_goto, ev_jsr, ev_icmp_eq, ev_if_eq, ev_icmp_ne, ev_if_ne, ev_icmp_lt, ev_if_lt, ev_icmp_ge, ev_if_ge, ev_icmp_gt, ev_if_gt, ev_icmp_le, ev_if_le, ev_ifnull0, ev_ifnull1, ev_ifnn0, ev_ifnn1, ev_tsw, ev_lsw, ev_iret, ev_zret, ev_lret, ev_aret, ev_ret, ev_call0, ev_call1, ev_call2, ev_call3, ev_call4, ev_call5, ev_call6, Option.toList_some, Option.toList_none, List.cons_append, List.nil_append, List.length_cons, List.length_nil, Nat.reduceMod, Nat.reduceDiv, Nat.reduceLeDiff, nc, ↓reduceIte, Nat.zero_le, reduceCtorEq, w32_id, Int.reduceEq, Int.reduceNe, Int.reduceLT, Int.reduceLE, Int.reduceGT, Int.reduceGE, Int.reduceAdd, Int.reduceSub, Int.reduceMul, Int.reduceNeg, ne_eq, not_true_eq_false, not_false_eq_true, eq_self, ↓if_pos, ↓if_neg, J_326_0, k_326_0, J_326_18, k_326_18, J_326_120, k_326_120, e3, n41, m_gives hmd]
    · refine RR_al (M := M) (fun i hi => ?_) (fun b b0 b1 b2 b3 b4 => ?_) (fun i i0 i1 => ?_) ?_ ?_ h
      · rw [up_ne (by omega), f3 0 (by omega) (by omega), x2 0 (by omega) (by omega) (by omega) (by omega), ← hM1, up_ne2 hi, cB 0 (by omega)]
      · rw [all b (by omega) b3 (by omega) (by omega), cB b (by omega)]
      · rw [up_ne2 i1, f3 140 (by omega) (by omega), x3 i (by omega), m1c 140 (by omega), cB 140 (by omega)]
      · refine fRA h.2.2.2.2.2.2.2.2.2 _ (fun b b0 b1 b2 b3 => ?_) ?_ ?_ ?_
        · rw [all b (by omega) (by omega) (by omega) (by omega), fb b b2 b3]
        · rw [all 46 (by omega) (by omega) (by omega) (by omega), gb 3 (by omega)]
        · unfold AA
          rw [all _ (by omega) (by omega) (by omega) (by omega), cB _ (by omega)]
        · rw [c41, c160, all 46 (by omega) (by omega) (by omega) (by omega), all 50 (by omega) (by omega) (by omega) (by omega), bt]
          refine ⟨rfl, by omega, fun k k0 k1 => ?_⟩
          have d := Int.mul_ediv_add_emod k 3
          have r0 := Int.emod_nonneg k (show (3 : Int) ≠ 0 by omega)
          have r1 := Int.emod_lt_of_pos k (show (0 : Int) < 3 by omega)
          generalize k / 3 = j at d
          generalize k % 3 = r at d r0 r1
          have e1 := tk j (by omega) (by omega)
          have e2 := x6 j (by omega) (by omega)
          have er : r = 0 ∨ r = 1 ∨ r = 2 := by omega
          rcases er with z | z | z
          · rw [show k = 3 * j by omega, e1.2.1, e2.1]
          · rw [show k = 3 * j + 1 by omega, e1.2.2.1, e2.2.1]
          · rw [show k = 3 * j + 2 by omega, e1.2.2.2, e2.2.2]
      · rw [up_eq, up_ne (by omega), f3 0 (by omega) (by omega), x2 0 (by omega) (by omega) (by omega) (by omega), ← hM1, up_eq]
  · refine op_ro3 (v := vI (-1)) (st := 1) h ?_ ?_
    · rw [E_167 k0]
      by_cases y : a < 1
      · simp (disch := first | assumption | decide | omega | (simp only [List.length_cons, List.length_nil] <;> omega)) only [lgt_0, lgt_s, lset_0, lset_s, lst1_0, lst1_s, lst2_0, lst2_s, ev_iconst, ev_lconst, ev_ldc, ev_null, ev_iload, ev_lload, ev_aload, ev_istore, ev_lstore, ev_astore, ev_iinc, ev_iadd, ev_isub, ev_imul, ev_iand, ev_ior, ev_ishl, ev_ishr, ev_idiv, ev_irem, ev_ineg, ev_ladd, ev_lsub, ev_lmul, ev_land, ev_lor, ev_ldiv, ev_lrem, ev_lshl, ev_i2l, ev_l2i, ev_i2b, ev_i2s, ev_lcmp, ev_dupI, ev_dupR, ev_dup2, ev_popI, ev_popR, ev_alen, ev_xlen, ev_xald, ev_iald, ev_lald, ev_bald, ev_zald, ev_aald, ev_iast, ev_last, ev_bast, ev_zast, ev_aast, ev_gfI, ev_gfL, ev_gfR, ev_pfI, ev_pfZ, ev_pfL, ev_pfR, ev_new, ev_newa, ev_newq, ev_copy, ev_slen, ev_schr, ev_obj, ev_mmin, ev_mabs, ev_mmax, ev_goto, ev_jsr, ev_icmp_eq, ev_if_eq, ev_icmp_ne, ev_if_ne, ev_icmp_lt, ev_if_lt, ev_icmp_ge, ev_if_ge, ev_icmp_gt, ev_if_gt, ev_icmp_le, ev_if_le, ev_ifnull0, ev_ifnull1, ev_ifnn0, ev_ifnn1, ev_tsw, ev_lsw, ev_iret, ev_zret, ev_lret, ev_aret, ev_ret, ev_call0, ev_call1, ev_call2, ev_call3, ev_call4, ev_call5, ev_call6, Option.toList_some, Option.toList_none, List.cons_append, List.nil_append, List.length_cons, List.length_nil, Nat.reduceMod, Nat.reduceDiv, Nat.reduceLeDiff, nc, ↓reduceIte, Nat.zero_le, reduceCtorEq, w32_id, Int.reduceEq, Int.reduceNe, Int.reduceLT, Int.reduceLE, Int.reduceGT, Int.reduceGE, Int.reduceAdd, Int.reduceSub, Int.reduceMul, Int.reduceNeg, ne_eq, not_true_eq_false, not_false_eq_true, eq_self, ↓if_pos, ↓if_neg, w0_r0_3, w0_r0_4, w0_r0_5, w0_r0_6, w0_r0_7, w0_r0_8, w0_r0_10, w0_r0_11, w0_r0_12, w0_r0_13, w0_r0_14, w0_r0_15, w0_r0_16, w0_r0_17, w0_r0_18, J_167_0, k_167_0, J_167_10, k_167_10, J_167_16, k_167_16, J_167_38, k_167_38, s_none]
      · simp (disch := first | assumption | decide | omega | (simp only [List.length_cons, List.length_nil] <;> omega)) only [lgt_0, lgt_s, lset_0, lset_s, lst1_0, lst1_s, lst2_0, lst2_s, ev_iconst, ev_lconst, ev_ldc, ev_null, ev_iload, ev_lload, ev_aload, ev_istore, ev_lstore, ev_astore, ev_iinc, ev_iadd, ev_isub, ev_imul, ev_iand, ev_ior, ev_ishl, ev_ishr, ev_idiv, ev_irem, ev_ineg, ev_ladd, ev_lsub, ev_lmul, ev_land, ev_lor, ev_ldiv, ev_lrem, ev_lshl, ev_i2l, ev_l2i, ev_i2b, ev_i2s, ev_lcmp, ev_dupI, ev_dupR, ev_dup2, ev_popI, ev_popR, ev_alen, ev_xlen, ev_xald, ev_iald, ev_lald, ev_bald, ev_zald, ev_aald, ev_iast, ev_last, ev_bast, ev_zast, ev_aast, ev_gfI, ev_gfL, ev_gfR, ev_pfI, ev_pfZ, ev_pfL, ev_pfR, ev_new, ev_newa, ev_newq, ev_copy, ev_slen, ev_schr, ev_obj, ev_mmin, ev_mabs, ev_mmax, ev_goto, ev_jsr, ev_icmp_eq, ev_if_eq, ev_icmp_ne, ev_if_ne, ev_icmp_lt, ev_if_lt, ev_icmp_ge, ev_if_ge, ev_icmp_gt, ev_if_gt, ev_icmp_le, ev_if_le, ev_ifnull0, ev_ifnull1, ev_ifnn0, ev_ifnn1, ev_tsw, ev_lsw, ev_iret, ev_zret, ev_lret, ev_aret, ev_ret, ev_call0, ev_call1, ev_call2, ev_call3, ev_call4, ev_call5, ev_call6, Option.toList_some, Option.toList_none, List.cons_append, List.nil_append, List.length_cons, List.length_nil, Nat.reduceMod, Nat.reduceDiv, Nat.reduceLeDiff, nc, ↓reduceIte, Nat.zero_le, reduceCtorEq, w32_id, Int.reduceEq, Int.reduceNe, Int.reduceLT, Int.reduceLE, Int.reduceGT, Int.reduceGE, Int.reduceAdd, Int.reduceSub, Int.reduceMul, Int.reduceNeg, ne_eq, not_true_eq_false, not_false_eq_true, eq_self, ↓if_pos, ↓if_neg, w0_r0_3, w0_r0_4, w0_r0_5, w0_r0_6, w0_r0_7, w0_r0_8, w0_r0_10, w0_r0_11, w0_r0_12, w0_r0_13, w0_r0_14, w0_r0_15, w0_r0_16, w0_r0_17, w0_r0_18, J_167_0, k_167_0, J_167_10, k_167_10, J_167_16, k_167_16, J_167_38, k_167_38, s_none]
    · intro M1 h1 hm
      have f := m_isFrom (X := X) (M := M1) (v := a) (l := 1) (u := 4)
      rw [if0 q] at f
      rw [E_326 mk0]
      simp (disch := first | assumption | decide | omega | (simp only [List.length_cons, List.length_nil] <;> omega)) only [lgt_0, lgt_s, lset_0, lset_s, lst1_0, lst1_s, lst2_0, lst2_s, ev_iconst, ev_lconst, ev_ldc, ev_null, ev_iload, ev_lload, ev_aload, ev_istore, ev_lstore, ev_astore, ev_iinc, ev_iadd, ev_isub, ev_imul, ev_iand, ev_ior, ev_ishl, ev_ishr, ev_idiv, ev_irem, ev_ineg, ev_ladd, ev_lsub, ev_lmul, ev_land, ev_lor, ev_ldiv, ev_lrem, ev_lshl, ev_i2l, ev_l2i, ev_i2b, ev_i2s, ev_lcmp, ev_dupI, ev_dupR, ev_dup2, ev_popI, ev_popR, ev_alen, ev_xlen, ev_xald, ev_iald, ev_lald, ev_bald, ev_zald, ev_aald, ev_iast, ev_last, ev_bast, ev_zast, ev_aast, ev_gfI, ev_gfL, ev_gfR, ev_pfI, ev_pfZ, ev_pfL, ev_pfR, ev_new, ev_newa, ev_newq, ev_copy, ev_slen, ev_schr, ev_obj, ev_mmin, ev_mabs, ev_mmax, ev_goto, ev_jsr, ev_icmp_eq, ev_if_eq, ev_icmp_ne, ev_if_ne, ev_icmp_lt, ev_if_lt, ev_icmp_ge, ev_if_ge, ev_icmp_gt, ev_if_gt, ev_icmp_le, ev_if_le, ev_ifnull0, ev_ifnull1, ev_ifnn0, ev_ifnn1, ev_tsw, ev_lsw, ev_iret, ev_zret, ev_lret, ev_aret, ev_ret, ev_call0, ev_call1, ev_call2, ev_call3, ev_call4, ev_call5, ev_call6, Option.toList_some, Option.toList_none, List.cons_append, List.nil_append, List.length_cons, List.length_nil, Nat.reduceMod, Nat.reduceDiv, Nat.reduceLeDiff, nc, ↓reduceIte, Nat.zero_le, reduceCtorEq, w32_id, Int.reduceEq, Int.reduceNe, Int.reduceLT, Int.reduceLE, Int.reduceGT, Int.reduceGE, Int.reduceAdd, Int.reduceSub, Int.reduceMul, Int.reduceNeg, ne_eq, not_true_eq_false, not_false_eq_true, eq_self, ↓if_pos, ↓if_neg, J_326_0, k_326_0, J_326_18, k_326_18, J_326_120, k_326_120, f, m_refuse hmd]
end FW2
