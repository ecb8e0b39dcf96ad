/-! OPERATIONS: directions. -/
section ODI
variable {X : Int → Int} {M : Mem}
theorem op_directions (h : RR' M) {n : Int} : OP X 78 [vI n] 263 [vI n] M := by
  have k0 := w0_k0; have hc4 := w0_ch4; have hmd := w0_md140; have mk0 := hmd.1; have hc4' := w0_ch4; obtain ⟨ck0, cr0, cr1, cr2, cr3, cr4, cr5, cr6, cr7, ck1, ck2, ck3, ck4, ck5, ck6, ck7, ck8, cl1, cl2, cl3, cl4, cl5, cl6, cl7, cl8⟩ := hc4'
  obtain ⟨⟨t1, t2, t3, t4, t5⟩, tx⟩ := h.2.2.1
  have k2 := w0_k2
  by_cases q : 0 ≤ n ∧ n ≤ M 2 1 ∧ n ≤ 300
  rotate_left
  · have q10 : n < 0 ∨ M 140 10 < n ∨ 300 < n := by omega
    refine op_ro3 (v := vI (-1)) (st := 1) h ?_ ?_
    · rw [E_78 k0]
      by_cases z : n < 0
      · simp (disch := first | assumption | decide | omega | (simp only [List.length_cons, List.length_nil] <;> omega)) only [lgt_0, lgt_s, lset_0, lset_s, lst1_0, lst1_s, lst2_0, lst2_s, ev_iconst, ev_lconst, ev_ldc, ev_null, ev_iload, ev_lload, ev_aload, ev_istore, ev_lstore, ev_astore, ev_iinc, ev_iadd, ev_isub, ev_imul, ev_iand, ev_ior, ev_ishl, ev_ishr, ev_idiv, ev_irem, ev_ineg, ev_ladd, ev_lsub, ev_lmul, ev_land, ev_lor, ev_ldiv, ev_lrem, ev_lshl, ev_i2l, ev_l2i, ev_i2b, ev_i2s, ev_lcmp, ev_dupI, ev_dupR, ev_dup2, ev_popI, ev_popR, ev_alen, ev_xlen, ev_xald, ev_iald, ev_lald, ev_bald, ev_zald, ev_aald, ev_iast, ev_last, ev_bast, ev_zast, ev_aast, ev_gfI, ev_gfL, ev_gfR, ev_pfI, ev_pfZ, ev_pfL, ev_pfR, ev_new, ev_newa, ev_newq, ev_copy, ev_slen, ev_schr, ev_obj, ev_mmin, ev_mabs, ev_mmax, ev_goto, ev_jsr, ev_icmp_eq, ev_if_eq, ev_icmp_ne, ev_if_ne, ev_icmp_lt, ev_if_lt, ev_icmp_ge, ev_if_ge, ev_icmp_gt, ev_if_gt, ev_icmp_le, ev_if_le, ev_ifnull0, ev_ifnull1, ev_ifnn0, ev_ifnn1, ev_tsw, ev_lsw, ev_iret, ev_zret, ev_lret, ev_aret, ev_ret, ev_call0, ev_call1, ev_call2, ev_call3, ev_call4, ev_call5, ev_call6, Option.toList_some, Option.toList_none, List.cons_append, List.nil_append, List.length_cons, List.length_nil, Nat.reduceMod, Nat.reduceDiv, Nat.reduceLeDiff, nc, ↓reduceIte, Nat.zero_le, reduceCtorEq, w32_id, Int.reduceEq, Int.reduceNe, Int.reduceLT, Int.reduceLE, Int.reduceGT, Int.reduceGE, Int.reduceAdd, Int.reduceSub, Int.reduceMul, Int.reduceNeg, ne_eq, not_true_eq_false, not_false_eq_true, eq_self, ↓if_pos, ↓if_neg, w0_r0_3, w0_r0_4, w0_r0_5, w0_r0_6, w0_r0_7, w0_r0_8, w0_r0_10, w0_r0_11, w0_r0_12, w0_r0_13, w0_r0_14, w0_r0_15, w0_r0_16, w0_r0_17, w0_r0_18, J_78_0, k_78_0, J_78_22, k_78_22, J_78_28, k_78_28, J_78_50, k_78_50, z, s_none]
      · by_cases y : M 2 1 < n
        · simp (disch := first | assumption | decide | omega | (simp only [List.length_cons, List.length_nil] <;> omega)) only [lgt_0, lgt_s, lset_0, lset_s, lst1_0, lst1_s, lst2_0, lst2_s, ev_iconst, ev_lconst, ev_ldc, ev_null, ev_iload, ev_lload, ev_aload, ev_istore, ev_lstore, ev_astore, ev_iinc, ev_iadd, ev_isub, ev_imul, ev_iand, ev_ior, ev_ishl, ev_ishr, ev_idiv, ev_irem, ev_ineg, ev_ladd, ev_lsub, ev_lmul, ev_land, ev_lor, ev_ldiv, ev_lrem, ev_lshl, ev_i2l, ev_l2i, ev_i2b, ev_i2s, ev_lcmp, ev_dupI, ev_dupR, ev_dup2, ev_popI, ev_popR, ev_alen, ev_xlen, ev_xald, ev_iald, ev_lald, ev_bald, ev_zald, ev_aald, ev_iast, ev_last, ev_bast, ev_zast, ev_aast, ev_gfI, ev_gfL, ev_gfR, ev_pfI, ev_pfZ, ev_pfL, ev_pfR, ev_new, ev_newa, ev_newq, ev_copy, ev_slen, ev_schr, ev_obj, ev_mmin, ev_mabs, ev_mmax, ev_goto, ev_jsr, ev_icmp_eq, ev_if_eq, ev_icmp_ne, ev_if_ne, ev_icmp_lt, ev_if_lt, ev_icmp_ge, ev_if_ge, ev_icmp_gt, ev_if_gt, ev_icmp_le, ev_if_le, ev_ifnull0, ev_ifnull1, ev_ifnn0, ev_ifnn1, ev_tsw, ev_lsw, ev_iret, ev_zret, ev_lret, ev_aret, ev_ret, ev_call0, ev_call1, ev_call2, ev_call3, ev_call4, ev_call5, ev_call6, Option.toList_some, Option.toList_none, List.cons_append, List.nil_append, List.length_cons, List.length_nil, Nat.reduceMod, Nat.reduceDiv, Nat.reduceLeDiff, nc, ↓reduceIte, Nat.zero_le, reduceCtorEq, w32_id, Int.reduceEq, Int.reduceNe, Int.reduceLT, Int.reduceLE, Int.reduceGT, Int.reduceGE, Int.reduceAdd, Int.reduceSub, Int.reduceMul, Int.reduceNeg, ne_eq, not_true_eq_false, not_false_eq_true, eq_self, ↓if_pos, ↓if_neg, w0_r0_3, w0_r0_4, w0_r0_5, w0_r0_6, w0_r0_7, w0_r0_8, w0_r0_10, w0_r0_11, w0_r0_12, w0_r0_13, w0_r0_14, w0_r0_15, w0_r0_16, w0_r0_17, w0_r0_18, J_78_0, k_78_0, J_78_22, k_78_22, J_78_28, k_78_28, J_78_50, k_78_50, z, y, s_none]
        · have y3 : ¬ n ≤ 300 := by omega
          simp (disch := first | assumption | decide | omega | (simp only [List.length_cons, List.length_nil] <;> omega)) only [lgt_0, lgt_s, lset_0, lset_s, lst1_0, lst1_s, lst2_0, lst2_s, ev_iconst, ev_lconst, ev_ldc, ev_null, ev_iload, ev_lload, ev_aload, ev_istore, ev_lstore, ev_astore, ev_iinc, ev_iadd, ev_isub, ev_imul, ev_iand, ev_ior, ev_ishl, ev_ishr, ev_idiv, ev_irem, ev_ineg, ev_ladd, ev_lsub, ev_lmul, ev_land, ev_lor, ev_ldiv, ev_lrem, ev_lshl, ev_i2l, ev_l2i, ev_i2b, ev_i2s, ev_lcmp, ev_dupI, ev_dupR, ev_dup2, ev_popI, ev_popR, ev_alen, ev_xlen, ev_xald, ev_iald, ev_lald, ev_bald, ev_zald, ev_aald, ev_iast, ev_last, ev_bast, ev_zast, ev_aast, ev_gfI, ev_gfL, ev_gfR, ev_pfI, ev_pfZ, ev_pfL, ev_pfR, ev_new, ev_newa, ev_newq, ev_copy, ev_slen, ev_schr, ev_obj, ev_mmin, ev_mabs, ev_mmax, ev_goto, ev_jsr, ev_icmp_eq, ev_if_eq, ev_icmp_ne, ev_if_ne, ev_icmp_lt, ev_if_lt, ev_icmp_ge, ev_if_ge, ev_icmp_gt, ev_if_gt, ev_icmp_le, ev_if_le, ev_ifnull0, ev_ifnull1, ev_ifnn0, ev_ifnn1, ev_tsw, ev_lsw, ev_iret, ev_zret, ev_lret, ev_aret, ev_ret, ev_call0, ev_call1, ev_call2, ev_call3, ev_call4, ev_call5, ev_call6, Option.toList_some, Option.toList_none, List.cons_append, List.nil_append, List.length_cons, List.length_nil, Nat.reduceMod, Nat.reduceDiv, Nat.reduceLeDiff, nc, ↓reduceIte, Nat.zero_le, reduceCtorEq, w32_id, Int.reduceEq, Int.reduceNe, Int.reduceLT, Int.reduceLE, Int.reduceGT, Int.reduceGE, Int.reduceAdd, Int.reduceSub, Int.reduceMul, Int.reduceNeg, ne_eq, not_true_eq_false, not_false_eq_true, eq_self, ↓if_pos, ↓if_neg, w0_r0_3, w0_r0_4, w0_r0_5, w0_r0_6, w0_r0_7, w0_r0_8, w0_r0_10, w0_r0_11, w0_r0_12, w0_r0_13, w0_r0_14, w0_r0_15, w0_r0_16, w0_r0_17, w0_r0_18, J_78_0, k_78_0, J_78_22, k_78_22, J_78_28, k_78_28, J_78_50, k_78_50, z, y, y3, s_none]
    · intro M1 h1 hm
      have e140 : M1 140 10 = M 140 10 := by rw [hm 140 (by omega)]
      have eb := d_noBegin (X := X) (M := M1) (n := n) (mx := 300) (by rw [e140]; exact q10)
      rw [E_263 mk0]
      simp (disch := first | assumption | decide | omega | (simp only [List.length_cons, List.length_nil] <;> omega)) only [lgt_0, lgt_s, lset_0, lset_s, lst1_0, lst1_s, lst2_0, lst2_s, ev_iconst, ev_lconst, ev_ldc, ev_null, ev_iload, ev_lload, ev_aload, ev_istore, ev_lstore, ev_astore, ev_iinc, ev_iadd, ev_isub, ev_imul, ev_iand, ev_ior, ev_ishl, ev_ishr, ev_idiv, ev_irem, ev_ineg, ev_ladd, ev_lsub, ev_lmul, ev_land, ev_lor, ev_ldiv, ev_lrem, ev_lshl, ev_i2l, ev_l2i, ev_i2b, ev_i2s, ev_lcmp, ev_dupI, ev_dupR, ev_dup2, ev_popI, ev_popR, ev_alen, ev_xlen, ev_xald, ev_iald, ev_lald, ev_bald, ev_zald, ev_aald, ev_iast, ev_last, ev_bast, ev_zast, ev_aast, ev_gfI, ev_gfL, ev_gfR, ev_pfI, ev_pfZ, ev_pfL, ev_pfR, ev_new, ev_newa, ev_newq, ev_copy, ev_slen, ev_schr, ev_obj, ev_mmin, ev_mabs, ev_mmax, ev_goto, ev_jsr, ev_icmp_eq, ev_if_eq, ev_icmp_ne, ev_if_ne, ev_icmp_lt, ev_if_lt, ev_icmp_ge, ev_if_ge, ev_icmp_gt, ev_if_gt, ev_icmp_le, ev_if_le, ev_ifnull0, ev_ifnull1, ev_ifnn0, ev_ifnn1, ev_tsw, ev_lsw, ev_iret, ev_zret, ev_lret, ev_aret, ev_ret, ev_call0, ev_call1, ev_call2, ev_call3, ev_call4, ev_call5, ev_call6, Option.toList_some, Option.toList_none, List.cons_append, List.nil_append, List.length_cons, List.length_nil, Nat.reduceMod, Nat.reduceDiv, Nat.reduceLeDiff, nc, ↓reduceIte, Nat.zero_le, reduceCtorEq, w32_id, Int.reduceEq, Int.reduceNe, Int.reduceLT, Int.reduceLE, Int.reduceGT, Int.reduceGE, Int.reduceAdd, Int.reduceSub, Int.reduceMul, Int.reduceNeg, ne_eq, not_true_eq_false, not_false_eq_true, eq_self, ↓if_pos, ↓if_neg, J_263_0, k_263_0, J_263_17, k_263_17, J_263_57, k_263_57, J_263_77, k_263_77, J_263_132, k_263_132, eb, m_refuse hmd]
  · obtain ⟨q0, q1, q3⟩ := q
    have q0' : ¬ n < 0 := by omega
    have q1' : ¬ M 2 1 < n := by omega
    have g : gT (M 3) n := ⟨by omega, fun k k0 k1 => (t3 k k0 (by omega)).2⟩
    obtain ⟨NW, cn, mn⟩ := rr_nam h
    have m0 : 0 ≤ M 141 2 := mn.2.1.1
    obtain ⟨v, Ma, fa, a1, ⟨fe, fo⟩, ea⟩ := c_readsD (X := X) g q3 m0 (fun _ _ _ => rfl) cn
    have e146 : ∀ k, 0 ≤ k → k < n → M 146 k = M 3 k := fun k k0 k1 => (t3 k k0 (by omega)).1.symm
    have r311 := w0_r31_1
    cases hR : pLns (M 3) n NW (M 141 2) 301 dL0 0 with
    | error e =>
      obtain ⟨hv, f2, f3⟩ := fe e hR
      subst hv
      generalize hMb : up Ma 0 0 9 = Mb
      have mb : ∀ c, c ≠ 0 → c ≠ 2 → (c < 31 ∨ 35 < c) → Mb c = M c := fun c c0 c2 cc => by rw [← hMb, up_ne c0, fa c c2 cc]
      have mb2 : Mb 2 = Ma 2 := by rw [← hMb, up_ne (by omega)]
      have mnb : mNm Mb NW (M 141 2) := ⟨by rw [mb 141 (by omega) (by omega) (by omega)], mn.2.1, fun k a c => by rw [mb 142 (by omega) (by omega) (by omega)]; exact mn.2.2 k a c⟩
      obtain ⟨g', N, nf, nf0, n10, nf1, res, e1⟩ := d_dirRd (X := X) (M := Mb) g q3 (fun k k0 k1 => by rw [mb 146 (by omega) (by omega) (by omega)]; exact e146 k k0 k1) (by rw [mb 140 (by omega) (by omega) (by omega)]; omega) mnb
      rcases res with ⟨e', r1, r2, r3, r4⟩ | ⟨d, r1, _⟩
      rotate_left
      · rw [hR] at r1; injection r1
      rw [hR] at r1
      injection r1 with r1
      subst r1
      have r18 : ¬ N 140 18 = 0 := by omega
      have et := (d_taken (X := X) (M := N) (v := N 140 24)).1 (by omega)
      have n140 : ∀ c, c ≠ 0 → c ≠ 2 → (c < 31 ∨ 35 < c) → c ≠ 140 → c ≠ 141 → c ≠ 147 → c ≠ 148 → N c = M c := fun c h0 h2 h3 h4 h5 h6 h7 => by rw [nf c h4 h5 h6 h7, mb c h0 h2 h3]
      refine ⟨vI (-1), Mb, up (up N 140 16 (N 140 18)) 140 2 9, ?_, ?_, ?_⟩
      · rw [E_78 k0]
        simp (disch := first | assumption | decide | omega | (simp only [List.length_cons, List.length_nil] <;> omega)) only [lgt_0, lgt_s, lset_0, lset_s, lst1_0, lst1_s, lst2_0, lst2_s, ev_iconst, ev_lconst, ev_ldc, ev_null, ev_iload, ev_lload, ev_aload, ev_istore, ev_lstore, ev_astore, ev_iinc, ev_iadd, ev_isub, ev_imul, ev_iand, ev_ior, ev_ishl, ev_ishr, ev_idiv, ev_irem, ev_ineg, ev_ladd, ev_lsub, ev_lmul, ev_land, ev_lor, ev_ldiv, ev_lrem, ev_lshl, ev_i2l, ev_l2i, ev_i2b, ev_i2s, ev_lcmp, ev_dupI, ev_dupR, ev_dup2, ev_popI, ev_popR, ev_alen, ev_xlen, ev_xald, ev_iald, ev_lald, ev_bald, ev_zald, ev_aald, ev_iast, ev_last, ev_bast, ev_zast, ev_aast, ev_gfI, ev_gfL, ev_gfR, ev_pfI, ev_pfZ, ev_pfL, ev_pfR, ev_new, ev_newa, ev_newq, ev_copy, ev_slen, ev_schr, ev_obj, ev_mmin, ev_mabs, ev_mmax, ev_goto, ev_jsr, ev_icmp_eq, ev_if_eq, ev_icmp_ne, ev_if_ne, ev_icmp_lt, ev_if_lt, ev_icmp_ge, ev_if_ge, ev_icmp_gt, ev_if_gt, ev_icmp_le, ev_if_le, ev_ifnull0, ev_ifnull1, ev_ifnn0, ev_ifnn1, ev_tsw, ev_lsw, ev_iret, ev_zret, ev_lret, ev_aret, ev_ret, ev_call0, ev_call1, ev_call2, ev_call3, ev_call4, ev_call5, ev_call6, Option.toList_some, Option.toList_none, List.cons_append, List.nil_append, List.length_cons, List.length_nil, Nat.reduceMod, Nat.reduceDiv, Nat.reduceLeDiff, nc, ↓reduceIte, Nat.zero_le, reduceCtorEq, w32_id, Int.reduceEq, Int.reduceNe, Int.reduceLT, Int.reduceLE, Int.reduceGT, Int.reduceGE, Int.reduceAdd, Int.reduceSub, Int.reduceMul, Int.reduceNeg, ne_eq, not_true_eq_false, not_false_eq_true, eq_self, ↓if_pos, ↓if_neg, w0_r0_3, w0_r0_4, w0_r0_5, w0_r0_6, w0_r0_7, w0_r0_8, w0_r0_10, w0_r0_11, w0_r0_12, w0_r0_13, w0_r0_14, w0_r0_15, w0_r0_16, w0_r0_17, w0_r0_18, J_78_0, k_78_0, J_78_22, k_78_22, J_78_28, k_78_28, J_78_50, k_78_50, q0', q1', q3, ea, s_none, hMb]
      · rw [e1]
        simp (disch := first | assumption | decide | omega | (simp only [List.length_cons, List.length_nil] <;> omega)) only [lgt_0, lgt_s, lset_0, lset_s, lst1_0, lst1_s, lst2_0, lst2_s, ev_iconst, ev_lconst, ev_ldc, ev_null, ev_iload, ev_lload, ev_aload, ev_istore, ev_lstore, ev_astore, ev_iinc, ev_iadd, ev_isub, ev_imul, ev_iand, ev_ior, ev_ishl, ev_ishr, ev_idiv, ev_irem, ev_ineg, ev_ladd, ev_lsub, ev_lmul, ev_land, ev_lor, ev_ldiv, ev_lrem, ev_lshl, ev_i2l, ev_l2i, ev_i2b, ev_i2s, ev_lcmp, ev_dupI, ev_dupR, ev_dup2, ev_popI, ev_popR, ev_alen, ev_xlen, ev_xald, ev_iald, ev_lald, ev_bald, ev_zald, ev_aald, ev_iast, ev_last, ev_bast, ev_zast, ev_aast, ev_gfI, ev_gfL, ev_gfR, ev_pfI, ev_pfZ, ev_pfL, ev_pfR, ev_new, ev_newa, ev_newq, ev_copy, ev_slen, ev_schr, ev_obj, ev_mmin, ev_mabs, ev_mmax, ev_goto, ev_jsr, ev_icmp_eq, ev_if_eq, ev_icmp_ne, ev_if_ne, ev_icmp_lt, ev_if_lt, ev_icmp_ge, ev_if_ge, ev_icmp_gt, ev_if_gt, ev_icmp_le, ev_if_le, ev_ifnull0, ev_ifnull1, ev_ifnn0, ev_ifnn1, ev_tsw, ev_lsw, ev_iret, ev_zret, ev_lret, ev_aret, ev_ret, ev_call0, ev_call1, ev_call2, ev_call3, ev_call4, ev_call5, ev_call6, Option.toList_some, Option.toList_none, List.cons_append, List.nil_append, List.length_cons, List.length_nil, Nat.reduceMod, Nat.reduceDiv, Nat.reduceLeDiff, nc, ↓reduceIte, Nat.zero_le, reduceCtorEq, w32_id, Int.reduceEq, Int.reduceNe, Int.reduceLT, Int.reduceLE, Int.reduceGT, Int.reduceGE, Int.reduceAdd, Int.reduceSub, Int.reduceMul, Int.reduceNeg, ne_eq, not_true_eq_false, not_false_eq_true, eq_self, ↓if_pos, ↓if_neg, J_263_0, k_263_0, J_263_17, k_263_17, J_263_57, k_263_57, J_263_77, k_263_77, J_263_132, k_263_132, r18, et]
      · refine RR_txt (M := M) (fun i hi => ?_) (fun c c0 c2 c3 c4 c5 c6 c7 c8 => ?_) (fun i hi => ?_) (fun k hk => ?_) (fun k hk => ?_) ?_ ?_ h
        · rw [up_ne (by omega), up_ne (by omega), nf 0 (by omega) (by omega) (by omega) (by omega), ← hMb, up_ne2 hi, fa 0 (by omega) (by omega)]
        · rw [up_ne c4, up_ne c4, n140 c (by omega) c2 (by omega) c4 c5 c7 c8]
        · rw [up_ne2 (by omega), up_ne2 (by omega), nf0 i (by omega), mb 140 (by omega) (by omega) (by omega)]
        · rw [up_ne (by omega), up_ne (by omega), nf1 k hk, mb 141 (by omega) (by omega) (by omega)]
        · rw [up_ne (by omega), up_ne (by omega), n140 142 (by omega) (by omega) (by omega) (by omega) (by omega) (by omega) (by omega)]
        · have u2 : up (up N 140 16 (N 140 18)) 140 2 9 2 = Ma 2 := by rw [up_ne (by omega), up_ne (by omega), nf 2 (by omega) (by omega) (by omega) (by omega), mb2]
          have u25 : ∀ c, c = 25 ∨ c = 26 → up (up N 140 16 (N 140 18)) 140 2 9 c = M c := fun c h1 => by rw [up_ne (by omega), up_ne (by omega), n140 c (by omega) (by omega) (by omega) (by omega) (by omega) (by omega) (by omega)]
          unfold RTp RX
          rw [u25 25 (by omega), u25 26 (by omega), u2, a1, f2, f3, up_ne2 (show (10 : Int) ≠ 2 by omega), up_ne2 (show (10 : Int) ≠ 16 by omega), n10, up_ne2 (show (16 : Int) ≠ 2 by omega), up_eq, r3, up_ne2 (show (17 : Int) ≠ 2 by omega), up_ne2 (show (17 : Int) ≠ 16 by omega), r4]
          exact ⟨⟨rfl, by omega, fun k k0 k1 => by omega, rfl, rfl⟩, tx⟩
        · rw [up_eq, up_ne (by omega), up_ne (by omega), nf 0 (by omega) (by omega) (by omega) (by omega), ← hMb, up_eq]
    | ok d =>
      obtain ⟨hv, f2, f3, cd, a5⟩ := fo d hR
      subst hv
      obtain ⟨Mb, fb, b1, b3, b4, b5, eb⟩ := s_dcopyS (X := X) (M := Ma) di16 di32 (by omega) (Or.inr a5)
      generalize hM1 : up Mb 0 0 0 = M1
      have m164 : Mb 16 4 = d.2.2.2.2 := by rw [b4]; exact cd.1.2.1
      have low : ∀ c, c ≠ 0 → c ≠ 2 → (c < 16 ∨ 19 < c) → (c < 31 ∨ 35 < c) → M1 c = M c := fun c h0 h2 h16 h31 => by rw [← hM1, up_ne h0, fb c (by omega), fa c h2 h31]
      have mnb : mNm M1 NW (M 141 2) := ⟨by rw [low 141 (by omega) (by omega) (by omega) (by omega)], mn.2.1, fun k a c => by rw [low 142 (by omega) (by omega) (by omega) (by omega)]; exact mn.2.2 k a c⟩
      obtain ⟨g', N, nf, nf0, n10, nf1, res, e1⟩ := d_dirRd (X := X) (M := M1) g q3 (fun k k0 k1 => by rw [low 146 (by omega) (by omega) (by omega) (by omega)]; exact e146 k k0 k1) (by rw [low 140 (by omega) (by omega) (by omega) (by omega)]; omega) mnb
      rcases res with ⟨e', r1, _⟩ | ⟨d', r1, cl, md, hJ, ho⟩
      · rw [hR] at r1; injection r1
      rw [hR] at r1
      injection r1 with r1
      subst r1
      obtain ⟨r_at, k_at, l_at⟩ := md_at w0_md140
      obtain ⟨md1, md2, md3, md4, md5⟩ := md
      have j1 := hJ.1
      have j2 := hJ.2.1
      have lb : (d.2.2.2.1 : Int) ≤ 80 := by omega
      have n18 : N 140 18 = 0 := cl.1
      have w15 : ∀ k, k ≠ 15 → up N 141 15 (d.2.2.2.1 : Int) 141 k = N 141 k := fun k hk => up_ne2 hk
      generalize hN0 : up N 141 15 (d.2.2.2.1 : Int) = N0 at w15
      have n0c : ∀ c, c ≠ 141 → N0 c = N c := fun c hc => by rw [← hN0, up_ne hc]
      have n015 : N0 141 15 = (d.2.2.2.1 : Int) := by rw [← hN0, up_eq]
      obtain ⟨ls1, Na, ⟨hls, na, na1, na2⟩, he1⟩ := ev_for (X := X) (y := 263) (Sh := SH0) (fun i ls M' => ls = [some (vR (some 140)), some (vI n), some (vI g'), some (vI (130 + (i : Int)))] ∧ (∀ c, c ≠ 141 → M' c = N0 c) ∧ (∀ k, (k < 130 ∨ 130 + (i : Int) ≤ k) → M' 141 k = N0 141 k) ∧ (∀ j : Int, 130 ≤ j → j < 130 + i → M' 141 j = N0 141 (1920 + j))) J_263_103 350 (fun i hi ls M' hI => by
        obtain ⟨hls, fr, i1, i2⟩ := hI
        subst hls
        have e := i1 (1920 + (130 + (i : Int))) (by omega)
        have ee : (130 : Int) + ((i + 1 : Nat) : Int) = 130 + (i : Int) + 1 := by omega
        refine ⟨[some (vR (some 140)), some (vI n), some (vI g'), some (vI (130 + (i : Int) + 1))], up M' 141 (130 + (i : Int)) (N0 141 (1920 + (130 + (i : Int)))), ⟨by rw [ee], fun c hc => by rw [up_ne hc]; exact fr c hc, fun k hk => by rw [up_ne2 (by omega)]; exact i1 k (by omega), fun j j0 j1 => ?_⟩, ?_⟩
        · by_cases z : j = 130 + (i : Int)
          · rw [z, up_eq]
          · rw [up_ne2 z]
            exact i2 j j0 (by omega)
        · simp (disch := first | assumption | decide | omega | (simp only [List.length_cons, List.length_nil] <;> omega)) only [lgt_0, lgt_s, lset_0, lset_s, lst1_0, lst1_s, lst2_0, lst2_s, ev_iconst, ev_lconst, ev_ldc, ev_null, ev_iload, ev_lload, ev_aload, ev_istore, ev_lstore, ev_astore, ev_iinc, ev_iadd, ev_isub, ev_imul, ev_iand, ev_ior, ev_ishl, ev_ishr, ev_idiv, ev_irem, ev_ineg, ev_ladd, ev_lsub, ev_lmul, ev_land, ev_lor, ev_ldiv, ev_lrem, ev_lshl, ev_i2l, ev_l2i, ev_i2b, ev_i2s, ev_lcmp, ev_dupI, ev_dupR, ev_dup2, ev_popI, ev_popR, ev_alen, ev_xlen, ev_xald, ev_iald, ev_lald, ev_bald, ev_zald, ev_aald, ev_iast, ev_last, ev_bast, ev_zast, ev_aast, ev_gfI, ev_gfL, ev_gfR, ev_pfI, ev_pfZ, ev_pfL, ev_pfR, ev_new, ev_newa, ev_newq, ev_copy, ev_slen, ev_schr, ev_obj, ev_mmin, ev_mabs, ev_mmax, ev_goto, ev_jsr, ev_icmp_eq, ev_if_eq, ev_icmp_ne, ev_if_ne, ev_icmp_lt, ev_if_lt, ev_icmp_ge, ev_if_ge, ev_icmp_gt, ev_if_gt, ev_icmp_le, ev_if_le, ev_ifnull0, ev_ifnull1, ev_ifnn0, ev_ifnn1, ev_tsw, ev_lsw, ev_iret, ev_zret, ev_lret, ev_aret, ev_ret, ev_call0, ev_call1, ev_call2, ev_call3, ev_call4, ev_call5, ev_call6, Option.toList_some, Option.toList_none, List.cons_append, List.nil_append, List.length_cons, List.length_nil, Nat.reduceMod, Nat.reduceDiv, Nat.reduceLeDiff, nc, ↓reduceIte, Nat.zero_le, reduceCtorEq, w32_id, Int.reduceEq, Int.reduceNe, Int.reduceLT, Int.reduceLE, Int.reduceGT, Int.reduceGE, Int.reduceAdd, Int.reduceSub, Int.reduceMul, Int.reduceNeg, ne_eq, not_true_eq_false, not_false_eq_true, eq_self, ↓if_pos, ↓if_neg, J_263_0, k_263_0, J_263_17, k_263_17, J_263_57, k_263_57, J_263_77, k_263_77, J_263_132, k_263_132, k_263_103, r_at, e]) [some (vR (some 140)), some (vI n), some (vI g'), some (vI (130 + ((0 : Nat) : Int)))] N0 ⟨rfl, fun _ _ => rfl, fun _ _ => rfl, fun j a c => by omega⟩
      subst hls
      have z130 : (130 : Int) + ((0 : Nat) : Int) = 130 := by omega
      have z480 : (130 : Int) + ((350 : Nat) : Int) = 480 := by omega
      rw [z130, z480] at he1
      have a24 : Na 140 24 = d.2.2.2.2 := by rw [na 140 (by omega), n0c 140 (by omega)]; exact md2
      have a18 : Na 140 18 = 0 := by rw [na 140 (by omega), n0c 140 (by omega)]; exact n18
      have et := (d_taken (X := X) (M := Na) (v := d.2.2.2.2)).2 a18
      refine ⟨vI d.2.2.2.2, M1, up (up Na 140 16 0) 140 2 0, ?_, ?_, ?_⟩
      · rw [E_78 k0]
        simp (disch := first | assumption | decide | omega | (simp only [List.length_cons, List.length_nil] <;> omega)) only [lgt_0, lgt_s, lset_0, lset_s, lst1_0, lst1_s, lst2_0, lst2_s, ev_iconst, ev_lconst, ev_ldc, ev_null, ev_iload, ev_lload, ev_aload, ev_istore, ev_lstore, ev_astore, ev_iinc, ev_iadd, ev_isub, ev_imul, ev_iand, ev_ior, ev_ishl, ev_ishr, ev_idiv, ev_irem, ev_ineg, ev_ladd, ev_lsub, ev_lmul, ev_land, ev_lor, ev_ldiv, ev_lrem, ev_lshl, ev_i2l, ev_l2i, ev_i2b, ev_i2s, ev_lcmp, ev_dupI, ev_dupR, ev_dup2, ev_popI, ev_popR, ev_alen, ev_xlen, ev_xald, ev_iald, ev_lald, ev_bald, ev_zald, ev_aald, ev_iast, ev_last, ev_bast, ev_zast, ev_aast, ev_gfI, ev_gfL, ev_gfR, ev_pfI, ev_pfZ, ev_pfL, ev_pfR, ev_new, ev_newa, ev_newq, ev_copy, ev_slen, ev_schr, ev_obj, ev_mmin, ev_mabs, ev_mmax, ev_goto, ev_jsr, ev_icmp_eq, ev_if_eq, ev_icmp_ne, ev_if_ne, ev_icmp_lt, ev_if_lt, ev_icmp_ge, ev_if_ge, ev_icmp_gt, ev_if_gt, ev_icmp_le, ev_if_le, ev_ifnull0, ev_ifnull1, ev_ifnn0, ev_ifnn1, ev_tsw, ev_lsw, ev_iret, ev_zret, ev_lret, ev_aret, ev_ret, ev_call0, ev_call1, ev_call2, ev_call3, ev_call4, ev_call5, ev_call6, Option.toList_some, Option.toList_none, List.cons_append, List.nil_append, List.length_cons, List.length_nil, Nat.reduceMod, Nat.reduceDiv, Nat.reduceLeDiff, nc, ↓reduceIte, Nat.zero_le, reduceCtorEq, w32_id, Int.reduceEq, Int.reduceNe, Int.reduceLT, Int.reduceLE, Int.reduceGT, Int.reduceGE, Int.reduceAdd, Int.reduceSub, Int.reduceMul, Int.reduceNeg, ne_eq, not_true_eq_false, not_false_eq_true, eq_self, ↓if_pos, ↓if_neg, w0_r0_3, w0_r0_4, w0_r0_5, w0_r0_6, w0_r0_7, w0_r0_8, w0_r0_10, w0_r0_11, w0_r0_12, w0_r0_13, w0_r0_14, w0_r0_15, w0_r0_16, w0_r0_17, w0_r0_18, J_78_0, k_78_0, J_78_22, k_78_22, J_78_28, k_78_28, J_78_50, k_78_50, q0', q1', q3, ea, r311, eb, m164, s_answer, hM1]
      · rw [e1]
        simp (disch := first | assumption | decide | omega | (simp only [List.length_cons, List.length_nil] <;> omega)) only [lgt_0, lgt_s, lset_0, lset_s, lst1_0, lst1_s, lst2_0, lst2_s, ev_iconst, ev_lconst, ev_ldc, ev_null, ev_iload, ev_lload, ev_aload, ev_istore, ev_lstore, ev_astore, ev_iinc, ev_iadd, ev_isub, ev_imul, ev_iand, ev_ior, ev_ishl, ev_ishr, ev_idiv, ev_irem, ev_ineg, ev_ladd, ev_lsub, ev_lmul, ev_land, ev_lor, ev_ldiv, ev_lrem, ev_lshl, ev_i2l, ev_l2i, ev_i2b, ev_i2s, ev_lcmp, ev_dupI, ev_dupR, ev_dup2, ev_popI, ev_popR, ev_alen, ev_xlen, ev_xald, ev_iald, ev_lald, ev_bald, ev_zald, ev_aald, ev_iast, ev_last, ev_bast, ev_zast, ev_aast, ev_gfI, ev_gfL, ev_gfR, ev_pfI, ev_pfZ, ev_pfL, ev_pfR, ev_new, ev_newa, ev_newq, ev_copy, ev_slen, ev_schr, ev_obj, ev_mmin, ev_mabs, ev_mmax, ev_goto, ev_jsr, ev_icmp_eq, ev_if_eq, ev_icmp_ne, ev_if_ne, ev_icmp_lt, ev_if_lt, ev_icmp_ge, ev_if_ge, ev_icmp_gt, ev_if_gt, ev_icmp_le, ev_if_le, ev_ifnull0, ev_ifnull1, ev_ifnn0, ev_ifnn1, ev_tsw, ev_lsw, ev_iret, ev_zret, ev_lret, ev_aret, ev_ret, ev_call0, ev_call1, ev_call2, ev_call3, ev_call4, ev_call5, ev_call6, Option.toList_some, Option.toList_none, List.cons_append, List.nil_append, List.length_cons, List.length_nil, Nat.reduceMod, Nat.reduceDiv, Nat.reduceLeDiff, nc, ↓reduceIte, Nat.zero_le, reduceCtorEq, w32_id, Int.reduceEq, Int.reduceNe, Int.reduceLT, Int.reduceLE, Int.reduceGT, Int.reduceGE, Int.reduceAdd, Int.reduceSub, Int.reduceMul, Int.reduceNeg, ne_eq, not_true_eq_false, not_false_eq_true, eq_self, ↓if_pos, ↓if_neg, J_263_0, k_263_0, J_263_17, k_263_17, J_263_57, k_263_57, J_263_77, k_263_77, J_263_132, k_263_132, n18, r_at, md3, hN0]
        rw [he1]
        simp (disch := first | assumption | decide | omega | (simp only [List.length_cons, List.length_nil] <;> omega)) only [lgt_0, lgt_s, lset_0, lset_s, lst1_0, lst1_s, lst2_0, lst2_s, ev_iconst, ev_lconst, ev_ldc, ev_null, ev_iload, ev_lload, ev_aload, ev_istore, ev_lstore, ev_astore, ev_iinc, ev_iadd, ev_isub, ev_imul, ev_iand, ev_ior, ev_ishl, ev_ishr, ev_idiv, ev_irem, ev_ineg, ev_ladd, ev_lsub, ev_lmul, ev_land, ev_lor, ev_ldiv, ev_lrem, ev_lshl, ev_i2l, ev_l2i, ev_i2b, ev_i2s, ev_lcmp, ev_dupI, ev_dupR, ev_dup2, ev_popI, ev_popR, ev_alen, ev_xlen, ev_xald, ev_iald, ev_lald, ev_bald, ev_zald, ev_aald, ev_iast, ev_last, ev_bast, ev_zast, ev_aast, ev_gfI, ev_gfL, ev_gfR, ev_pfI, ev_pfZ, ev_pfL, ev_pfR, ev_new, ev_newa, ev_newq, ev_copy, ev_slen, ev_schr, ev_obj, ev_mmin, ev_mabs, ev_mmax, ev_goto, ev_jsr, ev_icmp_eq, ev_if_eq, ev_icmp_ne, ev_if_ne, ev_icmp_lt, ev_if_lt, ev_icmp_ge, ev_if_ge, ev_icmp_gt, ev_if_gt, ev_icmp_le, ev_if_le, ev_ifnull0, ev_ifnull1, ev_ifnn0, ev_ifnn1, ev_tsw, ev_lsw, ev_iret, ev_zret, ev_lret, ev_aret, ev_ret, ev_call0, ev_call1, ev_call2, ev_call3, ev_call4, ev_call5, ev_call6, Option.toList_some, Option.toList_none, List.cons_append, List.nil_append, List.length_cons, List.length_nil, Nat.reduceMod, Nat.reduceDiv, Nat.reduceLeDiff, nc, ↓reduceIte, Nat.zero_le, reduceCtorEq, w32_id, Int.reduceEq, Int.reduceNe, Int.reduceLT, Int.reduceLE, Int.reduceGT, Int.reduceGE, Int.reduceAdd, Int.reduceSub, Int.reduceMul, Int.reduceNeg, ne_eq, not_true_eq_false, not_false_eq_true, eq_self, ↓if_pos, ↓if_neg, J_263_0, k_263_0, J_263_17, k_263_17, J_263_57, k_263_57, J_263_77, k_263_77, J_263_132, k_263_132, k_263_103, a24, et]
      · generalize hF : up (up Na 140 16 0) 140 2 0 = F
        have U : ∀ c, c ≠ 140 → c ≠ 141 → F c = N c := fun c hc h1 => by rw [← hF, up_ne hc, up_ne hc, na c h1, n0c c h1]
        have U2 : ∀ i, i ≠ 2 → i ≠ 16 → F 140 i = N 140 i := fun i h2 h16 => by rw [← hF, up_ne2 h2, up_ne2 h16, na 140 (by omega), n0c 140 (by omega)]
        have U1 : F 141 = Na 141 := by rw [← hF, up_ne (by omega), up_ne (by omega)]
        have old : ∀ c, c ≠ 0 → c ≠ 2 → (c < 16 ∨ 19 < c) → (c < 31 ∨ 35 < c) → c ≠ 140 → c ≠ 141 → c ≠ 147 → c ≠ 148 → F c = M c := fun c h0 h2 h16 h31 g1 g2 g3 g4 => by rw [U c g1 g2, nf c g1 g2 g3 g4, low c h0 h2 h16 h31]
        have o0 : ∀ i, i ≠ 0 → F 0 i = M 0 i := fun i hi => by rw [U 0 (by omega) (by omega), nf 0 (by omega) (by omega) (by omega) (by omega), ← hM1, up_ne2 hi, fb 0 (by omega), fa 0 (by omega) (by omega)]
        have s140 : ∀ i, (i = 3 ∨ i = 4 ∨ i = 21 ∨ i = 41 ∨ i = 54 ∨ i = 55) → F 140 i = M 140 i := fun i hi => by rw [U2 i (by omega) (by omega), nf0 i (by omega), low 140 (by omega) (by omega) (by omega) (by omega)]
        have o141 : ∀ k, k ≠ 15 → (k < 130 ∨ 480 ≤ k) → k < 1920 → F (140 + 1) k = M (140 + 1) k := fun k k15 k0 k1 => by
          show F 141 k = M 141 k
          rw [U1, na1 k (by omega), w15 k k15, nf1 k k1, low 141 (by omega) (by omega) (by omega) (by omega)]
        have o142 : F (140 + 2) = M (140 + 2) := old 142 (by omega) (by omega) (by omega) (by omega) (by omega) (by omega) (by omega) (by omega)
        have hAg : ∀ k, k ≠ 15 → cA (F (140 + 1)) 0 k = cA (M (140 + 1)) 0 k := fun k k15 => by
          unfold cA
          by_cases y : 0 ≤ k ∧ k < 80
          · rw [if_pos y, if_pos y, Int.zero_add, o141 k k15 (by omega) (by omega)]
          · rw [if_neg y, if_neg y]
        have rc := h.2.2.2.1
        have gn := rch_A (show RCh _ _ _ _ _ _ _ _ _ _ _ from rc)
        have gs := gn.1
        have e20 : cA (F (140 + 1)) 0 2 = M 141 2 := by rw [hAg 2 (by omega)]; exact cA_0 (by omega) (by omega)
        have f141 : ∀ k, 130 ≤ k → k < 480 → F 141 k = N 141 (1920 + k) := fun k k0 k1 => by rw [U1, na2 k k0 (by omega), w15 _ (by omega)]
        have f15 : F 141 15 = (d.2.2.2.1 : Int) := by rw [U1, na1 15 (by omega)]; exact n015
        refine ⟨⟨RTb_c (o0 1 (by omega)) (o0 2 (by omega)) (s140 3 (by omega)) (s140 4 (by omega)) h.1, RTr_c (fun c hc => old c (by omega) (by omega) (by omega) (by omega) (by omega) (by omega) (by omega) (by omega)) h.2.1, ?_, ?_, ?_, ?_, ?_, RM_c (o0 9 (by omega)) (s140 55 (by omega)) (fun c hc => old c (by omega) (by omega) (by omega) (by omega) (by omega) (by omega) (by omega) (by omega)) (fun k a b => o141 k (by omega) (by omega) b) (fun k a b => by rw [o142]) h.2.2.2.2.2.2.2.1, ?_, ?_⟩, ?_⟩
        · have u2 : F 2 = Ma 2 := by rw [U 2 (by omega) (by omega), nf 2 (by omega) (by omega) (by omega) (by omega), ← hM1, up_ne (by omega), fb 2 (by omega)]
          unfold RTp RX
          rw [old 25 (by omega) (by omega) (by omega) (by omega) (by omega) (by omega) (by omega) (by omega), old 26 (by omega) (by omega) (by omega) (by omega) (by omega) (by omega) (by omega) (by omega), u2, a1, f2, f3, U2 10 (by omega) (by omega), n10, U2 17 (by omega) (by omega), cl.2, ← hF, up_ne2 (show (16 : Int) ≠ 2 by omega), up_eq]
          exact ⟨⟨rfl, by omega, fun k k0 k1 => by omega, rfl, rfl⟩, tx⟩
        · have r := rc
          have cc : ∀ c, 4 ≤ c → c ≤ 12 → F c = M c := fun c a b => old c (by omega) (by omega) (by omega) (by omega) (by omega) (by omega) (by omega) (by omega)
          unfold RC RC1 at r ⊢
          rw [o142, cc 4 (by omega) (by omega), cc (4 + 1) (by omega) (by omega), cc (4 + 2) (by omega) (by omega), cc (4 + 3) (by omega) (by omega), cc (4 + 4) (by omega) (by omega), cc (4 + 5) (by omega) (by omega), cc (4 + 6) (by omega) (by omega), cc (4 + 7) (by omega) (by omega), cc (4 + 8) (by omega) (by omega)]
          exact ag_rch hAg r
        · have r := h.2.2.2.2.1
          unfold RN at r ⊢
          rw [old (140 + 9) (by omega) (by omega) (by omega) (by omega) (by omega) (by omega) (by omega) (by omega), old (140 + 10) (by omega) (by omega) (by omega) (by omega) (by omega) (by omega) (by omega) (by omega)]
          exact ag_rnu hAg gs r
        · have r := h.2.2.2.2.2.1
          unfold RP at r ⊢
          rw [old (13 + 1) (by omega) (by omega) (by omega) (by omega) (by omega) (by omega) (by omega) (by omega), old (13 + 2) (by omega) (by omega) (by omega) (by omega) (by omega) (by omega) (by omega) (by omega), gA_c (A' := F (140 + 1)) (A := M (140 + 1)) fun k a b => o141 k (by omega) (by omega) (by omega)]
          exact ag_rpl hAg gs r
        · unfold RD
          have c16 : ∀ c, 16 ≤ c → c ≤ 19 → F c = Mb c := fun c a b => by rw [U c (by omega) (by omega), nf c (by omega) (by omega) (by omega) (by omega), ← hM1, up_ne (by omega)]
          rw [e20, c16 16 (by omega) (by omega), c16 17 (by omega) (by omega), c16 18 (by omega) (by omega), c16 19 (by omega) (by omega), b3, b5, a5, cd.1.1]
          have D : ∀ k, 130 ≤ k → k < 480 → dA (F (140 + 1)) 0 k = N 141 (1920 + k) := fun k a b => by
            unfold dA
            rw [if_pos (Or.inr ⟨a, b⟩), Int.zero_add]
            exact f141 k a b
          have K : ∀ l : Nat, l < d.2.2.2.1 → Mb 17 (l : Int) = d.1 l ∧ Mb 18 (l : Int) = d.2.1 l ∧ Mb 19 (l : Int) = d.2.2.1 l := fun l hl => by
            have x := b1 (l : Int) (by omega) (by omega)
            have y := cd.1.2.2 l hl
            exact ⟨x.1.trans y.1, x.2.1.trans y.2.1, x.2.2.trans y.2.2⟩
          have S : ∀ l : Nat, l ≤ d.2.2.2.1 → stk (Mb 17) l = stk d.1 l := fun l hl => stk_congr fun j hj => (K j (by omega)).1
          refine Or.inr ⟨rfl, ?_, by omega, lb, fun l l0 l1 => ?_, fun l hl z => ?_, fun l hl => ?_, ?_⟩
          · unfold dA
            rw [if_pos (Or.inl rfl), Int.zero_add]
            exact f15
          · obtain ⟨u, rfl⟩ : ∃ u : Nat, l = (u : Int) := ⟨l.toNat, by omega⟩
            have hu : u < d.2.2.2.1 := by omega
            have x := K u hu
            have y := hJ.2.2.1 u hu
            have w := md4 u hu
            rw [x.1, x.2.1, x.2.2, D (130 + 4 * (u : Int)) (by omega) (by omega), D (131 + 4 * (u : Int)) (by omega) (by omega), D (132 + 4 * (u : Int)) (by omega) (by omega), show 1920 + (130 + 4 * (u : Int)) = 2050 + 4 * (u : Int) by omega, show 1920 + (131 + 4 * (u : Int)) = 2051 + 4 * (u : Int) by omega, show 1920 + (132 + 4 * (u : Int)) = 2052 + 4 * (u : Int) by omega]
            exact ⟨w.1.symm, y.1, fun z => ⟨(w.2.1 z).symm, y.2.1 z⟩, fun z => ⟨(w.2.2.1 z).symm, y.2.2 z⟩⟩
          · have hu : l < d.2.2.2.1 := by omega
            rw [(K l hu).1] at z
            obtain ⟨o, r, ho1, ho2⟩ := (md4 l hu).2.2.2 z
            refine ⟨o, r, by rw [S l (by omega)]; exact ho1, ?_⟩
            rw [D (133 + 4 * (l : Int)) (by omega) (by omega), show 1920 + (133 + 4 * (l : Int)) = 2053 + 4 * (l : Int) by omega]
            exact ho2
          · rw [S l (by omega)]
            exact hJ.2.2.2.2 l (by omega)
          · rw [Int.toNat_natCast, S _ (Nat.le_refl _)]
            exact ho
        · obtain ⟨x1, x2, x3, x4⟩ := h.2.2.2.2.2.2.2.2.1
          unfold RF
          rw [old 60 (by omega) (by omega) (by omega) (by omega) (by omega) (by omega) (by omega) (by omega), old 62 (by omega) (by omega) (by omega) (by omega) (by omega) (by omega) (by omega) (by omega), old 63 (by omega) (by omega) (by omega) (by omega) (by omega) (by omega) (by omega) (by omega), old 166 (by omega) (by omega) (by omega) (by omega) (by omega) (by omega) (by omega) (by omega), old 167 (by omega) (by omega) (by omega) (by omega) (by omega) (by omega) (by omega) (by omega), s140 54 (by omega), s140 21 (by omega)]
          exact ⟨x1, x2, x3, fun z => ag_rpl hAg gs (x4 z)⟩
        · have r := h.2.2.2.2.2.2.2.2.2
          have cc : ∀ c, 46 ≤ c → c ≤ 59 → F c = M c := fun c a b => old c (by omega) (by omega) (by omega) (by omega) (by omega) (by omega) (by omega) (by omega)
          unfold RA at r ⊢
          rw [cc 46 (by omega) (by omega), cc 47 (by omega) (by omega), cc 48 (by omega) (by omega), cc 49 (by omega) (by omega), cc 50 (by omega) (by omega), cc 51 (by omega) (by omega), cc (51 + 1) (by omega) (by omega), cc (51 + 6) (by omega) (by omega), cc (51 + 7) (by omega) (by omega), cc (51 + 8) (by omega) (by omega), cc (51 + 3) (by omega) (by omega), old 160 (by omega) (by omega) (by omega) (by omega) (by omega) (by omega) (by omega) (by omega), s140 41 (by omega)]
          exact ag_ral hAg gn r
        · have z2 : F 140 2 = 0 := by rw [← hF, up_eq]
          rw [z2, U 0 (by omega) (by omega), nf 0 (by omega) (by omega) (by omega) (by omega), ← hM1, up_eq]
end ODI
