/-! OPERATIONS: chart. -/
section OCH
variable {X : Int → Int} {M : Mem}
theorem RR_txt {M M' : Mem} (h0 : ∀ i, i ≠ 0 → M' 0 i = M 0 i) (h1 : ∀ c, 0 < c → c ≠ 2 → (c < 21 ∨ 35 < c) → c ≠ 140 → c ≠ 141 → c ≠ 142 → c ≠ 147 → c ≠ 148 → M' c = M c) (h2 : ∀ i, i = 3 ∨ i = 4 ∨ i = 21 ∨ i = 41 ∨ i = 54 ∨ i = 55 → M' 140 i = M 140 i) (h3 : ∀ k, k < 1920 → M' 141 k = M 141 k) (h4 : ∀ k, k < 20 → M' 142 k = M 142 k) (ht : RTp M') (hs : M' 0 0 = M' 140 2) (r : RR' M) : RR M' := by
  obtain ⟨r1, r2, r3, r4, r5, r6, r7, r8, r9, r10⟩ := r
  have g : ∀ c, 0 < c → c ≠ 2 → (c < 21 ∨ 35 < c) → (c < 140 ∨ (142 < c ∧ c < 147) ∨ 148 < c) → M' c = M c := fun c a b d e => h1 c a b d (by omega) (by omega) (by omega) (by omega) (by omega)
  exact ⟨⟨RTb_c (h0 1 (by omega)) (h0 2 (by omega)) (h2 3 (by omega)) (h2 4 (by omega)) r1, RTr_c (fun c hc => g c (by omega) (by omega) (by omega) (by omega)) r2, ht, RC_c (fun c hc => g c (by omega) (by omega) (by omega) (by omega)) (fun k _ _ => h3 k (by omega)) (fun k _ _ => h4 k (by omega)) r4, RN_c (fun c hc => g c (by omega) (by omega) (by omega) (by omega)) (fun k _ _ => h3 k (by omega)) r5, RP_c (fun c hc => g c (by omega) (by omega) (by omega) (by omega)) (fun k _ _ => h3 k (by omega)) r6, RD_c (fun c hc => g c (by omega) (by omega) (by omega) (by omega)) (fun k _ _ _ => h3 k (by omega)) r7, RM_c (h0 9 (by omega)) (h2 55 (by omega)) (fun c hc => g c (by omega) (by omega) (by omega) (by omega)) (fun k _ _ => h3 k (by omega)) (fun k _ _ => h4 k (by omega)) r8, RF_c (fun c hc => g c (by omega) (by omega) (by omega) (by omega)) (h2 54 (by omega)) (h2 21 (by omega)) (fun k _ _ => h3 k (by omega)) r9, RA_c (fun c hc => g c (by omega) (by omega) (by omega) (by omega)) (h2 41 (by omega)) (fun k _ _ => h3 k (by omega)) r10⟩, hs⟩
theorem d_noBegin {n mx : Int} (h : n < 0 ∨ M 140 10 < n ∨ mx < n) : evc X 241 [vR (some 140), vI n, vI mx] SH0 M = some (some (vI 0), SH0, M) := by
  have mk0 := w0_k140
  rw [E_241 mk0]
  by_cases a : n < 0
  · simp (disch := first | assumption | decide | omega | (simp only [List.length_cons, List.length_nil] <;> omega)) only [lgt_0, lgt_s, lset_0, lset_s, lst1_0, lst1_s, lst2_0, lst2_s, ev_iconst, ev_lconst, ev_ldc, ev_null, ev_iload, ev_lload, ev_aload, ev_istore, ev_lstore, ev_astore, ev_iinc, ev_iadd, ev_isub, ev_imul, ev_iand, ev_ior, ev_ishl, ev_ishr, ev_idiv, ev_irem, ev_ineg, ev_ladd, ev_lsub, ev_lmul, ev_land, ev_lor, ev_ldiv, ev_lrem, ev_lshl, ev_i2l, ev_l2i, ev_i2b, ev_i2s, ev_lcmp, ev_dupI, ev_dupR, ev_dup2, ev_popI, ev_popR, ev_alen, ev_xlen, ev_xald, ev_iald, ev_lald, ev_bald, ev_zald, ev_aald, ev_iast, ev_last, ev_bast, ev_zast, ev_aast, ev_gfI, ev_gfL, ev_gfR, ev_pfI, ev_pfZ, ev_pfL, ev_pfR, ev_new, ev_newa, ev_newq, ev_copy, ev_slen, ev_schr, ev_obj, ev_mmin, ev_mabs, ev_mmax, ev_goto, ev_jsr, ev_icmp_eq, ev_if_eq, ev_icmp_ne, ev_if_ne, ev_icmp_lt, ev_if_lt, ev_icmp_ge, ev_if_ge, ev_icmp_gt, ev_if_gt, ev_icmp_le, ev_if_le, ev_ifnull0, ev_ifnull1, ev_ifnn0, ev_ifnn1, ev_tsw, ev_lsw, ev_iret, ev_zret, ev_lret, ev_aret, ev_ret, ev_call0, ev_call1, ev_call2, ev_call3, ev_call4, ev_call5, ev_call6, Option.toList_some, Option.toList_none, List.cons_append, List.nil_append, List.length_cons, List.length_nil, Nat.reduceMod, Nat.reduceDiv, Nat.reduceLeDiff, nc, ↓reduceIte, Nat.zero_le, reduceCtorEq, w32_id, Int.reduceEq, Int.reduceNe, Int.reduceLT, Int.reduceLE, Int.reduceGT, Int.reduceGE, Int.reduceAdd, Int.reduceSub, Int.reduceMul, Int.reduceNeg, ne_eq, not_true_eq_false, not_false_eq_true, eq_self, ↓if_pos, ↓if_neg, J_241_0, k_241_0, J_241_17, k_241_17, J_241_19, k_241_19, J_241_49, k_241_49, a]
  · by_cases b : M 140 10 < n
    · simp (disch := first | assumption | decide | omega | (simp only [List.length_cons, List.length_nil] <;> omega)) only [lgt_0, lgt_s, lset_0, lset_s, lst1_0, lst1_s, lst2_0, lst2_s, ev_iconst, ev_lconst, ev_ldc, ev_null, ev_iload, ev_lload, ev_aload, ev_istore, ev_lstore, ev_astore, ev_iinc, ev_iadd, ev_isub, ev_imul, ev_iand, ev_ior, ev_ishl, ev_ishr, ev_idiv, ev_irem, ev_ineg, ev_ladd, ev_lsub, ev_lmul, ev_land, ev_lor, ev_ldiv, ev_lrem, ev_lshl, ev_i2l, ev_l2i, ev_i2b, ev_i2s, ev_lcmp, ev_dupI, ev_dupR, ev_dup2, ev_popI, ev_popR, ev_alen, ev_xlen, ev_xald, ev_iald, ev_lald, ev_bald, ev_zald, ev_aald, ev_iast, ev_last, ev_bast, ev_zast, ev_aast, ev_gfI, ev_gfL, ev_gfR, ev_pfI, ev_pfZ, ev_pfL, ev_pfR, ev_new, ev_newa, ev_newq, ev_copy, ev_slen, ev_schr, ev_obj, ev_mmin, ev_mabs, ev_mmax, ev_goto, ev_jsr, ev_icmp_eq, ev_if_eq, ev_icmp_ne, ev_if_ne, ev_icmp_lt, ev_if_lt, ev_icmp_ge, ev_if_ge, ev_icmp_gt, ev_if_gt, ev_icmp_le, ev_if_le, ev_ifnull0, ev_ifnull1, ev_ifnn0, ev_ifnn1, ev_tsw, ev_lsw, ev_iret, ev_zret, ev_lret, ev_aret, ev_ret, ev_call0, ev_call1, ev_call2, ev_call3, ev_call4, ev_call5, ev_call6, Option.toList_some, Option.toList_none, List.cons_append, List.nil_append, List.length_cons, List.length_nil, Nat.reduceMod, Nat.reduceDiv, Nat.reduceLeDiff, nc, ↓reduceIte, Nat.zero_le, reduceCtorEq, w32_id, Int.reduceEq, Int.reduceNe, Int.reduceLT, Int.reduceLE, Int.reduceGT, Int.reduceGE, Int.reduceAdd, Int.reduceSub, Int.reduceMul, Int.reduceNeg, ne_eq, not_true_eq_false, not_false_eq_true, eq_self, ↓if_pos, ↓if_neg, J_241_0, k_241_0, J_241_17, k_241_17, J_241_19, k_241_19, J_241_49, k_241_49, a, b]
    · simp (disch := first | assumption | decide | omega | (simp only [List.length_cons, List.length_nil] <;> omega)) only [lgt_0, lgt_s, lset_0, lset_s, lst1_0, lst1_s, lst2_0, lst2_s, ev_iconst, ev_lconst, ev_ldc, ev_null, ev_iload, ev_lload, ev_aload, ev_istore, ev_lstore, ev_astore, ev_iinc, ev_iadd, ev_isub, ev_imul, ev_iand, ev_ior, ev_ishl, ev_ishr, ev_idiv, ev_irem, ev_ineg, ev_ladd, ev_lsub, ev_lmul, ev_land, ev_lor, ev_ldiv, ev_lrem, ev_lshl, ev_i2l, ev_l2i, ev_i2b, ev_i2s, ev_lcmp, ev_dupI, ev_dupR, ev_dup2, ev_popI, ev_popR, ev_alen, ev_xlen, ev_xald, ev_iald, ev_lald, ev_bald, ev_zald, ev_aald, ev_iast, ev_last, ev_bast, ev_zast, ev_aast, ev_gfI, ev_gfL, ev_gfR, ev_pfI, ev_pfZ, ev_pfL, ev_pfR, ev_new, ev_newa, ev_newq, ev_copy, ev_slen, ev_schr, ev_obj, ev_mmin, ev_mabs, ev_mmax, ev_goto, ev_jsr, ev_icmp_eq, ev_if_eq, ev_icmp_ne, ev_if_ne, ev_icmp_lt, ev_if_lt, ev_icmp_ge, ev_if_ge, ev_icmp_gt, ev_if_gt, ev_icmp_le, ev_if_le, ev_ifnull0, ev_ifnull1, ev_ifnn0, ev_ifnn1, ev_tsw, ev_lsw, ev_iret, ev_zret, ev_lret, ev_aret, ev_ret, ev_call0, ev_call1, ev_call2, ev_call3, ev_call4, ev_call5, ev_call6, Option.toList_some, Option.toList_none, List.cons_append, List.nil_append, List.length_cons, List.length_nil, Nat.reduceMod, Nat.reduceDiv, Nat.reduceLeDiff, nc, ↓reduceIte, Nat.zero_le, reduceCtorEq, w32_id, Int.reduceEq, Int.reduceNe, Int.reduceLT, Int.reduceLE, Int.reduceGT, Int.reduceGE, Int.reduceAdd, Int.reduceSub, Int.reduceMul, Int.reduceNeg, ne_eq, not_true_eq_false, not_false_eq_true, eq_self, ↓if_pos, ↓if_neg, J_241_0, k_241_0, J_241_17, k_241_17, J_241_19, k_241_19, J_241_49, k_241_49, a, b]
theorem op_chart (h : RR' M) {n : Int} : OP X 36 [vI n] 240 [vI n] M := by
  have k0 := w0_k0; have hc4 := w0_ch4; have hmd := w0_md140; have mk0 := hmd.1; have hc4' := w0_ch4; obtain ⟨ck0, cr0, cr1, cr2, cr3, cr4, cr5, cr6, cr7, ck1, ck2, ck3, ck4, ck5, ck6, ck7, ck8, cl1, cl2, cl3, cl4, cl5, cl6, cl7, cl8⟩ := hc4'
  obtain ⟨⟨t1, t2, t3, t4, t5⟩, tx⟩ := h.2.2.1
  have k2 := w0_k2
  by_cases q : 0 ≤ n ∧ n ≤ M 2 1
  rotate_left
  · have q10 : n < 0 ∨ M 140 10 < n ∨ 800 < n := by omega
    refine op_ro3 (v := vI (-1)) (st := 1) h ?_ ?_
    · rw [E_36 k0]
      by_cases z : n < 0
      · simp (disch := first | assumption | decide | omega | (simp only [List.length_cons, List.length_nil] <;> omega)) only [lgt_0, lgt_s, lset_0, lset_s, lst1_0, lst1_s, lst2_0, lst2_s, ev_iconst, ev_lconst, ev_ldc, ev_null, ev_iload, ev_lload, ev_aload, ev_istore, ev_lstore, ev_astore, ev_iinc, ev_iadd, ev_isub, ev_imul, ev_iand, ev_ior, ev_ishl, ev_ishr, ev_idiv, ev_irem, ev_ineg, ev_ladd, ev_lsub, ev_lmul, ev_land, ev_lor, ev_ldiv, ev_lrem, ev_lshl, ev_i2l, ev_l2i, ev_i2b, ev_i2s, ev_lcmp, ev_dupI, ev_dupR, ev_dup2, ev_popI, ev_popR, ev_alen, ev_xlen, ev_xald, ev_iald, ev_lald, ev_bald, ev_zald, ev_aald, ev_iast, ev_last, ev_bast, ev_zast, ev_aast, ev_gfI, ev_gfL, ev_gfR, ev_pfI, ev_pfZ, ev_pfL, ev_pfR, ev_new, ev_newa, ev_newq, ev_copy, ev_slen, ev_schr, ev_obj, ev_mmin, ev_mabs, ev_mmax, ev_goto, ev_jsr, ev_icmp_eq, ev_if_eq, ev_icmp_ne, ev_if_ne, ev_icmp_lt, ev_if_lt, ev_icmp_ge, ev_if_ge, ev_icmp_gt, ev_if_gt, ev_icmp_le, ev_if_le, ev_ifnull0, ev_ifnull1, ev_ifnn0, ev_ifnn1, ev_tsw, ev_lsw, ev_iret, ev_zret, ev_lret, ev_aret, ev_ret, ev_call0, ev_call1, ev_call2, ev_call3, ev_call4, ev_call5, ev_call6, Option.toList_some, Option.toList_none, List.cons_append, List.nil_append, List.length_cons, List.length_nil, Nat.reduceMod, Nat.reduceDiv, Nat.reduceLeDiff, nc, ↓reduceIte, Nat.zero_le, reduceCtorEq, w32_id, Int.reduceEq, Int.reduceNe, Int.reduceLT, Int.reduceLE, Int.reduceGT, Int.reduceGE, Int.reduceAdd, Int.reduceSub, Int.reduceMul, Int.reduceNeg, ne_eq, not_true_eq_false, not_false_eq_true, eq_self, ↓if_pos, ↓if_neg, w0_r0_3, w0_r0_4, w0_r0_5, w0_r0_6, w0_r0_7, w0_r0_8, w0_r0_10, w0_r0_11, w0_r0_12, w0_r0_13, w0_r0_14, w0_r0_15, w0_r0_16, w0_r0_17, w0_r0_18, J_36_0, k_36_0, J_36_15, k_36_15, J_36_21, k_36_21, J_36_39, k_36_39, z, s_none]
      · have y : ¬ n ≤ M 2 1 := by omega
        simp (disch := first | assumption | decide | omega | (simp only [List.length_cons, List.length_nil] <;> omega)) only [lgt_0, lgt_s, lset_0, lset_s, lst1_0, lst1_s, lst2_0, lst2_s, ev_iconst, ev_lconst, ev_ldc, ev_null, ev_iload, ev_lload, ev_aload, ev_istore, ev_lstore, ev_astore, ev_iinc, ev_iadd, ev_isub, ev_imul, ev_iand, ev_ior, ev_ishl, ev_ishr, ev_idiv, ev_irem, ev_ineg, ev_ladd, ev_lsub, ev_lmul, ev_land, ev_lor, ev_ldiv, ev_lrem, ev_lshl, ev_i2l, ev_l2i, ev_i2b, ev_i2s, ev_lcmp, ev_dupI, ev_dupR, ev_dup2, ev_popI, ev_popR, ev_alen, ev_xlen, ev_xald, ev_iald, ev_lald, ev_bald, ev_zald, ev_aald, ev_iast, ev_last, ev_bast, ev_zast, ev_aast, ev_gfI, ev_gfL, ev_gfR, ev_pfI, ev_pfZ, ev_pfL, ev_pfR, ev_new, ev_newa, ev_newq, ev_copy, ev_slen, ev_schr, ev_obj, ev_mmin, ev_mabs, ev_mmax, ev_goto, ev_jsr, ev_icmp_eq, ev_if_eq, ev_icmp_ne, ev_if_ne, ev_icmp_lt, ev_if_lt, ev_icmp_ge, ev_if_ge, ev_icmp_gt, ev_if_gt, ev_icmp_le, ev_if_le, ev_ifnull0, ev_ifnull1, ev_ifnn0, ev_ifnn1, ev_tsw, ev_lsw, ev_iret, ev_zret, ev_lret, ev_aret, ev_ret, ev_call0, ev_call1, ev_call2, ev_call3, ev_call4, ev_call5, ev_call6, Option.toList_some, Option.toList_none, List.cons_append, List.nil_append, List.length_cons, List.length_nil, Nat.reduceMod, Nat.reduceDiv, Nat.reduceLeDiff, nc, ↓reduceIte, Nat.zero_le, reduceCtorEq, w32_id, Int.reduceEq, Int.reduceNe, Int.reduceLT, Int.reduceLE, Int.reduceGT, Int.reduceGE, Int.reduceAdd, Int.reduceSub, Int.reduceMul, Int.reduceNeg, ne_eq, not_true_eq_false, not_false_eq_true, eq_self, ↓if_pos, ↓if_neg, w0_r0_3, w0_r0_4, w0_r0_5, w0_r0_6, w0_r0_7, w0_r0_8, w0_r0_10, w0_r0_11, w0_r0_12, w0_r0_13, w0_r0_14, w0_r0_15, w0_r0_16, w0_r0_17, w0_r0_18, J_36_0, k_36_0, J_36_15, k_36_15, J_36_21, k_36_21, J_36_39, k_36_39, z, y, s_none]
    · intro M1 h1 hm
      have e140 : M1 140 10 = M 140 10 := by rw [hm 140 (by omega)]
      have eb := d_noBegin (X := X) (M := M1) (n := n) (mx := 800) (by rw [e140]; exact q10)
      rw [E_240 mk0]
      simp (disch := first | assumption | decide | omega | (simp only [List.length_cons, List.length_nil] <;> omega)) only [lgt_0, lgt_s, lset_0, lset_s, lst1_0, lst1_s, lst2_0, lst2_s, ev_iconst, ev_lconst, ev_ldc, ev_null, ev_iload, ev_lload, ev_aload, ev_istore, ev_lstore, ev_astore, ev_iinc, ev_iadd, ev_isub, ev_imul, ev_iand, ev_ior, ev_ishl, ev_ishr, ev_idiv, ev_irem, ev_ineg, ev_ladd, ev_lsub, ev_lmul, ev_land, ev_lor, ev_ldiv, ev_lrem, ev_lshl, ev_i2l, ev_l2i, ev_i2b, ev_i2s, ev_lcmp, ev_dupI, ev_dupR, ev_dup2, ev_popI, ev_popR, ev_alen, ev_xlen, ev_xald, ev_iald, ev_lald, ev_bald, ev_zald, ev_aald, ev_iast, ev_last, ev_bast, ev_zast, ev_aast, ev_gfI, ev_gfL, ev_gfR, ev_pfI, ev_pfZ, ev_pfL, ev_pfR, ev_new, ev_newa, ev_newq, ev_copy, ev_slen, ev_schr, ev_obj, ev_mmin, ev_mabs, ev_mmax, ev_goto, ev_jsr, ev_icmp_eq, ev_if_eq, ev_icmp_ne, ev_if_ne, ev_icmp_lt, ev_if_lt, ev_icmp_ge, ev_if_ge, ev_icmp_gt, ev_if_gt, ev_icmp_le, ev_if_le, ev_ifnull0, ev_ifnull1, ev_ifnn0, ev_ifnn1, ev_tsw, ev_lsw, ev_iret, ev_zret, ev_lret, ev_aret, ev_ret, ev_call0, ev_call1, ev_call2, ev_call3, ev_call4, ev_call5, ev_call6, Option.toList_some, Option.toList_none, List.cons_append, List.nil_append, List.length_cons, List.length_nil, Nat.reduceMod, Nat.reduceDiv, Nat.reduceLeDiff, nc, ↓reduceIte, Nat.zero_le, reduceCtorEq, w32_id, Int.reduceEq, Int.reduceNe, Int.reduceLT, Int.reduceLE, Int.reduceGT, Int.reduceGE, Int.reduceAdd, Int.reduceSub, Int.reduceMul, Int.reduceNeg, ne_eq, not_true_eq_false, not_false_eq_true, eq_self, ↓if_pos, ↓if_neg, J_240_0, k_240_0, J_240_17, k_240_17, J_240_78, k_240_78, J_240_79, k_240_79, J_240_99, k_240_99, J_240_125, k_240_125, J_240_163, k_240_163, J_240_191, k_240_191, J_240_200, k_240_200, eb, m_refuse hmd]
  · obtain ⟨q0, q1⟩ := q
    have g : gT (M 3) n := ⟨by omega, fun k k0 k1 => (t3 k k0 (by omega)).2⟩
    obtain ⟨v, Ma, fa, a1, aX, ⟨fe, fo⟩, ea⟩ := c_reads (X := X) g (fun _ _ _ => rfl) tx (NW := fun _ => [])
    have e146 : ∀ k, 0 ≤ k → k < n → M 146 k = M 3 k := fun k k0 k1 => (t3 k k0 (by omega)).1.symm
    have gs141 : goodS (M (140 + 1)) := (rr_gm h).1.1
    cases hR : pChart (M 3) n (fun _ => []) (M 25) (M 26) (M 27) with
    | error e =>
      obtain ⟨hv, f2, f3⟩ := fe e hR
      subst hv
      generalize hMb : up Ma 0 0 9 = Mb
      have mb : ∀ c, c ≠ 0 → c ≠ 2 → c ≠ 21 → (c < 22 ∨ 30 < c) → Mb c = M c := fun c c0 c2 c21 cc => by rw [← hMb, up_ne c0, fa c c2 c21 cc]
      have mb2 : Mb 2 = Ma 2 := by rw [← hMb, up_ne (by omega)]
      obtain ⟨g', N, nf, np, res, e1⟩ := d_chartRd (X := X) (M := Mb) g (fun k k0 k1 => by rw [mb 146 (by omega) (by omega) (by omega) (by omega)]; exact e146 k k0 k1) (by rw [mb 140 (by omega) (by omega) (by omega) (by omega)]; omega) (NW := fun _ => []) (W := M 25) (Y := M 26) (C := M 27) tx
      rcases res with ⟨e', r1, r2, r3, r4⟩ | ⟨d, r1, _⟩
      rotate_left
      · rw [hR] at r1; injection r1
      rw [hR] at r1
      injection r1 with r1
      subst r1
      have n140 : ∀ c, c ≠ 0 → c ≠ 2 → (c < 21 ∨ 30 < c) → c ≠ 140 → c ≠ 141 → c ≠ 142 → c ≠ 147 → N c = M c := fun c h0 h2 h3 h4 h5 h6 h7 => by rw [nf.1 c h4 h5 h6 h7, mb c h0 h2 (by omega) (by omega)]
      have n141 : ∀ k, k < 1920 → N 141 k = M 141 k := fun k hk => by rw [nf.2.2.2.1 k hk, mb 141 (by omega) (by omega) (by omega) (by omega)]
      have gsn : goodS (N (140 + 1)) := by
        have gg := gs141
        unfold goodS at gg ⊢
        show (0 ≤ N 141 0 ∧ _) ∧ _
        rw [show N (140 + 1) = N 141 from rfl, n141 0 (by omega), n141 1 (by omega), n141 2 (by omega), n141 3 (by omega), n141 4 (by omega), n141 5 (by omega), n141 6 (by omega), n141 7 (by omega), n141 8 (by omega), n141 9 (by omega), n141 10 (by omega), n141 11 (by omega), n141 12 (by omega), n141 13 (by omega), n141 14 (by omega)]
        exact gg
      have em := m_many (X := X) (M := N) w0_md140 gsn
      have r18 : ¬ N 140 18 = 0 := by omega
      have et := (d_taken (X := X) (M := N) (v := N (140 + 1) 0 * N (140 + 1) 1)).1 (by omega)
      refine ⟨vI (-1), Mb, up (up N 140 16 (N 140 18)) 140 2 9, ?_, ?_, ?_⟩
      · rw [E_36 k0]
        simp (disch := first | assumption | decide | omega | (simp only [List.length_cons, List.length_nil] <;> omega)) only [lgt_0, lgt_s, lset_0, lset_s, lst1_0, lst1_s, lst2_0, lst2_s, ev_iconst, ev_lconst, ev_ldc, ev_null, ev_iload, ev_lload, ev_aload, ev_istore, ev_lstore, ev_astore, ev_iinc, ev_iadd, ev_isub, ev_imul, ev_iand, ev_ior, ev_ishl, ev_ishr, ev_idiv, ev_irem, ev_ineg, ev_ladd, ev_lsub, ev_lmul, ev_land, ev_lor, ev_ldiv, ev_lrem, ev_lshl, ev_i2l, ev_l2i, ev_i2b, ev_i2s, ev_lcmp, ev_dupI, ev_dupR, ev_dup2, ev_popI, ev_popR, ev_alen, ev_xlen, ev_xald, ev_iald, ev_lald, ev_bald, ev_zald, ev_aald, ev_iast, ev_last, ev_bast, ev_zast, ev_aast, ev_gfI, ev_gfL, ev_gfR, ev_pfI, ev_pfZ, ev_pfL, ev_pfR, ev_new, ev_newa, ev_newq, ev_copy, ev_slen, ev_schr, ev_obj, ev_mmin, ev_mabs, ev_mmax, ev_goto, ev_jsr, ev_icmp_eq, ev_if_eq, ev_icmp_ne, ev_if_ne, ev_icmp_lt, ev_if_lt, ev_icmp_ge, ev_if_ge, ev_icmp_gt, ev_if_gt, ev_icmp_le, ev_if_le, ev_ifnull0, ev_ifnull1, ev_ifnn0, ev_ifnn1, ev_tsw, ev_lsw, ev_iret, ev_zret, ev_lret, ev_aret, ev_ret, ev_call0, ev_call1, ev_call2, ev_call3, ev_call4, ev_call5, ev_call6, Option.toList_some, Option.toList_none, List.cons_append, List.nil_append, List.length_cons, List.length_nil, Nat.reduceMod, Nat.reduceDiv, Nat.reduceLeDiff, nc, ↓reduceIte, Nat.zero_le, reduceCtorEq, w32_id, Int.reduceEq, Int.reduceNe, Int.reduceLT, Int.reduceLE, Int.reduceGT, Int.reduceGE, Int.reduceAdd, Int.reduceSub, Int.reduceMul, Int.reduceNeg, ne_eq, not_true_eq_false, not_false_eq_true, eq_self, ↓if_pos, ↓if_neg, w0_r0_3, w0_r0_4, w0_r0_5, w0_r0_6, w0_r0_7, w0_r0_8, w0_r0_10, w0_r0_11, w0_r0_12, w0_r0_13, w0_r0_14, w0_r0_15, w0_r0_16, w0_r0_17, w0_r0_18, J_36_0, k_36_0, J_36_15, k_36_15, J_36_21, k_36_21, J_36_39, k_36_39, q1, ea, s_none, hMb]
      · rw [e1]
        simp (disch := first | assumption | decide | omega | (simp only [List.length_cons, List.length_nil] <;> omega)) only [lgt_0, lgt_s, lset_0, lset_s, lst1_0, lst1_s, lst2_0, lst2_s, ev_iconst, ev_lconst, ev_ldc, ev_null, ev_iload, ev_lload, ev_aload, ev_istore, ev_lstore, ev_astore, ev_iinc, ev_iadd, ev_isub, ev_imul, ev_iand, ev_ior, ev_ishl, ev_ishr, ev_idiv, ev_irem, ev_ineg, ev_ladd, ev_lsub, ev_lmul, ev_land, ev_lor, ev_ldiv, ev_lrem, ev_lshl, ev_i2l, ev_l2i, ev_i2b, ev_i2s, ev_lcmp, ev_dupI, ev_dupR, ev_dup2, ev_popI, ev_popR, ev_alen, ev_xlen, ev_xald, ev_iald, ev_lald, ev_bald, ev_zald, ev_aald, ev_iast, ev_last, ev_bast, ev_zast, ev_aast, ev_gfI, ev_gfL, ev_gfR, ev_pfI, ev_pfZ, ev_pfL, ev_pfR, ev_new, ev_newa, ev_newq, ev_copy, ev_slen, ev_schr, ev_obj, ev_mmin, ev_mabs, ev_mmax, ev_goto, ev_jsr, ev_icmp_eq, ev_if_eq, ev_icmp_ne, ev_if_ne, ev_icmp_lt, ev_if_lt, ev_icmp_ge, ev_if_ge, ev_icmp_gt, ev_if_gt, ev_icmp_le, ev_if_le, ev_ifnull0, ev_ifnull1, ev_ifnn0, ev_ifnn1, ev_tsw, ev_lsw, ev_iret, ev_zret, ev_lret, ev_aret, ev_ret, ev_call0, ev_call1, ev_call2, ev_call3, ev_call4, ev_call5, ev_call6, Option.toList_some, Option.toList_none, List.cons_append, List.nil_append, List.length_cons, List.length_nil, Nat.reduceMod, Nat.reduceDiv, Nat.reduceLeDiff, nc, ↓reduceIte, Nat.zero_le, reduceCtorEq, w32_id, Int.reduceEq, Int.reduceNe, Int.reduceLT, Int.reduceLE, Int.reduceGT, Int.reduceGE, Int.reduceAdd, Int.reduceSub, Int.reduceMul, Int.reduceNeg, ne_eq, not_true_eq_false, not_false_eq_true, eq_self, ↓if_pos, ↓if_neg, J_240_0, k_240_0, J_240_17, k_240_17, J_240_78, k_240_78, J_240_79, k_240_79, J_240_99, k_240_99, J_240_125, k_240_125, J_240_163, k_240_163, J_240_191, k_240_191, J_240_200, k_240_200, r18, em, et]
      · refine RR_txt (M := M) (fun i hi => ?_) (fun c c0 c2 c3 c4 c5 c6 c7 _ => ?_) (fun i hi => ?_) (fun k hk => ?_) (fun k hk => ?_) ?_ ?_ h
        · rw [up_ne (by omega), up_ne (by omega), nf.1 0 (by omega) (by omega) (by omega) (by omega), ← hMb, up_ne2 hi, fa 0 (by omega) (by omega) (by omega)]
        · rw [up_ne c4, up_ne c4, n140 c (by omega) c2 (by omega) c4 c5 c6 c7]
        · rw [up_ne2 (by omega), up_ne2 (by omega), nf.2.1 i (by omega), mb 140 (by omega) (by omega) (by omega) (by omega)]
        · rw [up_ne (by omega), up_ne (by omega), n141 k hk]
        · rw [up_ne (by omega), up_ne (by omega), nf.2.2.2.2 k hk, mb 142 (by omega) (by omega) (by omega) (by omega)]
        · have u2 : up (up N 140 16 (N 140 18)) 140 2 9 2 = Ma 2 := by rw [up_ne (by omega), up_ne (by omega), nf.1 2 (by omega) (by omega) (by omega) (by omega), mb2]
          have u25 : ∀ c, 22 ≤ c → c ≤ 30 → up (up N 140 16 (N 140 18)) 140 2 9 c = Ma c := fun c h1 h2 => by rw [up_ne (by omega), up_ne (by omega), nf.1 c (by omega) (by omega) (by omega) (by omega), ← hMb, up_ne (by omega)]
          unfold RTp RX
          rw [u25 25 (by omega) (by omega), u25 26 (by omega) (by omega), u2, a1, f2, f3, up_ne2 (show (10 : Int) ≠ 2 by omega), up_ne2 (show (10 : Int) ≠ 16 by omega), nf.2.2.1, up_ne2 (show (16 : Int) ≠ 2 by omega), up_eq, r2, up_ne2 (show (17 : Int) ≠ 2 by omega), up_ne2 (show (17 : Int) ≠ 16 by omega), r3]
          exact ⟨⟨rfl, by omega, fun k k0 k1 => by omega, rfl, rfl⟩, aX⟩
        · rw [up_eq, up_ne (by omega), up_ne (by omega), nf.1 0 (by omega) (by omega) (by omega) (by omega), ← hMb, up_eq]
    | ok d =>
      obtain ⟨hv, f2, f3, cd, a8, ah⟩ := fo d hR
      subst hv
      -- the class: copied, emptied, forgotten
      obtain ⟨Mb, fb, b1, b2, b5, b8, eb⟩ := s_chcopy (X := X) (M := Ma) w0_ch4 w0_ch22 (by omega)
      have ep := s_pempty (X := X) (M := Mb) w0_pl13
      generalize hMc : mfill (mfill Mb (13 + 1) 48 (-1)) (13 + 2) 48 (-1) = Mc at ep
      have fc : ∀ c, c ≠ 14 → c ≠ 15 → Mc c = Mb c := fun c h1 h2 => by rw [← hMc, mfill_ne h2, mfill_ne h1]
      have c14 : ∀ k, 0 ≤ k → k < 48 → Mc 14 k = -1 := fun k k0 k1 => by rw [← hMc, mfill_ne (by omega)]; exact mfill_in ⟨k0, k1⟩
      have c15 : ∀ k, 0 ≤ k → k < 48 → Mc 15 k = -1 := fun k k0 k1 => by rw [← hMc]; exact mfill_in ⟨k0, k1⟩
      generalize hMd : up (up (up Mc 16 3 0) 16 4 0) 16 5 0 = Md
      have e75 : evc X 75 [vR (some 16)] SH0 Mc = some (none, SH0, Md) := by
        have k16 := w0_k16
        rw [E_75 k16]
        simp (disch := first | assumption | decide | omega | (simp only [List.length_cons, List.length_nil] <;> omega)) only [lgt_0, lgt_s, lset_0, lset_s, lst1_0, lst1_s, lst2_0, lst2_s, ev_iconst, ev_lconst, ev_ldc, ev_null, ev_iload, ev_lload, ev_aload, ev_istore, ev_lstore, ev_astore, ev_iinc, ev_iadd, ev_isub, ev_imul, ev_iand, ev_ior, ev_ishl, ev_ishr, ev_idiv, ev_irem, ev_ineg, ev_ladd, ev_lsub, ev_lmul, ev_land, ev_lor, ev_ldiv, ev_lrem, ev_lshl, ev_i2l, ev_l2i, ev_i2b, ev_i2s, ev_lcmp, ev_dupI, ev_dupR, ev_dup2, ev_popI, ev_popR, ev_alen, ev_xlen, ev_xald, ev_iald, ev_lald, ev_bald, ev_zald, ev_aald, ev_iast, ev_last, ev_bast, ev_zast, ev_aast, ev_gfI, ev_gfL, ev_gfR, ev_pfI, ev_pfZ, ev_pfL, ev_pfR, ev_new, ev_newa, ev_newq, ev_copy, ev_slen, ev_schr, ev_obj, ev_mmin, ev_mabs, ev_mmax, ev_goto, ev_jsr, ev_icmp_eq, ev_if_eq, ev_icmp_ne, ev_if_ne, ev_icmp_lt, ev_if_lt, ev_icmp_ge, ev_if_ge, ev_icmp_gt, ev_if_gt, ev_icmp_le, ev_if_le, ev_ifnull0, ev_ifnull1, ev_ifnn0, ev_ifnn1, ev_tsw, ev_lsw, ev_iret, ev_zret, ev_lret, ev_aret, ev_ret, ev_call0, ev_call1, ev_call2, ev_call3, ev_call4, ev_call5, ev_call6, Option.toList_some, Option.toList_none, List.cons_append, List.nil_append, List.length_cons, List.length_nil, Nat.reduceMod, Nat.reduceDiv, Nat.reduceLeDiff, nc, ↓reduceIte, Nat.zero_le, reduceCtorEq, w32_id, Int.reduceEq, Int.reduceNe, Int.reduceLT, Int.reduceLE, Int.reduceGT, Int.reduceGE, Int.reduceAdd, Int.reduceSub, Int.reduceMul, Int.reduceNeg, ne_eq, not_true_eq_false, not_false_eq_true, eq_self, ↓if_pos, ↓if_neg, J_75_0, k_75_0, hMd]
      have ef := s_forget (X := X) (M := Md)
      generalize hMe : up (up Md 46 3 0) 60 6 0 = Me at ef
      have me : ∀ c, c ≠ 14 → c ≠ 15 → c ≠ 16 → c ≠ 46 → c ≠ 60 → Me c = Mb c := fun c h1 h2 h3 h4 h5 => by rw [← hMe, up_ne h5, up_ne h4, ← hMd, up_ne h3, up_ne h3, up_ne h3, fc c h1 h2]
      have me8 : Me 4 8 = xn d.1 := by rw [me 4 (by omega) (by omega) (by omega) (by omega) (by omega), b8, a8]
      generalize hM1 : up Me 0 0 0 = M1
      have low : ∀ c, c ≠ 0 → c ≠ 2 → (c < 4 ∨ 12 < c) → c ≠ 14 → c ≠ 15 → c ≠ 16 → (c < 21 ∨ 30 < c) → c ≠ 46 → c ≠ 60 → M1 c = M c := fun c h0 h2 h4 h14 h15 h16 h21 h46 h60 => by rw [← hM1, up_ne h0, me c h14 h15 h16 h46 h60, fb c (by omega), fa c h2 (by omega) (by omega)]
      -- the model
      obtain ⟨g', N, nf, np, res, e1⟩ := d_chartRd (X := X) (M := M1) g (fun k k0 k1 => by rw [low 146 (by omega) (by omega) (by omega) (by omega) (by omega) (by omega) (by omega) (by omega) (by omega)]; exact e146 k k0 k1) (by rw [low 140 (by omega) (by omega) (by omega) (by omega) (by omega) (by omega) (by omega) (by omega) (by omega)]; omega) (NW := fun _ => []) (W := M 25) (Y := M 26) (C := M 27) tx
      rcases res with ⟨e', r1, _⟩ | ⟨d', r1, cl, md, hJ, hrw⟩
      · rw [hR] at r1; injection r1
      rw [hR] at r1
      injection r1 with r1
      subst r1
      obtain ⟨r_at, k_at, l_at⟩ := md_at w0_md140; obtain ⟨r_names, k_names, l_names⟩ := md_names w0_md140
      obtain ⟨ls1, Na, ⟨hls, na, na1, na2⟩, he1⟩ := ev_for (X := X) (y := 240) (Sh := SH0) (fun i ls M' => ls = [some (vR (some 140)), some (vI n), some (vI g'), some (vI (i : Int))] ∧ (∀ c, c ≠ 141 → M' c = N c) ∧ (∀ k, (k < 0 ∨ (i : Int) ≤ k) → M' 141 k = N 141 k) ∧ (∀ j : Int, 0 ≤ j → j < i → M' 141 j = N 141 (1920 + j))) J_240_134 480 (fun i hi ls M' hI => by
        obtain ⟨hls, fr, i1, i2⟩ := hI
        subst hls
        have e := i1 (1920 + (i : Int)) (by omega)
        refine ⟨_, up M' 141 (i : Int) (N 141 (1920 + (i : Int))), ⟨rfl, fun c hc => by rw [up_ne hc]; exact fr c hc, fun k hk => by rw [up_ne2 (by omega)]; exact i1 k (by omega), fun j j0 j1 => ?_⟩, ?_⟩
        · by_cases z : j = i
          · rw [z, up_eq]
          · rw [up_ne2 z]
            exact i2 j j0 (by omega)
        · simp (disch := first | assumption | decide | omega | (simp only [List.length_cons, List.length_nil] <;> omega)) only [lgt_0, lgt_s, lset_0, lset_s, lst1_0, lst1_s, lst2_0, lst2_s, ev_iconst, ev_lconst, ev_ldc, ev_null, ev_iload, ev_lload, ev_aload, ev_istore, ev_lstore, ev_astore, ev_iinc, ev_iadd, ev_isub, ev_imul, ev_iand, ev_ior, ev_ishl, ev_ishr, ev_idiv, ev_irem, ev_ineg, ev_ladd, ev_lsub, ev_lmul, ev_land, ev_lor, ev_ldiv, ev_lrem, ev_lshl, ev_i2l, ev_l2i, ev_i2b, ev_i2s, ev_lcmp, ev_dupI, ev_dupR, ev_dup2, ev_popI, ev_popR, ev_alen, ev_xlen, ev_xald, ev_iald, ev_lald, ev_bald, ev_zald, ev_aald, ev_iast, ev_last, ev_bast, ev_zast, ev_aast, ev_gfI, ev_gfL, ev_gfR, ev_pfI, ev_pfZ, ev_pfL, ev_pfR, ev_new, ev_newa, ev_newq, ev_copy, ev_slen, ev_schr, ev_obj, ev_mmin, ev_mabs, ev_mmax, ev_goto, ev_jsr, ev_icmp_eq, ev_if_eq, ev_icmp_ne, ev_if_ne, ev_icmp_lt, ev_if_lt, ev_icmp_ge, ev_if_ge, ev_icmp_gt, ev_if_gt, ev_icmp_le, ev_if_le, ev_ifnull0, ev_ifnull1, ev_ifnn0, ev_ifnn1, ev_tsw, ev_lsw, ev_iret, ev_zret, ev_lret, ev_aret, ev_ret, ev_call0, ev_call1, ev_call2, ev_call3, ev_call4, ev_call5, ev_call6, Option.toList_some, Option.toList_none, List.cons_append, List.nil_append, List.length_cons, List.length_nil, Nat.reduceMod, Nat.reduceDiv, Nat.reduceLeDiff, nc, ↓reduceIte, Nat.zero_le, reduceCtorEq, w32_id, Int.reduceEq, Int.reduceNe, Int.reduceLT, Int.reduceLE, Int.reduceGT, Int.reduceGE, Int.reduceAdd, Int.reduceSub, Int.reduceMul, Int.reduceNeg, ne_eq, not_true_eq_false, not_false_eq_true, eq_self, ↓if_pos, ↓if_neg, J_240_0, k_240_0, J_240_17, k_240_17, J_240_78, k_240_78, J_240_79, k_240_79, J_240_99, k_240_99, J_240_125, k_240_125, J_240_163, k_240_163, J_240_191, k_240_191, J_240_200, k_240_200, k_240_134, r_at, e, nc_s]) [some (vR (some 140)), some (vI n), some (vI g'), some (vI 0)] N ⟨rfl, fun _ _ => rfl, fun _ _ => rfl, fun j a c => by omega⟩
      subst hls
      obtain ⟨ls2, Nb, ⟨hls, nb, nb1, nb2⟩, he2⟩ := ev_for (X := X) (y := 240) (Sh := SH0) (fun i ls M' => ls = [some (vR (some 140)), some (vI n), some (vI g'), some (vI (i : Int))] ∧ (∀ c, c ≠ 142 → M' c = Na c) ∧ (∀ k, (k < 0 ∨ (i : Int) ≤ k) → M' 142 k = Na 142 k) ∧ (∀ j : Int, 0 ≤ j → j < i → M' 142 j = Na 142 (20 + j))) J_240_165 5 (fun i hi ls M' hI => by
        obtain ⟨hls, fr, i1, i2⟩ := hI
        subst hls
        have e := i1 (20 + (i : Int)) (by omega)
        refine ⟨_, up M' 142 (i : Int) (Na 142 (20 + (i : Int))), ⟨rfl, fun c hc => by rw [up_ne hc]; exact fr c hc, fun k hk => by rw [up_ne2 (by omega)]; exact i1 k (by omega), fun j j0 j1 => ?_⟩, ?_⟩
        · by_cases z : j = i
          · rw [z, up_eq]
          · rw [up_ne2 z]
            exact i2 j j0 (by omega)
        · simp (disch := first | assumption | decide | omega | (simp only [List.length_cons, List.length_nil] <;> omega)) only [lgt_0, lgt_s, lset_0, lset_s, lst1_0, lst1_s, lst2_0, lst2_s, ev_iconst, ev_lconst, ev_ldc, ev_null, ev_iload, ev_lload, ev_aload, ev_istore, ev_lstore, ev_astore, ev_iinc, ev_iadd, ev_isub, ev_imul, ev_iand, ev_ior, ev_ishl, ev_ishr, ev_idiv, ev_irem, ev_ineg, ev_ladd, ev_lsub, ev_lmul, ev_land, ev_lor, ev_ldiv, ev_lrem, ev_lshl, ev_i2l, ev_l2i, ev_i2b, ev_i2s, ev_lcmp, ev_dupI, ev_dupR, ev_dup2, ev_popI, ev_popR, ev_alen, ev_xlen, ev_xald, ev_iald, ev_lald, ev_bald, ev_zald, ev_aald, ev_iast, ev_last, ev_bast, ev_zast, ev_aast, ev_gfI, ev_gfL, ev_gfR, ev_pfI, ev_pfZ, ev_pfL, ev_pfR, ev_new, ev_newa, ev_newq, ev_copy, ev_slen, ev_schr, ev_obj, ev_mmin, ev_mabs, ev_mmax, ev_goto, ev_jsr, ev_icmp_eq, ev_if_eq, ev_icmp_ne, ev_if_ne, ev_icmp_lt, ev_if_lt, ev_icmp_ge, ev_if_ge, ev_icmp_gt, ev_if_gt, ev_icmp_le, ev_if_le, ev_ifnull0, ev_ifnull1, ev_ifnn0, ev_ifnn1, ev_tsw, ev_lsw, ev_iret, ev_zret, ev_lret, ev_aret, ev_ret, ev_call0, ev_call1, ev_call2, ev_call3, ev_call4, ev_call5, ev_call6, Option.toList_some, Option.toList_none, List.cons_append, List.nil_append, List.length_cons, List.length_nil, Nat.reduceMod, Nat.reduceDiv, Nat.reduceLeDiff, nc, ↓reduceIte, Nat.zero_le, reduceCtorEq, w32_id, Int.reduceEq, Int.reduceNe, Int.reduceLT, Int.reduceLE, Int.reduceGT, Int.reduceGE, Int.reduceAdd, Int.reduceSub, Int.reduceMul, Int.reduceNeg, ne_eq, not_true_eq_false, not_false_eq_true, eq_self, ↓if_pos, ↓if_neg, J_240_0, k_240_0, J_240_17, k_240_17, J_240_78, k_240_78, J_240_79, k_240_79, J_240_99, k_240_99, J_240_125, k_240_125, J_240_163, k_240_163, J_240_191, k_240_191, J_240_200, k_240_200, k_240_165, r_names, e, nc_s]) [some (vR (some 140)), some (vI n), some (vI g'), some (vI 0)] Na ⟨rfl, fun _ _ => rfl, fun _ _ => rfl, fun j a c => by omega⟩
      subst hls
      generalize hNc : up Nb 140 21 0 = Nc
      have nc141 : ∀ k, 0 ≤ k → k < 480 → Nc 141 k = N 141 (1920 + k) := fun k k0 k1 => by rw [← hNc, up_ne (by omega), nb 141 (by omega)]; exact na2 k k0 (by omega)
      have nc141' : ∀ k, (k < 0 ∨ 480 ≤ k) → Nc 141 k = N 141 k := fun k hk => by rw [← hNc, up_ne (by omega), nb 141 (by omega), na1 k (by omega)]
      have nc142 : ∀ k, 0 ≤ k → k < 5 → Nc 142 k = N 142 (20 + k) := fun k k0 k1 => by rw [← hNc, up_ne (by omega), nb2 k k0 (by omega), na 142 (by omega)]
      have nc142' : ∀ k, (k < 0 ∨ 5 ≤ k) → Nc 142 k = N 142 k := fun k hk => by rw [← hNc, up_ne (by omega), nb1 k (by omega), na 142 (by omega)]
      have ncc : ∀ c, c ≠ 140 → c ≠ 141 → c ≠ 142 → Nc c = N c := fun c h1 h2 h3 => by rw [← hNc, up_ne h1, nb c h3, na c h2]
      have nc140 : ∀ i, i ≠ 21 → Nc 140 i = N 140 i := fun i hi => by rw [← hNc, up_ne2 hi, nb 140 (by omega), na 140 (by omega)]
      -- the new chart's numbers
      have hd1 := hJ.1.1
      have sv : ∀ k, 0 ≤ k → k < 15 → Nc (140 + 1) k = d.1 k := fun k k0 k1 => by
        show Nc 141 k = _
        rw [nc141 k k0 (by omega)]
        exact md.2.2.1 k k0 k1
      have gsn : goodS (Nc (140 + 1)) := by
        have gg := hd1
        unfold goodS at gg ⊢
        rw [sv 0 (by omega) (by omega), sv 1 (by omega) (by omega), sv 2 (by omega) (by omega), sv 3 (by omega) (by omega), sv 4 (by omega) (by omega), sv 5 (by omega) (by omega), sv 6 (by omega) (by omega), sv 7 (by omega) (by omega), sv 8 (by omega) (by omega), sv 9 (by omega) (by omega), sv 10 (by omega) (by omega), sv 11 (by omega) (by omega), sv 12 (by omega) (by omega), sv 13 (by omega) (by omega), sv 14 (by omega) (by omega)]
        exact gg
      obtain ⟨Nd, fd, id', od, ed⟩ := m_numbers (X := X) (M := Nc) gsn
      have nd141 : Nd 141 = Nc 141 := fd 141 (by omega) (by omega)
      have em := m_many (X := X) (M := Nd) w0_md140 (by rw [show Nd (140 + 1) = Nc (140 + 1) from nd141]; exact gsn)
      have xnd : Nd (140 + 1) 0 * Nd (140 + 1) 1 = xn d.1 := by
        rw [show Nd (140 + 1) = Nc (140 + 1) from nd141, sv 0 (by omega) (by omega), sv 1 (by omega) (by omega)]
      rw [xnd] at em
      have n18 : N 140 18 = 0 := cl.1
      have nd140 : Nd 140 = Nc 140 := fd 140 (by omega) (by omega)
      have nd18 : Nd 140 18 = 0 := by rw [nd140, nc140 18 (by omega)]; exact n18
      have et := (d_taken (X := X) (M := Nd) (v := xn d.1)).2 nd18
      refine ⟨vI (xn d.1), M1, up (up Nd 140 16 0) 140 2 0, ?_, ?_, ?_⟩
      · rw [E_36 k0]
        have r211 := w0_r21_1
        simp (disch := first | assumption | decide | omega | (simp only [List.length_cons, List.length_nil] <;> omega)) only [lgt_0, lgt_s, lset_0, lset_s, lst1_0, lst1_s, lst2_0, lst2_s, ev_iconst, ev_lconst, ev_ldc, ev_null, ev_iload, ev_lload, ev_aload, ev_istore, ev_lstore, ev_astore, ev_iinc, ev_iadd, ev_isub, ev_imul, ev_iand, ev_ior, ev_ishl, ev_ishr, ev_idiv, ev_irem, ev_ineg, ev_ladd, ev_lsub, ev_lmul, ev_land, ev_lor, ev_ldiv, ev_lrem, ev_lshl, ev_i2l, ev_l2i, ev_i2b, ev_i2s, ev_lcmp, ev_dupI, ev_dupR, ev_dup2, ev_popI, ev_popR, ev_alen, ev_xlen, ev_xald, ev_iald, ev_lald, ev_bald, ev_zald, ev_aald, ev_iast, ev_last, ev_bast, ev_zast, ev_aast, ev_gfI, ev_gfL, ev_gfR, ev_pfI, ev_pfZ, ev_pfL, ev_pfR, ev_new, ev_newa, ev_newq, ev_copy, ev_slen, ev_schr, ev_obj, ev_mmin, ev_mabs, ev_mmax, ev_goto, ev_jsr, ev_icmp_eq, ev_if_eq, ev_icmp_ne, ev_if_ne, ev_icmp_lt, ev_if_lt, ev_icmp_ge, ev_if_ge, ev_icmp_gt, ev_if_gt, ev_icmp_le, ev_if_le, ev_ifnull0, ev_ifnull1, ev_ifnn0, ev_ifnn1, ev_tsw, ev_lsw, ev_iret, ev_zret, ev_lret, ev_aret, ev_ret, ev_call0, ev_call1, ev_call2, ev_call3, ev_call4, ev_call5, ev_call6, Option.toList_some, Option.toList_none, List.cons_append, List.nil_append, List.length_cons, List.length_nil, Nat.reduceMod, Nat.reduceDiv, Nat.reduceLeDiff, nc, ↓reduceIte, Nat.zero_le, reduceCtorEq, w32_id, Int.reduceEq, Int.reduceNe, Int.reduceLT, Int.reduceLE, Int.reduceGT, Int.reduceGE, Int.reduceAdd, Int.reduceSub, Int.reduceMul, Int.reduceNeg, ne_eq, not_true_eq_false, not_false_eq_true, eq_self, ↓if_pos, ↓if_neg, w0_r0_3, w0_r0_4, w0_r0_5, w0_r0_6, w0_r0_7, w0_r0_8, w0_r0_10, w0_r0_11, w0_r0_12, w0_r0_13, w0_r0_14, w0_r0_15, w0_r0_16, w0_r0_17, w0_r0_18, J_36_0, k_36_0, J_36_15, k_36_15, J_36_21, k_36_21, J_36_39, k_36_39, q1, ea, r211, eb, ep, e75, ef, me8, s_answer, hM1]
      · rw [e1]
        simp (disch := first | assumption | decide | omega | (simp only [List.length_cons, List.length_nil] <;> omega)) only [lgt_0, lgt_s, lset_0, lset_s, lst1_0, lst1_s, lst2_0, lst2_s, ev_iconst, ev_lconst, ev_ldc, ev_null, ev_iload, ev_lload, ev_aload, ev_istore, ev_lstore, ev_astore, ev_iinc, ev_iadd, ev_isub, ev_imul, ev_iand, ev_ior, ev_ishl, ev_ishr, ev_idiv, ev_irem, ev_ineg, ev_ladd, ev_lsub, ev_lmul, ev_land, ev_lor, ev_ldiv, ev_lrem, ev_lshl, ev_i2l, ev_l2i, ev_i2b, ev_i2s, ev_lcmp, ev_dupI, ev_dupR, ev_dup2, ev_popI, ev_popR, ev_alen, ev_xlen, ev_xald, ev_iald, ev_lald, ev_bald, ev_zald, ev_aald, ev_iast, ev_last, ev_bast, ev_zast, ev_aast, ev_gfI, ev_gfL, ev_gfR, ev_pfI, ev_pfZ, ev_pfL, ev_pfR, ev_new, ev_newa, ev_newq, ev_copy, ev_slen, ev_schr, ev_obj, ev_mmin, ev_mabs, ev_mmax, ev_goto, ev_jsr, ev_icmp_eq, ev_if_eq, ev_icmp_ne, ev_if_ne, ev_icmp_lt, ev_if_lt, ev_icmp_ge, ev_if_ge, ev_icmp_gt, ev_if_gt, ev_icmp_le, ev_if_le, ev_ifnull0, ev_ifnull1, ev_ifnn0, ev_ifnn1, ev_tsw, ev_lsw, ev_iret, ev_zret, ev_lret, ev_aret, ev_ret, ev_call0, ev_call1, ev_call2, ev_call3, ev_call4, ev_call5, ev_call6, Option.toList_some, Option.toList_none, List.cons_append, List.nil_append, List.length_cons, List.length_nil, Nat.reduceMod, Nat.reduceDiv, Nat.reduceLeDiff, nc, ↓reduceIte, Nat.zero_le, reduceCtorEq, w32_id, Int.reduceEq, Int.reduceNe, Int.reduceLT, Int.reduceLE, Int.reduceGT, Int.reduceGE, Int.reduceAdd, Int.reduceSub, Int.reduceMul, Int.reduceNeg, ne_eq, not_true_eq_false, not_false_eq_true, eq_self, ↓if_pos, ↓if_neg, J_240_0, k_240_0, J_240_17, k_240_17, J_240_78, k_240_78, J_240_79, k_240_79, J_240_99, k_240_99, J_240_125, k_240_125, J_240_163, k_240_163, J_240_191, k_240_191, J_240_200, k_240_200, n18]
        rw [he1]
        simp (disch := first | assumption | decide | omega | (simp only [List.length_cons, List.length_nil] <;> omega)) only [lgt_0, lgt_s, lset_0, lset_s, lst1_0, lst1_s, lst2_0, lst2_s, ev_iconst, ev_lconst, ev_ldc, ev_null, ev_iload, ev_lload, ev_aload, ev_istore, ev_lstore, ev_astore, ev_iinc, ev_iadd, ev_isub, ev_imul, ev_iand, ev_ior, ev_ishl, ev_ishr, ev_idiv, ev_irem, ev_ineg, ev_ladd, ev_lsub, ev_lmul, ev_land, ev_lor, ev_ldiv, ev_lrem, ev_lshl, ev_i2l, ev_l2i, ev_i2b, ev_i2s, ev_lcmp, ev_dupI, ev_dupR, ev_dup2, ev_popI, ev_popR, ev_alen, ev_xlen, ev_xald, ev_iald, ev_lald, ev_bald, ev_zald, ev_aald, ev_iast, ev_last, ev_bast, ev_zast, ev_aast, ev_gfI, ev_gfL, ev_gfR, ev_pfI, ev_pfZ, ev_pfL, ev_pfR, ev_new, ev_newa, ev_newq, ev_copy, ev_slen, ev_schr, ev_obj, ev_mmin, ev_mabs, ev_mmax, ev_goto, ev_jsr, ev_icmp_eq, ev_if_eq, ev_icmp_ne, ev_if_ne, ev_icmp_lt, ev_if_lt, ev_icmp_ge, ev_if_ge, ev_icmp_gt, ev_if_gt, ev_icmp_le, ev_if_le, ev_ifnull0, ev_ifnull1, ev_ifnn0, ev_ifnn1, ev_tsw, ev_lsw, ev_iret, ev_zret, ev_lret, ev_aret, ev_ret, ev_call0, ev_call1, ev_call2, ev_call3, ev_call4, ev_call5, ev_call6, Option.toList_some, Option.toList_none, List.cons_append, List.nil_append, List.length_cons, List.length_nil, Nat.reduceMod, Nat.reduceDiv, Nat.reduceLeDiff, nc, ↓reduceIte, Nat.zero_le, reduceCtorEq, w32_id, Int.reduceEq, Int.reduceNe, Int.reduceLT, Int.reduceLE, Int.reduceGT, Int.reduceGE, Int.reduceAdd, Int.reduceSub, Int.reduceMul, Int.reduceNeg, ne_eq, not_true_eq_false, not_false_eq_true, eq_self, ↓if_pos, ↓if_neg, J_240_0, k_240_0, J_240_17, k_240_17, J_240_78, k_240_78, J_240_79, k_240_79, J_240_99, k_240_99, J_240_125, k_240_125, J_240_163, k_240_163, J_240_191, k_240_191, J_240_200, k_240_200, k_240_134]
        rw [he2]
        simp (disch := first | assumption | decide | omega | (simp only [List.length_cons, List.length_nil] <;> omega)) only [lgt_0, lgt_s, lset_0, lset_s, lst1_0, lst1_s, lst2_0, lst2_s, ev_iconst, ev_lconst, ev_ldc, ev_null, ev_iload, ev_lload, ev_aload, ev_istore, ev_lstore, ev_astore, ev_iinc, ev_iadd, ev_isub, ev_imul, ev_iand, ev_ior, ev_ishl, ev_ishr, ev_idiv, ev_irem, ev_ineg, ev_ladd, ev_lsub, ev_lmul, ev_land, ev_lor, ev_ldiv, ev_lrem, ev_lshl, ev_i2l, ev_l2i, ev_i2b, ev_i2s, ev_lcmp, ev_dupI, ev_dupR, ev_dup2, ev_popI, ev_popR, ev_alen, ev_xlen, ev_xald, ev_iald, ev_lald, ev_bald, ev_zald, ev_aald, ev_iast, ev_last, ev_bast, ev_zast, ev_aast, ev_gfI, ev_gfL, ev_gfR, ev_pfI, ev_pfZ, ev_pfL, ev_pfR, ev_new, ev_newa, ev_newq, ev_copy, ev_slen, ev_schr, ev_obj, ev_mmin, ev_mabs, ev_mmax, ev_goto, ev_jsr, ev_icmp_eq, ev_if_eq, ev_icmp_ne, ev_if_ne, ev_icmp_lt, ev_if_lt, ev_icmp_ge, ev_if_ge, ev_icmp_gt, ev_if_gt, ev_icmp_le, ev_if_le, ev_ifnull0, ev_ifnull1, ev_ifnn0, ev_ifnn1, ev_tsw, ev_lsw, ev_iret, ev_zret, ev_lret, ev_aret, ev_ret, ev_call0, ev_call1, ev_call2, ev_call3, ev_call4, ev_call5, ev_call6, Option.toList_some, Option.toList_none, List.cons_append, List.nil_append, List.length_cons, List.length_nil, Nat.reduceMod, Nat.reduceDiv, Nat.reduceLeDiff, nc, ↓reduceIte, Nat.zero_le, reduceCtorEq, w32_id, Int.reduceEq, Int.reduceNe, Int.reduceLT, Int.reduceLE, Int.reduceGT, Int.reduceGE, Int.reduceAdd, Int.reduceSub, Int.reduceMul, Int.reduceNeg, ne_eq, not_true_eq_false, not_false_eq_true, eq_self, ↓if_pos, ↓if_neg, J_240_0, k_240_0, J_240_17, k_240_17, J_240_78, k_240_78, J_240_79, k_240_79, J_240_99, k_240_99, J_240_125, k_240_125, J_240_163, k_240_163, J_240_191, k_240_191, J_240_200, k_240_200, k_240_165, hNc, ed, em, et]
      · have U : ∀ c, c ≠ 140 → up (up Nd 140 16 0) 140 2 0 c = Nd c := fun c hc => by rw [up_ne hc, up_ne hc]
        have U2 : ∀ i, i ≠ 2 → i ≠ 16 → up (up Nd 140 16 0) 140 2 0 140 i = Nc 140 i := fun i h2 h16 => by rw [up_ne2 h2, up_ne2 h16, nd140]
        have all : ∀ c, c ≠ 140 → c ≠ 141 → c ≠ 142 → c ≠ 147 → c ≠ 149 → c ≠ 150 → up (up Nd 140 16 0) 140 2 0 c = M1 c := fun c h1 h2 h3 h4 h5 h6 => by rw [U c h1, fd c h5 h6, ncc c h1 h2 h3, nf.1 c h1 h2 h3 h4]
        have old : ∀ c, c ≠ 0 → c ≠ 2 → (c < 4 ∨ 12 < c) → c ≠ 14 → c ≠ 15 → c ≠ 16 → (c < 21 ∨ 30 < c) → c ≠ 46 → c ≠ 60 → c ≠ 140 → c ≠ 141 → c ≠ 142 → c ≠ 147 → c ≠ 149 → c ≠ 150 → up (up Nd 140 16 0) 140 2 0 c = M c := fun c h0 h2 h4 h14 h15 h16 h21 h46 h60 g1 g2 g3 g4 g5 g6 => by rw [all c g1 g2 g3 g4 g5 g6, low c h0 h2 h4 h14 h15 h16 h21 h46 h60]
        have U141 : up (up Nd 140 16 0) 140 2 0 (140 + 1) = Nc 141 := by rw [U 141 (by omega), nd141]
        have U142 : up (up Nd 140 16 0) 140 2 0 (140 + 2) = Nc 142 := by rw [U 142 (by omega), fd 142 (by omega) (by omega)]
        have s140 : ∀ i, (i = 3 ∨ i = 4 ∨ i = 41 ∨ i = 54 ∨ i = 55) → up (up Nd 140 16 0) 140 2 0 140 i = M 140 i := fun i hi => by rw [U2 i (by omega) (by omega), nc140 i (by omega), nf.2.1 i (by omega), low 140 (by omega) (by omega) (by omega) (by omega) (by omega) (by omega) (by omega) (by omega) (by omega)]
        have o0 : ∀ i, i ≠ 0 → up (up Nd 140 16 0) 140 2 0 0 i = M 0 i := fun i hi => by rw [all 0 (by omega) (by omega) (by omega) (by omega) (by omega) (by omega), ← hM1, up_ne2 hi, me 0 (by omega) (by omega) (by omega) (by omega) (by omega), fb 0 (by omega), fa 0 (by omega) (by omega) (by omega)]
        have o141 : ∀ k, 480 ≤ k → k < 1920 → up (up Nd 140 16 0) 140 2 0 (140 + 1) k = M (140 + 1) k := fun k k0 k1 => by rw [U141, nc141' k (by omega), nf.2.2.2.1 k (by omega), low 141 (by omega) (by omega) (by omega) (by omega) (by omega) (by omega) (by omega) (by omega) (by omega)]
        have o142 : ∀ k, 5 ≤ k → k < 20 → up (up Nd 140 16 0) 140 2 0 (140 + 2) k = M (140 + 2) k := fun k k0 k1 => by rw [U142, nc142' k (by omega), nf.2.2.2.2 k (by omega), low 142 (by omega) (by omega) (by omega) (by omega) (by omega) (by omega) (by omega) (by omega) (by omega)]
        -- the chart's part of the numbers
        have vA : ∀ k, 0 ≤ k → k < 80 → cA (Nc 141) 0 k = N 141 (1920 + k) := fun k k0 k1 => by rw [cA_0 k0 k1, nc141 k k0 (by omega)]
        have sA : ∀ k, 0 ≤ k → k < 15 → cA (Nc 141) 0 k = d.1 k := fun k k0 k1 => by rw [vA k k0 (by omega)]; exact md.2.2.1 k k0 k1
        have gsA : goodS (cA (Nc 141) 0) := by
          have gg := hd1
          unfold goodS at gg ⊢
          rw [sA 0 (by omega) (by omega), sA 1 (by omega) (by omega), sA 2 (by omega) (by omega), sA 3 (by omega) (by omega), sA 4 (by omega) (by omega), sA 5 (by omega) (by omega), sA 6 (by omega) (by omega), sA 7 (by omega) (by omega), sA 8 (by omega) (by omega), sA 9 (by omega) (by omega), sA 10 (by omega) (by omega), sA 11 (by omega) (by omega), sA 12 (by omega) (by omega), sA 13 (by omega) (by omega), sA 14 (by omega) (by omega)]
          exact gg
        have xA : xn (cA (Nc 141) 0) = xn d.1 := by unfold xn; rw [sA 0 (by omega) (by omega), sA 1 (by omega) (by omega)]
        have pA : ∀ i, plF (cA (Nc 141) 0) i = plF d.1 i := fun i => by unfold plF; rw [sA 0 (by omega) (by omega), sA 14 (by omega) (by omega)]
        have n48 : xn d.1 ≤ 48 := by
          have a := Int.mul_le_mul hd1.1.2 hd1.2.1.2 hd1.2.1.1 (show (0 : Int) ≤ 8 by omega)
          have xe' : xn d.1 = d.1 0 * d.1 1 := rfl
          omega
        have cells : ∀ p, 0 ≤ p → p < xn d.1 → cA (Nc 141) 0 (28 + p) = d.2.2.2.2.1 p ∧ 0 ≤ d.2.2.2.2.1 p ∧ d.2.2.2.2.1 p < d.1 2 := fun p p0 p1 => by
          have xe' : xn d.1 = d.1 0 * d.1 1 := rfl
          have lim : p < d.2.2.2.2.2.1 * d.1 0 := by rw [hrw, Int.mul_comm]; exact p1
          have e := md.2.2.2.2.2 p p0 lim
          have c := hJ.2 p p0 lim
          rw [vA (28 + p) (by omega) (by omega), show 1920 + (28 + p) = 1948 + p by omega, e]
          exact ⟨rfl, c⟩
        have w0 : 0 < d.1 0 := by have := hJ.1.2.1; omega
        have cb : ∀ c, 4 ≤ c → c ≤ 12 → up (up Nd 140 16 0) 140 2 0 c = Mb c := fun c c0 c1 => by rw [all c (by omega) (by omega) (by omega) (by omega) (by omega) (by omega), ← hM1, up_ne (by omega), me c (by omega) (by omega) (by omega) (by omega) (by omega)]
        refine ⟨⟨RTb_c (o0 1 (by omega)) (o0 2 (by omega)) (s140 3 (by omega)) (s140 4 (by omega)) h.1, RTr_c (fun c hc => old c (by omega) (by omega) (by omega) (by omega) (by omega) (by omega) (by omega) (by omega) (by omega) (by omega) (by omega) (by omega) (by omega) (by omega) (by omega)) h.2.1, ?_, ?_, ?_, ?_, ?_, RM_c (o0 9 (by omega)) (s140 55 (by omega)) (fun c hc => old c (by omega) (by omega) (by omega) (by omega) (by omega) (by omega) (by omega) (by omega) (by omega) (by omega) (by omega) (by omega) (by omega) (by omega) (by omega)) (fun k a b => o141 k a b) (fun k a b => o142 k a b) h.2.2.2.2.2.2.2.1, ?_, ?_⟩, ?_⟩
        · -- the tape
          have u2 : up (up Nd 140 16 0) 140 2 0 2 = Ma 2 := by rw [all 2 (by omega) (by omega) (by omega) (by omega) (by omega) (by omega), ← hM1, up_ne (by omega), me 2 (by omega) (by omega) (by omega) (by omega) (by omega), fb 2 (by omega)]
          have u25 : ∀ c, 22 ≤ c → c ≤ 30 → up (up Nd 140 16 0) 140 2 0 c = Ma c := fun c h1 h2 => by rw [all c (by omega) (by omega) (by omega) (by omega) (by omega) (by omega), ← hM1, up_ne (by omega), me c (by omega) (by omega) (by omega) (by omega) (by omega), fb c (by omega)]
          unfold RTp RX
          rw [u25 25 (by omega) (by omega), u25 26 (by omega) (by omega), u2, a1, f2, f3, U2 10 (by omega) (by omega), nc140 10 (by omega), nf.2.2.1, up_ne2 (show (16 : Int) ≠ 2 by omega), up_eq, U2 17 (by omega) (by omega), nc140 17 (by omega), cl.2]
          exact ⟨⟨rfl, by omega, fun k k0 k1 => by omega, rfl, rfl⟩, aX⟩
        · -- the chart
          unfold RC RC1
          rw [U141, U142, cb 4 (by omega) (by omega), cb (4 + 1) (by omega) (by omega), cb (4 + 2) (by omega) (by omega), cb (4 + 3) (by omega) (by omega), cb (4 + 4) (by omega) (by omega), cb (4 + 5) (by omega) (by omega), cb (4 + 6) (by omega) (by omega), cb (4 + 7) (by omega) (by omega), cb (4 + 8) (by omega) (by omega)]
          refine ⟨fun k k0 k1 => ?_, gsA, fun _ => by rw [sA 0 (by omega) (by omega)]; exact w0, by rw [b8, a8]; exact xA.symm, fun k k0 k1 => ?_, fun k k0 k1 => ?_, fun p p0 p1 => ?_, fun i i0 i1 => ?_⟩
          · rw [b1 k k0 k1, sA k k0 k1]
            exact cd.2.2.1 k k0 k1
          · have e := b2 k k0 k1
            have r := aX k k0 k1
            have m5 := md.2.2.2.2.1 k k0 k1
            rw [e.2.1, e.2.2, vA (16 + 2 * k) (by omega) (by omega), vA (17 + 2 * k) (by omega) (by omega), show 1920 + (16 + 2 * k) = 1936 + 2 * k by omega, show 1920 + (17 + 2 * k) = 1937 + 2 * k by omega]
            exact ⟨r.1, m5.1, r.2, m5.2⟩
          · rw [sA 2 (by omega) (by omega)] at k1
            have g2 := hd1.2.2.1
            have e := b2 k k0 (by omega)
            have cw := cd.2.2.2.2.1 k k0 (by omega)
            have cn := cd.2.2.2.1 k k0 k1
            have m4 := md.2.2.2.1 k k0 k1
            have li := hJ.1.2.2.2.2.1 k k0 k1
            rw [e.1, e.2.1, e.2.2, vA (16 + 2 * k) (by omega) (by omega), vA (17 + 2 * k) (by omega) (by omega), show 1920 + (16 + 2 * k) = 1936 + 2 * k by omega, show 1920 + (17 + 2 * k) = 1937 + 2 * k by omega, m4.2.1, m4.2.2]
            refine ⟨cw.1, cw.2, d.2.1 k, li.2.1, li.2.2, li.1, cn, ?_⟩
            unfold nA
            rw [if_pos ⟨k0, by omega⟩, Int.zero_add, nc142 k k0 (by omega)]
            exact m4.1
          · have p1' : p < xn d.1 := by rw [← xA]; exact p1
            have c := cells p p0 p1'
            rw [(b5 p p0 (by omega)).1, c.1, sA 2 (by omega) (by omega)]
            exact ⟨cd.2.2.2.2.2 p p0 (by omega), c.2⟩
          · have i1' : i < xn d.1 := by rw [← xA]; exact i1
            have bb := b5 i i0 (by omega)
            have a := ah i i0 i1'
            have pr := plF_rng (A := d.1) i0 i1' w0
            have pr2 : plF d.1 i < xn d.1 := pr.2.1
            have c := cells (plF d.1 i) pr.1 pr2
            rw [bb.2.1, bb.2.2.1, bb.2.2.2]
            show Ma 28 i = cA (Nc 141) 0 (28 + plF (cA (Nc 141) 0) i) ∧ Ma 29 i = plF (cA (Nc 141) 0) i % cA (Nc 141) 0 0 ∧ Ma 30 i = i / cA (Nc 141) 0 0
            rw [pA, c.1, sA 0 (by omega) (by omega)]
            exact a
        · -- the model's numbers
          unfold RN
          rw [U141, U (140 + 9) (by omega), U (140 + 10) (by omega)]
          intro i i0 i1
          have i1' : i < xn d.1 := by rw [← xA]; exact i1
          have xc : xn (Nc (140 + 1)) = xn d.1 := by unfold xn; rw [sv 0 (by omega) (by omega), sv 1 (by omega) (by omega)]
          have pc : plF (Nc (140 + 1)) i = plF d.1 i := by unfold plF; rw [sv 0 (by omega) (by omega), sv 14 (by omega) (by omega)]
          have e := id' i i0 (by rw [xc]; exact i1')
          rw [pc] at e
          have pr := plF_rng (A := d.1) i0 i1' w0
          have pr2 : plF d.1 i < xn d.1 := pr.2.1
          show Nd (140 + 9) i = plF (cA (Nc 141) 0) i ∧ Nd (140 + 10) i = cA (Nc 141) 0 (28 + plF (cA (Nc 141) 0) i)
          rw [pA, e.1, e.2, vA (28 + plF d.1 i) (by omega) (by omega)]
          exact ⟨rfl, nc141 _ (by omega) (by omega)⟩
        · -- the plan
          unfold RP
          have l1 : ∀ k, 0 ≤ k → k < 48 → up (up Nd 140 16 0) 140 2 0 (13 + 1) k = -1 := fun k k0 k1 => by rw [all (13 + 1) (by omega) (by omega) (by omega) (by omega) (by omega) (by omega), ← hM1, up_ne (by omega), ← hMe, up_ne (by omega), up_ne (by omega), ← hMd, up_ne (by omega), up_ne (by omega), up_ne (by omega)]; exact c14 k k0 k1
          have l2 : ∀ k, 0 ≤ k → k < 48 → up (up Nd 140 16 0) 140 2 0 (13 + 2) k = -1 := fun k k0 k1 => by rw [all (13 + 2) (by omega) (by omega) (by omega) (by omega) (by omega) (by omega), ← hM1, up_ne (by omega), ← hMe, up_ne (by omega), up_ne (by omega), ← hMd, up_ne (by omega), up_ne (by omega), up_ne (by omega)]; exact c15 k k0 k1
          refine ⟨fun i i0 i1 => ?_, pl_empty l1 l2⟩
          rw [l1 i i0 i1, gA_0 i0 i1, U141, nc141 (80 + i) (by omega) (by omega), show 1920 + (80 + i) = 2000 + i by omega]
          exact (np.2 i i0 i1).symm
        · -- the directions
          unfold RD
          refine Or.inl ⟨?_, ?_⟩
          · rw [dA_0 (by omega), U141, nc141 15 (by omega) (by omega)]
            exact np.1
          · rw [all 16 (by omega) (by omega) (by omega) (by omega) (by omega) (by omega), ← hM1, up_ne (by omega), ← hMe, up_ne (by omega), up_ne (by omega), ← hMd, up_eq]
        · -- what was followed
          obtain ⟨⟨x1, x2, x3⟩, x4, x5, x6⟩ := h.2.2.2.2.2.2.2.2.1
          have u60 : ∀ i, i ≠ 6 → up (up Nd 140 16 0) 140 2 0 60 i = M 60 i := fun i hi => by rw [all 60 (by omega) (by omega) (by omega) (by omega) (by omega) (by omega), ← hM1, up_ne (by omega), ← hMe, up_ne2 hi, up_ne (by omega), ← hMd, up_ne (by omega), up_ne (by omega), up_ne (by omega), fc 60 (by omega) (by omega), fb 60 (by omega), fa 60 (by omega) (by omega) (by omega)]
          have u606 : up (up Nd 140 16 0) 140 2 0 60 6 = 0 := by rw [all 60 (by omega) (by omega) (by omega) (by omega) (by omega) (by omega), ← hM1, up_ne (by omega), ← hMe, up_eq]
          have u21 : up (up Nd 140 16 0) 140 2 0 140 21 = 0 := by rw [U2 21 (by omega) (by omega), ← hNc, up_eq]
          have u167 : up (up Nd 140 16 0) 140 2 0 167 = M 167 := old 167 (by omega) (by omega) (by omega) (by omega) (by omega) (by omega) (by omega) (by omega) (by omega) (by omega) (by omega) (by omega) (by omega) (by omega) (by omega)
          unfold RF
          rw [u60 1 (by omega), u60 2 (by omega), u60 3 (by omega), u60 4 (by omega), u60 5 (by omega), u606, u21, u167, s140 54 (by omega)]
          exact ⟨⟨x1, x2, x3⟩, rfl, Or.inl rfl, fun z => by omega⟩
        · -- what was altered
          obtain ⟨x1, x2, x3, x4, x5⟩ := h.2.2.2.2.2.2.2.2.2
          have u46 : ∀ i, i ≠ 3 → up (up Nd 140 16 0) 140 2 0 46 i = M 46 i := fun i hi => by rw [all 46 (by omega) (by omega) (by omega) (by omega) (by omega) (by omega), ← hM1, up_ne (by omega), ← hMe, up_ne (by omega), up_ne2 hi, ← hMd, up_ne (by omega), up_ne (by omega), up_ne (by omega), fc 46 (by omega) (by omega), fb 46 (by omega), fa 46 (by omega) (by omega) (by omega)]
          have u463 : up (up Nd 140 16 0) 140 2 0 46 3 = 0 := by rw [all 46 (by omega) (by omega) (by omega) (by omega) (by omega) (by omega), ← hM1, up_ne (by omega), ← hMe, up_ne (by omega), up_eq]
          have u50 : up (up Nd 140 16 0) 140 2 0 50 = M 50 := old 50 (by omega) (by omega) (by omega) (by omega) (by omega) (by omega) (by omega) (by omega) (by omega) (by omega) (by omega) (by omega) (by omega) (by omega) (by omega)
          have u160 : up (up Nd 140 16 0) 140 2 0 160 = M 160 := old 160 (by omega) (by omega) (by omega) (by omega) (by omega) (by omega) (by omega) (by omega) (by omega) (by omega) (by omega) (by omega) (by omega) (by omega) (by omega)
          unfold RA
          rw [u46 4 (by omega), u463, u50, u160, s140 41 (by omega)]
          exact ⟨x1, by omega, fun z => by omega, fun k z => by omega, fun k z => by omega⟩
        · rw [up_eq, all 0 (by omega) (by omega) (by omega) (by omega) (by omega) (by omega), ← hM1, up_eq]
end OCH
