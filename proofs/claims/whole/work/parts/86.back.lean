/-! OPERATIONS: back. -/
section BCK
variable {X : Int → Int} {M : Mem}
theorem s_forget : evc X 76 [vR (some 0)] SH0 M = some (none, SH0, up (up M 46 3 0) 60 6 0) := by
  have k0 := w0_k0
  have k46 := w0_k46
  have k60 := w0_k60
  rw [E_76 k0]
  simp (disch := first | assumption | decide | omega | (simp only [List.length_cons, List.length_nil] <;> omega)) only [lgt_0, lgt_s, lset_0, lset_s, lst1_0, lst1_s, lst2_0, lst2_s, ev_iconst, ev_lconst, ev_ldc, ev_null, ev_iload, ev_lload, ev_aload, ev_istore, ev_lstore, ev_astore, ev_iinc, ev_iadd, ev_isub, ev_imul, ev_iand, ev_ior, ev_ishl, ev_ishr, ev_idiv, ev_irem, ev_ineg, ev_ladd, ev_lsub, ev_lmul, ev_land, ev_lor, ev_ldiv, ev_lrem, ev_lshl, ev_i2l, ev_l2i, ev_i2b, ev_i2s, ev_lcmp, ev_dupI, ev_dupR, ev_dup2, ev_popI, ev_popR, ev_alen, ev_xlen, ev_xald, ev_iald, ev_lald, ev_bald, ev_zald, ev_aald, ev_iast, ev_last, ev_bast, ev_zast, ev_aast, ev_gfI, ev_gfL, ev_gfR, ev_pfI, ev_pfZ, ev_pfL, ev_pfR, ev_new, ev_newa, ev_newq, ev_copy, ev_slen, ev_schr, ev_obj, ev_mmin, ev_mabs, ev_mmax, ev_goto, ev_jsr, ev_icmp_eq, ev_if_eq, ev_icmp_ne, ev_if_ne, ev_icmp_lt, ev_if_lt, ev_icmp_ge, ev_if_ge, ev_icmp_gt, ev_if_gt, ev_icmp_le, ev_if_le, ev_ifnull0, ev_ifnull1, ev_ifnn0, ev_ifnn1, ev_tsw, ev_lsw, ev_iret, ev_zret, ev_lret, ev_aret, ev_ret, ev_call0, ev_call1, ev_call2, ev_call3, ev_call4, ev_call5, ev_call6, Option.toList_some, Option.toList_none, List.cons_append, List.nil_append, List.length_cons, List.length_nil, Nat.reduceMod, Nat.reduceDiv, Nat.reduceLeDiff, nc, ↓reduceIte, Nat.zero_le, reduceCtorEq, w32_id, Int.reduceEq, Int.reduceNe, Int.reduceLT, Int.reduceLE, Int.reduceGT, Int.reduceGE, Int.reduceAdd, Int.reduceSub, Int.reduceMul, Int.reduceNeg, ne_eq, not_true_eq_false, not_false_eq_true, eq_self, ↓if_pos, ↓if_neg, w0_r0_3, w0_r0_4, w0_r0_5, w0_r0_6, w0_r0_7, w0_r0_8, w0_r0_10, w0_r0_11, w0_r0_12, w0_r0_13, w0_r0_14, w0_r0_15, w0_r0_16, w0_r0_17, w0_r0_18, J_76_0, k_76_0, ]
theorem op_back (h : RR' M) : OP X 221 [] 364 [] M := by
  have k0 := w0_k0; have hc4 := w0_ch4; have hmd := w0_md140; have mk0 := hmd.1; have hc4' := w0_ch4; obtain ⟨ck0, cr0, cr1, cr2, cr3, cr4, cr5, cr6, cr7, ck1, ck2, ck3, ck4, ck5, ck6, ck7, ck8, cl1, cl2, cl3, cl4, cl5, cl6, cl7, cl8⟩ := hc4'
  obtain ⟨rm1, rm2, rm3, rm4, rm5⟩ := h.2.2.2.2.2.2.2.1
  by_cases q : 0 < M 0 9
  · obtain ⟨m, ⟨km, r0, r1, r2, bl⟩, hm, e220⟩ := mark_at (X := X) (M := M) (k := M 0 9 - 1) ⟨by omega, by omega⟩
    generalize hk : M 0 9 = k at *
    have bk : BK M (m + 1) (cA (M (140 + 1)) (480 * k)) (nA (M (140 + 2)) (5 * k)) (gA (M (140 + 1)) (480 * k)) (dA (M (140 + 1)) (480 * k)) := by
      have e : k = 1 ∨ k = 2 ∨ k = 3 := by omega
      rcases e with e | e | e <;> subst e
      · have em : m = 89 := by omega
        subst em
        exact rm3 (by omega)
      · have em : m = 106 := by omega
        subst em
        exact rm4 (by omega)
      · have em : m = 123 := by omega
        subst em
        exact rm5 (by omega)
    obtain ⟨Ma, Mb, Mc, e1, e2, e3, fr, bk2⟩ := bl_copy (X := X) bl bl4 (by omega) bk
    have ef := s_forget (X := X) (M := Mc)
    have c0 : up (up Mc 46 3 0) 60 6 0 0 9 = k := by rw [up_ne (by omega), up_ne (by omega), fr 0 (by omega)]; exact hk
    have d9 : up (up (up Mc 46 3 0) 60 6 0) 0 9 (k - 1) 0 9 = k - 1 := up_eq
    generalize hM1 : up (up (up (up Mc 46 3 0) 60 6 0) 0 9 (k - 1)) 0 0 0 = M1
    have m1 : ∀ b, 0 < b → (b < 4 ∨ 19 < b) → b ≠ 46 → b ≠ 60 → M1 b = M b := fun b b0 b1 b2 b3 => by rw [← hM1, up_ne (by omega), up_ne (by omega), up_ne b3, up_ne b2, fr b (by omega)]
    have h55 : M1 140 55 = k := by rw [m1 140 (by omega) (by omega) (by omega) (by omega)]; exact rm1.symm
    obtain ⟨N, f2, a1, a2, n1, n2, e4⟩ := m_copies (X := X) (M := M1) (a := k) (b := 0) (by omega) (by omega) (by omega)
    have N55 : N 140 55 = k := by rw [f2 140 (by omega) (by omega)]; exact h55
    have g55 : up N 140 55 (k - 1) 140 55 = k - 1 := up_eq
    have zb : ∀ j, 0 ≤ j → j < 480 → N (140 + 1) (0 + j) = M (140 + 1) (480 * k + j) := fun j j0 j1 => by
      have e := a2 j j0 j1
      rw [show 480 * (0 : Int) + j = 0 + j from by omega, m1 (140 + 1) (by omega) (by omega) (by omega) (by omega)] at e
      exact e
    have zm : ∀ j, 0 ≤ j → j < 5 → N (140 + 2) (0 + j) = M (140 + 2) (5 * k + j) := fun j j0 j1 => by
      have e := n2 j j0 j1
      rw [show 5 * (0 : Int) + j = 0 + j from by omega, m1 (140 + 2) (by omega) (by omega) (by omega) (by omega)] at e
      exact e
    have eA : cA (N (140 + 1)) 0 = cA (M (140 + 1)) (480 * k) := cA_mv zb
    have gN := rch_A bk2.1
    have w0' := bk2.1.2.2.1
    rw [← eA] at gN w0'
    have gsn : goodS (up N 140 55 (k - 1) (140 + 1)) := by
      rw [up_ne (by omega)]
      have gs := gN.1
      unfold goodS at gs ⊢
      simp (disch := omega) only [cA_0] at gs
      exact gs
    obtain ⟨N2, f5, i5, o5, e5⟩ := m_numbers (X := X) (M := up N 140 55 (k - 1)) gsn
    rw [up_ne (by omega)] at i5
    have N2a : N2 140 55 = k - 1 := by rw [f5 140 (by omega) (by omega)]; exact up_eq
    have g21 : up N2 140 21 0 140 55 = k - 1 := by rw [up_ne2 (by omega)]; exact N2a
    generalize hM2 : up (up N2 140 21 0) 140 2 0 = M2
    have s1 : ∀ b, b ≠ 140 → b ≠ 140 + 9 → b ≠ 140 + 10 → M2 b = N b := fun b b0 b1 b2 => by rw [← hM2, up_ne b0, up_ne b0, f5 b b1 b2, up_ne b0]
    have z0 : ∀ i, i ≠ 0 → i ≠ 9 → M2 0 i = M 0 i := fun i i0 i1 => by rw [s1 0 (by omega) (by omega) (by omega), f2 0 (by omega) (by omega), ← hM1, up_ne2 i0, up_ne2 i1, up_ne (by omega), up_ne (by omega), fr 0 (by omega)]
    have z1 : ∀ b, 0 < b → (b < 4 ∨ 19 < b) → b ≠ 46 → b ≠ 60 → (b < 140 ∨ 142 < b) → b ≠ 149 → b ≠ 150 → M2 b = M b := fun b b0 b1 b2 b3 b4 b5 b6 => by rw [s1 b (by omega) b5 b6, f2 b (by omega) (by omega), m1 b b0 b1 b2 b3]
    have zc : ∀ b, 4 ≤ b → b ≤ 19 → M2 b = Mc b := fun b b0 b1 => by rw [s1 b (by omega) (by omega) (by omega), f2 b (by omega) (by omega), ← hM1, up_ne (by omega), up_ne (by omega), up_ne (by omega), up_ne (by omega)]
    have z46 : ∀ i, i ≠ 3 → M2 46 i = M 46 i := fun i i0 => by rw [s1 46 (by omega) (by omega) (by omega), f2 46 (by omega) (by omega), ← hM1, up_ne (by omega), up_ne (by omega), up_ne (by omega), up_ne2 i0, fr 46 (by omega)]
    have z463 : M2 46 3 = 0 := by rw [s1 46 (by omega) (by omega) (by omega), f2 46 (by omega) (by omega), ← hM1, up_ne (by omega), up_ne (by omega), up_ne (by omega), up_eq]
    have z60 : ∀ i, i ≠ 6 → M2 60 i = M 60 i := fun i i0 => by rw [s1 60 (by omega) (by omega) (by omega), f2 60 (by omega) (by omega), ← hM1, up_ne (by omega), up_ne (by omega), up_ne2 i0, up_ne (by omega), fr 60 (by omega)]
    have z606 : M2 60 6 = 0 := by rw [s1 60 (by omega) (by omega) (by omega), f2 60 (by omega) (by omega), ← hM1, up_ne (by omega), up_ne (by omega), up_eq]
    have z2 : ∀ i, i ≠ 2 → i ≠ 55 → i ≠ 21 → M2 140 i = M 140 i := fun i i0 i1 i2 => by rw [← hM2, up_ne2 i0, up_ne2 i2, f5 140 (by omega) (by omega), up_ne2 i1, f2 140 (by omega) (by omega), m1 140 (by omega) (by omega) (by omega) (by omega)]
    have z221 : M2 140 21 = 0 := by rw [← hM2, up_ne2 (by omega), up_eq]
    have M141 : M2 (140 + 1) = N (140 + 1) := s1 _ (by omega) (by omega) (by omega)
    have M142 : M2 (140 + 2) = N (140 + 2) := s1 _ (by omega) (by omega) (by omega)
    have za : ∀ j, 480 ≤ j → M2 (140 + 1) j = M (140 + 1) j := fun j hj => by rw [M141, a1 j (by omega), m1 (140 + 1) (by omega) (by omega) (by omega) (by omega)]
    have zn : ∀ j, 5 ≤ j → M2 (140 + 2) j = M (140 + 2) j := fun j hj => by rw [M142, n1 j (by omega), m1 (140 + 2) (by omega) (by omega) (by omega) (by omega)]
    have M29 : M2 0 9 = k - 1 := by rw [s1 0 (by omega) (by omega) (by omega), f2 0 (by omega) (by omega), ← hM1, up_ne2 (by omega), up_eq]
    have M255 : M2 140 55 = k - 1 := by rw [← hM2, up_ne2 (by omega), up_ne2 (by omega)]; exact N2a
    obtain ⟨b1, b2, b3⟩ := bk2
    refine ⟨vI (k - 1), M1, M2, ?_, ?_, ⟨?_, ?_, ?_, ?_, ?_, ?_, ?_, ?_, ?_, ?_⟩, ?_⟩
    · rw [E_221 k0]
      simp (disch := first | assumption | decide | omega | (simp only [List.length_cons, List.length_nil] <;> omega)) only [lgt_0, lgt_s, lset_0, lset_s, lst1_0, lst1_s, lst2_0, lst2_s, ev_iconst, ev_lconst, ev_ldc, ev_null, ev_iload, ev_lload, ev_aload, ev_istore, ev_lstore, ev_astore, ev_iinc, ev_iadd, ev_isub, ev_imul, ev_iand, ev_ior, ev_ishl, ev_ishr, ev_idiv, ev_irem, ev_ineg, ev_ladd, ev_lsub, ev_lmul, ev_land, ev_lor, ev_ldiv, ev_lrem, ev_lshl, ev_i2l, ev_l2i, ev_i2b, ev_i2s, ev_lcmp, ev_dupI, ev_dupR, ev_dup2, ev_popI, ev_popR, ev_alen, ev_xlen, ev_xald, ev_iald, ev_lald, ev_bald, ev_zald, ev_aald, ev_iast, ev_last, ev_bast, ev_zast, ev_aast, ev_gfI, ev_gfL, ev_gfR, ev_pfI, ev_pfZ, ev_pfL, ev_pfR, ev_new, ev_newa, ev_newq, ev_copy, ev_slen, ev_schr, ev_obj, ev_mmin, ev_mabs, ev_mmax, ev_goto, ev_jsr, ev_icmp_eq, ev_if_eq, ev_icmp_ne, ev_if_ne, ev_icmp_lt, ev_if_lt, ev_icmp_ge, ev_if_ge, ev_icmp_gt, ev_if_gt, ev_icmp_le, ev_if_le, ev_ifnull0, ev_ifnull1, ev_ifnn0, ev_ifnn1, ev_tsw, ev_lsw, ev_iret, ev_zret, ev_lret, ev_aret, ev_ret, ev_call0, ev_call1, ev_call2, ev_call3, ev_call4, ev_call5, ev_call6, Option.toList_some, Option.toList_none, List.cons_append, List.nil_append, List.length_cons, List.length_nil, Nat.reduceMod, Nat.reduceDiv, Nat.reduceLeDiff, nc, ↓reduceIte, Nat.zero_le, reduceCtorEq, w32_id, Int.reduceEq, Int.reduceNe, Int.reduceLT, Int.reduceLE, Int.reduceGT, Int.reduceGE, Int.reduceAdd, Int.reduceSub, Int.reduceMul, Int.reduceNeg, ne_eq, not_true_eq_false, not_false_eq_true, eq_self, ↓if_pos, ↓if_neg, w0_r0_3, w0_r0_4, w0_r0_5, w0_r0_6, w0_r0_7, w0_r0_8, w0_r0_10, w0_r0_11, w0_r0_12, w0_r0_13, w0_r0_14, w0_r0_15, w0_r0_16, w0_r0_17, w0_r0_18, J_221_0, k_221_0, J_221_22, k_221_22, hk, e220, r0, r1, r2, e1, e2, e3, ef, c0, d9, s_answer, hM1]
    · have nk : ¬ k = 0 := by omega
      rw [E_364 mk0]
      simp (disch := first | assumption | decide | omega | (simp only [List.length_cons, List.length_nil] <;> omega)) only [lgt_0, lgt_s, lset_0, lset_s, lst1_0, lst1_s, lst2_0, lst2_s, ev_iconst, ev_lconst, ev_ldc, ev_null, ev_iload, ev_lload, ev_aload, ev_istore, ev_lstore, ev_astore, ev_iinc, ev_iadd, ev_isub, ev_imul, ev_iand, ev_ior, ev_ishl, ev_ishr, ev_idiv, ev_irem, ev_ineg, ev_ladd, ev_lsub, ev_lmul, ev_land, ev_lor, ev_ldiv, ev_lrem, ev_lshl, ev_i2l, ev_l2i, ev_i2b, ev_i2s, ev_lcmp, ev_dupI, ev_dupR, ev_dup2, ev_popI, ev_popR, ev_alen, ev_xlen, ev_xald, ev_iald, ev_lald, ev_bald, ev_zald, ev_aald, ev_iast, ev_last, ev_bast, ev_zast, ev_aast, ev_gfI, ev_gfL, ev_gfR, ev_pfI, ev_pfZ, ev_pfL, ev_pfR, ev_new, ev_newa, ev_newq, ev_copy, ev_slen, ev_schr, ev_obj, ev_mmin, ev_mabs, ev_mmax, ev_goto, ev_jsr, ev_icmp_eq, ev_if_eq, ev_icmp_ne, ev_if_ne, ev_icmp_lt, ev_if_lt, ev_icmp_ge, ev_if_ge, ev_icmp_gt, ev_if_gt, ev_icmp_le, ev_if_le, ev_ifnull0, ev_ifnull1, ev_ifnn0, ev_ifnn1, ev_tsw, ev_lsw, ev_iret, ev_zret, ev_lret, ev_aret, ev_ret, ev_call0, ev_call1, ev_call2, ev_call3, ev_call4, ev_call5, ev_call6, Option.toList_some, Option.toList_none, List.cons_append, List.nil_append, List.length_cons, List.length_nil, Nat.reduceMod, Nat.reduceDiv, Nat.reduceLeDiff, nc, ↓reduceIte, Nat.zero_le, reduceCtorEq, w32_id, Int.reduceEq, Int.reduceNe, Int.reduceLT, Int.reduceLE, Int.reduceGT, Int.reduceGE, Int.reduceAdd, Int.reduceSub, Int.reduceMul, Int.reduceNeg, ne_eq, not_true_eq_false, not_false_eq_true, eq_self, ↓if_pos, ↓if_neg, J_364_0, k_364_0, J_364_14, k_364_14, h55, nk, e4, N55, g55, e5, N2a, g21, m_gives hmd, hM2]
    · exact RTb_c (z0 1 (by omega) (by omega)) (z0 2 (by omega) (by omega)) (z2 3 (by omega) (by omega) (by omega)) (z2 4 (by omega) (by omega) (by omega)) h.1
    · exact RTr_c (fun b hb => z1 b (by omega) (by omega) (by omega) (by omega) (by omega) (by omega) (by omega)) h.2.1
    · exact RTp_c (fun b hb => z1 b (by omega) (by omega) (by omega) (by omega) (by omega) (by omega) (by omega)) (fun i hi => z2 i (by omega) (by omega) (by omega)) h.2.2.1
    · unfold RC
      rw [M141, M142, eA, nA_mv zm]
      exact RC1_c (fun b x y => zc b (by omega) (by omega)) b1
    · unfold RN
      rw [M141]
      intro i i0 i1
      have hx : xn (cA (N (140 + 1)) 0) = xn (N (140 + 1)) := by
        show cA (N (140 + 1)) 0 0 * cA (N (140 + 1)) 0 1 = N (140 + 1) 0 * N (140 + 1) 1
        rw [cA_0 (by omega) (by omega), cA_0 (by omega) (by omega)]
      have i1' : i < xn (N (140 + 1)) := by rw [← hx]; exact i1
      have hw := xn_pos gN.1 (show 0 < xn (cA (N (140 + 1)) 0) from by rw [hx]; omega)
      have p := plF_rng (A := cA (N (140 + 1)) 0) i0 i1 hw
      have n48 : xn (cA (N (140 + 1)) 0) ≤ 48 := gN.2.1.2
      have p2 : plF (cA (N (140 + 1)) 0) i < 48 := Int.lt_of_lt_of_le p.2.1 n48
      have ep : plF (N (140 + 1)) i = plF (cA (N (140 + 1)) 0) i := by
        unfold plF
        rw [cA_0 (A := N (140 + 1)) (k := 0) (by omega) (by omega), cA_0 (A := N (140 + 1)) (k := 14) (by omega) (by omega)]
      have e := i5 i i0 i1'
      rw [ep] at e
      have c9 : M2 (140 + 9) = N2 (140 + 9) := by rw [← hM2, up_ne (by omega), up_ne (by omega)]
      have c10 : M2 (140 + 10) = N2 (140 + 10) := by rw [← hM2, up_ne (by omega), up_ne (by omega)]
      rw [c9, c10]
      refine ⟨e.1, ?_⟩
      rw [e.2]
      show _ = cA (N (140 + 1)) 0 (28 + plF (cA (N (140 + 1)) 0) i)
      have p0 := p.1
      generalize plF (cA (N (140 + 1)) 0) i = pf at p0 p2 ⊢
      exact (cA_0 (by omega) (by omega)).symm
    · unfold RP
      rw [M141, eA, gA_mv zb, zc (13 + 1) (by omega) (by omega), zc (13 + 2) (by omega) (by omega)]
      exact b2
    · unfold RD
      rw [M141, eA, dA_mv zb, zc 16 (by omega) (by omega), zc 17 (by omega) (by omega), zc 18 (by omega) (by omega), zc 19 (by omega) (by omega)]
      exact b3
    · have old : ∀ b, (89 ≤ b ∧ b ≤ 139) → M2 b = M b := fun b hb => z1 b (by omega) (by omega) (by omega) (by omega) (by omega) (by omega) (by omega)
      refine ⟨by rw [M29, M255], by rw [M29]; omega, fun z => ?_, fun z => ?_, fun z => ?_⟩
      · exact RM1_c (fun b x y => old b (by omega)) ⟨old _ (by omega), old _ (by omega)⟩ ⟨old _ (by omega), old _ (by omega), old _ (by omega), old _ (by omega)⟩ (fun j _ _ => za j (by omega)) (fun j _ _ => zn j (by omega)) (rm3 (by omega))
      · exact RM1_c (fun b x y => old b (by omega)) ⟨old _ (by omega), old _ (by omega)⟩ ⟨old _ (by omega), old _ (by omega), old _ (by omega), old _ (by omega)⟩ (fun j _ _ => za j (by omega)) (fun j _ _ => zn j (by omega)) (rm4 (by omega))
      · exact RM1_c (fun b x y => old b (by omega)) ⟨old _ (by omega), old _ (by omega)⟩ ⟨old _ (by omega), old _ (by omega), old _ (by omega), old _ (by omega)⟩ (fun j _ _ => za j (by omega)) (fun j _ _ => zn j (by omega)) (rm5 (by omega))
    · obtain ⟨⟨t1, t2, t3⟩, t4, t5, t6⟩ := h.2.2.2.2.2.2.2.2.1
      have e167 : M2 167 = M 167 := z1 167 (by omega) (by omega) (by omega) (by omega) (by omega) (by omega) (by omega)
      have e54 := z2 54 (by omega) (by omega) (by omega)
      refine ⟨⟨by rw [z60 5 (by omega), e54]; exact t1, by rw [e54]; exact t2, fun z => ?_⟩, by rw [z606, z221], by rw [z221]; exact Or.inl rfl, fun z => ?_⟩
      · rw [e54] at z
        rw [z60 1 (by omega), z60 2 (by omega), z60 3 (by omega), z60 4 (by omega), e167]
        exact t3 z
      · rw [z221] at z
        exact absurd z (by omega)
    · obtain ⟨⟨t1, t2, t3⟩, t4⟩ := h.2.2.2.2.2.2.2.2.2
      have e50 : M2 50 = M 50 := z1 50 (by omega) (by omega) (by omega) (by omega) (by omega) (by omega) (by omega)
      have e160 : M2 160 = M 160 := z1 160 (by omega) (by omega) (by omega) (by omega) (by omega) (by omega) (by omega)
      have e41 := z2 41 (by omega) (by omega) (by omega)
      unfold RA
      rw [z463, z46 4 (by omega), e50, e160, e41]
      exact ⟨⟨t1, t2, t3⟩, ⟨by omega, by omega⟩, fun z => absurd z (by omega), fun j z => absurd z (by omega), fun j z => absurd z (by omega)⟩
    · rw [← hM2, up_eq, up_ne (by omega), up_ne (by omega), f5 0 (by omega) (by omega), up_ne (by omega), f2 0 (by omega) (by omega), ← hM1, up_eq]
  · have e3 : M 0 9 = 0 := by omega
    have e220 := mark_no (X := X) (M := M) (k := -1) (by omega)
    refine op_ro3 (v := vI (-1)) (st := 6) h ?_ ?_
    · rw [E_221 k0]
      simp (disch := first | assumption | decide | omega | (simp only [List.length_cons, List.length_nil] <;> omega)) only [lgt_0, lgt_s, lset_0, lset_s, lst1_0, lst1_s, lst2_0, lst2_s, ev_iconst, ev_lconst, ev_ldc, ev_null, ev_iload, ev_lload, ev_aload, ev_istore, ev_lstore, ev_astore, ev_iinc, ev_iadd, ev_isub, ev_imul, ev_iand, ev_ior, ev_ishl, ev_ishr, ev_idiv, ev_irem, ev_ineg, ev_ladd, ev_lsub, ev_lmul, ev_land, ev_lor, ev_ldiv, ev_lrem, ev_lshl, ev_i2l, ev_l2i, ev_i2b, ev_i2s, ev_lcmp, ev_dupI, ev_dupR, ev_dup2, ev_popI, ev_popR, ev_alen, ev_xlen, ev_xald, ev_iald, ev_lald, ev_bald, ev_zald, ev_aald, ev_iast, ev_last, ev_bast, ev_zast, ev_aast, ev_gfI, ev_gfL, ev_gfR, ev_pfI, ev_pfZ, ev_pfL, ev_pfR, ev_new, ev_newa, ev_newq, ev_copy, ev_slen, ev_schr, ev_obj, ev_mmin, ev_mabs, ev_mmax, ev_goto, ev_jsr, ev_icmp_eq, ev_if_eq, ev_icmp_ne, ev_if_ne, ev_icmp_lt, ev_if_lt, ev_icmp_ge, ev_if_ge, ev_icmp_gt, ev_if_gt, ev_icmp_le, ev_if_le, ev_ifnull0, ev_ifnull1, ev_ifnn0, ev_ifnn1, ev_tsw, ev_lsw, ev_iret, ev_zret, ev_lret, ev_aret, ev_ret, ev_call0, ev_call1, ev_call2, ev_call3, ev_call4, ev_call5, ev_call6, Option.toList_some, Option.toList_none, List.cons_append, List.nil_append, List.length_cons, List.length_nil, Nat.reduceMod, Nat.reduceDiv, Nat.reduceLeDiff, nc, ↓reduceIte, Nat.zero_le, reduceCtorEq, w32_id, Int.reduceEq, Int.reduceNe, Int.reduceLT, Int.reduceLE, Int.reduceGT, Int.reduceGE, Int.reduceAdd, Int.reduceSub, Int.reduceMul, Int.reduceNeg, ne_eq, not_true_eq_false, not_false_eq_true, eq_self, ↓if_pos, ↓if_neg, w0_r0_3, w0_r0_4, w0_r0_5, w0_r0_6, w0_r0_7, w0_r0_8, w0_r0_10, w0_r0_11, w0_r0_12, w0_r0_13, w0_r0_14, w0_r0_15, w0_r0_16, w0_r0_17, w0_r0_18, J_221_0, k_221_0, J_221_22, k_221_22, e3, e220, s_none]
    · intro M1 h1 hm
      have e1 := congrFun (hm 140 (by omega)) 55
      rw [← rm1, e3] at e1
      rw [E_364 mk0]
      simp (disch := first | assumption | decide | omega | (simp only [List.length_cons, List.length_nil] <;> omega)) only [lgt_0, lgt_s, lset_0, lset_s, lst1_0, lst1_s, lst2_0, lst2_s, ev_iconst, ev_lconst, ev_ldc, ev_null, ev_iload, ev_lload, ev_aload, ev_istore, ev_lstore, ev_astore, ev_iinc, ev_iadd, ev_isub, ev_imul, ev_iand, ev_ior, ev_ishl, ev_ishr, ev_idiv, ev_irem, ev_ineg, ev_ladd, ev_lsub, ev_lmul, ev_land, ev_lor, ev_ldiv, ev_lrem, ev_lshl, ev_i2l, ev_l2i, ev_i2b, ev_i2s, ev_lcmp, ev_dupI, ev_dupR, ev_dup2, ev_popI, ev_popR, ev_alen, ev_xlen, ev_xald, ev_iald, ev_lald, ev_bald, ev_zald, ev_aald, ev_iast, ev_last, ev_bast, ev_zast, ev_aast, ev_gfI, ev_gfL, ev_gfR, ev_pfI, ev_pfZ, ev_pfL, ev_pfR, ev_new, ev_newa, ev_newq, ev_copy, ev_slen, ev_schr, ev_obj, ev_mmin, ev_mabs, ev_mmax, ev_goto, ev_jsr, ev_icmp_eq, ev_if_eq, ev_icmp_ne, ev_if_ne, ev_icmp_lt, ev_if_lt, ev_icmp_ge, ev_if_ge, ev_icmp_gt, ev_if_gt, ev_icmp_le, ev_if_le, ev_ifnull0, ev_ifnull1, ev_ifnn0, ev_ifnn1, ev_tsw, ev_lsw, ev_iret, ev_zret, ev_lret, ev_aret, ev_ret, ev_call0, ev_call1, ev_call2, ev_call3, ev_call4, ev_call5, ev_call6, Option.toList_some, Option.toList_none, List.cons_append, List.nil_append, List.length_cons, List.length_nil, Nat.reduceMod, Nat.reduceDiv, Nat.reduceLeDiff, nc, ↓reduceIte, Nat.zero_le, reduceCtorEq, w32_id, Int.reduceEq, Int.reduceNe, Int.reduceLT, Int.reduceLE, Int.reduceGT, Int.reduceGE, Int.reduceAdd, Int.reduceSub, Int.reduceMul, Int.reduceNeg, ne_eq, not_true_eq_false, not_false_eq_true, eq_self, ↓if_pos, ↓if_neg, J_364_0, k_364_0, J_364_14, k_364_14, e1, m_refuse hmd]
end BCK
