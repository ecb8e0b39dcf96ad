/-! OPERATIONS: mark. -/
theorem cA_mv {A A' : Int → Int} {s s' : Int} (h : ∀ k, 0 ≤ k → k < 480 → A' (s' + k) = A (s + k)) : cA A' s' = cA A s := by
  funext k
  unfold cA
  by_cases q : 0 ≤ k ∧ k < 80
  · rw [if_pos q, if_pos q, h k q.1 (by omega)]
  · rw [if_neg q, if_neg q]
theorem gA_mv {A A' : Int → Int} {s s' : Int} (h : ∀ k, 0 ≤ k → k < 480 → A' (s' + k) = A (s + k)) : gA A' s' = gA A s := by
  funext k
  unfold gA
  by_cases q : 0 ≤ k ∧ k < 48
  · have e := h (80 + k) (by omega) (by omega)
    rw [← Int.add_assoc, ← Int.add_assoc] at e
    rw [if_pos q, if_pos q, e]
  · rw [if_neg q, if_neg q]
theorem dA_mv {A A' : Int → Int} {s s' : Int} (h : ∀ k, 0 ≤ k → k < 480 → A' (s' + k) = A (s + k)) : dA A' s' = dA A s := by
  funext k
  unfold dA
  by_cases q : k = 15 ∨ (130 ≤ k ∧ k < 480)
  · rw [if_pos q, if_pos q, h k (by omega) (by omega)]
  · rw [if_neg q, if_neg q]
theorem nA_mv {A A' : Int → Int} {s s' : Int} (h : ∀ k, 0 ≤ k → k < 5 → A' (s' + k) = A (s + k)) : nA A' s' = nA A s := by
  funext k
  unfold nA
  by_cases q : 0 ≤ k ∧ k < 5
  · rw [if_pos q, if_pos q, h k q.1 q.2]
  · rw [if_neg q, if_neg q]
theorem bl4 : BL 4 := ⟨w0_ch4, w0_pl13, di16⟩
theorem bl90 : BL 90 := ⟨w0_ch90, w0_pl99, di102⟩
theorem bl107 : BL 107 := ⟨w0_ch107, w0_pl116, di119⟩
theorem bl124 : BL 124 := ⟨w0_ch124, w0_pl133, di136⟩
section MRK
variable {X : Int → Int} {M : Mem}
def MKC (m : Nat) : Prop := knd SH0 m = 11 ∧ rfs SH0 m 0 = some (m + 1) ∧ rfs SH0 m 1 = some (m + 1 + 9) ∧ rfs SH0 m 2 = some (m + 1 + 12) ∧ BL (m + 1)
theorem mark_at {k : Int} (hk : 0 ≤ k ∧ k < 3) : ∃ m : Nat, MKC m ∧ (m : Int) = 89 + 17 * k ∧ evc X 220 [vR (some 0), vI k] SH0 M = some (some (vR (some m)), SH0, M) := by
  have k0 := w0_k0
  have k20 := w0_k20
  have l20 : len SH0 20 = 3 := rfl
  have e : k = 0 ∨ k = 1 ∨ k = 2 := by omega
  rcases e with e | e | e <;> subst e
  · refine ⟨89, ⟨rfl, rfl, rfl, rfl, bl90⟩, by omega, ?_⟩
    rw [E_220 k0]
    have r : rfs SH0 20 (0 : Int).toNat = some 89 := rfl
    have r0 : rfs SH0 0 17 = some 79 := rfl
    simp (disch := first | assumption | decide | omega | (simp only [List.length_cons, List.length_nil] <;> omega)) only [lgt_0, lgt_s, lset_0, lset_s, lst1_0, lst1_s, lst2_0, lst2_s, ev_iconst, ev_lconst, ev_ldc, ev_null, ev_iload, ev_lload, ev_aload, ev_istore, ev_lstore, ev_astore, ev_iinc, ev_iadd, ev_isub, ev_imul, ev_iand, ev_ior, ev_ishl, ev_ishr, ev_idiv, ev_irem, ev_ineg, ev_ladd, ev_lsub, ev_lmul, ev_land, ev_lor, ev_ldiv, ev_lrem, ev_lshl, ev_i2l, ev_l2i, ev_i2b, ev_i2s, ev_lcmp, ev_dupI, ev_dupR, ev_dup2, ev_popI, ev_popR, ev_alen, ev_xlen, ev_xald, ev_iald, ev_lald, ev_bald, ev_zald, ev_aald, ev_iast, ev_last, ev_bast, ev_zast, ev_aast, ev_gfI, ev_gfL, ev_gfR, ev_pfI, ev_pfZ, ev_pfL, ev_pfR, ev_new, ev_newa, ev_newq, ev_copy, ev_slen, ev_schr, ev_obj, ev_mmin, ev_mabs, ev_mmax, ev_goto, ev_jsr, ev_icmp_eq, ev_if_eq, ev_icmp_ne, ev_if_ne, ev_icmp_lt, ev_if_lt, ev_icmp_ge, ev_if_ge, ev_icmp_gt, ev_if_gt, ev_icmp_le, ev_if_le, ev_ifnull0, ev_ifnull1, ev_ifnn0, ev_ifnn1, ev_tsw, ev_lsw, ev_iret, ev_zret, ev_lret, ev_aret, ev_ret, ev_call0, ev_call1, ev_call2, ev_call3, ev_call4, ev_call5, ev_call6, Option.toList_some, Option.toList_none, List.cons_append, List.nil_append, List.length_cons, List.length_nil, Nat.reduceMod, Nat.reduceDiv, Nat.reduceLeDiff, nc, ↓reduceIte, Nat.zero_le, reduceCtorEq, w32_id, Int.reduceEq, Int.reduceNe, Int.reduceLT, Int.reduceLE, Int.reduceGT, Int.reduceGE, Int.reduceAdd, Int.reduceSub, Int.reduceMul, Int.reduceNeg, ne_eq, not_true_eq_false, not_false_eq_true, eq_self, ↓if_pos, ↓if_neg, w0_r0_3, w0_r0_4, w0_r0_5, w0_r0_6, w0_r0_7, w0_r0_8, w0_r0_10, w0_r0_11, w0_r0_12, w0_r0_13, w0_r0_14, w0_r0_15, w0_r0_16, w0_r0_17, w0_r0_18, J_220_0, k_220_0, J_220_9, k_220_9, J_220_13, k_220_13, J_220_19, k_220_19, r, Int.toNat_zero, w0_r20_0]
  · refine ⟨106, ⟨rfl, rfl, rfl, rfl, bl107⟩, by omega, ?_⟩
    rw [E_220 k0]
    have r : rfs SH0 20 (1 : Int).toNat = some 106 := rfl
    simp (disch := first | assumption | decide | omega | (simp only [List.length_cons, List.length_nil] <;> omega)) only [lgt_0, lgt_s, lset_0, lset_s, lst1_0, lst1_s, lst2_0, lst2_s, ev_iconst, ev_lconst, ev_ldc, ev_null, ev_iload, ev_lload, ev_aload, ev_istore, ev_lstore, ev_astore, ev_iinc, ev_iadd, ev_isub, ev_imul, ev_iand, ev_ior, ev_ishl, ev_ishr, ev_idiv, ev_irem, ev_ineg, ev_ladd, ev_lsub, ev_lmul, ev_land, ev_lor, ev_ldiv, ev_lrem, ev_lshl, ev_i2l, ev_l2i, ev_i2b, ev_i2s, ev_lcmp, ev_dupI, ev_dupR, ev_dup2, ev_popI, ev_popR, ev_alen, ev_xlen, ev_xald, ev_iald, ev_lald, ev_bald, ev_zald, ev_aald, ev_iast, ev_last, ev_bast, ev_zast, ev_aast, ev_gfI, ev_gfL, ev_gfR, ev_pfI, ev_pfZ, ev_pfL, ev_pfR, ev_new, ev_newa, ev_newq, ev_copy, ev_slen, ev_schr, ev_obj, ev_mmin, ev_mabs, ev_mmax, ev_goto, ev_jsr, ev_icmp_eq, ev_if_eq, ev_icmp_ne, ev_if_ne, ev_icmp_lt, ev_if_lt, ev_icmp_ge, ev_if_ge, ev_icmp_gt, ev_if_gt, ev_icmp_le, ev_if_le, ev_ifnull0, ev_ifnull1, ev_ifnn0, ev_ifnn1, ev_tsw, ev_lsw, ev_iret, ev_zret, ev_lret, ev_aret, ev_ret, ev_call0, ev_call1, ev_call2, ev_call3, ev_call4, ev_call5, ev_call6, Option.toList_some, Option.toList_none, List.cons_append, List.nil_append, List.length_cons, List.length_nil, Nat.reduceMod, Nat.reduceDiv, Nat.reduceLeDiff, nc, ↓reduceIte, Nat.zero_le, reduceCtorEq, w32_id, Int.reduceEq, Int.reduceNe, Int.reduceLT, Int.reduceLE, Int.reduceGT, Int.reduceGE, Int.reduceAdd, Int.reduceSub, Int.reduceMul, Int.reduceNeg, ne_eq, not_true_eq_false, not_false_eq_true, eq_self, ↓if_pos, ↓if_neg, w0_r0_3, w0_r0_4, w0_r0_5, w0_r0_6, w0_r0_7, w0_r0_8, w0_r0_10, w0_r0_11, w0_r0_12, w0_r0_13, w0_r0_14, w0_r0_15, w0_r0_16, w0_r0_17, w0_r0_18, J_220_0, k_220_0, J_220_9, k_220_9, J_220_13, k_220_13, J_220_19, k_220_19, r]
  · refine ⟨123, ⟨rfl, rfl, rfl, rfl, bl124⟩, by omega, ?_⟩
    rw [E_220 k0]
    have r : rfs SH0 20 (2 : Int).toNat = some 123 := rfl
    simp (disch := first | assumption | decide | omega | (simp only [List.length_cons, List.length_nil] <;> omega)) only [lgt_0, lgt_s, lset_0, lset_s, lst1_0, lst1_s, lst2_0, lst2_s, ev_iconst, ev_lconst, ev_ldc, ev_null, ev_iload, ev_lload, ev_aload, ev_istore, ev_lstore, ev_astore, ev_iinc, ev_iadd, ev_isub, ev_imul, ev_iand, ev_ior, ev_ishl, ev_ishr, ev_idiv, ev_irem, ev_ineg, ev_ladd, ev_lsub, ev_lmul, ev_land, ev_lor, ev_ldiv, ev_lrem, ev_lshl, ev_i2l, ev_l2i, ev_i2b, ev_i2s, ev_lcmp, ev_dupI, ev_dupR, ev_dup2, ev_popI, ev_popR, ev_alen, ev_xlen, ev_xald, ev_iald, ev_lald, ev_bald, ev_zald, ev_aald, ev_iast, ev_last, ev_bast, ev_zast, ev_aast, ev_gfI, ev_gfL, ev_gfR, ev_pfI, ev_pfZ, ev_pfL, ev_pfR, ev_new, ev_newa, ev_newq, ev_copy, ev_slen, ev_schr, ev_obj, ev_mmin, ev_mabs, ev_mmax, ev_goto, ev_jsr, ev_icmp_eq, ev_if_eq, ev_icmp_ne, ev_if_ne, ev_icmp_lt, ev_if_lt, ev_icmp_ge, ev_if_ge, ev_icmp_gt, ev_if_gt, ev_icmp_le, ev_if_le, ev_ifnull0, ev_ifnull1, ev_ifnn0, ev_ifnn1, ev_tsw, ev_lsw, ev_iret, ev_zret, ev_lret, ev_aret, ev_ret, ev_call0, ev_call1, ev_call2, ev_call3, ev_call4, ev_call5, ev_call6, Option.toList_some, Option.toList_none, List.cons_append, List.nil_append, List.length_cons, List.length_nil, Nat.reduceMod, Nat.reduceDiv, Nat.reduceLeDiff, nc, ↓reduceIte, Nat.zero_le, reduceCtorEq, w32_id, Int.reduceEq, Int.reduceNe, Int.reduceLT, Int.reduceLE, Int.reduceGT, Int.reduceGE, Int.reduceAdd, Int.reduceSub, Int.reduceMul, Int.reduceNeg, ne_eq, not_true_eq_false, not_false_eq_true, eq_self, ↓if_pos, ↓if_neg, w0_r0_3, w0_r0_4, w0_r0_5, w0_r0_6, w0_r0_7, w0_r0_8, w0_r0_10, w0_r0_11, w0_r0_12, w0_r0_13, w0_r0_14, w0_r0_15, w0_r0_16, w0_r0_17, w0_r0_18, J_220_0, k_220_0, J_220_9, k_220_9, J_220_13, k_220_13, J_220_19, k_220_19, r]
theorem mark_no {k : Int} (hk : ¬ (0 ≤ k ∧ k < 3)) : evc X 220 [vR (some 0), vI k] SH0 M = some (some (vR none), SH0, M) := by
  have k0 := w0_k0
  rw [E_220 k0]
  by_cases z : 0 ≤ k
  · simp (disch := first | assumption | decide | omega | (simp only [List.length_cons, List.length_nil] <;> omega)) only [lgt_0, lgt_s, lset_0, lset_s, lst1_0, lst1_s, lst2_0, lst2_s, ev_iconst, ev_lconst, ev_ldc, ev_null, ev_iload, ev_lload, ev_aload, ev_istore, ev_lstore, ev_astore, ev_iinc, ev_iadd, ev_isub, ev_imul, ev_iand, ev_ior, ev_ishl, ev_ishr, ev_idiv, ev_irem, ev_ineg, ev_ladd, ev_lsub, ev_lmul, ev_land, ev_lor, ev_ldiv, ev_lrem, ev_lshl, ev_i2l, ev_l2i, ev_i2b, ev_i2s, ev_lcmp, ev_dupI, ev_dupR, ev_dup2, ev_popI, ev_popR, ev_alen, ev_xlen, ev_xald, ev_iald, ev_lald, ev_bald, ev_zald, ev_aald, ev_iast, ev_last, ev_bast, ev_zast, ev_aast, ev_gfI, ev_gfL, ev_gfR, ev_pfI, ev_pfZ, ev_pfL, ev_pfR, ev_new, ev_newa, ev_newq, ev_copy, ev_slen, ev_schr, ev_obj, ev_mmin, ev_mabs, ev_mmax, ev_goto, ev_jsr, ev_icmp_eq, ev_if_eq, ev_icmp_ne, ev_if_ne, ev_icmp_lt, ev_if_lt, ev_icmp_ge, ev_if_ge, ev_icmp_gt, ev_if_gt, ev_icmp_le, ev_if_le, ev_ifnull0, ev_ifnull1, ev_ifnn0, ev_ifnn1, ev_tsw, ev_lsw, ev_iret, ev_zret, ev_lret, ev_aret, ev_ret, ev_call0, ev_call1, ev_call2, ev_call3, ev_call4, ev_call5, ev_call6, Option.toList_some, Option.toList_none, List.cons_append, List.nil_append, List.length_cons, List.length_nil, Nat.reduceMod, Nat.reduceDiv, Nat.reduceLeDiff, nc, ↓reduceIte, Nat.zero_le, reduceCtorEq, w32_id, Int.reduceEq, Int.reduceNe, Int.reduceLT, Int.reduceLE, Int.reduceGT, Int.reduceGE, Int.reduceAdd, Int.reduceSub, Int.reduceMul, Int.reduceNeg, ne_eq, not_true_eq_false, not_false_eq_true, eq_self, ↓if_pos, ↓if_neg, w0_r0_3, w0_r0_4, w0_r0_5, w0_r0_6, w0_r0_7, w0_r0_8, w0_r0_10, w0_r0_11, w0_r0_12, w0_r0_13, w0_r0_14, w0_r0_15, w0_r0_16, w0_r0_17, w0_r0_18, J_220_0, k_220_0, J_220_9, k_220_9, J_220_13, k_220_13, J_220_19, k_220_19, ]
  · simp (disch := first | assumption | decide | omega | (simp only [List.length_cons, List.length_nil] <;> omega)) only [lgt_0, lgt_s, lset_0, lset_s, lst1_0, lst1_s, lst2_0, lst2_s, ev_iconst, ev_lconst, ev_ldc, ev_null, ev_iload, ev_lload, ev_aload, ev_istore, ev_lstore, ev_astore, ev_iinc, ev_iadd, ev_isub, ev_imul, ev_iand, ev_ior, ev_ishl, ev_ishr, ev_idiv, ev_irem, ev_ineg, ev_ladd, ev_lsub, ev_lmul, ev_land, ev_lor, ev_ldiv, ev_lrem, ev_lshl, ev_i2l, ev_l2i, ev_i2b, ev_i2s, ev_lcmp, ev_dupI, ev_dupR, ev_dup2, ev_popI, ev_popR, ev_alen, ev_xlen, ev_xald, ev_iald, ev_lald, ev_bald, ev_zald, ev_aald, ev_iast, ev_last, ev_bast, ev_zast, ev_aast, ev_gfI, ev_gfL, ev_gfR, ev_pfI, ev_pfZ, ev_pfL, ev_pfR, ev_new, ev_newa, ev_newq, ev_copy, ev_slen, ev_schr, ev_obj, ev_mmin, ev_mabs, ev_mmax, ev_goto, ev_jsr, ev_icmp_eq, ev_if_eq, ev_icmp_ne, ev_if_ne, ev_icmp_lt, ev_if_lt, ev_icmp_ge, ev_if_ge, ev_icmp_gt, ev_if_gt, ev_icmp_le, ev_if_le, ev_ifnull0, ev_ifnull1, ev_ifnn0, ev_ifnn1, ev_tsw, ev_lsw, ev_iret, ev_zret, ev_lret, ev_aret, ev_ret, ev_call0, ev_call1, ev_call2, ev_call3, ev_call4, ev_call5, ev_call6, Option.toList_some, Option.toList_none, List.cons_append, List.nil_append, List.length_cons, List.length_nil, Nat.reduceMod, Nat.reduceDiv, Nat.reduceLeDiff, nc, ↓reduceIte, Nat.zero_le, reduceCtorEq, w32_id, Int.reduceEq, Int.reduceNe, Int.reduceLT, Int.reduceLE, Int.reduceGT, Int.reduceGE, Int.reduceAdd, Int.reduceSub, Int.reduceMul, Int.reduceNeg, ne_eq, not_true_eq_false, not_false_eq_true, eq_self, ↓if_pos, ↓if_neg, w0_r0_3, w0_r0_4, w0_r0_5, w0_r0_6, w0_r0_7, w0_r0_8, w0_r0_10, w0_r0_11, w0_r0_12, w0_r0_13, w0_r0_14, w0_r0_15, w0_r0_16, w0_r0_17, w0_r0_18, J_220_0, k_220_0, J_220_9, k_220_9, J_220_13, k_220_13, J_220_19, k_220_19, ]
theorem op_mark (h : RR' M) : OP X 219 [] 362 [] M := by
  have k0 := w0_k0; have hc4 := w0_ch4; have hmd := w0_md140; have mk0 := hmd.1; have hc4' := w0_ch4; obtain ⟨ck0, cr0, cr1, cr2, cr3, cr4, cr5, cr6, cr7, ck1, ck2, ck3, ck4, ck5, ck6, ck7, ck8, cl1, cl2, cl3, cl4, cl5, cl6, cl7, cl8⟩ := hc4'
  have rm := h.2.2.2.2.2.2.2.1
  obtain ⟨rm1, rm2, rm3, rm4, rm5⟩ := rm
  by_cases q : M 0 9 < 3
  · obtain ⟨m, ⟨km, r0, r1, r2, bl⟩, hm, e220⟩ := mark_at (X := X) (M := M) (k := M 0 9) ⟨rm2.1, q⟩
    generalize hk : M 0 9 = k at *
    have bk : BK M 4 (cA (M (140 + 1)) 0) (nA (M (140 + 2)) 0) (gA (M (140 + 1)) 0) (dA (M (140 + 1)) 0) := ⟨h.2.2.2.1, h.2.2.2.2.2.1, h.2.2.2.2.2.2.1⟩
    obtain ⟨Ma, Mb, Mc, e1, e2, e3, fr, bk2⟩ := bl_copy (X := X) bl4 bl (by omega) bk
    have c0 : Mc 0 9 = k := by rw [fr 0 (by omega)]; exact hk
    generalize hM1 : up (up Mc 0 9 (k + 1)) 0 0 0 = M1
    have d9 : up Mc 0 9 (k + 1) 0 9 = k + 1 := up_eq
    have m1 : ∀ b, 0 < b → (b < 89 ∨ 139 < b) → M1 b = M b := fun b b0 b1 => by rw [← hM1, up_ne (by omega), up_ne (by omega), fr b (by omega)]
    have h55 : M1 140 55 = k := by rw [m1 140 (by omega) (by omega)]; exact rm1.symm
    have g55 : up M1 140 55 (k + 1) 140 55 = k + 1 := up_eq
    obtain ⟨N, f2, a1, a2, n1, n2, e4⟩ := m_copies (X := X) (M := up M1 140 55 (k + 1)) (a := 0) (b := k + 1) (by omega) (by omega) (by omega)
    have N55 : N 140 55 = k + 1 := by rw [f2 140 (by omega) (by omega)]; exact up_eq
    generalize hM2 : up N 140 2 0 = M2
    have z0 : ∀ i, i ≠ 0 → i ≠ 9 → M2 0 i = M 0 i := fun i i0 i1 => by rw [← hM2, up_ne (by omega), f2 0 (by omega) (by omega), up_ne (by omega), ← hM1, up_ne2 i0, up_ne2 i1, fr 0 (by omega)]
    have z1 : ∀ b, 0 < b → (b < 89 ∨ 142 < b) → M2 b = M b := fun b b0 b1 => by rw [← hM2, up_ne (by omega), f2 b (by omega) (by omega), up_ne (by omega), m1 b b0 (by omega)]
    have z1' : ∀ b, 89 ≤ b → b ≤ 139 → M2 b = Mc b := fun b b0 b1 => by rw [← hM2, up_ne (by omega), f2 b (by omega) (by omega), up_ne (by omega), ← hM1, up_ne (by omega), up_ne (by omega)]
    have z2 : ∀ i, i ≠ 2 → i ≠ 55 → M2 140 i = M 140 i := fun i i0 i1 => by rw [← hM2, up_ne2 i0, f2 140 (by omega) (by omega), up_ne2 i1, m1 140 (by omega) (by omega)]
    have za : ∀ j, (j < 480 * (k + 1) ∨ 480 * (k + 1) + 480 ≤ j) → M2 (140 + 1) j = M (140 + 1) j := fun j hj => by rw [← hM2, up_ne (by omega), a1 j hj, up_ne (by omega), m1 (140 + 1) (by omega) (by omega)]
    have zb : ∀ j, 0 ≤ j → j < 480 → M2 (140 + 1) (480 * (k + 1) + j) = M (140 + 1) (0 + j) := fun j j0 j1 => by rw [← hM2, up_ne (by omega), a2 j j0 j1, up_ne (by omega), m1 (140 + 1) (by omega) (by omega)]; rfl
    have zn : ∀ j, (j < 5 * (k + 1) ∨ 5 * (k + 1) + 5 ≤ j) → M2 (140 + 2) j = M (140 + 2) j := fun j hj => by rw [← hM2, up_ne (by omega), n1 j hj, up_ne (by omega), m1 (140 + 2) (by omega) (by omega)]
    have zm : ∀ j, 0 ≤ j → j < 5 → M2 (140 + 2) (5 * (k + 1) + j) = M (140 + 2) (0 + j) := fun j j0 j1 => by rw [← hM2, up_ne (by omega), n2 j j0 j1, up_ne (by omega), m1 (140 + 2) (by omega) (by omega)]; rfl
    have new : RM1 M2 (m + 1) (m + 1 + 9) (m + 1 + 12) (480 * (k + 1)) (5 * (k + 1)) := by
      unfold RM1
      rw [cA_mv zb, gA_mv zb, dA_mv zb, nA_mv zm]
      obtain ⟨b1, b2, b3⟩ := bk2
      refine ⟨RC1_c (fun b x y => z1' b (by omega) (by omega)) b1, ?_, ?_⟩
      · rw [z1' (m + 1 + 9 + 1) (by omega) (by omega), z1' (m + 1 + 9 + 2) (by omega) (by omega)]
        exact b2
      · rw [z1' (m + 1 + 12) (by omega) (by omega), z1' (m + 1 + 12 + 1) (by omega) (by omega), z1' (m + 1 + 12 + 2) (by omega) (by omega), z1' (m + 1 + 12 + 3) (by omega) (by omega)]
        exact b3
    have old : ∀ b, (89 ≤ b ∧ b ≤ 139) → (b < m + 1 ∨ m + 16 < b) → M2 b = M b := fun b b0 b1 => by rw [z1' b b0.1 b0.2, fr b (by omega)]
    have M29 : M2 0 9 = k + 1 := by rw [← hM2, up_ne (by omega), f2 0 (by omega) (by omega), up_ne (by omega), ← hM1, up_ne2 (by omega), up_eq]
    have M255 : M2 140 55 = k + 1 := by rw [← hM2, up_ne2 (by omega)]; exact N55
    refine ⟨vI (k + 1), M1, M2, ?_, ?_, ⟨?_, ?_, ?_, ?_, ?_, ?_, ?_, ?_, ?_, ?_⟩, ?_⟩
    · rw [E_219 k0]
      simp (disch := first | assumption | decide | omega | (simp only [List.length_cons, List.length_nil] <;> omega)) only [lgt_0, lgt_s, lset_0, lset_s, lst1_0, lst1_s, lst2_0, lst2_s, ev_iconst, ev_lconst, ev_ldc, ev_null, ev_iload, ev_lload, ev_aload, ev_istore, ev_lstore, ev_astore, ev_iinc, ev_iadd, ev_isub, ev_imul, ev_iand, ev_ior, ev_ishl, ev_ishr, ev_idiv, ev_irem, ev_ineg, ev_ladd, ev_lsub, ev_lmul, ev_land, ev_lor, ev_ldiv, ev_lrem, ev_lshl, ev_i2l, ev_l2i, ev_i2b, ev_i2s, ev_lcmp, ev_dupI, ev_dupR, ev_dup2, ev_popI, ev_popR, ev_alen, ev_xlen, ev_xald, ev_iald, ev_lald, ev_bald, ev_zald, ev_aald, ev_iast, ev_last, ev_bast, ev_zast, ev_aast, ev_gfI, ev_gfL, ev_gfR, ev_pfI, ev_pfZ, ev_pfL, ev_pfR, ev_new, ev_newa, ev_newq, ev_copy, ev_slen, ev_schr, ev_obj, ev_mmin, ev_mabs, ev_mmax, ev_goto, ev_jsr, ev_icmp_eq, ev_if_eq, ev_icmp_ne, ev_if_ne, ev_icmp_lt, ev_if_lt, ev_icmp_ge, ev_if_ge, ev_icmp_gt, ev_if_gt, ev_icmp_le, ev_if_le, ev_ifnull0, ev_ifnull1, ev_ifnn0, ev_ifnn1, ev_tsw, ev_lsw, ev_iret, ev_zret, ev_lret, ev_aret, ev_ret, ev_call0, ev_call1, ev_call2, ev_call3, ev_call4, ev_call5, ev_call6, Option.toList_some, Option.toList_none, List.cons_append, List.nil_append, List.length_cons, List.length_nil, Nat.reduceMod, Nat.reduceDiv, Nat.reduceLeDiff, nc, ↓reduceIte, Nat.zero_le, reduceCtorEq, w32_id, Int.reduceEq, Int.reduceNe, Int.reduceLT, Int.reduceLE, Int.reduceGT, Int.reduceGE, Int.reduceAdd, Int.reduceSub, Int.reduceMul, Int.reduceNeg, ne_eq, not_true_eq_false, not_false_eq_true, eq_self, ↓if_pos, ↓if_neg, w0_r0_3, w0_r0_4, w0_r0_5, w0_r0_6, w0_r0_7, w0_r0_8, w0_r0_10, w0_r0_11, w0_r0_12, w0_r0_13, w0_r0_14, w0_r0_15, w0_r0_16, w0_r0_17, w0_r0_18, J_219_0, k_219_0, J_219_19, k_219_19, hk, e220, r0, r1, r2, e1, e2, e3, c0, d9, s_answer, hM1]
    · rw [E_362 mk0]
      simp (disch := first | assumption | decide | omega | (simp only [List.length_cons, List.length_nil] <;> omega)) only [lgt_0, lgt_s, lset_0, lset_s, lst1_0, lst1_s, lst2_0, lst2_s, ev_iconst, ev_lconst, ev_ldc, ev_null, ev_iload, ev_lload, ev_aload, ev_istore, ev_lstore, ev_astore, ev_iinc, ev_iadd, ev_isub, ev_imul, ev_iand, ev_ior, ev_ishl, ev_ishr, ev_idiv, ev_irem, ev_ineg, ev_ladd, ev_lsub, ev_lmul, ev_land, ev_lor, ev_ldiv, ev_lrem, ev_lshl, ev_i2l, ev_l2i, ev_i2b, ev_i2s, ev_lcmp, ev_dupI, ev_dupR, ev_dup2, ev_popI, ev_popR, ev_alen, ev_xlen, ev_xald, ev_iald, ev_lald, ev_bald, ev_zald, ev_aald, ev_iast, ev_last, ev_bast, ev_zast, ev_aast, ev_gfI, ev_gfL, ev_gfR, ev_pfI, ev_pfZ, ev_pfL, ev_pfR, ev_new, ev_newa, ev_newq, ev_copy, ev_slen, ev_schr, ev_obj, ev_mmin, ev_mabs, ev_mmax, ev_goto, ev_jsr, ev_icmp_eq, ev_if_eq, ev_icmp_ne, ev_if_ne, ev_icmp_lt, ev_if_lt, ev_icmp_ge, ev_if_ge, ev_icmp_gt, ev_if_gt, ev_icmp_le, ev_if_le, ev_ifnull0, ev_ifnull1, ev_ifnn0, ev_ifnn1, ev_tsw, ev_lsw, ev_iret, ev_zret, ev_lret, ev_aret, ev_ret, ev_call0, ev_call1, ev_call2, ev_call3, ev_call4, ev_call5, ev_call6, Option.toList_some, Option.toList_none, List.cons_append, List.nil_append, List.length_cons, List.length_nil, Nat.reduceMod, Nat.reduceDiv, Nat.reduceLeDiff, nc, ↓reduceIte, Nat.zero_le, reduceCtorEq, w32_id, Int.reduceEq, Int.reduceNe, Int.reduceLT, Int.reduceLE, Int.reduceGT, Int.reduceGE, Int.reduceAdd, Int.reduceSub, Int.reduceMul, Int.reduceNeg, ne_eq, not_true_eq_false, not_false_eq_true, eq_self, ↓if_pos, ↓if_neg, J_362_0, k_362_0, J_362_14, k_362_14, h55, g55, e4, N55, m_gives hmd, hM2]
    · exact RTb_c (z0 1 (by omega) (by omega)) (z0 2 (by omega) (by omega)) (z2 3 (by omega) (by omega)) (z2 4 (by omega) (by omega)) h.1
    · exact RTr_c (fun b hb => z1 b (by omega) (by omega)) h.2.1
    · exact RTp_c (fun b hb => z1 b (by omega) (by omega)) (fun i hi => z2 i (by omega) (by omega)) h.2.2.1
    · exact RC_c (fun b hb => z1 b (by omega) (by omega)) (fun j _ _ => za j (by omega)) (fun j _ _ => zn j (by omega)) h.2.2.2.1
    · exact RN_c (fun b hb => z1 b (by omega) (by omega)) (fun j _ _ => za j (by omega)) h.2.2.2.2.1
    · exact RP_c (fun b hb => z1 b (by omega) (by omega)) (fun j _ _ => za j (by omega)) h.2.2.2.2.2.1
    · exact RD_c (fun b hb => z1 b (by omega) (by omega)) (fun j _ _ _ => za j (by omega)) h.2.2.2.2.2.2.1
    · refine ⟨by rw [M29, M255], by rw [M29]; omega, fun _ => ?_, fun z => ?_, fun z => ?_⟩
      · by_cases y : k = 0
        · subst y
          have em : m = 89 := by omega
          subst em
          exact new
        · exact RM1_c (fun b x y => old b (by omega) (by omega)) ⟨old _ (by omega) (by omega), old _ (by omega) (by omega)⟩ ⟨old _ (by omega) (by omega), old _ (by omega) (by omega), old _ (by omega) (by omega), old _ (by omega) (by omega)⟩ (fun j _ _ => za j (by omega)) (fun j _ _ => zn j (by omega)) (rm3 (by omega))
      · rw [M29] at z
        by_cases y : k = 1
        · subst y
          have em : m = 106 := by omega
          subst em
          exact new
        · exact RM1_c (fun b x y => old b (by omega) (by omega)) ⟨old _ (by omega) (by omega), old _ (by omega) (by omega)⟩ ⟨old _ (by omega) (by omega), old _ (by omega) (by omega), old _ (by omega) (by omega), old _ (by omega) (by omega)⟩ (fun j _ _ => za j (by omega)) (fun j _ _ => zn j (by omega)) (rm4 (by omega))
      · rw [M29] at z
        have y : k = 2 := by omega
        subst y
        have em : m = 123 := by omega
        subst em
        exact new
    · exact RF_c (fun b hb => z1 b (by omega) (by omega)) (z2 54 (by omega) (by omega)) (z2 21 (by omega) (by omega)) (fun j _ _ => za j (by omega)) h.2.2.2.2.2.2.2.2.1
    · exact RA_c (fun b hb => z1 b (by omega) (by omega)) (z2 41 (by omega) (by omega)) (fun j _ _ => za j (by omega)) h.2.2.2.2.2.2.2.2.2
    · rw [← hM2, up_eq, up_ne (by omega), f2 0 (by omega) (by omega), up_ne (by omega), ← hM1, up_eq]
  · have e3 : M 0 9 = 3 := by omega
    have e220 := mark_no (X := X) (M := M) (k := 3) (by omega)
    refine op_ro3 (v := vI (-1)) (st := 4) h ?_ ?_
    · rw [E_219 k0]
      simp (disch := first | assumption | decide | omega | (simp only [List.length_cons, List.length_nil] <;> omega)) only [lgt_0, lgt_s, lset_0, lset_s, lst1_0, lst1_s, lst2_0, lst2_s, ev_iconst, ev_lconst, ev_ldc, ev_null, ev_iload, ev_lload, ev_aload, ev_istore, ev_lstore, ev_astore, ev_iinc, ev_iadd, ev_isub, ev_imul, ev_iand, ev_ior, ev_ishl, ev_ishr, ev_idiv, ev_irem, ev_ineg, ev_ladd, ev_lsub, ev_lmul, ev_land, ev_lor, ev_ldiv, ev_lrem, ev_lshl, ev_i2l, ev_l2i, ev_i2b, ev_i2s, ev_lcmp, ev_dupI, ev_dupR, ev_dup2, ev_popI, ev_popR, ev_alen, ev_xlen, ev_xald, ev_iald, ev_lald, ev_bald, ev_zald, ev_aald, ev_iast, ev_last, ev_bast, ev_zast, ev_aast, ev_gfI, ev_gfL, ev_gfR, ev_pfI, ev_pfZ, ev_pfL, ev_pfR, ev_new, ev_newa, ev_newq, ev_copy, ev_slen, ev_schr, ev_obj, ev_mmin, ev_mabs, ev_mmax, ev_goto, ev_jsr, ev_icmp_eq, ev_if_eq, ev_icmp_ne, ev_if_ne, ev_icmp_lt, ev_if_lt, ev_icmp_ge, ev_if_ge, ev_icmp_gt, ev_if_gt, ev_icmp_le, ev_if_le, ev_ifnull0, ev_ifnull1, ev_ifnn0, ev_ifnn1, ev_tsw, ev_lsw, ev_iret, ev_zret, ev_lret, ev_aret, ev_ret, ev_call0, ev_call1, ev_call2, ev_call3, ev_call4, ev_call5, ev_call6, Option.toList_some, Option.toList_none, List.cons_append, List.nil_append, List.length_cons, List.length_nil, Nat.reduceMod, Nat.reduceDiv, Nat.reduceLeDiff, nc, ↓reduceIte, Nat.zero_le, reduceCtorEq, w32_id, Int.reduceEq, Int.reduceNe, Int.reduceLT, Int.reduceLE, Int.reduceGT, Int.reduceGE, Int.reduceAdd, Int.reduceSub, Int.reduceMul, Int.reduceNeg, ne_eq, not_true_eq_false, not_false_eq_true, eq_self, ↓if_pos, ↓if_neg, w0_r0_3, w0_r0_4, w0_r0_5, w0_r0_6, w0_r0_7, w0_r0_8, w0_r0_10, w0_r0_11, w0_r0_12, w0_r0_13, w0_r0_14, w0_r0_15, w0_r0_16, w0_r0_17, w0_r0_18, J_219_0, k_219_0, J_219_19, k_219_19, e3, e220, s_none]
    · intro M1 h1 hm
      have e1 := congrFun (hm 140 (by omega)) 55
      rw [← rm1, e3] at e1
      rw [E_362 mk0]
      simp (disch := first | assumption | decide | omega | (simp only [List.length_cons, List.length_nil] <;> omega)) only [lgt_0, lgt_s, lset_0, lset_s, lst1_0, lst1_s, lst2_0, lst2_s, ev_iconst, ev_lconst, ev_ldc, ev_null, ev_iload, ev_lload, ev_aload, ev_istore, ev_lstore, ev_astore, ev_iinc, ev_iadd, ev_isub, ev_imul, ev_iand, ev_ior, ev_ishl, ev_ishr, ev_idiv, ev_irem, ev_ineg, ev_ladd, ev_lsub, ev_lmul, ev_land, ev_lor, ev_ldiv, ev_lrem, ev_lshl, ev_i2l, ev_l2i, ev_i2b, ev_i2s, ev_lcmp, ev_dupI, ev_dupR, ev_dup2, ev_popI, ev_popR, ev_alen, ev_xlen, ev_xald, ev_iald, ev_lald, ev_bald, ev_zald, ev_aald, ev_iast, ev_last, ev_bast, ev_zast, ev_aast, ev_gfI, ev_gfL, ev_gfR, ev_pfI, ev_pfZ, ev_pfL, ev_pfR, ev_new, ev_newa, ev_newq, ev_copy, ev_slen, ev_schr, ev_obj, ev_mmin, ev_mabs, ev_mmax, ev_goto, ev_jsr, ev_icmp_eq, ev_if_eq, ev_icmp_ne, ev_if_ne, ev_icmp_lt, ev_if_lt, ev_icmp_ge, ev_if_ge, ev_icmp_gt, ev_if_gt, ev_icmp_le, ev_if_le, ev_ifnull0, ev_ifnull1, ev_ifnn0, ev_ifnn1, ev_tsw, ev_lsw, ev_iret, ev_zret, ev_lret, ev_aret, ev_ret, ev_call0, ev_call1, ev_call2, ev_call3, ev_call4, ev_call5, ev_call6, Option.toList_some, Option.toList_none, List.cons_append, List.nil_append, List.length_cons, List.length_nil, Nat.reduceMod, Nat.reduceDiv, Nat.reduceLeDiff, nc, ↓reduceIte, Nat.zero_le, reduceCtorEq, w32_id, Int.reduceEq, Int.reduceNe, Int.reduceLT, Int.reduceLE, Int.reduceGT, Int.reduceGE, Int.reduceAdd, Int.reduceSub, Int.reduceMul, Int.reduceNeg, ne_eq, not_true_eq_false, not_false_eq_true, eq_self, ↓if_pos, ↓if_neg, J_362_0, k_362_0, J_362_14, k_362_14, e1, m_refuse hmd]
end MRK
