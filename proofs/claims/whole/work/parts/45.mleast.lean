/-! THE MODEL: gives0, the least. -/
section MLE
variable {X : Int → Int} {Sh : List SE} {M : Mem} {m : Nat}
theorem m_gives0 (h : MD Sh m) {n N : Int} {a : Int → Int → Int} (sk : SKm n N a m M) :
    ∃ v M', isAsg (fun x k => a (x + 1) (k + 1)) N.toNat n.toNat v ∧ frm (m + 13) (m + 18) M M' ∧ evc X 312 [vR (some m), vI n, vI N] Sh M = some (some (vI v), Sh, M') := by
  have hmd := h
  have hk0 := h.1; obtain ⟨r_weight, k_weight, l_weight⟩ := md_weight h; obtain ⟨r_price, k_price, l_price⟩ := md_price h; obtain ⟨r_worthOf, k_worthOf, l_worthOf⟩ := md_worthOf h; obtain ⟨r_given, k_given, l_given⟩ := md_given h
  have sk0 := sk
  obtain ⟨⟨t1, t2, t3⟩, t9, t14⟩ := sk
  rw [E_312 hk0]
  simp (disch := first | assumption | decide | omega | (simp only [List.length_cons, List.length_nil] <;> omega)) only [lgt_0, lgt_s, lset_0, lset_s, lst1_0, lst1_s, lst2_0, lst2_s, ev_iconst, ev_lconst, ev_ldc, ev_null, ev_iload, ev_lload, ev_aload, ev_istore, ev_lstore, ev_astore, ev_iinc, ev_iadd, ev_isub, ev_imul, ev_iand, ev_ior, ev_ishl, ev_ishr, ev_idiv, ev_irem, ev_ineg, ev_ladd, ev_lsub, ev_lmul, ev_land, ev_lor, ev_ldiv, ev_lrem, ev_lshl, ev_i2l, ev_l2i, ev_i2b, ev_i2s, ev_lcmp, ev_dupI, ev_dupR, ev_dup2, ev_popI, ev_popR, ev_alen, ev_xlen, ev_xald, ev_iald, ev_lald, ev_bald, ev_zald, ev_aald, ev_iast, ev_last, ev_bast, ev_zast, ev_aast, ev_gfI, ev_gfL, ev_gfR, ev_pfI, ev_pfZ, ev_pfL, ev_pfR, ev_new, ev_newa, ev_newq, ev_copy, ev_slen, ev_schr, ev_obj, ev_mmin, ev_mabs, ev_mmax, ev_goto, ev_jsr, ev_icmp_eq, ev_if_eq, ev_icmp_ne, ev_if_ne, ev_icmp_lt, ev_if_lt, ev_icmp_ge, ev_if_ge, ev_icmp_gt, ev_if_gt, ev_icmp_le, ev_if_le, ev_ifnull0, ev_ifnull1, ev_ifnn0, ev_ifnn1, ev_tsw, ev_lsw, ev_iret, ev_zret, ev_lret, ev_aret, ev_ret, ev_call0, ev_call1, ev_call2, ev_call3, ev_call4, ev_call5, ev_call6, Option.toList_some, Option.toList_none, List.cons_append, List.nil_append, List.length_cons, List.length_nil, Nat.reduceMod, Nat.reduceDiv, Nat.reduceAdd, Nat.reduceLeDiff, nc, ↓reduceIte, Nat.zero_le, reduceCtorEq, w32_id, Int.reduceEq, Int.reduceNe, Int.reduceLT, Int.reduceLE, Int.reduceGT, Int.reduceGE, Int.reduceAdd, Int.reduceSub, Int.reduceMul, Int.reduceNeg, ne_eq, not_true_eq_false, not_false_eq_true, eq_self, J_312_0, k_312_0, J_312_27, k_312_27, J_312_47, k_312_47, J_312_66, k_312_66, J_312_92, k_312_92, J_312_114, k_312_114, J_312_122, k_312_122]
  obtain ⟨ls', M1, ⟨hls, fr, i1, i2⟩, he⟩ := ev_for (X := X) (y := 312) (Sh := Sh) (fun i ls M' => ls = [some (vR (some m)), some (vI n), some (vI N), some (vI (i : Int)), none] ∧ (∀ b, b ≠ m + 14 → b ≠ m + 15 → M' b = M b) ∧ (∀ c : Int, 0 ≤ c → c < i → M' (m + 14) c = 0) ∧ (∀ c : Int, 0 ≤ c → c < i → M' (m + 15) c = 0)) J_312_2 (N + 1).toNat (fun i hi ls M' hI => by
    obtain ⟨hls, fr, i1, i2⟩ := hI
    subst hls
    have q0 : ¬ N < (i : Int) := by omega
    refine ⟨_, up (up M' (m + 14) i 0) (m + 15) i 0, ⟨rfl, fun b b0 b1 => by simp (disch := omega) only [up_ne, up_eq, up_ne2]; exact fr b b0 b1, fun c c0 c1 => ?_, fun c c0 c1 => ?_⟩, ?_⟩
    · by_cases z : c = i
      · subst z; simp (disch := omega) only [up_ne, up_eq, up_ne2]
      · simp (disch := omega) only [up_ne, up_eq, up_ne2]; exact i1 c c0 (by omega)
    · by_cases z : c = i
      · subst z; simp (disch := omega) only [up_ne, up_eq, up_ne2]
      · simp (disch := omega) only [up_ne, up_eq, up_ne2]; exact i2 c c0 (by omega)
    · simp (disch := first | assumption | decide | omega | (simp only [List.length_cons, List.length_nil] <;> omega)) only [lgt_0, lgt_s, lset_0, lset_s, lst1_0, lst1_s, lst2_0, lst2_s, ev_iconst, ev_lconst, ev_ldc, ev_null, ev_iload, ev_lload, ev_aload, ev_istore, ev_lstore, ev_astore, ev_iinc, ev_iadd, ev_isub, ev_imul, ev_iand, ev_ior, ev_ishl, ev_ishr, ev_idiv, ev_irem, ev_ineg, ev_ladd, ev_lsub, ev_lmul, ev_land, ev_lor, ev_ldiv, ev_lrem, ev_lshl, ev_i2l, ev_l2i, ev_i2b, ev_i2s, ev_lcmp, ev_dupI, ev_dupR, ev_dup2, ev_popI, ev_popR, ev_alen, ev_xlen, ev_xald, ev_iald, ev_lald, ev_bald, ev_zald, ev_aald, ev_iast, ev_last, ev_bast, ev_zast, ev_aast, ev_gfI, ev_gfL, ev_gfR, ev_pfI, ev_pfZ, ev_pfL, ev_pfR, ev_new, ev_newa, ev_newq, ev_copy, ev_slen, ev_schr, ev_obj, ev_mmin, ev_mabs, ev_mmax, ev_goto, ev_jsr, ev_icmp_eq, ev_if_eq, ev_icmp_ne, ev_if_ne, ev_icmp_lt, ev_if_lt, ev_icmp_ge, ev_if_ge, ev_icmp_gt, ev_if_gt, ev_icmp_le, ev_if_le, ev_ifnull0, ev_ifnull1, ev_ifnn0, ev_ifnn1, ev_tsw, ev_lsw, ev_iret, ev_zret, ev_lret, ev_aret, ev_ret, ev_call0, ev_call1, ev_call2, ev_call3, ev_call4, ev_call5, ev_call6, Option.toList_some, Option.toList_none, List.cons_append, List.nil_append, List.length_cons, List.length_nil, Nat.reduceMod, Nat.reduceDiv, Nat.reduceAdd, Nat.reduceLeDiff, nc, ↓reduceIte, Nat.zero_le, reduceCtorEq, w32_id, Int.reduceEq, Int.reduceNe, Int.reduceLT, Int.reduceLE, Int.reduceGT, Int.reduceGE, Int.reduceAdd, Int.reduceSub, Int.reduceMul, Int.reduceNeg, ne_eq, not_true_eq_false, not_false_eq_true, eq_self, r_worthOf, r_given, k_312_2, J_312_0, k_312_0, J_312_27, k_312_27, J_312_47, k_312_47, J_312_66, k_312_66, J_312_92, k_312_92, J_312_114, k_312_114, J_312_122, k_312_122, q0, nc_s]) [some (vR (some m)), some (vI n), some (vI N), some (vI 0), none] M ⟨rfl, fun _ _ _ => rfl, fun c c0 c1 => by omega, fun c c0 c1 => by omega⟩
  subst hls
  have e : (((N + 1).toNat : Nat) : Int) = N + 1 := by omega
  rw [e] at i1 i2 he
  rw [he]
  have q0 : N < N + 1 := by omega
  simp (disch := first | assumption | decide | omega | (simp only [List.length_cons, List.length_nil] <;> omega)) only [lgt_0, lgt_s, lset_0, lset_s, lst1_0, lst1_s, lst2_0, lst2_s, ev_iconst, ev_lconst, ev_ldc, ev_null, ev_iload, ev_lload, ev_aload, ev_istore, ev_lstore, ev_astore, ev_iinc, ev_iadd, ev_isub, ev_imul, ev_iand, ev_ior, ev_ishl, ev_ishr, ev_idiv, ev_irem, ev_ineg, ev_ladd, ev_lsub, ev_lmul, ev_land, ev_lor, ev_ldiv, ev_lrem, ev_lshl, ev_i2l, ev_l2i, ev_i2b, ev_i2s, ev_lcmp, ev_dupI, ev_dupR, ev_dup2, ev_popI, ev_popR, ev_alen, ev_xlen, ev_xald, ev_iald, ev_lald, ev_bald, ev_zald, ev_aald, ev_iast, ev_last, ev_bast, ev_zast, ev_aast, ev_gfI, ev_gfL, ev_gfR, ev_pfI, ev_pfZ, ev_pfL, ev_pfR, ev_new, ev_newa, ev_newq, ev_copy, ev_slen, ev_schr, ev_obj, ev_mmin, ev_mabs, ev_mmax, ev_goto, ev_jsr, ev_icmp_eq, ev_if_eq, ev_icmp_ne, ev_if_ne, ev_icmp_lt, ev_if_lt, ev_icmp_ge, ev_if_ge, ev_icmp_gt, ev_if_gt, ev_icmp_le, ev_if_le, ev_ifnull0, ev_ifnull1, ev_ifnn0, ev_ifnn1, ev_tsw, ev_lsw, ev_iret, ev_zret, ev_lret, ev_aret, ev_ret, ev_call0, ev_call1, ev_call2, ev_call3, ev_call4, ev_call5, ev_call6, Option.toList_some, Option.toList_none, List.cons_append, List.nil_append, List.length_cons, List.length_nil, Nat.reduceMod, Nat.reduceDiv, Nat.reduceAdd, Nat.reduceLeDiff, nc, ↓reduceIte, Nat.zero_le, reduceCtorEq, w32_id, Int.reduceEq, Int.reduceNe, Int.reduceLT, Int.reduceLE, Int.reduceGT, Int.reduceGE, Int.reduceAdd, Int.reduceSub, Int.reduceMul, Int.reduceNeg, ne_eq, not_true_eq_false, not_false_eq_true, eq_self, k_312_2, J_312_0, k_312_0, J_312_27, k_312_27, J_312_47, k_312_47, J_312_66, k_312_66, J_312_92, k_312_92, J_312_114, k_312_114, J_312_122, k_312_122, q0]
  clear he
  obtain ⟨ls', M2, ⟨hls, fr2, j1⟩, he⟩ := ev_for (X := X) (y := 312) (Sh := Sh) (fun i ls M' => ls = [some (vR (some m)), some (vI n), some (vI N), some (vI (i : Int)), none] ∧ (∀ b, b ≠ m + 13 → M' b = M1 b) ∧ (∀ c : Int, 0 ≤ c → c < i → M' (m + 13) c = 0)) J_312_29 (n + 1).toNat (fun i hi ls M' hI => by
    obtain ⟨hls, fr, i1⟩ := hI
    subst hls
    have q0 : ¬ n < (i : Int) := by omega
    refine ⟨_, up M' (m + 13) i 0, ⟨rfl, fun b b0 => by simp (disch := omega) only [up_ne, up_eq, up_ne2]; exact fr b b0, fun c c0 c1 => ?_⟩, ?_⟩
    · by_cases z : c = i
      · subst z; simp (disch := omega) only [up_ne, up_eq, up_ne2]
      · simp (disch := omega) only [up_ne, up_eq, up_ne2]; exact i1 c c0 (by omega)
    · simp (disch := first | assumption | decide | omega | (simp only [List.length_cons, List.length_nil] <;> omega)) only [lgt_0, lgt_s, lset_0, lset_s, lst1_0, lst1_s, lst2_0, lst2_s, ev_iconst, ev_lconst, ev_ldc, ev_null, ev_iload, ev_lload, ev_aload, ev_istore, ev_lstore, ev_astore, ev_iinc, ev_iadd, ev_isub, ev_imul, ev_iand, ev_ior, ev_ishl, ev_ishr, ev_idiv, ev_irem, ev_ineg, ev_ladd, ev_lsub, ev_lmul, ev_land, ev_lor, ev_ldiv, ev_lrem, ev_lshl, ev_i2l, ev_l2i, ev_i2b, ev_i2s, ev_lcmp, ev_dupI, ev_dupR, ev_dup2, ev_popI, ev_popR, ev_alen, ev_xlen, ev_xald, ev_iald, ev_lald, ev_bald, ev_zald, ev_aald, ev_iast, ev_last, ev_bast, ev_zast, ev_aast, ev_gfI, ev_gfL, ev_gfR, ev_pfI, ev_pfZ, ev_pfL, ev_pfR, ev_new, ev_newa, ev_newq, ev_copy, ev_slen, ev_schr, ev_obj, ev_mmin, ev_mabs, ev_mmax, ev_goto, ev_jsr, ev_icmp_eq, ev_if_eq, ev_icmp_ne, ev_if_ne, ev_icmp_lt, ev_if_lt, ev_icmp_ge, ev_if_ge, ev_icmp_gt, ev_if_gt, ev_icmp_le, ev_if_le, ev_ifnull0, ev_ifnull1, ev_ifnn0, ev_ifnn1, ev_tsw, ev_lsw, ev_iret, ev_zret, ev_lret, ev_aret, ev_ret, ev_call0, ev_call1, ev_call2, ev_call3, ev_call4, ev_call5, ev_call6, Option.toList_some, Option.toList_none, List.cons_append, List.nil_append, List.length_cons, List.length_nil, Nat.reduceMod, Nat.reduceDiv, Nat.reduceAdd, Nat.reduceLeDiff, nc, ↓reduceIte, Nat.zero_le, reduceCtorEq, w32_id, Int.reduceEq, Int.reduceNe, Int.reduceLT, Int.reduceLE, Int.reduceGT, Int.reduceGE, Int.reduceAdd, Int.reduceSub, Int.reduceMul, Int.reduceNeg, ne_eq, not_true_eq_false, not_false_eq_true, eq_self, r_price, k_312_29, J_312_0, k_312_0, J_312_27, k_312_27, J_312_47, k_312_47, J_312_66, k_312_66, J_312_92, k_312_92, J_312_114, k_312_114, J_312_122, k_312_122, q0, nc_s]) [some (vR (some m)), some (vI n), some (vI N), some (vI 0), none] M1 ⟨rfl, fun _ _ => rfl, fun c c0 c1 => by omega⟩
  subst hls
  have e : (((n + 1).toNat : Nat) : Int) = n + 1 := by omega
  rw [e] at j1 he
  rw [he]
  have q0 : n < n + 1 := by omega
  simp (disch := first | assumption | decide | omega | (simp only [List.length_cons, List.length_nil] <;> omega)) only [lgt_0, lgt_s, lset_0, lset_s, lst1_0, lst1_s, lst2_0, lst2_s, ev_iconst, ev_lconst, ev_ldc, ev_null, ev_iload, ev_lload, ev_aload, ev_istore, ev_lstore, ev_astore, ev_iinc, ev_iadd, ev_isub, ev_imul, ev_iand, ev_ior, ev_ishl, ev_ishr, ev_idiv, ev_irem, ev_ineg, ev_ladd, ev_lsub, ev_lmul, ev_land, ev_lor, ev_ldiv, ev_lrem, ev_lshl, ev_i2l, ev_l2i, ev_i2b, ev_i2s, ev_lcmp, ev_dupI, ev_dupR, ev_dup2, ev_popI, ev_popR, ev_alen, ev_xlen, ev_xald, ev_iald, ev_lald, ev_bald, ev_zald, ev_aald, ev_iast, ev_last, ev_bast, ev_zast, ev_aast, ev_gfI, ev_gfL, ev_gfR, ev_pfI, ev_pfZ, ev_pfL, ev_pfR, ev_new, ev_newa, ev_newq, ev_copy, ev_slen, ev_schr, ev_obj, ev_mmin, ev_mabs, ev_mmax, ev_goto, ev_jsr, ev_icmp_eq, ev_if_eq, ev_icmp_ne, ev_if_ne, ev_icmp_lt, ev_if_lt, ev_icmp_ge, ev_if_ge, ev_icmp_gt, ev_if_gt, ev_icmp_le, ev_if_le, ev_ifnull0, ev_ifnull1, ev_ifnn0, ev_ifnn1, ev_tsw, ev_lsw, ev_iret, ev_zret, ev_lret, ev_aret, ev_ret, ev_call0, ev_call1, ev_call2, ev_call3, ev_call4, ev_call5, ev_call6, Option.toList_some, Option.toList_none, List.cons_append, List.nil_append, List.length_cons, List.length_nil, Nat.reduceMod, Nat.reduceDiv, Nat.reduceAdd, Nat.reduceLeDiff, nc, ↓reduceIte, Nat.zero_le, reduceCtorEq, w32_id, Int.reduceEq, Int.reduceNe, Int.reduceLT, Int.reduceLE, Int.reduceGT, Int.reduceGE, Int.reduceAdd, Int.reduceSub, Int.reduceMul, Int.reduceNeg, ne_eq, not_true_eq_false, not_false_eq_true, eq_self, k_312_29, J_312_0, k_312_0, J_312_27, k_312_27, J_312_47, k_312_47, J_312_66, k_312_66, J_312_92, k_312_92, J_312_114, k_312_114, J_312_122, k_312_122, q0]
  clear he
  have m2 : frm (m + 13) (m + 18) M M2 := fun b hb => by rw [fr2 b (by omega), fr b (by omega) (by omega)]
  have skf : ∀ M', frm (m + 13) (m + 18) M M' → SKm n N a m M' := fun M' fr => ⟨⟨t1, t2, t3⟩, t9, fun x c => by rw [fr (m + 12) (by omega)]; exact t14 x c⟩
  have ss0 : SSm n N a m M2 0 := by
    have g0 : ∀ c, zC N c → M2 (m + 15) c = 0 := fun c hc => by rw [fr2 _ (by omega)]; exact i2 c (by have := hc.1; omega) (by have := hc.2; omega)
    have v0 : ∀ c : Int, 0 ≤ c → c ≤ N → M2 (m + 14) c = 0 := fun c c0 c1 => by rw [fr2 _ (by omega)]; exact i1 c c0 (by omega)
    refine ⟨⟨fun x c hx => ?_, fun c hc hn => absurd (g0 c hc) hn, fun c hc => ?_, fun c e hc _ hn => absurd (g0 c hc) hn, fun x hx => ?_⟩, fun x x0 x1 => by omega, fun x x0 x1 => j1 x (by omega) (by omega), ?_, ?_⟩
    · have := hx.1; have := hx.2; omega
    · rw [v0 c (by have := hc.1; omega) hc.2]; exact ⟨by omega, fun _ => rfl⟩
    · have := hx.1; have := hx.2; omega
    · rw [v0 0 (by omega) (by omega)]; omega
    · rw [v0 0 (by omega) (by omega)]; omega
  obtain ⟨ls', M3, ⟨hls, fr3, ss⟩, he⟩ := ev_for (X := X) (y := 312) (Sh := Sh) (fun i ls M' => ls = [some (vR (some m)), some (vI n), some (vI N), some (vI ((i : Int) + 1)), none] ∧ frm (m + 13) (m + 18) M M' ∧ SSm n N a m M' i) J_312_49 n.toNat (fun i hi ls M' hI => by
    obtain ⟨hls, fr, ss⟩ := hI
    subst hls
    obtain ⟨M3, e1, e2, e3⟩ := m_givesOne (X := X) hmd (skf M' fr) (t := (i : Int) + 1) (by rw [Int.add_sub_cancel]; exact ss) (by omega)
    refine ⟨_, M3, ⟨rfl, frm_t fr e1, e2⟩, ?_⟩
    have q0 : ¬ n < (i : Int) + 1 := by omega
    simp (disch := first | assumption | decide | omega | (simp only [List.length_cons, List.length_nil] <;> omega)) only [lgt_0, lgt_s, lset_0, lset_s, lst1_0, lst1_s, lst2_0, lst2_s, ev_iconst, ev_lconst, ev_ldc, ev_null, ev_iload, ev_lload, ev_aload, ev_istore, ev_lstore, ev_astore, ev_iinc, ev_iadd, ev_isub, ev_imul, ev_iand, ev_ior, ev_ishl, ev_ishr, ev_idiv, ev_irem, ev_ineg, ev_ladd, ev_lsub, ev_lmul, ev_land, ev_lor, ev_ldiv, ev_lrem, ev_lshl, ev_i2l, ev_l2i, ev_i2b, ev_i2s, ev_lcmp, ev_dupI, ev_dupR, ev_dup2, ev_popI, ev_popR, ev_alen, ev_xlen, ev_xald, ev_iald, ev_lald, ev_bald, ev_zald, ev_aald, ev_iast, ev_last, ev_bast, ev_zast, ev_aast, ev_gfI, ev_gfL, ev_gfR, ev_pfI, ev_pfZ, ev_pfL, ev_pfR, ev_new, ev_newa, ev_newq, ev_copy, ev_slen, ev_schr, ev_obj, ev_mmin, ev_mabs, ev_mmax, ev_goto, ev_jsr, ev_icmp_eq, ev_if_eq, ev_icmp_ne, ev_if_ne, ev_icmp_lt, ev_if_lt, ev_icmp_ge, ev_if_ge, ev_icmp_gt, ev_if_gt, ev_icmp_le, ev_if_le, ev_ifnull0, ev_ifnull1, ev_ifnn0, ev_ifnn1, ev_tsw, ev_lsw, ev_iret, ev_zret, ev_lret, ev_aret, ev_ret, ev_call0, ev_call1, ev_call2, ev_call3, ev_call4, ev_call5, ev_call6, Option.toList_some, Option.toList_none, List.cons_append, List.nil_append, List.length_cons, List.length_nil, Nat.reduceMod, Nat.reduceDiv, Nat.reduceAdd, Nat.reduceLeDiff, nc, ↓reduceIte, Nat.zero_le, reduceCtorEq, w32_id, Int.reduceEq, Int.reduceNe, Int.reduceLT, Int.reduceLE, Int.reduceGT, Int.reduceGE, Int.reduceAdd, Int.reduceSub, Int.reduceMul, Int.reduceNeg, ne_eq, not_true_eq_false, not_false_eq_true, eq_self, k_312_49, J_312_0, k_312_0, J_312_27, k_312_27, J_312_47, k_312_47, J_312_66, k_312_66, J_312_92, k_312_92, J_312_114, k_312_114, J_312_122, k_312_122, q0, e3, nc_s]) [some (vR (some m)), some (vI n), some (vI N), some (vI 1), none] M2 ⟨rfl, m2, ss0⟩
  subst hls
  have en : ((n.toNat : Nat) : Int) = n := by omega
  have eN : ((N.toNat : Nat) : Int) = N := by omega
  rw [en] at ss he
  rw [he]
  simp (disch := first | assumption | decide | omega | (simp only [List.length_cons, List.length_nil] <;> omega)) only [lgt_0, lgt_s, lset_0, lset_s, lst1_0, lst1_s, lst2_0, lst2_s, ev_iconst, ev_lconst, ev_ldc, ev_null, ev_iload, ev_lload, ev_aload, ev_istore, ev_lstore, ev_astore, ev_iinc, ev_iadd, ev_isub, ev_imul, ev_iand, ev_ior, ev_ishl, ev_ishr, ev_idiv, ev_irem, ev_ineg, ev_ladd, ev_lsub, ev_lmul, ev_land, ev_lor, ev_ldiv, ev_lrem, ev_lshl, ev_i2l, ev_l2i, ev_i2b, ev_i2s, ev_lcmp, ev_dupI, ev_dupR, ev_dup2, ev_popI, ev_popR, ev_alen, ev_xlen, ev_xald, ev_iald, ev_lald, ev_bald, ev_zald, ev_aald, ev_iast, ev_last, ev_bast, ev_zast, ev_aast, ev_gfI, ev_gfL, ev_gfR, ev_pfI, ev_pfZ, ev_pfL, ev_pfR, ev_new, ev_newa, ev_newq, ev_copy, ev_slen, ev_schr, ev_obj, ev_mmin, ev_mabs, ev_mmax, ev_goto, ev_jsr, ev_icmp_eq, ev_if_eq, ev_icmp_ne, ev_if_ne, ev_icmp_lt, ev_if_lt, ev_icmp_ge, ev_if_ge, ev_icmp_gt, ev_if_gt, ev_icmp_le, ev_if_le, ev_ifnull0, ev_ifnull1, ev_ifnn0, ev_ifnn1, ev_tsw, ev_lsw, ev_iret, ev_zret, ev_lret, ev_aret, ev_ret, ev_call0, ev_call1, ev_call2, ev_call3, ev_call4, ev_call5, ev_call6, Option.toList_some, Option.toList_none, List.cons_append, List.nil_append, List.length_cons, List.length_nil, Nat.reduceMod, Nat.reduceDiv, Nat.reduceAdd, Nat.reduceLeDiff, nc, ↓reduceIte, Nat.zero_le, reduceCtorEq, w32_id, Int.reduceEq, Int.reduceNe, Int.reduceLT, Int.reduceLE, Int.reduceGT, Int.reduceGE, Int.reduceAdd, Int.reduceSub, Int.reduceMul, Int.reduceNeg, ne_eq, not_true_eq_false, not_false_eq_true, eq_self, k_312_49, J_312_0, k_312_0, J_312_27, k_312_27, J_312_47, k_312_47, J_312_66, k_312_66, J_312_92, k_312_92, J_312_114, k_312_114, J_312_122, k_312_122, q0]
  clear he
  obtain ⟨⟨b1, b2, b3, b4, b5⟩, c1, c2, c4, c5⟩ := ss
  have f12 := fr3 (m + 12) (by omega)
  generalize hH : M3 (m + 15) = H at b2 b3 b4 c1
  generalize hu : M3 (m + 13) = u at b1 b2 b5 c2
  generalize hv : M3 (m + 14) = v at b1 b2 b3 c4 c5
  have kc : ∀ k : Nat, k < N.toNat → zC N ((k : Int) + 1) := fun k hk => ⟨by omega, by omega⟩
  have hge : ∀ k : Nat, k < N.toNat → (0 ≤ H ((k : Int) + 1) - 1 ↔ H ((k : Int) + 1) ≠ 0) := fun k hk => by
    constructor
    · intro z; omega
    · intro z; have := (b2 _ (kc k hk) z).1.1; omega
  have sm : matchF (fun k => H (k + 1) - 1) N.toNat n.toNat := by
    constructor
    · intro i j hi hj h0 heq
      dsimp only at h0 heq
      have := b4 _ _ (kc i hi) (kc j hj) (by omega) (by omega)
      omega
    · intro i hi
      dsimp only
      by_cases z : H ((i : Int) + 1) = 0
      · omega
      · have := (b2 _ (kc i hi) z).1.2
        omega
  have held : ∀ x : Nat, x < n.toNat → sumN (fun k => if H (k + 1) - 1 = (x : Int) then 1 else 0) N.toNat ≠ 0 := fun x hx hz => by
    obtain ⟨c, hc, hcx⟩ := c1 ((x : Int) + 1) (by omega) (by omega)
    have hc1 := hc.1
    have hc2 := hc.2
    have := sum01_z (f := fun k => if H (k + 1) - 1 = (x : Int) then 1 else 0) (fun k _ => by split <;> omega) hz (c - 1).toNat (by omega)
    have e : (((c - 1).toNat : Nat) : Int) + 1 = c := by omega
    rw [e, if_pos (by omega)] at this
    omega
  have lt := least_tight (a := fun x k => a (x + 1) (k + 1)) (al := 0) (u := fun x => u (x + 1)) (v := fun k => v (k + 1)) sm (fun k hk hn => (b3 _ (kc k hk)).2 (by
    have := hge k hk
    omega)) (fun x hx hz => absurd hz (held x hx)) (fun k hk h0 => by
    have e := (b2 _ (kc k hk) (by omega)).2
    rw [Int.sub_add_cancel]
    exact e)
  unfold costM at lt
  have z0 : sumN (fun x => if sumN (fun k => if H (k + 1) - 1 = x then 1 else 0) N.toNat = 0 then (0 : Int) else 0) n.toNat = 0 := sumN_z (fun x _ => by split <;> rfl)
  rw [z0, Int.add_zero] at lt
  have eS : sumN (fun k => if 0 ≤ H (k + 1) - 1 then a (H (k + 1) - 1 + 1) (k + 1) else 0) N.toNat = sumN (fun k => if H (k + 1) = 0 then 0 else a (H (k + 1)) (k + 1)) N.toNat := sumN_congr fun k hk => by
    have := hge k hk
    by_cases z : H ((k : Int) + 1) = 0
    · rw [if_pos z, if_neg (by omega)]
    · rw [if_neg z, if_pos (this.mpr z), Int.sub_add_cancel]
  have tb : ∀ k : Nat, k < N.toNat → 0 ≤ (if H ((k : Int) + 1) = 0 then 0 else a (H ((k : Int) + 1)) ((k : Int) + 1)) ∧ (if H ((k : Int) + 1) = 0 then 0 else a (H ((k : Int) + 1)) ((k : Int) + 1)) ≤ 198 := fun k hk => by
    by_cases z : H ((k : Int) + 1) = 0
    · rw [if_pos z]; omega
    · rw [if_neg z]
      exact t9 _ _ (b2 _ (kc k hk) z).1 (kc k hk)
  have hL := ev_loopK (X := X) (y := 312) (Sh := Sh) (K := k_312_71) (fun i => [some (vR (some m)), some (vI n), some (vI N), some (vI (sumN (fun k => if H (k + 1) = 0 then 0 else a (H (k + 1)) (k + 1)) i)), some (vI ((i : Int) + 1))]) (fun _ => M3) N.toNat J_312_71 (fun i hi => by
    have e1 := sumN_le (f := fun k => if H (k + 1) = 0 then 0 else a (H (k + 1)) (k + 1)) (a := 0) (b := 198) (n := i) (fun k hk => tb k (by omega))
    have e2 := tb i hi
    rw [sumN_s]
    generalize sumN (fun k => if H (k + 1) = 0 then 0 else a (H (k + 1)) (k + 1)) i = s1 at e1 ⊢
    have q1 : ¬ N < (i : Int) + 1 := by omega
    by_cases z : H ((i : Int) + 1) = 0
    · simp (disch := first | assumption | decide | omega | (simp only [List.length_cons, List.length_nil] <;> omega)) only [lgt_0, lgt_s, lset_0, lset_s, lst1_0, lst1_s, lst2_0, lst2_s, ev_iconst, ev_lconst, ev_ldc, ev_null, ev_iload, ev_lload, ev_aload, ev_istore, ev_lstore, ev_astore, ev_iinc, ev_iadd, ev_isub, ev_imul, ev_iand, ev_ior, ev_ishl, ev_ishr, ev_idiv, ev_irem, ev_ineg, ev_ladd, ev_lsub, ev_lmul, ev_land, ev_lor, ev_ldiv, ev_lrem, ev_lshl, ev_i2l, ev_l2i, ev_i2b, ev_i2s, ev_lcmp, ev_dupI, ev_dupR, ev_dup2, ev_popI, ev_popR, ev_alen, ev_xlen, ev_xald, ev_iald, ev_lald, ev_bald, ev_zald, ev_aald, ev_iast, ev_last, ev_bast, ev_zast, ev_aast, ev_gfI, ev_gfL, ev_gfR, ev_pfI, ev_pfZ, ev_pfL, ev_pfR, ev_new, ev_newa, ev_newq, ev_copy, ev_slen, ev_schr, ev_obj, ev_mmin, ev_mabs, ev_mmax, ev_goto, ev_jsr, ev_icmp_eq, ev_if_eq, ev_icmp_ne, ev_if_ne, ev_icmp_lt, ev_if_lt, ev_icmp_ge, ev_if_ge, ev_icmp_gt, ev_if_gt, ev_icmp_le, ev_if_le, ev_ifnull0, ev_ifnull1, ev_ifnn0, ev_ifnn1, ev_tsw, ev_lsw, ev_iret, ev_zret, ev_lret, ev_aret, ev_ret, ev_call0, ev_call1, ev_call2, ev_call3, ev_call4, ev_call5, ev_call6, Option.toList_some, Option.toList_none, List.cons_append, List.nil_append, List.length_cons, List.length_nil, Nat.reduceMod, Nat.reduceDiv, Nat.reduceAdd, Nat.reduceLeDiff, nc, ↓reduceIte, Nat.zero_le, reduceCtorEq, w32_id, Int.reduceEq, Int.reduceNe, Int.reduceLT, Int.reduceLE, Int.reduceGT, Int.reduceGE, Int.reduceAdd, Int.reduceSub, Int.reduceMul, Int.reduceNeg, ne_eq, not_true_eq_false, not_false_eq_true, eq_self, r_weight, r_given, k_312_71, J_312_0, k_312_0, J_312_27, k_312_27, J_312_47, k_312_47, J_312_66, k_312_66, J_312_92, k_312_92, J_312_114, k_312_114, J_312_122, k_312_122, hH, z, q1, nc_s, Int.add_zero]
    · rw [if_neg z] at e2 ⊢
      have e3 := (b2 _ (kc i hi) z).1
      have e4 := e3.1
      have e5 := e3.2
      have e6 := t14 (H ((i : Int) + 1)) ((i : Int) + 1)
      simp (disch := first | assumption | decide | omega | (simp only [List.length_cons, List.length_nil] <;> omega)) only [lgt_0, lgt_s, lset_0, lset_s, lst1_0, lst1_s, lst2_0, lst2_s, ev_iconst, ev_lconst, ev_ldc, ev_null, ev_iload, ev_lload, ev_aload, ev_istore, ev_lstore, ev_astore, ev_iinc, ev_iadd, ev_isub, ev_imul, ev_iand, ev_ior, ev_ishl, ev_ishr, ev_idiv, ev_irem, ev_ineg, ev_ladd, ev_lsub, ev_lmul, ev_land, ev_lor, ev_ldiv, ev_lrem, ev_lshl, ev_i2l, ev_l2i, ev_i2b, ev_i2s, ev_lcmp, ev_dupI, ev_dupR, ev_dup2, ev_popI, ev_popR, ev_alen, ev_xlen, ev_xald, ev_iald, ev_lald, ev_bald, ev_zald, ev_aald, ev_iast, ev_last, ev_bast, ev_zast, ev_aast, ev_gfI, ev_gfL, ev_gfR, ev_pfI, ev_pfZ, ev_pfL, ev_pfR, ev_new, ev_newa, ev_newq, ev_copy, ev_slen, ev_schr, ev_obj, ev_mmin, ev_mabs, ev_mmax, ev_goto, ev_jsr, ev_icmp_eq, ev_if_eq, ev_icmp_ne, ev_if_ne, ev_icmp_lt, ev_if_lt, ev_icmp_ge, ev_if_ge, ev_icmp_gt, ev_if_gt, ev_icmp_le, ev_if_le, ev_ifnull0, ev_ifnull1, ev_ifnn0, ev_ifnn1, ev_tsw, ev_lsw, ev_iret, ev_zret, ev_lret, ev_aret, ev_ret, ev_call0, ev_call1, ev_call2, ev_call3, ev_call4, ev_call5, ev_call6, Option.toList_some, Option.toList_none, List.cons_append, List.nil_append, List.length_cons, List.length_nil, Nat.reduceMod, Nat.reduceDiv, Nat.reduceAdd, Nat.reduceLeDiff, nc, ↓reduceIte, Nat.zero_le, reduceCtorEq, w32_id, Int.reduceEq, Int.reduceNe, Int.reduceLT, Int.reduceLE, Int.reduceGT, Int.reduceGE, Int.reduceAdd, Int.reduceSub, Int.reduceMul, Int.reduceNeg, ne_eq, not_true_eq_false, not_false_eq_true, eq_self, r_weight, r_given, k_312_71, J_312_0, k_312_0, J_312_27, k_312_27, J_312_47, k_312_47, J_312_66, k_312_66, J_312_92, k_312_92, J_312_114, k_312_114, J_312_122, k_312_122, f12, hH, z, q1, nc_s, e6])
  rw [sumN_0, show ((0 : Nat) : Int) + 1 = 1 from rfl] at hL
  rw [hL]
  have q1 : N < N + 1 := by omega
  refine ⟨_, M3, ⟨fun k => H (k + 1) - 1, fun x => u (x + 1), fun k => v (k + 1), sm, held, fun k hk => (b3 _ (kc k hk)).1, fun x k hx hk => b1 _ _ ⟨by omega, by omega⟩ (kc k hk), eS, by rw [lt]; exact eS⟩, fr3, ?_⟩
  simp (disch := first | assumption | decide | omega | (simp only [List.length_cons, List.length_nil] <;> omega)) only [lgt_0, lgt_s, lset_0, lset_s, lst1_0, lst1_s, lst2_0, lst2_s, ev_iconst, ev_lconst, ev_ldc, ev_null, ev_iload, ev_lload, ev_aload, ev_istore, ev_lstore, ev_astore, ev_iinc, ev_iadd, ev_isub, ev_imul, ev_iand, ev_ior, ev_ishl, ev_ishr, ev_idiv, ev_irem, ev_ineg, ev_ladd, ev_lsub, ev_lmul, ev_land, ev_lor, ev_ldiv, ev_lrem, ev_lshl, ev_i2l, ev_l2i, ev_i2b, ev_i2s, ev_lcmp, ev_dupI, ev_dupR, ev_dup2, ev_popI, ev_popR, ev_alen, ev_xlen, ev_xald, ev_iald, ev_lald, ev_bald, ev_zald, ev_aald, ev_iast, ev_last, ev_bast, ev_zast, ev_aast, ev_gfI, ev_gfL, ev_gfR, ev_pfI, ev_pfZ, ev_pfL, ev_pfR, ev_new, ev_newa, ev_newq, ev_copy, ev_slen, ev_schr, ev_obj, ev_mmin, ev_mabs, ev_mmax, ev_goto, ev_jsr, ev_icmp_eq, ev_if_eq, ev_icmp_ne, ev_if_ne, ev_icmp_lt, ev_if_lt, ev_icmp_ge, ev_if_ge, ev_icmp_gt, ev_if_gt, ev_icmp_le, ev_if_le, ev_ifnull0, ev_ifnull1, ev_ifnn0, ev_ifnn1, ev_tsw, ev_lsw, ev_iret, ev_zret, ev_lret, ev_aret, ev_ret, ev_call0, ev_call1, ev_call2, ev_call3, ev_call4, ev_call5, ev_call6, Option.toList_some, Option.toList_none, List.cons_append, List.nil_append, List.length_cons, List.length_nil, Nat.reduceMod, Nat.reduceDiv, Nat.reduceAdd, Nat.reduceLeDiff, nc, ↓reduceIte, Nat.zero_le, reduceCtorEq, w32_id, Int.reduceEq, Int.reduceNe, Int.reduceLT, Int.reduceLE, Int.reduceGT, Int.reduceGE, Int.reduceAdd, Int.reduceSub, Int.reduceMul, Int.reduceNeg, ne_eq, not_true_eq_false, not_false_eq_true, eq_self, k_312_71, J_312_0, k_312_0, J_312_27, k_312_27, J_312_47, k_312_47, J_312_66, k_312_66, J_312_92, k_312_92, J_312_114, k_312_114, J_312_122, k_312_122, eN, q1]
end MLE
