/-! OPERATION: feed. -/
theorem i_b_rng {a : Int} : -128 ≤ i_b a ∧ i_b a < 128 := by
  unfold i_b
  rw [Int8.toInt_toInt32]
  exact ⟨Int8.le_toInt _, Int8.toInt_lt _⟩
def tpF (B : Int → Int) (n v : Int) : Int → Int := fun k => if k = n then i_b (i_shr v 24) else if k = n + 1 then i_b (i_shr v 16) else if k = n + 2 then i_b (i_shr v 8) else if k = n + 3 then i_b (i_shr v 0) else B k
theorem tp_eq {B C : Int → Int} {n v : Int} (h : ∀ k, 0 ≤ k → k < n → B k = C k ∧ -128 ≤ B k ∧ B k < 128) : ∀ k, 0 ≤ k → k < n + 4 → tpF B n v k = tpF C n v k ∧ -128 ≤ tpF B n v k ∧ tpF B n v k < 128 := fun k k0 k1 => by
  unfold tpF
  by_cases q0 : k = n
  · rw [if_pos q0, if_pos q0]; exact ⟨rfl, i_b_rng⟩
  · rw [if_neg q0, if_neg q0]
    by_cases q1 : k = n + 1
    · rw [if_pos q1, if_pos q1]; exact ⟨rfl, i_b_rng⟩
    · rw [if_neg q1, if_neg q1]
      by_cases q2 : k = n + 2
      · rw [if_pos q2, if_pos q2]; exact ⟨rfl, i_b_rng⟩
      · rw [if_neg q2, if_neg q2]
        by_cases q3 : k = n + 3
        · rw [if_pos q3, if_pos q3]; exact ⟨rfl, i_b_rng⟩
        · rw [if_neg q3, if_neg q3]
          exact h k k0 (by omega)
section FEE
variable {X : Int → Int} {M : Mem}
theorem s_put {v n : Int} (hn : M 2 1 = n) (hb : 0 ≤ n ∧ n ≤ 796) : ∃ M', (∀ b, b ≠ 2 → b ≠ 3 → M' b = M b) ∧ (∀ i, i ≠ 1 → M' 2 i = M 2 i) ∧ M' 2 1 = n + 4 ∧ M' 3 = tpF (M 3) n v ∧ evc X 35 [vR (some 2), vI v] SH0 M = some (none, SH0, M') := by
  have k2 := w0_k2
  have k3 := w0_k3
  have l3 := w0_l3
  have r2 := w0_r2_0
  have b1 := i_b_rng (a := i_shr v 24)
  have b2 := i_b_rng (a := i_shr v 16)
  have b3 := i_b_rng (a := i_shr v 8)
  have b4 := i_b_rng (a := i_shr v 0)
  refine ⟨up (up (up (up (up (up (up (up M 3 n (i_b (i_shr v 24))) 2 1 (n + 1)) 3 (n + 1) (i_b (i_shr v 16))) 2 1 (n + 2)) 3 (n + 2) (i_b (i_shr v 8))) 2 1 (n + 3)) 3 (n + 3) (i_b (i_shr v 0))) 2 1 (n + 4), ?_, ?_, ?_, ?_, ?_⟩
  · intro b h1 h2
    simp (disch := omega) only [up_ne, up_eq, up_ne2]
  · intro i hi
    simp (disch := omega) only [up_ne, up_eq, up_ne2]
  · simp (disch := omega) only [up_ne, up_eq, up_ne2]
  · funext k
    unfold tpF
    by_cases q0 : k = n
    · rw [if_pos q0]; subst q0; simp (disch := omega) only [up_ne, up_eq, up_ne2]
    · rw [if_neg q0]
      by_cases q1 : k = n + 1
      · rw [if_pos q1]; subst q1; simp (disch := omega) only [up_ne, up_eq, up_ne2]
      · rw [if_neg q1]
        by_cases q2 : k = n + 2
        · rw [if_pos q2]; subst q2; simp (disch := omega) only [up_ne, up_eq, up_ne2]
        · rw [if_neg q2]
          by_cases q3 : k = n + 3
          · rw [if_pos q3]; subst q3; simp (disch := omega) only [up_ne, up_eq, up_ne2]
          · rw [if_neg q3]; simp (disch := omega) only [up_ne, up_eq, up_ne2]
  · have e1 : n + 1 + 1 = n + 2 := by omega
    have e2 : n + 2 + 1 = n + 3 := by omega
    have e3 : n + 3 + 1 = n + 4 := by omega
    rw [E_35 k2]
    simp (disch := first | assumption | decide | omega | (simp only [List.length_cons, List.length_nil] <;> omega)) only [lgt_0, lgt_s, lset_0, lset_s, lst1_0, lst1_s, lst2_0, lst2_s, ev_iconst, ev_lconst, ev_ldc, ev_null, ev_iload, ev_lload, ev_aload, ev_istore, ev_lstore, ev_astore, ev_iinc, ev_iadd, ev_isub, ev_imul, ev_iand, ev_ior, ev_ishl, ev_ishr, ev_idiv, ev_irem, ev_ineg, ev_ladd, ev_lsub, ev_lmul, ev_land, ev_lor, ev_ldiv, ev_lrem, ev_lshl, ev_i2l, ev_l2i, ev_i2b, ev_i2s, ev_lcmp, ev_dupI, ev_dupR, ev_dup2, ev_popI, ev_popR, ev_alen, ev_xlen, ev_xald, ev_iald, ev_lald, ev_bald, ev_zald, ev_aald, ev_iast, ev_last, ev_bast, ev_zast, ev_aast, ev_gfI, ev_gfL, ev_gfR, ev_pfI, ev_pfZ, ev_pfL, ev_pfR, ev_new, ev_newa, ev_newq, ev_copy, ev_slen, ev_schr, ev_obj, ev_mmin, ev_mabs, ev_mmax, ev_goto, ev_jsr, ev_icmp_eq, ev_if_eq, ev_icmp_ne, ev_if_ne, ev_icmp_lt, ev_if_lt, ev_icmp_ge, ev_if_ge, ev_icmp_gt, ev_if_gt, ev_icmp_le, ev_if_le, ev_ifnull0, ev_ifnull1, ev_ifnn0, ev_ifnn1, ev_tsw, ev_lsw, ev_iret, ev_zret, ev_lret, ev_aret, ev_ret, ev_call0, ev_call1, ev_call2, ev_call3, ev_call4, ev_call5, ev_call6, Option.toList_some, Option.toList_none, List.cons_append, List.nil_append, List.length_cons, List.length_nil, Nat.reduceMod, Nat.reduceDiv, Nat.reduceLeDiff, nc, ↓reduceIte, Nat.zero_le, reduceCtorEq, w32_id, Int.reduceEq, Int.reduceNe, Int.reduceLT, Int.reduceLE, Int.reduceGT, Int.reduceGE, Int.reduceAdd, Int.reduceSub, Int.reduceMul, Int.reduceNeg, ne_eq, not_true_eq_false, not_false_eq_true, eq_self, ↓if_pos, ↓if_neg, J_35_0, k_35_0, J_35_3, k_35_3, J_35_40, k_35_40, J_35_46, k_35_46, r2, hn, up_ne, up_eq, up_ne2, e1, e2, e3]
theorem m_four {v n : Int} (hn : M 140 10 = n) (hb : 0 ≤ n ∧ n ≤ 796) : ∃ M', (∀ b, b ≠ 140 → b ≠ 140 + 6 → M' b = M b) ∧ (∀ i, i ≠ 10 → M' 140 i = M 140 i) ∧ M' 140 10 = n + 4 ∧ M' (140 + 6) = tpF (M (140 + 6)) n v ∧ evc X 238 [vR (some 140), vI v] SH0 M = some (none, SH0, M') := by
  have mk0 := w0_k140
  obtain ⟨r_tape, k_tape, l_tape⟩ := md_tape w0_md140
  have b1 := i_b_rng (a := i_shr v 24)
  have b2 := i_b_rng (a := i_shr v 16)
  have b3 := i_b_rng (a := i_shr v 8)
  have b4 := i_b_rng (a := i_shr v 0)
  refine ⟨up (up (up (up (up (up (up (up M (140 + 6) n (i_b (i_shr v 24))) 140 10 (n + 1)) (140 + 6) (n + 1) (i_b (i_shr v 16))) 140 10 (n + 2)) (140 + 6) (n + 2) (i_b (i_shr v 8))) 140 10 (n + 3)) (140 + 6) (n + 3) (i_b (i_shr v 0))) 140 10 (n + 4), ?_, ?_, ?_, ?_, ?_⟩
  · intro b h1 h2
    simp (disch := omega) only [up_ne, up_eq, up_ne2]
  · intro i hi
    simp (disch := omega) only [up_ne, up_eq, up_ne2]
  · simp (disch := omega) only [up_ne, up_eq, up_ne2]
  · funext k
    unfold tpF
    by_cases q0 : k = n
    · rw [if_pos q0]; subst q0; simp (disch := omega) only [up_ne, up_eq, up_ne2]
    · rw [if_neg q0]
      by_cases q1 : k = n + 1
      · rw [if_pos q1]; subst q1; simp (disch := omega) only [up_ne, up_eq, up_ne2]
      · rw [if_neg q1]
        by_cases q2 : k = n + 2
        · rw [if_pos q2]; subst q2; simp (disch := omega) only [up_ne, up_eq, up_ne2]
        · rw [if_neg q2]
          by_cases q3 : k = n + 3
          · rw [if_pos q3]; subst q3; simp (disch := omega) only [up_ne, up_eq, up_ne2]
          · rw [if_neg q3]; simp (disch := omega) only [up_ne, up_eq, up_ne2]
  · have e1 : n + 1 + 1 = n + 2 := by omega
    have e2 : n + 2 + 1 = n + 3 := by omega
    have e3 : n + 3 + 1 = n + 4 := by omega
    rw [E_238 mk0]
    simp (disch := first | assumption | decide | omega | (simp only [List.length_cons, List.length_nil] <;> omega)) only [lgt_0, lgt_s, lset_0, lset_s, lst1_0, lst1_s, lst2_0, lst2_s, ev_iconst, ev_lconst, ev_ldc, ev_null, ev_iload, ev_lload, ev_aload, ev_istore, ev_lstore, ev_astore, ev_iinc, ev_iadd, ev_isub, ev_imul, ev_iand, ev_ior, ev_ishl, ev_ishr, ev_idiv, ev_irem, ev_ineg, ev_ladd, ev_lsub, ev_lmul, ev_land, ev_lor, ev_ldiv, ev_lrem, ev_lshl, ev_i2l, ev_l2i, ev_i2b, ev_i2s, ev_lcmp, ev_dupI, ev_dupR, ev_dup2, ev_popI, ev_popR, ev_alen, ev_xlen, ev_xald, ev_iald, ev_lald, ev_bald, ev_zald, ev_aald, ev_iast, ev_last, ev_bast, ev_zast, ev_aast, ev_gfI, ev_gfL, ev_gfR, ev_pfI, ev_pfZ, ev_pfL, ev_pfR, ev_new, ev_newa, ev_newq, ev_copy, ev_slen, ev_schr, ev_obj, ev_mmin, ev_mabs, ev_mmax, ev_goto, ev_jsr, ev_icmp_eq, ev_if_eq, ev_icmp_ne, ev_if_ne, ev_icmp_lt, ev_if_lt, ev_icmp_ge, ev_if_ge, ev_icmp_gt, ev_if_gt, ev_icmp_le, ev_if_le, ev_ifnull0, ev_ifnull1, ev_ifnn0, ev_ifnn1, ev_tsw, ev_lsw, ev_iret, ev_zret, ev_lret, ev_aret, ev_ret, ev_call0, ev_call1, ev_call2, ev_call3, ev_call4, ev_call5, ev_call6, Option.toList_some, Option.toList_none, List.cons_append, List.nil_append, List.length_cons, List.length_nil, Nat.reduceMod, Nat.reduceDiv, Nat.reduceLeDiff, nc, ↓reduceIte, Nat.zero_le, reduceCtorEq, w32_id, Int.reduceEq, Int.reduceNe, Int.reduceLT, Int.reduceLE, Int.reduceGT, Int.reduceGE, Int.reduceAdd, Int.reduceSub, Int.reduceMul, Int.reduceNeg, ne_eq, not_true_eq_false, not_false_eq_true, eq_self, ↓if_pos, ↓if_neg, J_238_0, k_238_0, J_238_3, k_238_3, J_238_36, k_238_36, r_tape, hn, up_ne, up_eq, up_ne2, e1, e2, e3]
theorem op_feed (h : RR M) {a b c d e : Int} : OP X 34 [vI a, vI b, vI c, vI d, vI e] 237 [vI a, vI b, vI c, vI d, vI e] M := by
  have k0 := w0_k0
  have k2 := w0_k2
  have mk0 := w0_k140
  obtain ⟨⟨t1, t2, t3, t4, t5⟩, tx⟩ := h.1.2.2.1
  generalize hn : M 2 1 = n at t1 t2 t3
  by_cases q : n ≤ 780
  · obtain ⟨M1, f1, g1, n1, s1, e1⟩ := s_put (X := X) (M := M) (v := a) hn (by omega)
    obtain ⟨M2, f2, g2, n2, s2, e2⟩ := s_put (X := X) (M := M1) (v := b) n1 (by omega)
    obtain ⟨M3, f3, g3, n3, s3, e3⟩ := s_put (X := X) (M := M2) (v := c) n2 (by omega)
    obtain ⟨M4, f4, g4, n4, s4, e4⟩ := s_put (X := X) (M := M3) (v := d) n3 (by omega)
    obtain ⟨M5, f5, g5, n5, s5, e5⟩ := s_put (X := X) (M := M4) (v := e) n4 (by omega)
    have F : ∀ x, x ≠ 2 → x ≠ 3 → M5 x = M x := fun x h1 h2 => by rw [f5 x h1 h2, f4 x h1 h2, f3 x h1 h2, f2 x h1 h2, f1 x h1 h2]
    have G : ∀ i, i ≠ 1 → M5 2 i = M 2 i := fun i hi => by rw [g5 i hi, g4 i hi, g3 i hi, g2 i hi, g1 i hi]
    have hnm : M5 140 10 = n := by rw [F 140 (by omega) (by omega)]; exact t1.symm
    obtain ⟨N1, p1, q1, o1, r1, d1⟩ := m_four (X := X) (M := M5) (v := a) hnm (by omega)
    obtain ⟨N2, p2, q2, o2, r2, d2⟩ := m_four (X := X) (M := N1) (v := b) o1 (by omega)
    obtain ⟨N3, p3, q3, o3, r3, d3⟩ := m_four (X := X) (M := N2) (v := c) o2 (by omega)
    obtain ⟨N4, p4, q4, o4, r4, d4⟩ := m_four (X := X) (M := N3) (v := d) o3 (by omega)
    obtain ⟨N5, p5, q5, o5, r5, d5⟩ := m_four (X := X) (M := N4) (v := e) o4 (by omega)
    have P : ∀ x, x ≠ 140 → x ≠ 140 + 6 → N5 x = M5 x := fun x h1 h2 => by rw [p5 x h1 h2, p4 x h1 h2, p3 x h1 h2, p2 x h1 h2, p1 x h1 h2]
    have Q : ∀ i, i ≠ 10 → N5 140 i = M5 140 i := fun i hi => by rw [q5 i hi, q4 i hi, q3 i hi, q2 i hi, q1 i hi]
    refine ⟨vI (n + 4 + 4 + 4 + 4 + 4), M5, N5, ?_, ?_, ?_⟩
    · rw [E_34 k0]
      simp (disch := first | assumption | decide | omega | (simp only [List.length_cons, List.length_nil] <;> omega)) only [lgt_0, lgt_s, lset_0, lset_s, lst1_0, lst1_s, lst2_0, lst2_s, ev_iconst, ev_lconst, ev_ldc, ev_null, ev_iload, ev_lload, ev_aload, ev_istore, ev_lstore, ev_astore, ev_iinc, ev_iadd, ev_isub, ev_imul, ev_iand, ev_ior, ev_ishl, ev_ishr, ev_idiv, ev_irem, ev_ineg, ev_ladd, ev_lsub, ev_lmul, ev_land, ev_lor, ev_ldiv, ev_lrem, ev_lshl, ev_i2l, ev_l2i, ev_i2b, ev_i2s, ev_lcmp, ev_dupI, ev_dupR, ev_dup2, ev_popI, ev_popR, ev_alen, ev_xlen, ev_xald, ev_iald, ev_lald, ev_bald, ev_zald, ev_aald, ev_iast, ev_last, ev_bast, ev_zast, ev_aast, ev_gfI, ev_gfL, ev_gfR, ev_pfI, ev_pfZ, ev_pfL, ev_pfR, ev_new, ev_newa, ev_newq, ev_copy, ev_slen, ev_schr, ev_obj, ev_mmin, ev_mabs, ev_mmax, ev_goto, ev_jsr, ev_icmp_eq, ev_if_eq, ev_icmp_ne, ev_if_ne, ev_icmp_lt, ev_if_lt, ev_icmp_ge, ev_if_ge, ev_icmp_gt, ev_if_gt, ev_icmp_le, ev_if_le, ev_ifnull0, ev_ifnull1, ev_ifnn0, ev_ifnn1, ev_tsw, ev_lsw, ev_iret, ev_zret, ev_lret, ev_aret, ev_ret, ev_call0, ev_call1, ev_call2, ev_call3, ev_call4, ev_call5, ev_call6, Option.toList_some, Option.toList_none, List.cons_append, List.nil_append, List.length_cons, List.length_nil, Nat.reduceMod, Nat.reduceDiv, Nat.reduceLeDiff, nc, ↓reduceIte, Nat.zero_le, reduceCtorEq, w32_id, Int.reduceEq, Int.reduceNe, Int.reduceLT, Int.reduceLE, Int.reduceGT, Int.reduceGE, Int.reduceAdd, Int.reduceSub, Int.reduceMul, Int.reduceNeg, ne_eq, not_true_eq_false, not_false_eq_true, eq_self, ↓if_pos, ↓if_neg, w0_r0_3, w0_r0_4, w0_r0_5, w0_r0_6, w0_r0_7, w0_r0_8, w0_r0_10, w0_r0_11, w0_r0_12, w0_r0_13, w0_r0_14, w0_r0_15, w0_r0_16, w0_r0_17, w0_r0_18, J_34_0, k_34_0, J_34_15, k_34_15, hn, e1, e2, e3, e4, e5, n5]
    · rw [E_237 mk0]
      simp (disch := first | assumption | decide | omega | (simp only [List.length_cons, List.length_nil] <;> omega)) only [lgt_0, lgt_s, lset_0, lset_s, lst1_0, lst1_s, lst2_0, lst2_s, ev_iconst, ev_lconst, ev_ldc, ev_null, ev_iload, ev_lload, ev_aload, ev_istore, ev_lstore, ev_astore, ev_iinc, ev_iadd, ev_isub, ev_imul, ev_iand, ev_ior, ev_ishl, ev_ishr, ev_idiv, ev_irem, ev_ineg, ev_ladd, ev_lsub, ev_lmul, ev_land, ev_lor, ev_ldiv, ev_lrem, ev_lshl, ev_i2l, ev_l2i, ev_i2b, ev_i2s, ev_lcmp, ev_dupI, ev_dupR, ev_dup2, ev_popI, ev_popR, ev_alen, ev_xlen, ev_xald, ev_iald, ev_lald, ev_bald, ev_zald, ev_aald, ev_iast, ev_last, ev_bast, ev_zast, ev_aast, ev_gfI, ev_gfL, ev_gfR, ev_pfI, ev_pfZ, ev_pfL, ev_pfR, ev_new, ev_newa, ev_newq, ev_copy, ev_slen, ev_schr, ev_obj, ev_mmin, ev_mabs, ev_mmax, ev_goto, ev_jsr, ev_icmp_eq, ev_if_eq, ev_icmp_ne, ev_if_ne, ev_icmp_lt, ev_if_lt, ev_icmp_ge, ev_if_ge, ev_icmp_gt, ev_if_gt, ev_icmp_le, ev_if_le, ev_ifnull0, ev_ifnull1, ev_ifnn0, ev_ifnn1, ev_tsw, ev_lsw, ev_iret, ev_zret, ev_lret, ev_aret, ev_ret, ev_call0, ev_call1, ev_call2, ev_call3, ev_call4, ev_call5, ev_call6, Option.toList_some, Option.toList_none, List.cons_append, List.nil_append, List.length_cons, List.length_nil, Nat.reduceMod, Nat.reduceDiv, Nat.reduceLeDiff, nc, ↓reduceIte, Nat.zero_le, reduceCtorEq, w32_id, Int.reduceEq, Int.reduceNe, Int.reduceLT, Int.reduceLE, Int.reduceGT, Int.reduceGE, Int.reduceAdd, Int.reduceSub, Int.reduceMul, Int.reduceNeg, ne_eq, not_true_eq_false, not_false_eq_true, eq_self, ↓if_pos, ↓if_neg, J_237_0, k_237_0, J_237_15, k_237_15, hnm, d1, d2, d3, d4, d5, o5]
    · obtain ⟨⟨z1, z2, z3, z4, z5, z6, z7, z8, z9, z10⟩, zs⟩ := h
      have all : ∀ x, x ≠ 2 → x ≠ 3 → x ≠ 140 → x ≠ 140 + 6 → N5 x = M x := fun x h1 h2 h3 h4 => (P x h3 h4).trans (F x h1 h2)
      have m140 : ∀ i, i ≠ 10 → N5 140 i = M 140 i := fun i hi => by rw [Q i hi, F 140 (by omega) (by omega)]
      have ha : N5 (140 + 1) = M (140 + 1) := all _ (by omega) (by omega) (by omega) (by omega)
      have hna : N5 (140 + 2) = M (140 + 2) := all _ (by omega) (by omega) (by omega) (by omega)
      have a0 : N5 0 = M 0 := all _ (by omega) (by omega) (by omega) (by omega)
      refine ⟨⟨RTb_c (by rw [a0]) (by rw [a0]) (m140 3 (by omega)) (m140 4 (by omega)) z1, RTr_c (fun x hx => all x (by omega) (by omega) (by omega) (by omega)) z2, ?_, RC_c (fun x hx => all x (by omega) (by omega) (by omega) (by omega)) (fun k _ _ => by rw [ha]) (fun k _ _ => by rw [hna]) z4, RN_c (fun x hx => all x (by omega) (by omega) (by omega) (by omega)) (fun k _ _ => by rw [ha]) z5, RP_c (fun x hx => all x (by omega) (by omega) (by omega) (by omega)) (fun k _ _ => by rw [ha]) z6, RD_c (fun x hx => all x (by omega) (by omega) (by omega) (by omega)) (fun k _ _ _ => by rw [ha]) z7, RM_c (by rw [a0]) (m140 55 (by omega)) (fun x hx => all x (by omega) (by omega) (by omega) (by omega)) (fun k _ _ => by rw [ha]) (fun k _ _ => by rw [hna]) z8, RF_c (fun x hx => all x (by omega) (by omega) (by omega) (by omega)) (m140 54 (by omega)) (m140 21 (by omega)) (fun k _ _ => by rw [ha]) z9, RA_c (fun x hx => all x (by omega) (by omega) (by omega) (by omega)) (m140 41 (by omega)) (fun k _ _ => by rw [ha]) z10⟩, by rw [a0, m140 2 (by omega)]; exact zs⟩
      have N2' : N5 2 = M5 2 := P 2 (by omega) (by omega)
      have N3' : N5 3 = M5 3 := P 3 (by omega) (by omega)
      unfold RTp
      rw [N2', N3', n5, G 2 (by omega), G 3 (by omega), o5, m140 16 (by omega), m140 17 (by omega), r5, r4, r3, r2, r1, s5, s4, s3, s2, s1, F (140 + 6) (by omega) (by omega)]
      refine ⟨⟨rfl, by omega, ?_, t4, t5⟩, ?_⟩
      · exact tp_eq (tp_eq (tp_eq (tp_eq (tp_eq t3))))
      · unfold RX
        rw [all 25 (by omega) (by omega) (by omega) (by omega), all 26 (by omega) (by omega) (by omega) (by omega)]
        exact tx
  · refine ⟨vI (-1), M, M, ?_, ?_, h⟩
    · rw [E_34 k0]
      simp (disch := first | assumption | decide | omega | (simp only [List.length_cons, List.length_nil] <;> omega)) only [lgt_0, lgt_s, lset_0, lset_s, lst1_0, lst1_s, lst2_0, lst2_s, ev_iconst, ev_lconst, ev_ldc, ev_null, ev_iload, ev_lload, ev_aload, ev_istore, ev_lstore, ev_astore, ev_iinc, ev_iadd, ev_isub, ev_imul, ev_iand, ev_ior, ev_ishl, ev_ishr, ev_idiv, ev_irem, ev_ineg, ev_ladd, ev_lsub, ev_lmul, ev_land, ev_lor, ev_ldiv, ev_lrem, ev_lshl, ev_i2l, ev_l2i, ev_i2b, ev_i2s, ev_lcmp, ev_dupI, ev_dupR, ev_dup2, ev_popI, ev_popR, ev_alen, ev_xlen, ev_xald, ev_iald, ev_lald, ev_bald, ev_zald, ev_aald, ev_iast, ev_last, ev_bast, ev_zast, ev_aast, ev_gfI, ev_gfL, ev_gfR, ev_pfI, ev_pfZ, ev_pfL, ev_pfR, ev_new, ev_newa, ev_newq, ev_copy, ev_slen, ev_schr, ev_obj, ev_mmin, ev_mabs, ev_mmax, ev_goto, ev_jsr, ev_icmp_eq, ev_if_eq, ev_icmp_ne, ev_if_ne, ev_icmp_lt, ev_if_lt, ev_icmp_ge, ev_if_ge, ev_icmp_gt, ev_if_gt, ev_icmp_le, ev_if_le, ev_ifnull0, ev_ifnull1, ev_ifnn0, ev_ifnn1, ev_tsw, ev_lsw, ev_iret, ev_zret, ev_lret, ev_aret, ev_ret, ev_call0, ev_call1, ev_call2, ev_call3, ev_call4, ev_call5, ev_call6, Option.toList_some, Option.toList_none, List.cons_append, List.nil_append, List.length_cons, List.length_nil, Nat.reduceMod, Nat.reduceDiv, Nat.reduceLeDiff, nc, ↓reduceIte, Nat.zero_le, reduceCtorEq, w32_id, Int.reduceEq, Int.reduceNe, Int.reduceLT, Int.reduceLE, Int.reduceGT, Int.reduceGE, Int.reduceAdd, Int.reduceSub, Int.reduceMul, Int.reduceNeg, ne_eq, not_true_eq_false, not_false_eq_true, eq_self, ↓if_pos, ↓if_neg, w0_r0_3, w0_r0_4, w0_r0_5, w0_r0_6, w0_r0_7, w0_r0_8, w0_r0_10, w0_r0_11, w0_r0_12, w0_r0_13, w0_r0_14, w0_r0_15, w0_r0_16, w0_r0_17, w0_r0_18, J_34_0, k_34_0, J_34_15, k_34_15, hn]
    · have hnm : M 140 10 = n := t1.symm
      rw [E_237 mk0]
      simp (disch := first | assumption | decide | omega | (simp only [List.length_cons, List.length_nil] <;> omega)) only [lgt_0, lgt_s, lset_0, lset_s, lst1_0, lst1_s, lst2_0, lst2_s, ev_iconst, ev_lconst, ev_ldc, ev_null, ev_iload, ev_lload, ev_aload, ev_istore, ev_lstore, ev_astore, ev_iinc, ev_iadd, ev_isub, ev_imul, ev_iand, ev_ior, ev_ishl, ev_ishr, ev_idiv, ev_irem, ev_ineg, ev_ladd, ev_lsub, ev_lmul, ev_land, ev_lor, ev_ldiv, ev_lrem, ev_lshl, ev_i2l, ev_l2i, ev_i2b, ev_i2s, ev_lcmp, ev_dupI, ev_dupR, ev_dup2, ev_popI, ev_popR, ev_alen, ev_xlen, ev_xald, ev_iald, ev_lald, ev_bald, ev_zald, ev_aald, ev_iast, ev_last, ev_bast, ev_zast, ev_aast, ev_gfI, ev_gfL, ev_gfR, ev_pfI, ev_pfZ, ev_pfL, ev_pfR, ev_new, ev_newa, ev_newq, ev_copy, ev_slen, ev_schr, ev_obj, ev_mmin, ev_mabs, ev_mmax, ev_goto, ev_jsr, ev_icmp_eq, ev_if_eq, ev_icmp_ne, ev_if_ne, ev_icmp_lt, ev_if_lt, ev_icmp_ge, ev_if_ge, ev_icmp_gt, ev_if_gt, ev_icmp_le, ev_if_le, ev_ifnull0, ev_ifnull1, ev_ifnn0, ev_ifnn1, ev_tsw, ev_lsw, ev_iret, ev_zret, ev_lret, ev_aret, ev_ret, ev_call0, ev_call1, ev_call2, ev_call3, ev_call4, ev_call5, ev_call6, Option.toList_some, Option.toList_none, List.cons_append, List.nil_append, List.length_cons, List.length_nil, Nat.reduceMod, Nat.reduceDiv, Nat.reduceLeDiff, nc, ↓reduceIte, Nat.zero_le, reduceCtorEq, w32_id, Int.reduceEq, Int.reduceNe, Int.reduceLT, Int.reduceLE, Int.reduceGT, Int.reduceGE, Int.reduceAdd, Int.reduceSub, Int.reduceMul, Int.reduceNeg, ne_eq, not_true_eq_false, not_false_eq_true, eq_self, ↓if_pos, ↓if_neg, J_237_0, k_237_0, J_237_15, k_237_15, hnm]
end FEE
