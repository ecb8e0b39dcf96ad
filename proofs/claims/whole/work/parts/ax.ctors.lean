/-! CONSTRUCTORS, one by one. -/
section CTS
variable {X : Int → Int}
def bw_2 (n : Nat) : List SE := [(1, 10, [some (n + 1), none, none, none, none, none, none, none, none, none]), (102, 800, [])]
def cw_2 : CL := [upH (upH z0 2 (-1)) 3 (-1), z0]
theorem nw_2 : CT X 2 1 [] (bw_2) cw_2 := by
  intro P M
  have s0 : BS P M [(1, cN 1, List.replicate (cN 1) none)] [z0] (clr M P.length) := bs0
  obtain ⟨M1, s1, e1⟩ := cgA (X := X) (y := 2) (ls := []) (f := 64) (t := .byte) (n := 800) (L' := [(1, 10, [some (P.length + 1), none, none, none, none, none, none, none, none, none]), (102, 800, [])]) s0 (Nat.succ_pos _) rfl (by decide) rfl
  obtain ⟨M2, s2, e2⟩ := cgI (X := X) (y := 2) (ls := []) (f := 66) (v := (-1)) s1 rfl rfl
  obtain ⟨M3, s3, e3⟩ := cgI (X := X) (y := 2) (ls := []) (f := 67) (v := (-1)) s2 rfl rfl
  refine ⟨rfl, M3, ?_, s3.1, s3.2.1⟩
  rw [E_2]
  unfold k_2_0
  rw [cg0, e1, e2, e3, ev_ret]
  rfl
def bw_3 (n : Nat) : List SE := [(2, 9, [some (n + 1), some (n + 2), some (n + 3), some (n + 4), some (n + 5), some (n + 6), some (n + 7), some (n + 8), none]), (100, 15, []), (101, 5, []), (100, 5, []), (100, 5, []), (100, 48, []), (100, 48, []), (100, 48, []), (100, 48, [])]
def cw_3 : CL := qup (qup (qup (qup (qup (qup (qup (qup (qfl [upH z0 8 0, z0, z0, z0, z0, z0, z0, z0, z0] 1 15 0) 1 3 10) 1 4 5) 1 7 3) 1 8 1) 1 9 48) 1 11 1) 1 12 5) 1 13 5
theorem nw_3 : CT X 3 2 [] (bw_3) cw_3 := by
  intro P M
  have s0 : BS P M [(2, cN 2, List.replicate (cN 2) none)] [z0] (clr M P.length) := bs0
  obtain ⟨M1, s1, e1⟩ := cgA (X := X) (y := 3) (ls := []) (f := 128) (t := .int) (n := 15) (L' := [(2, 9, [some (P.length + 1), none, none, none, none, none, none, none, none]), (100, 15, [])]) s0 (Nat.succ_pos _) rfl (by decide) rfl
  obtain ⟨M2, s2, e2⟩ := cgA (X := X) (y := 3) (ls := []) (f := 129) (t := .long) (n := 5) (L' := [(2, 9, [some (P.length + 1), some (P.length + 2), none, none, none, none, none, none, none]), (100, 15, []), (101, 5, [])]) s1 (Nat.succ_pos _) rfl (by decide) rfl
  obtain ⟨M3, s3, e3⟩ := cgA (X := X) (y := 3) (ls := []) (f := 130) (t := .int) (n := 5) (L' := [(2, 9, [some (P.length + 1), some (P.length + 2), some (P.length + 3), none, none, none, none, none, none]), (100, 15, []), (101, 5, []), (100, 5, [])]) s2 (Nat.succ_pos _) rfl (by decide) rfl
  obtain ⟨M4, s4, e4⟩ := cgA (X := X) (y := 3) (ls := []) (f := 131) (t := .int) (n := 5) (L' := [(2, 9, [some (P.length + 1), some (P.length + 2), some (P.length + 3), some (P.length + 4), none, none, none, none, none]), (100, 15, []), (101, 5, []), (100, 5, []), (100, 5, [])]) s3 (Nat.succ_pos _) rfl (by decide) rfl
  obtain ⟨M5, s5, e5⟩ := cgA (X := X) (y := 3) (ls := []) (f := 132) (t := .int) (n := 48) (L' := [(2, 9, [some (P.length + 1), some (P.length + 2), some (P.length + 3), some (P.length + 4), some (P.length + 5), none, none, none, none]), (100, 15, []), (101, 5, []), (100, 5, []), (100, 5, []), (100, 48, [])]) s4 (Nat.succ_pos _) rfl (by decide) rfl
  obtain ⟨M6, s6, e6⟩ := cgA (X := X) (y := 3) (ls := []) (f := 133) (t := .int) (n := 48) (L' := [(2, 9, [some (P.length + 1), some (P.length + 2), some (P.length + 3), some (P.length + 4), some (P.length + 5), some (P.length + 6), none, none, none]), (100, 15, []), (101, 5, []), (100, 5, []), (100, 5, []), (100, 48, []), (100, 48, [])]) s5 (Nat.succ_pos _) rfl (by decide) rfl
  obtain ⟨M7, s7, e7⟩ := cgA (X := X) (y := 3) (ls := []) (f := 134) (t := .int) (n := 48) (L' := [(2, 9, [some (P.length + 1), some (P.length + 2), some (P.length + 3), some (P.length + 4), some (P.length + 5), some (P.length + 6), some (P.length + 7), none, none]), (100, 15, []), (101, 5, []), (100, 5, []), (100, 5, []), (100, 48, []), (100, 48, []), (100, 48, [])]) s6 (Nat.succ_pos _) rfl (by decide) rfl
  obtain ⟨M8, s8, e8⟩ := cgA (X := X) (y := 3) (ls := []) (f := 135) (t := .int) (n := 48) (L' := [(2, 9, [some (P.length + 1), some (P.length + 2), some (P.length + 3), some (P.length + 4), some (P.length + 5), some (P.length + 6), some (P.length + 7), some (P.length + 8), none]), (100, 15, []), (101, 5, []), (100, 5, []), (100, 5, []), (100, 48, []), (100, 48, []), (100, 48, []), (100, 48, [])]) s7 (Nat.succ_pos _) rfl (by decide) rfl
  have hc : CH (P ++ bw_3 P.length) P.length := by
    unfold CH bw_3
    simp only [knd_P, knd_Pj, len_Pj, rfs_P]
    exact ⟨rfl, rfl, rfl, rfl, rfl, rfl, rfl, rfl, rfl, rfl, rfl, rfl, rfl, rfl, rfl, rfl, rfl, rfl, rfl, rfl, rfl, rfl, rfl, rfl, rfl⟩
  have ec := s_empty (X := X) (M := M8) hc
  have t0 := bs_up (a := 0) (j := 8) (z := 0) s8 rfl
  have t1 := bs_fl (a := 1) (n := 15) (v := 0) t0 rfl
  have t2 := bs_up (a := 1) (j := 3) (z := 10) t1 rfl
  have t3 := bs_up (a := 1) (j := 4) (z := 5) t2 rfl
  have t4 := bs_up (a := 1) (j := 7) (z := 3) t3 rfl
  have t5 := bs_up (a := 1) (j := 8) (z := 1) t4 rfl
  have t6 := bs_up (a := 1) (j := 9) (z := 48) t5 rfl
  have t7 := bs_up (a := 1) (j := 11) (z := 1) t6 rfl
  have t8 := bs_up (a := 1) (j := 12) (z := 5) t7 rfl
  have t9 := bs_up (a := 1) (j := 13) (z := 5) t8 rfl
  refine ⟨rfl, _, ?_, t9.1, t9.2.1⟩
  rw [E_3]
  unfold k_3_0
  rw [cg0, e1, e2, e3, e4, e5, e6, e7, e8]
  have ec2 : evc X 4 [vR (some P.length)] (P ++ ([(2, 9, [some (P.length + 1), some (P.length + 2), some (P.length + 3), some (P.length + 4), some (P.length + 5), some (P.length + 6), some (P.length + 7), some (P.length + 8), none]), (100, 15, []), (101, 5, []), (100, 5, []), (100, 5, []), (100, 48, []), (100, 48, []), (100, 48, []), (100, 48, [])])) M8 = _ := ec
  simp (disch := first | assumption | decide | omega | (simp only [List.length_cons, List.length_nil] <;> omega)) only [lgt_0, lgt_s, lset_0, lset_s, lst1_0, lst1_s, lst2_0, lst2_s, ev_iconst, ev_lconst, ev_ldc, ev_null, ev_iload, ev_lload, ev_aload, ev_istore, ev_lstore, ev_astore, ev_iinc, ev_iadd, ev_isub, ev_imul, ev_iand, ev_ior, ev_ishl, ev_ishr, ev_idiv, ev_irem, ev_ineg, ev_ladd, ev_lsub, ev_lmul, ev_land, ev_lor, ev_ldiv, ev_lrem, ev_lshl, ev_i2l, ev_l2i, ev_i2b, ev_i2s, ev_lcmp, ev_dupI, ev_dupR, ev_dup2, ev_popI, ev_popR, ev_alen, ev_xlen, ev_xald, ev_iald, ev_lald, ev_bald, ev_zald, ev_aald, ev_iast, ev_last, ev_bast, ev_zast, ev_aast, ev_gfI, ev_gfL, ev_gfR, ev_pfI, ev_pfZ, ev_pfL, ev_pfR, ev_new, ev_newa, ev_newq, ev_copy, ev_slen, ev_schr, ev_obj, ev_mmin, ev_mabs, ev_mmax, ev_goto, ev_jsr, ev_icmp_eq, ev_if_eq, ev_icmp_ne, ev_if_ne, ev_icmp_lt, ev_if_lt, ev_icmp_ge, ev_if_ge, ev_icmp_gt, ev_if_gt, ev_icmp_le, ev_if_le, ev_ifnull0, ev_ifnull1, ev_ifnn0, ev_ifnn1, ev_tsw, ev_lsw, ev_iret, ev_zret, ev_lret, ev_aret, ev_ret, ev_call0, ev_call1, ev_call2, ev_call3, ev_call4, ev_call5, ev_call6, Option.toList_some, Option.toList_none, List.cons_append, List.nil_append, List.length_cons, List.length_nil, Nat.reduceMod, Nat.reduceDiv, Nat.reduceLeDiff, nc, ↓reduceIte, Nat.zero_le, reduceCtorEq, w32_id, Int.reduceEq, Int.reduceNe, Int.reduceLT, Int.reduceLE, Int.reduceGT, Int.reduceGE, Int.reduceAdd, Int.reduceSub, Int.reduceMul, Int.reduceNeg, ne_eq, not_true_eq_false, not_false_eq_true, eq_self, ↓if_pos, ↓if_neg, ec2]
  rfl
def bw_6 (n : Nat) : List SE := [(3, 2, [some (n + 1), some (n + 2)]), (100, 48, []), (100, 48, [])]
def cw_6 : CL := qfl (qfl [z0, z0, z0] 1 48 (-1)) 2 48 (-1)
theorem nw_6 : CT X 6 3 [] (bw_6) cw_6 := by
  intro P M
  have s0 : BS P M [(3, cN 3, List.replicate (cN 3) none)] [z0] (clr M P.length) := bs0
  obtain ⟨M1, s1, e1⟩ := cgA (X := X) (y := 6) (ls := []) (f := 192) (t := .int) (n := 48) (L' := [(3, 2, [some (P.length + 1), none]), (100, 48, [])]) s0 (Nat.succ_pos _) rfl (by decide) rfl
  obtain ⟨M2, s2, e2⟩ := cgA (X := X) (y := 6) (ls := []) (f := 193) (t := .int) (n := 48) (L' := [(3, 2, [some (P.length + 1), some (P.length + 2)]), (100, 48, []), (100, 48, [])]) s1 (Nat.succ_pos _) rfl (by decide) rfl
  have hc : PL (P ++ bw_6 P.length) P.length := by
    unfold PL bw_6
    simp only [knd_P, knd_Pj, len_Pj, rfs_P]
    exact ⟨rfl, rfl, rfl, rfl, rfl, rfl, rfl⟩
  have ec := s_pempty (X := X) (M := M2) hc
  have t1 := bs_fl (a := 1) (n := 48) (v := -1) s2 rfl
  have t2 := bs_fl (a := 2) (n := 48) (v := -1) t1 rfl
  refine ⟨rfl, _, ?_, t2.1, t2.2.1⟩
  rw [E_6]
  unfold k_6_0
  rw [cg0, e1, e2]
  have ec2 : evc X 7 [vR (some P.length)] (P ++ ([(3, 2, [some (P.length + 1), some (P.length + 2)]), (100, 48, []), (100, 48, [])])) M2 = _ := ec
  simp (disch := first | assumption | decide | omega | (simp only [List.length_cons, List.length_nil] <;> omega)) only [lgt_0, lgt_s, lset_0, lset_s, lst1_0, lst1_s, lst2_0, lst2_s, ev_iconst, ev_lconst, ev_ldc, ev_null, ev_iload, ev_lload, ev_aload, ev_istore, ev_lstore, ev_astore, ev_iinc, ev_iadd, ev_isub, ev_imul, ev_iand, ev_ior, ev_ishl, ev_ishr, ev_idiv, ev_irem, ev_ineg, ev_ladd, ev_lsub, ev_lmul, ev_land, ev_lor, ev_ldiv, ev_lrem, ev_lshl, ev_i2l, ev_l2i, ev_i2b, ev_i2s, ev_lcmp, ev_dupI, ev_dupR, ev_dup2, ev_popI, ev_popR, ev_alen, ev_xlen, ev_xald, ev_iald, ev_lald, ev_bald, ev_zald, ev_aald, ev_iast, ev_last, ev_bast, ev_zast, ev_aast, ev_gfI, ev_gfL, ev_gfR, ev_pfI, ev_pfZ, ev_pfL, ev_pfR, ev_new, ev_newa, ev_newq, ev_copy, ev_slen, ev_schr, ev_obj, ev_mmin, ev_mabs, ev_mmax, ev_goto, ev_jsr, ev_icmp_eq, ev_if_eq, ev_icmp_ne, ev_if_ne, ev_icmp_lt, ev_if_lt, ev_icmp_ge, ev_if_ge, ev_icmp_gt, ev_if_gt, ev_icmp_le, ev_if_le, ev_ifnull0, ev_ifnull1, ev_ifnn0, ev_ifnn1, ev_tsw, ev_lsw, ev_iret, ev_zret, ev_lret, ev_aret, ev_ret, ev_call0, ev_call1, ev_call2, ev_call3, ev_call4, ev_call5, ev_call6, Option.toList_some, Option.toList_none, List.cons_append, List.nil_append, List.length_cons, List.length_nil, Nat.reduceMod, Nat.reduceDiv, Nat.reduceLeDiff, nc, ↓reduceIte, Nat.zero_le, reduceCtorEq, w32_id, Int.reduceEq, Int.reduceNe, Int.reduceLT, Int.reduceLE, Int.reduceGT, Int.reduceGE, Int.reduceAdd, Int.reduceSub, Int.reduceMul, Int.reduceNeg, ne_eq, not_true_eq_false, not_false_eq_true, eq_self, ↓if_pos, ↓if_neg, ec2]
def bw_8 (n : Nat) : List SE := [(4, 6, [some (n + 1), some (n + 2), some (n + 3), none, none, none]), (100, 80, []), (100, 80, []), (100, 80, [])]
def cw_8 : CL := [z0, z0, z0, z0]
theorem nw_8 : CT X 8 4 [] (bw_8) cw_8 := by
  intro P M
  have s0 : BS P M [(4, cN 4, List.replicate (cN 4) none)] [z0] (clr M P.length) := bs0
  obtain ⟨M1, s1, e1⟩ := cgA (X := X) (y := 8) (ls := []) (f := 256) (t := .int) (n := 80) (L' := [(4, 6, [some (P.length + 1), none, none, none, none, none]), (100, 80, [])]) s0 (Nat.succ_pos _) rfl (by decide) rfl
  obtain ⟨M2, s2, e2⟩ := cgA (X := X) (y := 8) (ls := []) (f := 257) (t := .int) (n := 80) (L' := [(4, 6, [some (P.length + 1), some (P.length + 2), none, none, none, none]), (100, 80, []), (100, 80, [])]) s1 (Nat.succ_pos _) rfl (by decide) rfl
  obtain ⟨M3, s3, e3⟩ := cgA (X := X) (y := 8) (ls := []) (f := 258) (t := .int) (n := 80) (L' := [(4, 6, [some (P.length + 1), some (P.length + 2), some (P.length + 3), none, none, none]), (100, 80, []), (100, 80, []), (100, 80, [])]) s2 (Nat.succ_pos _) rfl (by decide) rfl
  refine ⟨rfl, M3, ?_, s3.1, s3.2.1⟩
  rw [E_8]
  unfold k_8_0
  rw [cg0, e1, e2, e3, ev_ret]
  rfl
def bw_11 (n : Nat) : List SE := [(7, 11, [some (n + 1), some (n + 2), none, none, some (n + 3), some (n + 4), some (n + 5), some (n + 6), some (n + 7), some (n + 8), some (n + 9)]), (100, 48, []), (100, 48, []), (100, 2400, []), (100, 48, []), (100, 50, []), (100, 50, []), (100, 50, []), (100, 50, []), (103, 50, [])]
def cw_11 : CL := [z0, z0, z0, z0, z0, z0, z0, z0, z0, z0]
theorem nw_11 : CT X 11 7 [] (bw_11) cw_11 := by
  intro P M
  have s0 : BS P M [(7, cN 7, List.replicate (cN 7) none)] [z0] (clr M P.length) := bs0
  obtain ⟨M1, s1, e1⟩ := cgA (X := X) (y := 11) (ls := []) (f := 448) (t := .int) (n := 48) (L' := [(7, 11, [some (P.length + 1), none, none, none, none, none, none, none, none, none, none]), (100, 48, [])]) s0 (Nat.succ_pos _) rfl (by decide) rfl
  obtain ⟨M2, s2, e2⟩ := cgA (X := X) (y := 11) (ls := []) (f := 449) (t := .int) (n := 48) (L' := [(7, 11, [some (P.length + 1), some (P.length + 2), none, none, none, none, none, none, none, none, none]), (100, 48, []), (100, 48, [])]) s1 (Nat.succ_pos _) rfl (by decide) rfl
  obtain ⟨M3, s3, e3⟩ := cgA (X := X) (y := 11) (ls := []) (f := 452) (t := .int) (n := 2400) (L' := [(7, 11, [some (P.length + 1), some (P.length + 2), none, none, some (P.length + 3), none, none, none, none, none, none]), (100, 48, []), (100, 48, []), (100, 2400, [])]) s2 (Nat.succ_pos _) rfl (by decide) rfl
  obtain ⟨M4, s4, e4⟩ := cgA (X := X) (y := 11) (ls := []) (f := 453) (t := .int) (n := 48) (L' := [(7, 11, [some (P.length + 1), some (P.length + 2), none, none, some (P.length + 3), some (P.length + 4), none, none, none, none, none]), (100, 48, []), (100, 48, []), (100, 2400, []), (100, 48, [])]) s3 (Nat.succ_pos _) rfl (by decide) rfl
  obtain ⟨M5, s5, e5⟩ := cgA (X := X) (y := 11) (ls := []) (f := 454) (t := .int) (n := 50) (L' := [(7, 11, [some (P.length + 1), some (P.length + 2), none, none, some (P.length + 3), some (P.length + 4), some (P.length + 5), none, none, none, none]), (100, 48, []), (100, 48, []), (100, 2400, []), (100, 48, []), (100, 50, [])]) s4 (Nat.succ_pos _) rfl (by decide) rfl
  obtain ⟨M6, s6, e6⟩ := cgA (X := X) (y := 11) (ls := []) (f := 455) (t := .int) (n := 50) (L' := [(7, 11, [some (P.length + 1), some (P.length + 2), none, none, some (P.length + 3), some (P.length + 4), some (P.length + 5), some (P.length + 6), none, none, none]), (100, 48, []), (100, 48, []), (100, 2400, []), (100, 48, []), (100, 50, []), (100, 50, [])]) s5 (Nat.succ_pos _) rfl (by decide) rfl
  obtain ⟨M7, s7, e7⟩ := cgA (X := X) (y := 11) (ls := []) (f := 456) (t := .int) (n := 50) (L' := [(7, 11, [some (P.length + 1), some (P.length + 2), none, none, some (P.length + 3), some (P.length + 4), some (P.length + 5), some (P.length + 6), some (P.length + 7), none, none]), (100, 48, []), (100, 48, []), (100, 2400, []), (100, 48, []), (100, 50, []), (100, 50, []), (100, 50, [])]) s6 (Nat.succ_pos _) rfl (by decide) rfl
  obtain ⟨M8, s8, e8⟩ := cgA (X := X) (y := 11) (ls := []) (f := 457) (t := .int) (n := 50) (L' := [(7, 11, [some (P.length + 1), some (P.length + 2), none, none, some (P.length + 3), some (P.length + 4), some (P.length + 5), some (P.length + 6), some (P.length + 7), some (P.length + 8), none]), (100, 48, []), (100, 48, []), (100, 2400, []), (100, 48, []), (100, 50, []), (100, 50, []), (100, 50, []), (100, 50, [])]) s7 (Nat.succ_pos _) rfl (by decide) rfl
  obtain ⟨M9, s9, e9⟩ := cgA (X := X) (y := 11) (ls := []) (f := 458) (t := .boolean) (n := 50) (L' := [(7, 11, [some (P.length + 1), some (P.length + 2), none, none, some (P.length + 3), some (P.length + 4), some (P.length + 5), some (P.length + 6), some (P.length + 7), some (P.length + 8), some (P.length + 9)]), (100, 48, []), (100, 48, []), (100, 2400, []), (100, 48, []), (100, 50, []), (100, 50, []), (100, 50, []), (100, 50, []), (103, 50, [])]) s8 (Nat.succ_pos _) rfl (by decide) rfl
  refine ⟨rfl, M9, ?_, s9.1, s9.2.1⟩
  rw [E_11]
  unfold k_11_0
  rw [cg0, e1, e2, e3, e4, e5, e6, e7, e8, e9, ev_ret]
  rfl
def bw_14 (n : Nat) : List SE := [(10, 3, [some (n + 1), none, none]), (101, 60, [])]
def cw_14 : CL := [upH z0 2 (-1), z0]
theorem nw_14 : CT X 14 10 [] (bw_14) cw_14 := by
  intro P M
  have s0 : BS P M [(10, cN 10, List.replicate (cN 10) none)] [z0] (clr M P.length) := bs0
  obtain ⟨M1, s1, e1⟩ := cgA (X := X) (y := 14) (ls := []) (f := 640) (t := .long) (n := 60) (L' := [(10, 3, [some (P.length + 1), none, none]), (101, 60, [])]) s0 (Nat.succ_pos _) rfl (by decide) rfl
  obtain ⟨M2, s2, e2⟩ := cgI (X := X) (y := 14) (ls := []) (f := 642) (v := (-1)) s1 rfl rfl
  refine ⟨rfl, M2, ?_, s2.1, s2.2.1⟩
  rw [E_14]
  unfold k_14_0
  rw [cg0, e1, e2, ev_ret]
  rfl
def bw_9 (r : Option Nat) (n : Nat) : List SE := [(5, 4, [r, some (n + 1), none, none])] ++ bw_3 (n + 1)
def cw_9 : CL := [z0] ++ cw_3
theorem nw_9 {r : Option Nat} : CT X 9 5 [vR r] (bw_9 r) cw_9 := by
  intro P M
  have s0 : BS P M [(5, cN 5, List.replicate (cN 5) none)] [z0] (clr M P.length) := bs0
  obtain ⟨M1, s1, e1⟩ := cgN (X := X) (y := 9) (ls := [some (vR r)]) (f := 321) (L' := [(5, 4, [none, some (P.length + 1), none, none])] ++ bw_3 (P.length + 1)) nw_3 s0 (Nat.succ_pos _) rfl rfl
  obtain ⟨s2, e2⟩ := cgR (X := X) (y := 9) (ls := []) (f := 320) (L' := [(5, 4, [r, some (P.length + 1), none, none])] ++ bw_3 (P.length + 1)) (r := r) s1 rfl rfl
  refine ⟨rfl, M1, ?_, s2.1, s2.2.1⟩
  rw [E_9]
  unfold k_9_0
  rw [cg0, e1, e2, ev_ret]
  rfl
def bw_10 (r : Option Nat) (n : Nat) : List SE := [(6, 3, [r, some (n + 1), none])] ++ bw_8 (n + 1)
def cw_10 : CL := [z0] ++ cw_8
theorem nw_10 {r : Option Nat} : CT X 10 6 [vR r] (bw_10 r) cw_10 := by
  intro P M
  have s0 : BS P M [(6, cN 6, List.replicate (cN 6) none)] [z0] (clr M P.length) := bs0
  obtain ⟨M1, s1, e1⟩ := cgN (X := X) (y := 10) (ls := [some (vR r)]) (f := 385) (L' := [(6, 3, [none, some (P.length + 1), none])] ++ bw_8 (P.length + 1)) nw_8 s0 (Nat.succ_pos _) rfl rfl
  obtain ⟨s2, e2⟩ := cgR (X := X) (y := 10) (ls := []) (f := 384) (L' := [(6, 3, [r, some (P.length + 1), none])] ++ bw_8 (P.length + 1)) (r := r) s1 rfl rfl
  refine ⟨rfl, M1, ?_, s2.1, s2.2.1⟩
  rw [E_10]
  unfold k_10_0
  rw [cg0, e1, e2, ev_ret]
  rfl
def bw_12 (r : Option Nat) (n : Nat) : List SE := [(8, 8, [some (n + 1), some (n + 2), some (n + 3), none, none, some (n + 4), some (n + 5), r]), (100, 4, []), (100, 4, []), (100, 4, []), (100, 12, [])] ++ bw_3 (n + 5)
def cw_12 : CL := [z0, z0, z0, z0, z0] ++ cw_3
theorem nw_12 {r : Option Nat} : CT X 12 8 [vR r] (bw_12 r) cw_12 := by
  intro P M
  have s0 : BS P M [(8, cN 8, List.replicate (cN 8) none)] [z0] (clr M P.length) := bs0
  obtain ⟨M1, s1, e1⟩ := cgA (X := X) (y := 12) (ls := [some (vR r)]) (f := 512) (t := .int) (n := 4) (L' := [(8, 8, [some (P.length + 1), none, none, none, none, none, none, none]), (100, 4, [])]) s0 (Nat.succ_pos _) rfl (by decide) rfl
  obtain ⟨M2, s2, e2⟩ := cgA (X := X) (y := 12) (ls := [some (vR r)]) (f := 513) (t := .int) (n := 4) (L' := [(8, 8, [some (P.length + 1), some (P.length + 2), none, none, none, none, none, none]), (100, 4, []), (100, 4, [])]) s1 (Nat.succ_pos _) rfl (by decide) rfl
  obtain ⟨M3, s3, e3⟩ := cgA (X := X) (y := 12) (ls := [some (vR r)]) (f := 514) (t := .int) (n := 4) (L' := [(8, 8, [some (P.length + 1), some (P.length + 2), some (P.length + 3), none, none, none, none, none]), (100, 4, []), (100, 4, []), (100, 4, [])]) s2 (Nat.succ_pos _) rfl (by decide) rfl
  obtain ⟨M4, s4, e4⟩ := cgA (X := X) (y := 12) (ls := [some (vR r)]) (f := 517) (t := .int) (n := 12) (L' := [(8, 8, [some (P.length + 1), some (P.length + 2), some (P.length + 3), none, none, some (P.length + 4), none, none]), (100, 4, []), (100, 4, []), (100, 4, []), (100, 12, [])]) s3 (Nat.succ_pos _) rfl (by decide) rfl
  obtain ⟨M5, s5, e5⟩ := cgN (X := X) (y := 12) (ls := [some (vR r)]) (f := 518) (L' := [(8, 8, [some (P.length + 1), some (P.length + 2), some (P.length + 3), none, none, some (P.length + 4), some (P.length + 5), none]), (100, 4, []), (100, 4, []), (100, 4, []), (100, 12, [])] ++ bw_3 (P.length + 5)) nw_3 s4 (Nat.succ_pos _) rfl rfl
  obtain ⟨s6, e6⟩ := cgR (X := X) (y := 12) (ls := []) (f := 519) (L' := [(8, 8, [some (P.length + 1), some (P.length + 2), some (P.length + 3), none, none, some (P.length + 4), some (P.length + 5), r]), (100, 4, []), (100, 4, []), (100, 4, []), (100, 12, [])] ++ bw_3 (P.length + 5)) (r := r) s5 rfl rfl
  refine ⟨rfl, M5, ?_, s6.1, s6.2.1⟩
  rw [E_12]
  unfold k_12_0
  rw [cg0, e1, e2, e3, e4, e5, e6, ev_ret]
  rfl
def bw_13 (n : Nat) : List SE := [(9, 11, [some (n + 1), none, none, none, none, none, none, some (n + 4), some (n + 5), some (n + 6), none])] ++ bw_6 (n + 1) ++ [(100, 5, []), (100, 3, []), (100, 3, [])]
def cw_13 : CL := [z0] ++ cw_6 ++ [z0] ++ [z0] ++ [z0]
theorem nw_13 : CT X 13 9 [] (bw_13) cw_13 := by
  intro P M
  have s0 : BS P M [(9, cN 9, List.replicate (cN 9) none)] [z0] (clr M P.length) := bs0
  obtain ⟨M1, s1, e1⟩ := cgN (X := X) (y := 13) (ls := []) (f := 576) (L' := [(9, 11, [some (P.length + 1), none, none, none, none, none, none, none, none, none, none])] ++ bw_6 (P.length + 1)) nw_6 s0 (Nat.succ_pos _) rfl rfl
  obtain ⟨M2, s2, e2⟩ := cgA (X := X) (y := 13) (ls := []) (f := 583) (t := .int) (n := 5) (L' := [(9, 11, [some (P.length + 1), none, none, none, none, none, none, some (P.length + 4), none, none, none])] ++ bw_6 (P.length + 1) ++ [(100, 5, [])]) s1 (Nat.succ_pos _) rfl (by decide) rfl
  obtain ⟨M3, s3, e3⟩ := cgA (X := X) (y := 13) (ls := []) (f := 584) (t := .int) (n := 3) (L' := [(9, 11, [some (P.length + 1), none, none, none, none, none, none, some (P.length + 4), some (P.length + 5), none, none])] ++ bw_6 (P.length + 1) ++ [(100, 5, []), (100, 3, [])]) s2 (Nat.succ_pos _) rfl (by decide) rfl
  obtain ⟨M4, s4, e4⟩ := cgA (X := X) (y := 13) (ls := []) (f := 585) (t := .int) (n := 3) (L' := [(9, 11, [some (P.length + 1), none, none, none, none, none, none, some (P.length + 4), some (P.length + 5), some (P.length + 6), none])] ++ bw_6 (P.length + 1) ++ [(100, 5, []), (100, 3, []), (100, 3, [])]) s3 (Nat.succ_pos _) rfl (by decide) rfl
  refine ⟨rfl, M4, ?_, s4.1, s4.2.1⟩
  rw [E_13]
  unfold k_13_0
  rw [cg0, e1, e2, e3, e4, ev_ret]
  rfl
def bw_15 (n : Nat) : List SE := [(11, 3, [some (n + 1), some (n + 10), some (n + 13)])] ++ bw_3 (n + 1) ++ bw_6 (n + 10) ++ bw_8 (n + 13)
def cw_15 : CL := [z0] ++ cw_3 ++ cw_6 ++ cw_8
theorem nw_15 : CT X 15 11 [] (bw_15) cw_15 := by
  intro P M
  have s0 : BS P M [(11, cN 11, List.replicate (cN 11) none)] [z0] (clr M P.length) := bs0
  obtain ⟨M1, s1, e1⟩ := cgN (X := X) (y := 15) (ls := []) (f := 704) (L' := [(11, 3, [some (P.length + 1), none, none])] ++ bw_3 (P.length + 1)) nw_3 s0 (Nat.succ_pos _) rfl rfl
  obtain ⟨M2, s2, e2⟩ := cgN (X := X) (y := 15) (ls := []) (f := 705) (L' := [(11, 3, [some (P.length + 1), some (P.length + 10), none])] ++ bw_3 (P.length + 1) ++ bw_6 (P.length + 10)) nw_6 s1 (Nat.succ_pos _) rfl rfl
  obtain ⟨M3, s3, e3⟩ := cgN (X := X) (y := 15) (ls := []) (f := 706) (L' := [(11, 3, [some (P.length + 1), some (P.length + 10), some (P.length + 13)])] ++ bw_3 (P.length + 1) ++ bw_6 (P.length + 10) ++ bw_8 (P.length + 13)) nw_8 s2 (Nat.succ_pos _) rfl rfl
  refine ⟨rfl, M3, ?_, s3.1, s3.2.1⟩
  rw [E_15]
  unfold k_15_0
  rw [cg0, e1, e2, e3, ev_ret]
  rfl
end CTS
