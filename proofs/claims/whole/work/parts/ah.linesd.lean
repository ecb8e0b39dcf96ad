/-! DIRECTIONS: the class reads a line. -/
section LND
variable {X : Int → Int} {M : Mem} {b : Int → Int} {n p m : Int} {d : DD} {NW : Int → List Int}
theorem opn_id {k c v : Int} (h2 : k ≠ 2) (h3 : k ≠ 3) : opn (addL d k c v) = opn d := by rw [opn_add, if_neg h2, if_neg h3]
/-- behind an added line its sign -/
theorem c_fin (g : gT b n) {M1 : Mem} (f0 : fD M M1) {q k c v : Int} (hc : cTc M1 b n q) (q0 : 0 ≤ q) (q1 : q ≤ n) (hd : cDd M1 (addL d k c v)) : ∃ v' M', fD M M' ∧ cRd b n (bnd (pSign b n q) fun p' => .ok (p', addL d k c v)) v' M' ∧ evc X 59 [vR (some 2)] SH0 M1 = some (some (vI v'), SH0, M') := by
  obtain ⟨v', Mc, fc, ⟨se, so⟩, e⟩ := c_goSign (X := X) g hc q0 q1
  refine ⟨v', Mc, fD_t f0 (fD_f fc), ?_, e⟩
  cases hs : pSign b n q with
  | error er =>
    obtain ⟨hv, h2, h3⟩ := se er hs
    subst hv
    exact cRd_e rfl h2 h3
  | ok q' =>
    obtain ⟨hv, hcq⟩ := so q' hs
    subst hv
    exact cRd_o rfl hcq (cDd_f hd fun c c0 c1 => fc.1 c (by omega))
theorem c_knit (g : gT b n) (h : cTc M b n p) (p0 : 0 ≤ p) (p1 : p ≤ n) (hN : cNm M NW m) (hd : cDd M d) (hI : dlI m d) (hs : d.2.2.2.2 < 40) : ∃ v M', fD M M' ∧ cRd b n (bnd (pNam b n NW m p) fun c => bnd (pNum b n 1 48 c.1) fun r => bnd (pSign b n r.1) fun p' => .ok (p', addL d 0 c.2 r.2)) v M' ∧ evc X 82 [vR (some 31), vR (some 4)] SH0 M = some (some (vI v), SH0, M') := by
  have k31 := w0_k31
  have k2 := w0_k2
  have r0 := w0_r31_0
  have r1 := w0_r31_1
  obtain ⟨v, Ma, fa, ne, no, e1⟩ := c_goName (X := X) g h p0 p1 hN
  rw [E_82 k31]
  cases h1 : pNam b n NW m p with
  | error er =>
    obtain ⟨hv, q2, q3⟩ := ne er h1
    subst hv
    refine ⟨0, Ma, fD_f fa, cRd_e rfl q2 q3, ?_⟩
    simp (disch := first | assumption | decide | omega | (simp only [List.length_cons, List.length_nil] <;> omega)) only [lgt_0, lgt_s, lset_0, lset_s, lst1_0, lst1_s, lst2_0, lst2_s, ev_iconst, ev_lconst, ev_ldc, ev_null, ev_iload, ev_lload, ev_aload, ev_istore, ev_lstore, ev_astore, ev_iinc, ev_iadd, ev_isub, ev_imul, ev_iand, ev_ior, ev_ishl, ev_ishr, ev_idiv, ev_irem, ev_ineg, ev_ladd, ev_lsub, ev_lmul, ev_land, ev_lor, ev_ldiv, ev_lrem, ev_lshl, ev_i2l, ev_l2i, ev_i2b, ev_i2s, ev_lcmp, ev_dupI, ev_dupR, ev_dup2, ev_popI, ev_popR, ev_alen, ev_xlen, ev_xald, ev_iald, ev_lald, ev_bald, ev_zald, ev_aald, ev_iast, ev_last, ev_bast, ev_zast, ev_aast, ev_gfI, ev_gfL, ev_gfR, ev_pfI, ev_pfZ, ev_pfL, ev_pfR, ev_new, ev_newa, ev_newq, ev_copy, ev_slen, ev_schr, ev_obj, ev_mmin, ev_mabs, ev_mmax, ev_goto, ev_jsr, ev_icmp_eq, ev_if_eq, ev_icmp_ne, ev_if_ne, ev_icmp_lt, ev_if_lt, ev_icmp_ge, ev_if_ge, ev_icmp_gt, ev_if_gt, ev_icmp_le, ev_if_le, ev_ifnull0, ev_ifnull1, ev_ifnn0, ev_ifnn1, ev_tsw, ev_lsw, ev_iret, ev_zret, ev_lret, ev_aret, ev_ret, ev_call0, ev_call1, ev_call2, ev_call3, ev_call4, ev_call5, ev_call6, Option.toList_some, Option.toList_none, List.cons_append, List.nil_append, List.length_cons, List.length_nil, Nat.reduceMod, Nat.reduceDiv, Nat.reduceLeDiff, nc, ↓reduceIte, Nat.zero_le, reduceCtorEq, w32_id, Int.reduceEq, Int.reduceNe, Int.reduceLT, Int.reduceLE, Int.reduceGT, Int.reduceGE, Int.reduceAdd, Int.reduceSub, Int.reduceMul, Int.reduceNeg, ne_eq, not_true_eq_false, not_false_eq_true, eq_self, ↓if_pos, ↓if_neg, J_82_0, k_82_0, J_82_10, k_82_10, J_82_37, k_82_37, r0, r1, e1]
  | ok c =>
  obtain ⟨hv, ca, a6⟩ := no c h1
  subst hv
  rw [bnd_o]
  have a1 := pNam_ok h1
  have t1 := tE_on (b := b) p1 (by rw [a1.1.1]; omega) p0
  have ec1 : c.1 = tE b n p := by rw [a1.2.1]
  have ec2 : fnF NW m (tW b n p) = c.2 := by rw [a1.2.1]
  rw [← ec1] at t1
  have hNa := cNm_f hN (fa.1 5 (by omega)) (fa.1 6 (by omega))
  have ed := c_namedD (X := X) hNa (tW_lts a1.1.1)
  rw [ec2] at ed
  obtain ⟨v, Mb, fb, nue, nuo, e2⟩ := c_goNumber (X := X) g ca t1.1 t1.2.1 (lo := 1) (hi := 48)
  cases h2 : pNum b n 1 48 c.1 with
  | error er =>
    obtain ⟨hv, q2, q3⟩ := nue er h2
    subst hv
    refine ⟨0, Mb, fD_t (fD_f fa) (fD_f fb), cRd_e rfl q2 q3, ?_⟩
    simp (disch := first | assumption | decide | omega | (simp only [List.length_cons, List.length_nil] <;> omega)) only [lgt_0, lgt_s, lset_0, lset_s, lst1_0, lst1_s, lst2_0, lst2_s, ev_iconst, ev_lconst, ev_ldc, ev_null, ev_iload, ev_lload, ev_aload, ev_istore, ev_lstore, ev_astore, ev_iinc, ev_iadd, ev_isub, ev_imul, ev_iand, ev_ior, ev_ishl, ev_ishr, ev_idiv, ev_irem, ev_ineg, ev_ladd, ev_lsub, ev_lmul, ev_land, ev_lor, ev_ldiv, ev_lrem, ev_lshl, ev_i2l, ev_l2i, ev_i2b, ev_i2s, ev_lcmp, ev_dupI, ev_dupR, ev_dup2, ev_popI, ev_popR, ev_alen, ev_xlen, ev_xald, ev_iald, ev_lald, ev_bald, ev_zald, ev_aald, ev_iast, ev_last, ev_bast, ev_zast, ev_aast, ev_gfI, ev_gfL, ev_gfR, ev_pfI, ev_pfZ, ev_pfL, ev_pfR, ev_new, ev_newa, ev_newq, ev_copy, ev_slen, ev_schr, ev_obj, ev_mmin, ev_mabs, ev_mmax, ev_goto, ev_jsr, ev_icmp_eq, ev_if_eq, ev_icmp_ne, ev_if_ne, ev_icmp_lt, ev_if_lt, ev_icmp_ge, ev_if_ge, ev_icmp_gt, ev_if_gt, ev_icmp_le, ev_if_le, ev_ifnull0, ev_ifnull1, ev_ifnn0, ev_ifnn1, ev_tsw, ev_lsw, ev_iret, ev_zret, ev_lret, ev_aret, ev_ret, ev_call0, ev_call1, ev_call2, ev_call3, ev_call4, ev_call5, ev_call6, Option.toList_some, Option.toList_none, List.cons_append, List.nil_append, List.length_cons, List.length_nil, Nat.reduceMod, Nat.reduceDiv, Nat.reduceLeDiff, nc, ↓reduceIte, Nat.zero_le, reduceCtorEq, w32_id, Int.reduceEq, Int.reduceNe, Int.reduceLT, Int.reduceLE, Int.reduceGT, Int.reduceGE, Int.reduceAdd, Int.reduceSub, Int.reduceMul, Int.reduceNeg, ne_eq, not_true_eq_false, not_false_eq_true, eq_self, ↓if_pos, ↓if_neg, J_82_0, k_82_0, J_82_10, k_82_10, J_82_37, k_82_37, r0, r1, e1, a6, ed, e2]
  | ok r =>
  obtain ⟨hv, cb, b5⟩ := nuo r h2
  subst hv
  rw [bnd_o]
  have a2 := pNum_ok h2
  have t2 := tE_on (b := b) t1.2.1 (by rw [a2.1]; omega) t1.1
  have er1 : r.1 = tE b n c.1 := by rw [a2.2.1]
  rw [← er1] at t2
  have hdb := cDd_f hd (M' := Mb) fun c c0 c1 => by rw [fb.1 c (by omega), fa.1 c (by omega)]
  have i2 := hI.2.1
  have i1 := hI.1
  obtain ⟨Mc, fc, hdc, e3⟩ := c_add (X := X) hdb.1 (by omega) i1 (k := 0) (c := c.2) (v := r.2)
  have hdc' : cDd Mc (addL d 0 c.2 r.2) := ⟨hdc, by rw [opn_id (by omega) (by omega), fc 31 (by omega)]; exact hdb.2⟩
  have c0 : fD M Mc := ⟨fun e x y => by rw [fc e (by omega), fb.1 e x, fa.1 e x], by rw [fc 2 (by omega), fb.2, fa.2]⟩
  obtain ⟨v, Md, fd, res, e4⟩ := c_fin (X := X) g c0 (cTc_f cb (fc 2 (by omega)) (fc 3 (by omega))) t2.1 t2.2.1 hdc'
  have v01 := cRd_01 res
  refine ⟨v, Md, fd, res, ?_⟩
  simp (disch := first | assumption | decide | omega | (simp only [List.length_cons, List.length_nil] <;> omega)) only [lgt_0, lgt_s, lset_0, lset_s, lst1_0, lst1_s, lst2_0, lst2_s, ev_iconst, ev_lconst, ev_ldc, ev_null, ev_iload, ev_lload, ev_aload, ev_istore, ev_lstore, ev_astore, ev_iinc, ev_iadd, ev_isub, ev_imul, ev_iand, ev_ior, ev_ishl, ev_ishr, ev_idiv, ev_irem, ev_ineg, ev_ladd, ev_lsub, ev_lmul, ev_land, ev_lor, ev_ldiv, ev_lrem, ev_lshl, ev_i2l, ev_l2i, ev_i2b, ev_i2s, ev_lcmp, ev_dupI, ev_dupR, ev_dup2, ev_popI, ev_popR, ev_alen, ev_xlen, ev_xald, ev_iald, ev_lald, ev_bald, ev_zald, ev_aald, ev_iast, ev_last, ev_bast, ev_zast, ev_aast, ev_gfI, ev_gfL, ev_gfR, ev_pfI, ev_pfZ, ev_pfL, ev_pfR, ev_new, ev_newa, ev_newq, ev_copy, ev_slen, ev_schr, ev_obj, ev_mmin, ev_mabs, ev_mmax, ev_goto, ev_jsr, ev_icmp_eq, ev_if_eq, ev_icmp_ne, ev_if_ne, ev_icmp_lt, ev_if_lt, ev_icmp_ge, ev_if_ge, ev_icmp_gt, ev_if_gt, ev_icmp_le, ev_if_le, ev_ifnull0, ev_ifnull1, ev_ifnn0, ev_ifnn1, ev_tsw, ev_lsw, ev_iret, ev_zret, ev_lret, ev_aret, ev_ret, ev_call0, ev_call1, ev_call2, ev_call3, ev_call4, ev_call5, ev_call6, Option.toList_some, Option.toList_none, List.cons_append, List.nil_append, List.length_cons, List.length_nil, Nat.reduceMod, Nat.reduceDiv, Nat.reduceLeDiff, nc, ↓reduceIte, Nat.zero_le, reduceCtorEq, w32_id, Int.reduceEq, Int.reduceNe, Int.reduceLT, Int.reduceLE, Int.reduceGT, Int.reduceGE, Int.reduceAdd, Int.reduceSub, Int.reduceMul, Int.reduceNeg, ne_eq, not_true_eq_false, not_false_eq_true, eq_self, ↓if_pos, ↓if_neg, J_82_0, k_82_0, J_82_10, k_82_10, J_82_37, k_82_37, r0, r1, e1, a6, ed, e2, b5, e3, e4]
theorem c_cut (g : gT b n) (h : cTc M b n p) (p0 : 0 ≤ p) (p1 : p ≤ n) (hN : cNm M NW m) (hd : cDd M d) (hI : dlI m d) (hs : d.2.2.2.2 < 40) : ∃ v M', fD M M' ∧ cRd b n (bnd (pNam b n NW m p) fun c => bnd (pSign b n c.1) fun p' => .ok (p', addL d 1 c.2 0)) v M' ∧ evc X 86 [vR (some 31), vR (some 4)] SH0 M = some (some (vI v), SH0, M') := by
  have k31 := w0_k31
  have k2 := w0_k2
  have r0 := w0_r31_0
  have r1 := w0_r31_1
  obtain ⟨v, Ma, fa, ne, no, e1⟩ := c_goName (X := X) g h p0 p1 hN
  rw [E_86 k31]
  cases h1 : pNam b n NW m p with
  | error er =>
    obtain ⟨hv, q2, q3⟩ := ne er h1
    subst hv
    refine ⟨0, Ma, fD_f fa, cRd_e rfl q2 q3, ?_⟩
    simp (disch := first | assumption | decide | omega | (simp only [List.length_cons, List.length_nil] <;> omega)) only [lgt_0, lgt_s, lset_0, lset_s, lst1_0, lst1_s, lst2_0, lst2_s, ev_iconst, ev_lconst, ev_ldc, ev_null, ev_iload, ev_lload, ev_aload, ev_istore, ev_lstore, ev_astore, ev_iinc, ev_iadd, ev_isub, ev_imul, ev_iand, ev_ior, ev_ishl, ev_ishr, ev_idiv, ev_irem, ev_ineg, ev_ladd, ev_lsub, ev_lmul, ev_land, ev_lor, ev_ldiv, ev_lrem, ev_lshl, ev_i2l, ev_l2i, ev_i2b, ev_i2s, ev_lcmp, ev_dupI, ev_dupR, ev_dup2, ev_popI, ev_popR, ev_alen, ev_xlen, ev_xald, ev_iald, ev_lald, ev_bald, ev_zald, ev_aald, ev_iast, ev_last, ev_bast, ev_zast, ev_aast, ev_gfI, ev_gfL, ev_gfR, ev_pfI, ev_pfZ, ev_pfL, ev_pfR, ev_new, ev_newa, ev_newq, ev_copy, ev_slen, ev_schr, ev_obj, ev_mmin, ev_mabs, ev_mmax, ev_goto, ev_jsr, ev_icmp_eq, ev_if_eq, ev_icmp_ne, ev_if_ne, ev_icmp_lt, ev_if_lt, ev_icmp_ge, ev_if_ge, ev_icmp_gt, ev_if_gt, ev_icmp_le, ev_if_le, ev_ifnull0, ev_ifnull1, ev_ifnn0, ev_ifnn1, ev_tsw, ev_lsw, ev_iret, ev_zret, ev_lret, ev_aret, ev_ret, ev_call0, ev_call1, ev_call2, ev_call3, ev_call4, ev_call5, ev_call6, Option.toList_some, Option.toList_none, List.cons_append, List.nil_append, List.length_cons, List.length_nil, Nat.reduceMod, Nat.reduceDiv, Nat.reduceLeDiff, nc, ↓reduceIte, Nat.zero_le, reduceCtorEq, w32_id, Int.reduceEq, Int.reduceNe, Int.reduceLT, Int.reduceLE, Int.reduceGT, Int.reduceGE, Int.reduceAdd, Int.reduceSub, Int.reduceMul, Int.reduceNeg, ne_eq, not_true_eq_false, not_false_eq_true, eq_self, ↓if_pos, ↓if_neg, J_86_0, k_86_0, J_86_10, k_86_10, r0, r1, e1]
  | ok c =>
  obtain ⟨hv, ca, a6⟩ := no c h1
  subst hv
  rw [bnd_o]
  have a1 := pNam_ok h1
  have t1 := tE_on (b := b) p1 (by rw [a1.1.1]; omega) p0
  have ec1 : c.1 = tE b n p := by rw [a1.2.1]
  have ec2 : fnF NW m (tW b n p) = c.2 := by rw [a1.2.1]
  rw [← ec1] at t1
  have hNa := cNm_f hN (fa.1 5 (by omega)) (fa.1 6 (by omega))
  have ed := c_namedD (X := X) hNa (tW_lts a1.1.1)
  rw [ec2] at ed
  have hda := cDd_f hd (M' := Ma) fun c c0 c1 => fa.1 c (by omega)
  have i2 := hI.2.1
  have i1 := hI.1
  obtain ⟨Mc, fc, hdc, e3⟩ := c_add (X := X) hda.1 (by omega) i1 (k := 1) (c := c.2) (v := 0)
  have hdc' : cDd Mc (addL d 1 c.2 0) := ⟨hdc, by rw [opn_id (by omega) (by omega), fc 31 (by omega)]; exact hda.2⟩
  have c0 : fD M Mc := ⟨fun e x y => by rw [fc e (by omega), fa.1 e x], by rw [fc 2 (by omega), fa.2]⟩
  obtain ⟨v, Md, fd, res, e4⟩ := c_fin (X := X) g c0 (cTc_f ca (fc 2 (by omega)) (fc 3 (by omega))) t1.1 t1.2.1 hdc'
  have v01 := cRd_01 res
  refine ⟨v, Md, fd, res, ?_⟩
  simp (disch := first | assumption | decide | omega | (simp only [List.length_cons, List.length_nil] <;> omega)) only [lgt_0, lgt_s, lset_0, lset_s, lst1_0, lst1_s, lst2_0, lst2_s, ev_iconst, ev_lconst, ev_ldc, ev_null, ev_iload, ev_lload, ev_aload, ev_istore, ev_lstore, ev_astore, ev_iinc, ev_iadd, ev_isub, ev_imul, ev_iand, ev_ior, ev_ishl, ev_ishr, ev_idiv, ev_irem, ev_ineg, ev_ladd, ev_lsub, ev_lmul, ev_land, ev_lor, ev_ldiv, ev_lrem, ev_lshl, ev_i2l, ev_l2i, ev_i2b, ev_i2s, ev_lcmp, ev_dupI, ev_dupR, ev_dup2, ev_popI, ev_popR, ev_alen, ev_xlen, ev_xald, ev_iald, ev_lald, ev_bald, ev_zald, ev_aald, ev_iast, ev_last, ev_bast, ev_zast, ev_aast, ev_gfI, ev_gfL, ev_gfR, ev_pfI, ev_pfZ, ev_pfL, ev_pfR, ev_new, ev_newa, ev_newq, ev_copy, ev_slen, ev_schr, ev_obj, ev_mmin, ev_mabs, ev_mmax, ev_goto, ev_jsr, ev_icmp_eq, ev_if_eq, ev_icmp_ne, ev_if_ne, ev_icmp_lt, ev_if_lt, ev_icmp_ge, ev_if_ge, ev_icmp_gt, ev_if_gt, ev_icmp_le, ev_if_le, ev_ifnull0, ev_ifnull1, ev_ifnn0, ev_ifnn1, ev_tsw, ev_lsw, ev_iret, ev_zret, ev_lret, ev_aret, ev_ret, ev_call0, ev_call1, ev_call2, ev_call3, ev_call4, ev_call5, ev_call6, Option.toList_some, Option.toList_none, List.cons_append, List.nil_append, List.length_cons, List.length_nil, Nat.reduceMod, Nat.reduceDiv, Nat.reduceLeDiff, nc, ↓reduceIte, Nat.zero_le, reduceCtorEq, w32_id, Int.reduceEq, Int.reduceNe, Int.reduceLT, Int.reduceLE, Int.reduceGT, Int.reduceGE, Int.reduceAdd, Int.reduceSub, Int.reduceMul, Int.reduceNeg, ne_eq, not_true_eq_false, not_false_eq_true, eq_self, ↓if_pos, ↓if_neg, J_86_0, k_86_0, J_86_10, k_86_10, r0, r1, e1, a6, ed, e3, e4]
theorem c_loopD (g : gT b n) (h : cAt M b n p) (p0 : 0 ≤ p) (p1 : p ≤ n) (hk : tK b n p ≠ 0) (hd : cDd M d) (hI : dlI m d) (hs : d.2.2.2.2 < 40) : ∃ v M', fD M M' ∧ cRd b n (if 3 ≤ (opn d).length then .error (7, tQ b n p) else bnd (pNum b n 1 48 (tE b n p)) fun r => bnd (pSign b n r.1) fun p' => .ok (p', addL d 2 (-1) r.2)) v M' ∧ evc X 87 [vR (some 31)] SH0 M = some (some (vI v), SH0, M') := by
  have k31 := w0_k31
  have k2 := w0_k2
  have r0 := w0_r31_0
  have r1 := w0_r31_1
  have o := hd.2
  rw [E_87 k31]
  by_cases z : 3 ≤ (opn d).length
  · have z' : ¬ M 31 2 < 3 := by omega
    have w := c_wrong (X := X) (M := M) (w := 7)
    rw [h.2.1] at w
    refine ⟨0, up (up M 2 2 7) 2 3 (tQ b n p), fD_w fD_0, cRd_e (e := (7, tQ b n p)) (if_pos z) (by rw [up_ne2 (by omega), up_eq]) up_eq, ?_⟩
    simp (disch := first | assumption | decide | omega | (simp only [List.length_cons, List.length_nil] <;> omega)) only [lgt_0, lgt_s, lset_0, lset_s, lst1_0, lst1_s, lst2_0, lst2_s, ev_iconst, ev_lconst, ev_ldc, ev_null, ev_iload, ev_lload, ev_aload, ev_istore, ev_lstore, ev_astore, ev_iinc, ev_iadd, ev_isub, ev_imul, ev_iand, ev_ior, ev_ishl, ev_ishr, ev_idiv, ev_irem, ev_ineg, ev_ladd, ev_lsub, ev_lmul, ev_land, ev_lor, ev_ldiv, ev_lrem, ev_lshl, ev_i2l, ev_l2i, ev_i2b, ev_i2s, ev_lcmp, ev_dupI, ev_dupR, ev_dup2, ev_popI, ev_popR, ev_alen, ev_xlen, ev_xald, ev_iald, ev_lald, ev_bald, ev_zald, ev_aald, ev_iast, ev_last, ev_bast, ev_zast, ev_aast, ev_gfI, ev_gfL, ev_gfR, ev_pfI, ev_pfZ, ev_pfL, ev_pfR, ev_new, ev_newa, ev_newq, ev_copy, ev_slen, ev_schr, ev_obj, ev_mmin, ev_mabs, ev_mmax, ev_goto, ev_jsr, ev_icmp_eq, ev_if_eq, ev_icmp_ne, ev_if_ne, ev_icmp_lt, ev_if_lt, ev_icmp_ge, ev_if_ge, ev_icmp_gt, ev_if_gt, ev_icmp_le, ev_if_le, ev_ifnull0, ev_ifnull1, ev_ifnn0, ev_ifnn1, ev_tsw, ev_lsw, ev_iret, ev_zret, ev_lret, ev_aret, ev_ret, ev_call0, ev_call1, ev_call2, ev_call3, ev_call4, ev_call5, ev_call6, Option.toList_some, Option.toList_none, List.cons_append, List.nil_append, List.length_cons, List.length_nil, Nat.reduceMod, Nat.reduceDiv, Nat.reduceLeDiff, nc, ↓reduceIte, Nat.zero_le, reduceCtorEq, w32_id, Int.reduceEq, Int.reduceNe, Int.reduceLT, Int.reduceLE, Int.reduceGT, Int.reduceGE, Int.reduceAdd, Int.reduceSub, Int.reduceMul, Int.reduceNeg, ne_eq, not_true_eq_false, not_false_eq_true, eq_self, ↓if_pos, ↓if_neg, J_87_0, k_87_0, J_87_18, k_87_18, J_87_33, k_87_33, r0, r1, z', w]
  have z' : M 31 2 < 3 := by omega
  rw [if_neg z]
  have t1 := tE_on (b := b) p1 hk p0
  obtain ⟨v, Mb, fb, nue, nuo, e2⟩ := c_goNumber (X := X) g h.1 t1.1 t1.2.1 (lo := 1) (hi := 48)
  cases h2 : pNum b n 1 48 (tE b n p) with
  | error er =>
    obtain ⟨hv, q2, q3⟩ := nue er h2
    subst hv
    refine ⟨0, Mb, fD_f fb, cRd_e rfl q2 q3, ?_⟩
    simp (disch := first | assumption | decide | omega | (simp only [List.length_cons, List.length_nil] <;> omega)) only [lgt_0, lgt_s, lset_0, lset_s, lst1_0, lst1_s, lst2_0, lst2_s, ev_iconst, ev_lconst, ev_ldc, ev_null, ev_iload, ev_lload, ev_aload, ev_istore, ev_lstore, ev_astore, ev_iinc, ev_iadd, ev_isub, ev_imul, ev_iand, ev_ior, ev_ishl, ev_ishr, ev_idiv, ev_irem, ev_ineg, ev_ladd, ev_lsub, ev_lmul, ev_land, ev_lor, ev_ldiv, ev_lrem, ev_lshl, ev_i2l, ev_l2i, ev_i2b, ev_i2s, ev_lcmp, ev_dupI, ev_dupR, ev_dup2, ev_popI, ev_popR, ev_alen, ev_xlen, ev_xald, ev_iald, ev_lald, ev_bald, ev_zald, ev_aald, ev_iast, ev_last, ev_bast, ev_zast, ev_aast, ev_gfI, ev_gfL, ev_gfR, ev_pfI, ev_pfZ, ev_pfL, ev_pfR, ev_new, ev_newa, ev_newq, ev_copy, ev_slen, ev_schr, ev_obj, ev_mmin, ev_mabs, ev_mmax, ev_goto, ev_jsr, ev_icmp_eq, ev_if_eq, ev_icmp_ne, ev_if_ne, ev_icmp_lt, ev_if_lt, ev_icmp_ge, ev_if_ge, ev_icmp_gt, ev_if_gt, ev_icmp_le, ev_if_le, ev_ifnull0, ev_ifnull1, ev_ifnn0, ev_ifnn1, ev_tsw, ev_lsw, ev_iret, ev_zret, ev_lret, ev_aret, ev_ret, ev_call0, ev_call1, ev_call2, ev_call3, ev_call4, ev_call5, ev_call6, Option.toList_some, Option.toList_none, List.cons_append, List.nil_append, List.length_cons, List.length_nil, Nat.reduceMod, Nat.reduceDiv, Nat.reduceLeDiff, nc, ↓reduceIte, Nat.zero_le, reduceCtorEq, w32_id, Int.reduceEq, Int.reduceNe, Int.reduceLT, Int.reduceLE, Int.reduceGT, Int.reduceGE, Int.reduceAdd, Int.reduceSub, Int.reduceMul, Int.reduceNeg, ne_eq, not_true_eq_false, not_false_eq_true, eq_self, ↓if_pos, ↓if_neg, J_87_0, k_87_0, J_87_18, k_87_18, J_87_33, k_87_33, r0, r1, z', e2]
  | ok r =>
  obtain ⟨hv, cb, b5⟩ := nuo r h2
  subst hv
  rw [bnd_o]
  have a2 := pNum_ok h2
  have t2 := tE_on (b := b) t1.2.1 (by rw [a2.1]; omega) t1.1
  have er1 : r.1 = tE b n (tE b n p) := by rw [a2.2.1]
  rw [← er1] at t2
  have b31 : Mb 31 2 = M 31 2 := by rw [fb.1 31 (by omega)]
  have o0 : 0 ≤ M 31 2 := by omega
  generalize hMe : up Mb 31 2 (M 31 2 + 1) = Me
  have fe : ∀ c, c ≠ 31 → Me c = Mb c := fun c hc => by rw [← hMe, up_ne hc]
  have e5 : Me 2 5 = r.2 := by rw [fe 2 (by omega)]; exact b5
  have hde := cDl_f hd.1 (M' := Me) fun c c0 c1 => by rw [fe c (by omega), fb.1 c (by omega)]
  have i2 := hI.2.1
  have i1 := hI.1
  obtain ⟨Mc, fc, hdc, e3⟩ := c_add (X := X) hde (by omega) i1 (k := 2) (c := -1) (v := r.2)
  have hdc' : cDd Mc (addL d 2 (-1) r.2) := ⟨hdc, by
    rw [opn_add, if_pos rfl, fc 31 (by omega), ← hMe, up_eq, o]
    show _ = (((opn d).length + 1 : Nat) : Int)
    omega⟩
  have c0 : fD M Mc := ⟨fun e x y => by rw [fc e (by omega), fe e (by omega), fb.1 e x], by rw [fc 2 (by omega), fe 2 (by omega), fb.2]⟩
  obtain ⟨v, Md, fd, res, e4⟩ := c_fin (X := X) g c0 (cTc_f cb (by rw [fc 2 (by omega), fe 2 (by omega)]) (by rw [fc 3 (by omega), fe 3 (by omega)])) t2.1 t2.2.1 hdc'
  have v01 := cRd_01 res
  refine ⟨v, Md, fd, res, ?_⟩
  simp (disch := first | assumption | decide | omega | (simp only [List.length_cons, List.length_nil] <;> omega)) only [lgt_0, lgt_s, lset_0, lset_s, lst1_0, lst1_s, lst2_0, lst2_s, ev_iconst, ev_lconst, ev_ldc, ev_null, ev_iload, ev_lload, ev_aload, ev_istore, ev_lstore, ev_astore, ev_iinc, ev_iadd, ev_isub, ev_imul, ev_iand, ev_ior, ev_ishl, ev_ishr, ev_idiv, ev_irem, ev_ineg, ev_ladd, ev_lsub, ev_lmul, ev_land, ev_lor, ev_ldiv, ev_lrem, ev_lshl, ev_i2l, ev_l2i, ev_i2b, ev_i2s, ev_lcmp, ev_dupI, ev_dupR, ev_dup2, ev_popI, ev_popR, ev_alen, ev_xlen, ev_xald, ev_iald, ev_lald, ev_bald, ev_zald, ev_aald, ev_iast, ev_last, ev_bast, ev_zast, ev_aast, ev_gfI, ev_gfL, ev_gfR, ev_pfI, ev_pfZ, ev_pfL, ev_pfR, ev_new, ev_newa, ev_newq, ev_copy, ev_slen, ev_schr, ev_obj, ev_mmin, ev_mabs, ev_mmax, ev_goto, ev_jsr, ev_icmp_eq, ev_if_eq, ev_icmp_ne, ev_if_ne, ev_icmp_lt, ev_if_lt, ev_icmp_ge, ev_if_ge, ev_icmp_gt, ev_if_gt, ev_icmp_le, ev_if_le, ev_ifnull0, ev_ifnull1, ev_ifnn0, ev_ifnn1, ev_tsw, ev_lsw, ev_iret, ev_zret, ev_lret, ev_aret, ev_ret, ev_call0, ev_call1, ev_call2, ev_call3, ev_call4, ev_call5, ev_call6, Option.toList_some, Option.toList_none, List.cons_append, List.nil_append, List.length_cons, List.length_nil, Nat.reduceMod, Nat.reduceDiv, Nat.reduceLeDiff, nc, ↓reduceIte, Nat.zero_le, reduceCtorEq, w32_id, Int.reduceEq, Int.reduceNe, Int.reduceLT, Int.reduceLE, Int.reduceGT, Int.reduceGE, Int.reduceAdd, Int.reduceSub, Int.reduceMul, Int.reduceNeg, ne_eq, not_true_eq_false, not_false_eq_true, eq_self, ↓if_pos, ↓if_neg, J_87_0, k_87_0, J_87_18, k_87_18, J_87_33, k_87_33, r0, r1, z', e2, b31, hMe, e5, e3, e4]
theorem c_line (g : gT b n) (h : cAt M b n p) (p0 : 0 ≤ p) (p1 : p ≤ n) (hk : tK b n p ≠ 0) (hN : cNm M NW m) (hd : cDd M d) (hI : dlI m d) : ∃ v M', fD M M' ∧ cRd b n (pLine b n NW m d p) v M' ∧ evc X 80 [vR (some 31), vR (some 4)] SH0 M = some (some (vI v), SH0, M') := by
  have k31 := w0_k31
  have k2 := w0_k2
  have r0 := w0_r31_0
  have r1 := w0_r31_1
  have rm := c_room (X := X) h
  have t1 := tE_on (b := b) p1 hk p0
  have s4 := hd.1.2.1
  have o := hd.2
  rw [E_80 k31]
  unfold pLine
  have i0 := skey_iff (b := b) (n := n) (p := p) (j := 0) (k := 15) (by omega) rfl
  have i1 := skey_iff (b := b) (n := n) (p := p) (j := 1) (k := 16) (by omega) rfl
  have i2 := skey_iff (b := b) (n := n) (p := p) (j := 2) (k := 17) (by omega) rfl
  have i3 := skey_iff (b := b) (n := n) (p := p) (j := 3) (k := 18) (by omega) rfl
  have e0 := c_isWord (X := X) (k := 15) (by omega) h
  have e1 := c_isWord (X := X) (k := 16) (by omega) h
  have e2 := c_isWord (X := X) (k := 17) (by omega) h
  have e3 := c_isWord (X := X) (k := 18) (by omega) h
  have kr := pSk_rng (b := b) (n := n) (p := p)
  by_cases z0 : pSk b n p = 0
  · rw [if_pos (i0.mpr z0)] at e0
    rw [if_neg (show ¬ (pSk b n p = -1 ∨ (pSk b n p = 3 ∧ opn d = [])) by omega)]
    by_cases y : 40 ≤ d.2.2.2.2
    · have er := rm.2 (by omega)
      refine ⟨0, up (up M 2 2 6) 2 3 (tQ b n p), fD_w fD_0, cRd_e (e := (6, tQ b n p)) (if_pos ⟨by omega, y⟩) (by rw [up_ne2 (by omega), up_eq]) up_eq, ?_⟩
      simp (disch := first | assumption | decide | omega | (simp only [List.length_cons, List.length_nil] <;> omega)) only [lgt_0, lgt_s, lset_0, lset_s, lst1_0, lst1_s, lst2_0, lst2_s, ev_iconst, ev_lconst, ev_ldc, ev_null, ev_iload, ev_lload, ev_aload, ev_istore, ev_lstore, ev_astore, ev_iinc, ev_iadd, ev_isub, ev_imul, ev_iand, ev_ior, ev_ishl, ev_ishr, ev_idiv, ev_irem, ev_ineg, ev_ladd, ev_lsub, ev_lmul, ev_land, ev_lor, ev_ldiv, ev_lrem, ev_lshl, ev_i2l, ev_l2i, ev_i2b, ev_i2s, ev_lcmp, ev_dupI, ev_dupR, ev_dup2, ev_popI, ev_popR, ev_alen, ev_xlen, ev_xald, ev_iald, ev_lald, ev_bald, ev_zald, ev_aald, ev_iast, ev_last, ev_bast, ev_zast, ev_aast, ev_gfI, ev_gfL, ev_gfR, ev_pfI, ev_pfZ, ev_pfL, ev_pfR, ev_new, ev_newa, ev_newq, ev_copy, ev_slen, ev_schr, ev_obj, ev_mmin, ev_mabs, ev_mmax, ev_goto, ev_jsr, ev_icmp_eq, ev_if_eq, ev_icmp_ne, ev_if_ne, ev_icmp_lt, ev_if_lt, ev_icmp_ge, ev_if_ge, ev_icmp_gt, ev_if_gt, ev_icmp_le, ev_if_le, ev_ifnull0, ev_ifnull1, ev_ifnn0, ev_ifnn1, ev_tsw, ev_lsw, ev_iret, ev_zret, ev_lret, ev_aret, ev_ret, ev_call0, ev_call1, ev_call2, ev_call3, ev_call4, ev_call5, ev_call6, Option.toList_some, Option.toList_none, List.cons_append, List.nil_append, List.length_cons, List.length_nil, Nat.reduceMod, Nat.reduceDiv, Nat.reduceLeDiff, nc, ↓reduceIte, Nat.zero_le, reduceCtorEq, w32_id, Int.reduceEq, Int.reduceNe, Int.reduceLT, Int.reduceLE, Int.reduceGT, Int.reduceGE, Int.reduceAdd, Int.reduceSub, Int.reduceMul, Int.reduceNeg, ne_eq, not_true_eq_false, not_false_eq_true, eq_self, ↓if_pos, ↓if_neg, J_80_0, k_80_0, J_80_31, k_80_31, J_80_32, k_80_32, J_80_33, k_80_33, J_80_64, k_80_64, J_80_65, k_80_65, J_80_66, k_80_66, J_80_96, k_80_96, J_80_97, k_80_97, J_80_98, k_80_98, J_80_145, k_80_145, r0, r1, e0, er]
    · have er := rm.1 (by omega)
      rw [if_neg (fun w => y w.2), if_neg (by omega), if_pos z0]
      obtain ⟨v, Ma, fa, res, e⟩ := c_knit (X := X) g h.1 t1.1 t1.2.1 hN hd hI (by omega)
      have v01 := cRd_01 res
      refine ⟨v, Ma, fa, res, ?_⟩
      by_cases v0 : v = 0
      · subst v0
        simp (disch := first | assumption | decide | omega | (simp only [List.length_cons, List.length_nil] <;> omega)) only [lgt_0, lgt_s, lset_0, lset_s, lst1_0, lst1_s, lst2_0, lst2_s, ev_iconst, ev_lconst, ev_ldc, ev_null, ev_iload, ev_lload, ev_aload, ev_istore, ev_lstore, ev_astore, ev_iinc, ev_iadd, ev_isub, ev_imul, ev_iand, ev_ior, ev_ishl, ev_ishr, ev_idiv, ev_irem, ev_ineg, ev_ladd, ev_lsub, ev_lmul, ev_land, ev_lor, ev_ldiv, ev_lrem, ev_lshl, ev_i2l, ev_l2i, ev_i2b, ev_i2s, ev_lcmp, ev_dupI, ev_dupR, ev_dup2, ev_popI, ev_popR, ev_alen, ev_xlen, ev_xald, ev_iald, ev_lald, ev_bald, ev_zald, ev_aald, ev_iast, ev_last, ev_bast, ev_zast, ev_aast, ev_gfI, ev_gfL, ev_gfR, ev_pfI, ev_pfZ, ev_pfL, ev_pfR, ev_new, ev_newa, ev_newq, ev_copy, ev_slen, ev_schr, ev_obj, ev_mmin, ev_mabs, ev_mmax, ev_goto, ev_jsr, ev_icmp_eq, ev_if_eq, ev_icmp_ne, ev_if_ne, ev_icmp_lt, ev_if_lt, ev_icmp_ge, ev_if_ge, ev_icmp_gt, ev_if_gt, ev_icmp_le, ev_if_le, ev_ifnull0, ev_ifnull1, ev_ifnn0, ev_ifnn1, ev_tsw, ev_lsw, ev_iret, ev_zret, ev_lret, ev_aret, ev_ret, ev_call0, ev_call1, ev_call2, ev_call3, ev_call4, ev_call5, ev_call6, Option.toList_some, Option.toList_none, List.cons_append, List.nil_append, List.length_cons, List.length_nil, Nat.reduceMod, Nat.reduceDiv, Nat.reduceLeDiff, nc, ↓reduceIte, Nat.zero_le, reduceCtorEq, w32_id, Int.reduceEq, Int.reduceNe, Int.reduceLT, Int.reduceLE, Int.reduceGT, Int.reduceGE, Int.reduceAdd, Int.reduceSub, Int.reduceMul, Int.reduceNeg, ne_eq, not_true_eq_false, not_false_eq_true, eq_self, ↓if_pos, ↓if_neg, J_80_0, k_80_0, J_80_31, k_80_31, J_80_32, k_80_32, J_80_33, k_80_33, J_80_64, k_80_64, J_80_65, k_80_65, J_80_66, k_80_66, J_80_96, k_80_96, J_80_97, k_80_97, J_80_98, k_80_98, J_80_145, k_80_145, r0, r1, e0, er, e]
      · have v1 : v = 1 := by omega
        subst v1
        simp (disch := first | assumption | decide | omega | (simp only [List.length_cons, List.length_nil] <;> omega)) only [lgt_0, lgt_s, lset_0, lset_s, lst1_0, lst1_s, lst2_0, lst2_s, ev_iconst, ev_lconst, ev_ldc, ev_null, ev_iload, ev_lload, ev_aload, ev_istore, ev_lstore, ev_astore, ev_iinc, ev_iadd, ev_isub, ev_imul, ev_iand, ev_ior, ev_ishl, ev_ishr, ev_idiv, ev_irem, ev_ineg, ev_ladd, ev_lsub, ev_lmul, ev_land, ev_lor, ev_ldiv, ev_lrem, ev_lshl, ev_i2l, ev_l2i, ev_i2b, ev_i2s, ev_lcmp, ev_dupI, ev_dupR, ev_dup2, ev_popI, ev_popR, ev_alen, ev_xlen, ev_xald, ev_iald, ev_lald, ev_bald, ev_zald, ev_aald, ev_iast, ev_last, ev_bast, ev_zast, ev_aast, ev_gfI, ev_gfL, ev_gfR, ev_pfI, ev_pfZ, ev_pfL, ev_pfR, ev_new, ev_newa, ev_newq, ev_copy, ev_slen, ev_schr, ev_obj, ev_mmin, ev_mabs, ev_mmax, ev_goto, ev_jsr, ev_icmp_eq, ev_if_eq, ev_icmp_ne, ev_if_ne, ev_icmp_lt, ev_if_lt, ev_icmp_ge, ev_if_ge, ev_icmp_gt, ev_if_gt, ev_icmp_le, ev_if_le, ev_ifnull0, ev_ifnull1, ev_ifnn0, ev_ifnn1, ev_tsw, ev_lsw, ev_iret, ev_zret, ev_lret, ev_aret, ev_ret, ev_call0, ev_call1, ev_call2, ev_call3, ev_call4, ev_call5, ev_call6, Option.toList_some, Option.toList_none, List.cons_append, List.nil_append, List.length_cons, List.length_nil, Nat.reduceMod, Nat.reduceDiv, Nat.reduceLeDiff, nc, ↓reduceIte, Nat.zero_le, reduceCtorEq, w32_id, Int.reduceEq, Int.reduceNe, Int.reduceLT, Int.reduceLE, Int.reduceGT, Int.reduceGE, Int.reduceAdd, Int.reduceSub, Int.reduceMul, Int.reduceNeg, ne_eq, not_true_eq_false, not_false_eq_true, eq_self, ↓if_pos, ↓if_neg, J_80_0, k_80_0, J_80_31, k_80_31, J_80_32, k_80_32, J_80_33, k_80_33, J_80_64, k_80_64, J_80_65, k_80_65, J_80_66, k_80_66, J_80_96, k_80_96, J_80_97, k_80_97, J_80_98, k_80_98, J_80_145, k_80_145, r0, r1, e0, er, e]
  rw [if_neg (fun y => z0 (i0.mp y))] at e0
  by_cases z1 : pSk b n p = 1
  · rw [if_pos (i1.mpr z1)] at e1
    rw [if_neg (show ¬ (pSk b n p = -1 ∨ (pSk b n p = 3 ∧ opn d = [])) by omega)]
    by_cases y : 40 ≤ d.2.2.2.2
    · have er := rm.2 (by omega)
      refine ⟨0, up (up M 2 2 6) 2 3 (tQ b n p), fD_w fD_0, cRd_e (e := (6, tQ b n p)) (if_pos ⟨by omega, y⟩) (by rw [up_ne2 (by omega), up_eq]) up_eq, ?_⟩
      simp (disch := first | assumption | decide | omega | (simp only [List.length_cons, List.length_nil] <;> omega)) only [lgt_0, lgt_s, lset_0, lset_s, lst1_0, lst1_s, lst2_0, lst2_s, ev_iconst, ev_lconst, ev_ldc, ev_null, ev_iload, ev_lload, ev_aload, ev_istore, ev_lstore, ev_astore, ev_iinc, ev_iadd, ev_isub, ev_imul, ev_iand, ev_ior, ev_ishl, ev_ishr, ev_idiv, ev_irem, ev_ineg, ev_ladd, ev_lsub, ev_lmul, ev_land, ev_lor, ev_ldiv, ev_lrem, ev_lshl, ev_i2l, ev_l2i, ev_i2b, ev_i2s, ev_lcmp, ev_dupI, ev_dupR, ev_dup2, ev_popI, ev_popR, ev_alen, ev_xlen, ev_xald, ev_iald, ev_lald, ev_bald, ev_zald, ev_aald, ev_iast, ev_last, ev_bast, ev_zast, ev_aast, ev_gfI, ev_gfL, ev_gfR, ev_pfI, ev_pfZ, ev_pfL, ev_pfR, ev_new, ev_newa, ev_newq, ev_copy, ev_slen, ev_schr, ev_obj, ev_mmin, ev_mabs, ev_mmax, ev_goto, ev_jsr, ev_icmp_eq, ev_if_eq, ev_icmp_ne, ev_if_ne, ev_icmp_lt, ev_if_lt, ev_icmp_ge, ev_if_ge, ev_icmp_gt, ev_if_gt, ev_icmp_le, ev_if_le, ev_ifnull0, ev_ifnull1, ev_ifnn0, ev_ifnn1, ev_tsw, ev_lsw, ev_iret, ev_zret, ev_lret, ev_aret, ev_ret, ev_call0, ev_call1, ev_call2, ev_call3, ev_call4, ev_call5, ev_call6, Option.toList_some, Option.toList_none, List.cons_append, List.nil_append, List.length_cons, List.length_nil, Nat.reduceMod, Nat.reduceDiv, Nat.reduceLeDiff, nc, ↓reduceIte, Nat.zero_le, reduceCtorEq, w32_id, Int.reduceEq, Int.reduceNe, Int.reduceLT, Int.reduceLE, Int.reduceGT, Int.reduceGE, Int.reduceAdd, Int.reduceSub, Int.reduceMul, Int.reduceNeg, ne_eq, not_true_eq_false, not_false_eq_true, eq_self, ↓if_pos, ↓if_neg, J_80_0, k_80_0, J_80_31, k_80_31, J_80_32, k_80_32, J_80_33, k_80_33, J_80_64, k_80_64, J_80_65, k_80_65, J_80_66, k_80_66, J_80_96, k_80_96, J_80_97, k_80_97, J_80_98, k_80_98, J_80_145, k_80_145, r0, r1, e0, e1, er]
    · have er := rm.1 (by omega)
      rw [if_neg (fun w => y w.2), if_neg (by omega), if_neg z0, if_pos z1]
      obtain ⟨v, Ma, fa, res, e⟩ := c_cut (X := X) g h.1 t1.1 t1.2.1 hN hd hI (by omega)
      have v01 := cRd_01 res
      refine ⟨v, Ma, fa, res, ?_⟩
      by_cases v0 : v = 0
      · subst v0
        simp (disch := first | assumption | decide | omega | (simp only [List.length_cons, List.length_nil] <;> omega)) only [lgt_0, lgt_s, lset_0, lset_s, lst1_0, lst1_s, lst2_0, lst2_s, ev_iconst, ev_lconst, ev_ldc, ev_null, ev_iload, ev_lload, ev_aload, ev_istore, ev_lstore, ev_astore, ev_iinc, ev_iadd, ev_isub, ev_imul, ev_iand, ev_ior, ev_ishl, ev_ishr, ev_idiv, ev_irem, ev_ineg, ev_ladd, ev_lsub, ev_lmul, ev_land, ev_lor, ev_ldiv, ev_lrem, ev_lshl, ev_i2l, ev_l2i, ev_i2b, ev_i2s, ev_lcmp, ev_dupI, ev_dupR, ev_dup2, ev_popI, ev_popR, ev_alen, ev_xlen, ev_xald, ev_iald, ev_lald, ev_bald, ev_zald, ev_aald, ev_iast, ev_last, ev_bast, ev_zast, ev_aast, ev_gfI, ev_gfL, ev_gfR, ev_pfI, ev_pfZ, ev_pfL, ev_pfR, ev_new, ev_newa, ev_newq, ev_copy, ev_slen, ev_schr, ev_obj, ev_mmin, ev_mabs, ev_mmax, ev_goto, ev_jsr, ev_icmp_eq, ev_if_eq, ev_icmp_ne, ev_if_ne, ev_icmp_lt, ev_if_lt, ev_icmp_ge, ev_if_ge, ev_icmp_gt, ev_if_gt, ev_icmp_le, ev_if_le, ev_ifnull0, ev_ifnull1, ev_ifnn0, ev_ifnn1, ev_tsw, ev_lsw, ev_iret, ev_zret, ev_lret, ev_aret, ev_ret, ev_call0, ev_call1, ev_call2, ev_call3, ev_call4, ev_call5, ev_call6, Option.toList_some, Option.toList_none, List.cons_append, List.nil_append, List.length_cons, List.length_nil, Nat.reduceMod, Nat.reduceDiv, Nat.reduceLeDiff, nc, ↓reduceIte, Nat.zero_le, reduceCtorEq, w32_id, Int.reduceEq, Int.reduceNe, Int.reduceLT, Int.reduceLE, Int.reduceGT, Int.reduceGE, Int.reduceAdd, Int.reduceSub, Int.reduceMul, Int.reduceNeg, ne_eq, not_true_eq_false, not_false_eq_true, eq_self, ↓if_pos, ↓if_neg, J_80_0, k_80_0, J_80_31, k_80_31, J_80_32, k_80_32, J_80_33, k_80_33, J_80_64, k_80_64, J_80_65, k_80_65, J_80_66, k_80_66, J_80_96, k_80_96, J_80_97, k_80_97, J_80_98, k_80_98, J_80_145, k_80_145, r0, r1, e0, e1, er, e]
      · have v1 : v = 1 := by omega
        subst v1
        simp (disch := first | assumption | decide | omega | (simp only [List.length_cons, List.length_nil] <;> omega)) only [lgt_0, lgt_s, lset_0, lset_s, lst1_0, lst1_s, lst2_0, lst2_s, ev_iconst, ev_lconst, ev_ldc, ev_null, ev_iload, ev_lload, ev_aload, ev_istore, ev_lstore, ev_astore, ev_iinc, ev_iadd, ev_isub, ev_imul, ev_iand, ev_ior, ev_ishl, ev_ishr, ev_idiv, ev_irem, ev_ineg, ev_ladd, ev_lsub, ev_lmul, ev_land, ev_lor, ev_ldiv, ev_lrem, ev_lshl, ev_i2l, ev_l2i, ev_i2b, ev_i2s, ev_lcmp, ev_dupI, ev_dupR, ev_dup2, ev_popI, ev_popR, ev_alen, ev_xlen, ev_xald, ev_iald, ev_lald, ev_bald, ev_zald, ev_aald, ev_iast, ev_last, ev_bast, ev_zast, ev_aast, ev_gfI, ev_gfL, ev_gfR, ev_pfI, ev_pfZ, ev_pfL, ev_pfR, ev_new, ev_newa, ev_newq, ev_copy, ev_slen, ev_schr, ev_obj, ev_mmin, ev_mabs, ev_mmax, ev_goto, ev_jsr, ev_icmp_eq, ev_if_eq, ev_icmp_ne, ev_if_ne, ev_icmp_lt, ev_if_lt, ev_icmp_ge, ev_if_ge, ev_icmp_gt, ev_if_gt, ev_icmp_le, ev_if_le, ev_ifnull0, ev_ifnull1, ev_ifnn0, ev_ifnn1, ev_tsw, ev_lsw, ev_iret, ev_zret, ev_lret, ev_aret, ev_ret, ev_call0, ev_call1, ev_call2, ev_call3, ev_call4, ev_call5, ev_call6, Option.toList_some, Option.toList_none, List.cons_append, List.nil_append, List.length_cons, List.length_nil, Nat.reduceMod, Nat.reduceDiv, Nat.reduceLeDiff, nc, ↓reduceIte, Nat.zero_le, reduceCtorEq, w32_id, Int.reduceEq, Int.reduceNe, Int.reduceLT, Int.reduceLE, Int.reduceGT, Int.reduceGE, Int.reduceAdd, Int.reduceSub, Int.reduceMul, Int.reduceNeg, ne_eq, not_true_eq_false, not_false_eq_true, eq_self, ↓if_pos, ↓if_neg, J_80_0, k_80_0, J_80_31, k_80_31, J_80_32, k_80_32, J_80_33, k_80_33, J_80_64, k_80_64, J_80_65, k_80_65, J_80_66, k_80_66, J_80_96, k_80_96, J_80_97, k_80_97, J_80_98, k_80_98, J_80_145, k_80_145, r0, r1, e0, e1, er, e]
  rw [if_neg (fun y => z1 (i1.mp y))] at e1
  by_cases z2 : pSk b n p = 2
  · rw [if_pos (i2.mpr z2)] at e2
    rw [if_neg (show ¬ (pSk b n p = -1 ∨ (pSk b n p = 3 ∧ opn d = [])) by omega)]
    by_cases y : 40 ≤ d.2.2.2.2
    · have er := rm.2 (by omega)
      refine ⟨0, up (up M 2 2 6) 2 3 (tQ b n p), fD_w fD_0, cRd_e (e := (6, tQ b n p)) (if_pos ⟨by omega, y⟩) (by rw [up_ne2 (by omega), up_eq]) up_eq, ?_⟩
      simp (disch := first | assumption | decide | omega | (simp only [List.length_cons, List.length_nil] <;> omega)) only [lgt_0, lgt_s, lset_0, lset_s, lst1_0, lst1_s, lst2_0, lst2_s, ev_iconst, ev_lconst, ev_ldc, ev_null, ev_iload, ev_lload, ev_aload, ev_istore, ev_lstore, ev_astore, ev_iinc, ev_iadd, ev_isub, ev_imul, ev_iand, ev_ior, ev_ishl, ev_ishr, ev_idiv, ev_irem, ev_ineg, ev_ladd, ev_lsub, ev_lmul, ev_land, ev_lor, ev_ldiv, ev_lrem, ev_lshl, ev_i2l, ev_l2i, ev_i2b, ev_i2s, ev_lcmp, ev_dupI, ev_dupR, ev_dup2, ev_popI, ev_popR, ev_alen, ev_xlen, ev_xald, ev_iald, ev_lald, ev_bald, ev_zald, ev_aald, ev_iast, ev_last, ev_bast, ev_zast, ev_aast, ev_gfI, ev_gfL, ev_gfR, ev_pfI, ev_pfZ, ev_pfL, ev_pfR, ev_new, ev_newa, ev_newq, ev_copy, ev_slen, ev_schr, ev_obj, ev_mmin, ev_mabs, ev_mmax, ev_goto, ev_jsr, ev_icmp_eq, ev_if_eq, ev_icmp_ne, ev_if_ne, ev_icmp_lt, ev_if_lt, ev_icmp_ge, ev_if_ge, ev_icmp_gt, ev_if_gt, ev_icmp_le, ev_if_le, ev_ifnull0, ev_ifnull1, ev_ifnn0, ev_ifnn1, ev_tsw, ev_lsw, ev_iret, ev_zret, ev_lret, ev_aret, ev_ret, ev_call0, ev_call1, ev_call2, ev_call3, ev_call4, ev_call5, ev_call6, Option.toList_some, Option.toList_none, List.cons_append, List.nil_append, List.length_cons, List.length_nil, Nat.reduceMod, Nat.reduceDiv, Nat.reduceLeDiff, nc, ↓reduceIte, Nat.zero_le, reduceCtorEq, w32_id, Int.reduceEq, Int.reduceNe, Int.reduceLT, Int.reduceLE, Int.reduceGT, Int.reduceGE, Int.reduceAdd, Int.reduceSub, Int.reduceMul, Int.reduceNeg, ne_eq, not_true_eq_false, not_false_eq_true, eq_self, ↓if_pos, ↓if_neg, J_80_0, k_80_0, J_80_31, k_80_31, J_80_32, k_80_32, J_80_33, k_80_33, J_80_64, k_80_64, J_80_65, k_80_65, J_80_66, k_80_66, J_80_96, k_80_96, J_80_97, k_80_97, J_80_98, k_80_98, J_80_145, k_80_145, r0, r1, e0, e1, e2, er]
    · have er := rm.1 (by omega)
      rw [if_neg (fun w => y w.2)]
      obtain ⟨v, Ma, fa, res, e⟩ := c_loopD (X := X) (m := m) g h p0 p1 hk hd hI (by omega)
      have v01 := cRd_01 res
      refine ⟨v, Ma, fa, ?_, ?_⟩
      · by_cases x : 3 ≤ (opn d).length
        · rw [if_pos x] at res
          rw [if_pos ⟨z2, x⟩]
          exact res
        · rw [if_neg x] at res
          rw [if_neg (fun w => x w.2), if_neg z0, if_neg z1, if_pos z2]
          exact res
      by_cases v0 : v = 0
      · subst v0
        simp (disch := first | assumption | decide | omega | (simp only [List.length_cons, List.length_nil] <;> omega)) only [lgt_0, lgt_s, lset_0, lset_s, lst1_0, lst1_s, lst2_0, lst2_s, ev_iconst, ev_lconst, ev_ldc, ev_null, ev_iload, ev_lload, ev_aload, ev_istore, ev_lstore, ev_astore, ev_iinc, ev_iadd, ev_isub, ev_imul, ev_iand, ev_ior, ev_ishl, ev_ishr, ev_idiv, ev_irem, ev_ineg, ev_ladd, ev_lsub, ev_lmul, ev_land, ev_lor, ev_ldiv, ev_lrem, ev_lshl, ev_i2l, ev_l2i, ev_i2b, ev_i2s, ev_lcmp, ev_dupI, ev_dupR, ev_dup2, ev_popI, ev_popR, ev_alen, ev_xlen, ev_xald, ev_iald, ev_lald, ev_bald, ev_zald, ev_aald, ev_iast, ev_last, ev_bast, ev_zast, ev_aast, ev_gfI, ev_gfL, ev_gfR, ev_pfI, ev_pfZ, ev_pfL, ev_pfR, ev_new, ev_newa, ev_newq, ev_copy, ev_slen, ev_schr, ev_obj, ev_mmin, ev_mabs, ev_mmax, ev_goto, ev_jsr, ev_icmp_eq, ev_if_eq, ev_icmp_ne, ev_if_ne, ev_icmp_lt, ev_if_lt, ev_icmp_ge, ev_if_ge, ev_icmp_gt, ev_if_gt, ev_icmp_le, ev_if_le, ev_ifnull0, ev_ifnull1, ev_ifnn0, ev_ifnn1, ev_tsw, ev_lsw, ev_iret, ev_zret, ev_lret, ev_aret, ev_ret, ev_call0, ev_call1, ev_call2, ev_call3, ev_call4, ev_call5, ev_call6, Option.toList_some, Option.toList_none, List.cons_append, List.nil_append, List.length_cons, List.length_nil, Nat.reduceMod, Nat.reduceDiv, Nat.reduceLeDiff, nc, ↓reduceIte, Nat.zero_le, reduceCtorEq, w32_id, Int.reduceEq, Int.reduceNe, Int.reduceLT, Int.reduceLE, Int.reduceGT, Int.reduceGE, Int.reduceAdd, Int.reduceSub, Int.reduceMul, Int.reduceNeg, ne_eq, not_true_eq_false, not_false_eq_true, eq_self, ↓if_pos, ↓if_neg, J_80_0, k_80_0, J_80_31, k_80_31, J_80_32, k_80_32, J_80_33, k_80_33, J_80_64, k_80_64, J_80_65, k_80_65, J_80_66, k_80_66, J_80_96, k_80_96, J_80_97, k_80_97, J_80_98, k_80_98, J_80_145, k_80_145, r0, r1, e0, e1, e2, er, e]
      · have v1 : v = 1 := by omega
        subst v1
        simp (disch := first | assumption | decide | omega | (simp only [List.length_cons, List.length_nil] <;> omega)) only [lgt_0, lgt_s, lset_0, lset_s, lst1_0, lst1_s, lst2_0, lst2_s, ev_iconst, ev_lconst, ev_ldc, ev_null, ev_iload, ev_lload, ev_aload, ev_istore, ev_lstore, ev_astore, ev_iinc, ev_iadd, ev_isub, ev_imul, ev_iand, ev_ior, ev_ishl, ev_ishr, ev_idiv, ev_irem, ev_ineg, ev_ladd, ev_lsub, ev_lmul, ev_land, ev_lor, ev_ldiv, ev_lrem, ev_lshl, ev_i2l, ev_l2i, ev_i2b, ev_i2s, ev_lcmp, ev_dupI, ev_dupR, ev_dup2, ev_popI, ev_popR, ev_alen, ev_xlen, ev_xald, ev_iald, ev_lald, ev_bald, ev_zald, ev_aald, ev_iast, ev_last, ev_bast, ev_zast, ev_aast, ev_gfI, ev_gfL, ev_gfR, ev_pfI, ev_pfZ, ev_pfL, ev_pfR, ev_new, ev_newa, ev_newq, ev_copy, ev_slen, ev_schr, ev_obj, ev_mmin, ev_mabs, ev_mmax, ev_goto, ev_jsr, ev_icmp_eq, ev_if_eq, ev_icmp_ne, ev_if_ne, ev_icmp_lt, ev_if_lt, ev_icmp_ge, ev_if_ge, ev_icmp_gt, ev_if_gt, ev_icmp_le, ev_if_le, ev_ifnull0, ev_ifnull1, ev_ifnn0, ev_ifnn1, ev_tsw, ev_lsw, ev_iret, ev_zret, ev_lret, ev_aret, ev_ret, ev_call0, ev_call1, ev_call2, ev_call3, ev_call4, ev_call5, ev_call6, Option.toList_some, Option.toList_none, List.cons_append, List.nil_append, List.length_cons, List.length_nil, Nat.reduceMod, Nat.reduceDiv, Nat.reduceLeDiff, nc, ↓reduceIte, Nat.zero_le, reduceCtorEq, w32_id, Int.reduceEq, Int.reduceNe, Int.reduceLT, Int.reduceLE, Int.reduceGT, Int.reduceGE, Int.reduceAdd, Int.reduceSub, Int.reduceMul, Int.reduceNeg, ne_eq, not_true_eq_false, not_false_eq_true, eq_self, ↓if_pos, ↓if_neg, J_80_0, k_80_0, J_80_31, k_80_31, J_80_32, k_80_32, J_80_33, k_80_33, J_80_64, k_80_64, J_80_65, k_80_65, J_80_66, k_80_66, J_80_96, k_80_96, J_80_97, k_80_97, J_80_98, k_80_98, J_80_145, k_80_145, r0, r1, e0, e1, e2, er, e]
  rw [if_neg (fun y => z2 (i2.mp y))] at e2
  have w := c_wrong (X := X) (M := M) (w := 2)
  rw [h.2.1] at w
  by_cases z3 : pSk b n p = 3
  · rw [if_pos (i3.mpr z3)] at e3
    by_cases y : opn d = []
    · have o0 : M 31 2 ≤ 0 := by rw [o, y]; exact Int.le_refl _
      refine ⟨0, up (up M 2 2 2) 2 3 (tQ b n p), fD_w fD_0, cRd_e (e := (2, tQ b n p)) (if_pos (Or.inr ⟨z3, y⟩)) (by rw [up_ne2 (by omega), up_eq]) up_eq, ?_⟩
      simp (disch := first | assumption | decide | omega | (simp only [List.length_cons, List.length_nil] <;> omega)) only [lgt_0, lgt_s, lset_0, lset_s, lst1_0, lst1_s, lst2_0, lst2_s, ev_iconst, ev_lconst, ev_ldc, ev_null, ev_iload, ev_lload, ev_aload, ev_istore, ev_lstore, ev_astore, ev_iinc, ev_iadd, ev_isub, ev_imul, ev_iand, ev_ior, ev_ishl, ev_ishr, ev_idiv, ev_irem, ev_ineg, ev_ladd, ev_lsub, ev_lmul, ev_land, ev_lor, ev_ldiv, ev_lrem, ev_lshl, ev_i2l, ev_l2i, ev_i2b, ev_i2s, ev_lcmp, ev_dupI, ev_dupR, ev_dup2, ev_popI, ev_popR, ev_alen, ev_xlen, ev_xald, ev_iald, ev_lald, ev_bald, ev_zald, ev_aald, ev_iast, ev_last, ev_bast, ev_zast, ev_aast, ev_gfI, ev_gfL, ev_gfR, ev_pfI, ev_pfZ, ev_pfL, ev_pfR, ev_new, ev_newa, ev_newq, ev_copy, ev_slen, ev_schr, ev_obj, ev_mmin, ev_mabs, ev_mmax, ev_goto, ev_jsr, ev_icmp_eq, ev_if_eq, ev_icmp_ne, ev_if_ne, ev_icmp_lt, ev_if_lt, ev_icmp_ge, ev_if_ge, ev_icmp_gt, ev_if_gt, ev_icmp_le, ev_if_le, ev_ifnull0, ev_ifnull1, ev_ifnn0, ev_ifnn1, ev_tsw, ev_lsw, ev_iret, ev_zret, ev_lret, ev_aret, ev_ret, ev_call0, ev_call1, ev_call2, ev_call3, ev_call4, ev_call5, ev_call6, Option.toList_some, Option.toList_none, List.cons_append, List.nil_append, List.length_cons, List.length_nil, Nat.reduceMod, Nat.reduceDiv, Nat.reduceLeDiff, nc, ↓reduceIte, Nat.zero_le, reduceCtorEq, w32_id, Int.reduceEq, Int.reduceNe, Int.reduceLT, Int.reduceLE, Int.reduceGT, Int.reduceGE, Int.reduceAdd, Int.reduceSub, Int.reduceMul, Int.reduceNeg, ne_eq, not_true_eq_false, not_false_eq_true, eq_self, ↓if_pos, ↓if_neg, J_80_0, k_80_0, J_80_31, k_80_31, J_80_32, k_80_32, J_80_33, k_80_33, J_80_64, k_80_64, J_80_65, k_80_65, J_80_66, k_80_66, J_80_96, k_80_96, J_80_97, k_80_97, J_80_98, k_80_98, J_80_145, k_80_145, r0, r1, e0, e1, e2, e3, o0, w]
    · have lp : 0 < (opn d).length := List.length_pos_iff.mpr y
      have o0 : ¬ M 31 2 ≤ 0 := by omega
      have o3 : (opn d).length ≤ 3 := hI.2.2.2.2 _ (Nat.le_refl _)
      rw [if_neg (by intro x; rcases x with x | x; · omega
                     exact y x.2), if_neg (fun x => x.1 z3), if_neg (by omega), if_neg z0, if_neg z1, if_neg z2]
      generalize hMe : up M 31 2 (M 31 2 - 1) = Me
      have fe : ∀ c, c ≠ 31 → Me c = M c := fun c hc => by rw [← hMe, up_ne hc]
      have hde := cDl_f hd.1 (M' := Me) fun c c0 c1 => fe c (by omega)
      have j2 := hI.2.1
      have j1 := hI.1
      obtain ⟨Mc, fc, hdc, e4⟩ := c_add (X := X) hde (by omega) j1 (k := 3) (c := -1) (v := 0)
      have hdc' : cDd Mc (addL d 3 (-1) 0) := ⟨hdc, by
        rw [opn_add, if_neg (by omega), if_pos rfl, fc 31 (by omega), ← hMe, up_eq, o, List.length_tail]
        omega⟩
      have c0 : fD M Mc := ⟨fun e x y => by rw [fc e (by omega), fe e (by omega)], by rw [fc 2 (by omega), fe 2 (by omega)]⟩
      obtain ⟨v, Md, fd, res, e5⟩ := c_fin (X := X) g c0 (cTc_f h.1 (by rw [fc 2 (by omega), fe 2 (by omega)]) (by rw [fc 3 (by omega), fe 3 (by omega)])) t1.1 t1.2.1 hdc'
      have v01 := cRd_01 res
      refine ⟨v, Md, fd, res, ?_⟩
      simp (disch := first | assumption | decide | omega | (simp only [List.length_cons, List.length_nil] <;> omega)) only [lgt_0, lgt_s, lset_0, lset_s, lst1_0, lst1_s, lst2_0, lst2_s, ev_iconst, ev_lconst, ev_ldc, ev_null, ev_iload, ev_lload, ev_aload, ev_istore, ev_lstore, ev_astore, ev_iinc, ev_iadd, ev_isub, ev_imul, ev_iand, ev_ior, ev_ishl, ev_ishr, ev_idiv, ev_irem, ev_ineg, ev_ladd, ev_lsub, ev_lmul, ev_land, ev_lor, ev_ldiv, ev_lrem, ev_lshl, ev_i2l, ev_l2i, ev_i2b, ev_i2s, ev_lcmp, ev_dupI, ev_dupR, ev_dup2, ev_popI, ev_popR, ev_alen, ev_xlen, ev_xald, ev_iald, ev_lald, ev_bald, ev_zald, ev_aald, ev_iast, ev_last, ev_bast, ev_zast, ev_aast, ev_gfI, ev_gfL, ev_gfR, ev_pfI, ev_pfZ, ev_pfL, ev_pfR, ev_new, ev_newa, ev_newq, ev_copy, ev_slen, ev_schr, ev_obj, ev_mmin, ev_mabs, ev_mmax, ev_goto, ev_jsr, ev_icmp_eq, ev_if_eq, ev_icmp_ne, ev_if_ne, ev_icmp_lt, ev_if_lt, ev_icmp_ge, ev_if_ge, ev_icmp_gt, ev_if_gt, ev_icmp_le, ev_if_le, ev_ifnull0, ev_ifnull1, ev_ifnn0, ev_ifnn1, ev_tsw, ev_lsw, ev_iret, ev_zret, ev_lret, ev_aret, ev_ret, ev_call0, ev_call1, ev_call2, ev_call3, ev_call4, ev_call5, ev_call6, Option.toList_some, Option.toList_none, List.cons_append, List.nil_append, List.length_cons, List.length_nil, Nat.reduceMod, Nat.reduceDiv, Nat.reduceLeDiff, nc, ↓reduceIte, Nat.zero_le, reduceCtorEq, w32_id, Int.reduceEq, Int.reduceNe, Int.reduceLT, Int.reduceLE, Int.reduceGT, Int.reduceGE, Int.reduceAdd, Int.reduceSub, Int.reduceMul, Int.reduceNeg, ne_eq, not_true_eq_false, not_false_eq_true, eq_self, ↓if_pos, ↓if_neg, J_80_0, k_80_0, J_80_31, k_80_31, J_80_32, k_80_32, J_80_33, k_80_33, J_80_64, k_80_64, J_80_65, k_80_65, J_80_66, k_80_66, J_80_96, k_80_96, J_80_97, k_80_97, J_80_98, k_80_98, J_80_145, k_80_145, r0, r1, e0, e1, e2, e3, o0, hMe, e4, e5]
  · rw [if_neg (fun y => z3 (i3.mp y))] at e3
    refine ⟨0, up (up M 2 2 2) 2 3 (tQ b n p), fD_w fD_0, cRd_e (e := (2, tQ b n p)) (if_pos (Or.inl (by omega))) (by rw [up_ne2 (by omega), up_eq]) up_eq, ?_⟩
    simp (disch := first | assumption | decide | omega | (simp only [List.length_cons, List.length_nil] <;> omega)) only [lgt_0, lgt_s, lset_0, lset_s, lst1_0, lst1_s, lst2_0, lst2_s, ev_iconst, ev_lconst, ev_ldc, ev_null, ev_iload, ev_lload, ev_aload, ev_istore, ev_lstore, ev_astore, ev_iinc, ev_iadd, ev_isub, ev_imul, ev_iand, ev_ior, ev_ishl, ev_ishr, ev_idiv, ev_irem, ev_ineg, ev_ladd, ev_lsub, ev_lmul, ev_land, ev_lor, ev_ldiv, ev_lrem, ev_lshl, ev_i2l, ev_l2i, ev_i2b, ev_i2s, ev_lcmp, ev_dupI, ev_dupR, ev_dup2, ev_popI, ev_popR, ev_alen, ev_xlen, ev_xald, ev_iald, ev_lald, ev_bald, ev_zald, ev_aald, ev_iast, ev_last, ev_bast, ev_zast, ev_aast, ev_gfI, ev_gfL, ev_gfR, ev_pfI, ev_pfZ, ev_pfL, ev_pfR, ev_new, ev_newa, ev_newq, ev_copy, ev_slen, ev_schr, ev_obj, ev_mmin, ev_mabs, ev_mmax, ev_goto, ev_jsr, ev_icmp_eq, ev_if_eq, ev_icmp_ne, ev_if_ne, ev_icmp_lt, ev_if_lt, ev_icmp_ge, ev_if_ge, ev_icmp_gt, ev_if_gt, ev_icmp_le, ev_if_le, ev_ifnull0, ev_ifnull1, ev_ifnn0, ev_ifnn1, ev_tsw, ev_lsw, ev_iret, ev_zret, ev_lret, ev_aret, ev_ret, ev_call0, ev_call1, ev_call2, ev_call3, ev_call4, ev_call5, ev_call6, Option.toList_some, Option.toList_none, List.cons_append, List.nil_append, List.length_cons, List.length_nil, Nat.reduceMod, Nat.reduceDiv, Nat.reduceLeDiff, nc, ↓reduceIte, Nat.zero_le, reduceCtorEq, w32_id, Int.reduceEq, Int.reduceNe, Int.reduceLT, Int.reduceLE, Int.reduceGT, Int.reduceGE, Int.reduceAdd, Int.reduceSub, Int.reduceMul, Int.reduceNeg, ne_eq, not_true_eq_false, not_false_eq_true, eq_self, ↓if_pos, ↓if_neg, J_80_0, k_80_0, J_80_31, k_80_31, J_80_32, k_80_32, J_80_33, k_80_33, J_80_64, k_80_64, J_80_65, k_80_65, J_80_66, k_80_66, J_80_96, k_80_96, J_80_97, k_80_97, J_80_98, k_80_98, J_80_145, k_80_145, r0, r1, e0, e1, e2, e3, w]
end LND
