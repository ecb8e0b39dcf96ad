/-! PAIRING: the least of a colour, of all, of a row; the fewest. -/
noncomputable def lstH (S H P R W : Int → Int) (n byc k : Int) : Int := lstV S H P R W n byc (fun i => decide (H i = k)) (fun i => decide (H i = k))
noncomputable def lstA (S H P R W : Int → Int) (n : Int) : Int := sumN (fun k => lstH S H P R W n 0 k) (S 2).toNat
noncomputable abbrev lstHC (M : Mem) (c : Nat) (byc k : Int) : Int := lstH (M (c + 1)) (M (c + 6)) (M (c + 7)) (M (c + 8)) (M (c + 3)) (M c 8) byc k
noncomputable abbrev lstAC (M : Mem) (c : Nat) : Int := lstA (M (c + 1)) (M (c + 6)) (M (c + 7)) (M (c + 8)) (M (c + 3)) (M c 8)
section LES
variable {X : Int → Int} {Sh : List SE} {M : Mem} {p c : Nat}
theorem s_gr (h : PA Sh p) (hc : CH Sh c) (hd : c + 8 < p ∨ p + 9 < c) (gc : goodC M c) (gw : goodW M c) {byc : Int} (hb : byc = 0 ∨ byc = 1) {k : Int} :
    ∃ M0 M1 M2, evc X 142 [vR (some p), vR (some c), vI k] Sh M = some (none, Sh, M0) ∧ evc X 145 [vR (some p), vR (some c), vI byc] Sh M0 = some (none, Sh, M1) ∧ evc X 146 [vR (some p)] Sh M1 = some (some (vI (lstHC M c byc k)), Sh, M2) ∧ frm p (p + 9) M M2 ∧ frm p (p + 9) M M0 ∧ frm p (p + 9) M M1 ∧ 0 ≤ lstHC M c byc k ∧ lstHC M c byc k ≤ 9504 := by
  obtain ⟨M0, f, a1, a2, a3, e0⟩ := s_gather (X := X) h hc hd (n := M c 8) (k := k) rfl gc.2.1
  have hm : ∀ b, c ≤ b → b ≤ c + 8 → M0 b = M b := fun b b0 b1 => f b (by omega) (by omega) (by omega)
  have m0 := hm c (by omega) (by omega)
  obtain ⟨M1, M2, e1, e2, fr, l0, l1⟩ := s_reckon (X := X) (M := M0) h hc hd (goodC_c hm gc) (goodW_c hm gw) hb (by rw [m0]; exact a1) (by rw [m0]; exact a2) (fun x x0 x1 => by rw [m0] at x1 ⊢; exact (a3 x x0 x1).1) (fun x x0 x1 => by rw [m0] at x1 ⊢; exact (a3 x x0 x1).2)
  have ev : lstC M0 c byc (fun i => decide (M (c + 6) i = k)) (fun i => decide (M (c + 6) i = k)) = lstHC M c byc k := by
    unfold lstC lstHC lstH
    rw [m0, hm (c + 1) (by omega) (by omega), hm (c + 6) (by omega) (by omega), hm (c + 7) (by omega) (by omega), hm (c + 8) (by omega) (by omega), hm (c + 3) (by omega) (by omega)]
  rw [ev] at e2 l0 l1
  have f0 : frm p (p + 9) M M0 := fun b hb => f b (by omega) (by omega) (by omega)
  have f2 : frm p (p + 9) M M2 := frm_t f0 fr
  refine ⟨M0, M1, M2, e0, e1, e2, f2, f0, ?_, l0, l1⟩
  obtain ⟨M1', q1, q2, q3⟩ := s_price (X := X) (M := M0) h hc hd (goodC_c hm gc) (goodW_c hm gw) (n := M0 p 2) (g := M0 p 3) ⟨rfl, by rw [a1]; have := cntB_rng (q := fun i => decide (M (c + 6) i = k)) (i := (M c 8).toNat); have := gc.2.1; omega⟩ ⟨rfl, by rw [a2]; have := cntB_rng (q := fun i => decide (M (c + 6) i = k)) (i := (M c 8).toNat); have := gc.2.1; omega⟩ hb (fun x x0 x1 => by
    rw [a1] at x1
    obtain ⟨i, i1, i2, i3, i4⟩ := ownB_ex x0 x1
    have := gc.2.1
    rw [(a3 x x0 x1).1, i4]; omega) (fun x x0 x1 => by
    rw [a2] at x1
    obtain ⟨i, i1, i2, i3, i4⟩ := ownB_ex x0 x1
    have := gc.2.1
    rw [(a3 x x0 x1).2, i4]; omega)
  rw [q3] at e1
  have : M1' = M1 := by
    injection e1 with e1
    injection e1 with e1 e2
    injection e2
  rw [← this]
  exact fun b hb => by rw [q1 b (by omega)]; exact f0 b hb
theorem s_leastOf (h : PA Sh p) (hc : CH Sh c) (hd : c + 8 < p ∨ p + 9 < c) (gc : goodC M c) (gw : goodW M c) {k : Int} :
    ∃ M', frm p (p + 9) M M' ∧ evc X 152 [vR (some p), vR (some c), vI k] Sh M = some (some (vI (lstHC M c 0 k)), Sh, M') := by
  obtain ⟨M0, M1, M2, e0, e1, e2, f2, -⟩ := s_gr (X := X) h hc hd gc gw (byc := 0) (Or.inl rfl) (k := k)
  refine ⟨M2, f2, ?_⟩
  rw [E_152 h.1]
  simp (disch := first | assumption | decide | omega | (simp only [List.length_cons, List.length_nil] <;> omega)) only [lgt_0, lgt_s, lset_0, lset_s, lst1_0, lst1_s, lst2_0, lst2_s, ev_iconst, ev_lconst, ev_ldc, ev_null, ev_iload, ev_lload, ev_aload, ev_istore, ev_lstore, ev_astore, ev_iinc, ev_iadd, ev_isub, ev_imul, ev_iand, ev_ior, ev_ishl, ev_ishr, ev_idiv, ev_irem, ev_ineg, ev_ladd, ev_lsub, ev_lmul, ev_land, ev_lor, ev_ldiv, ev_lrem, ev_lshl, ev_i2l, ev_l2i, ev_i2b, ev_i2s, ev_lcmp, ev_dupI, ev_dupR, ev_dup2, ev_popI, ev_popR, ev_alen, ev_xlen, ev_xald, ev_iald, ev_lald, ev_bald, ev_zald, ev_aald, ev_iast, ev_last, ev_bast, ev_zast, ev_aast, ev_gfI, ev_gfL, ev_gfR, ev_pfI, ev_pfZ, ev_pfL, ev_pfR, ev_new, ev_newa, ev_newq, ev_copy, ev_slen, ev_schr, ev_obj, ev_mmin, ev_mabs, ev_mmax, ev_goto, ev_jsr, ev_icmp_eq, ev_if_eq, ev_icmp_ne, ev_if_ne, ev_icmp_lt, ev_if_lt, ev_icmp_ge, ev_if_ge, ev_icmp_gt, ev_if_gt, ev_icmp_le, ev_if_le, ev_ifnull0, ev_ifnull1, ev_ifnn0, ev_ifnn1, ev_tsw, ev_lsw, ev_iret, ev_zret, ev_lret, ev_aret, ev_ret, ev_call0, ev_call1, ev_call2, ev_call3, ev_call4, ev_call5, ev_call6, Option.toList_some, Option.toList_none, List.cons_append, List.nil_append, List.length_cons, List.length_nil, Nat.reduceMod, Nat.reduceDiv, Nat.reduceAdd, Nat.reduceLeDiff, nc, ↓reduceIte, Nat.zero_le, reduceCtorEq, w32_id, Int.reduceEq, Int.reduceNe, Int.reduceLT, Int.reduceLE, Int.reduceGT, Int.reduceGE, Int.reduceAdd, Int.reduceSub, Int.reduceMul, Int.reduceNeg, ne_eq, not_true_eq_false, not_false_eq_true, eq_self, J_152_0, k_152_0, e0, e1, e2]
theorem s_fewestOf (h : PA Sh p) (hc : CH Sh c) (hd : c + 8 < p ∨ p + 9 < c) (gc : goodC M c) (gw : goodW M c) {k : Int} :
    ∃ M', frm p (p + 9) M M' ∧ evc X 154 [vR (some p), vR (some c), vI k] Sh M = some (some (vI (lstHC M c 1 k)), Sh, M') ∧ 0 ≤ lstHC M c 1 k ∧ lstHC M c 1 k ≤ 9504 := by
  obtain ⟨M0, M1, M2, e0, e1, e2, f2, -, -, l0, l1⟩ := s_gr (X := X) h hc hd gc gw (byc := 1) (Or.inr rfl) (k := k)
  refine ⟨M2, f2, ?_, l0, l1⟩
  rw [E_154 h.1]
  simp (disch := first | assumption | decide | omega | (simp only [List.length_cons, List.length_nil] <;> omega)) only [lgt_0, lgt_s, lset_0, lset_s, lst1_0, lst1_s, lst2_0, lst2_s, ev_iconst, ev_lconst, ev_ldc, ev_null, ev_iload, ev_lload, ev_aload, ev_istore, ev_lstore, ev_astore, ev_iinc, ev_iadd, ev_isub, ev_imul, ev_iand, ev_ior, ev_ishl, ev_ishr, ev_idiv, ev_irem, ev_ineg, ev_ladd, ev_lsub, ev_lmul, ev_land, ev_lor, ev_ldiv, ev_lrem, ev_lshl, ev_i2l, ev_l2i, ev_i2b, ev_i2s, ev_lcmp, ev_dupI, ev_dupR, ev_dup2, ev_popI, ev_popR, ev_alen, ev_xlen, ev_xald, ev_iald, ev_lald, ev_bald, ev_zald, ev_aald, ev_iast, ev_last, ev_bast, ev_zast, ev_aast, ev_gfI, ev_gfL, ev_gfR, ev_pfI, ev_pfZ, ev_pfL, ev_pfR, ev_new, ev_newa, ev_newq, ev_copy, ev_slen, ev_schr, ev_obj, ev_mmin, ev_mabs, ev_mmax, ev_goto, ev_jsr, ev_icmp_eq, ev_if_eq, ev_icmp_ne, ev_if_ne, ev_icmp_lt, ev_if_lt, ev_icmp_ge, ev_if_ge, ev_icmp_gt, ev_if_gt, ev_icmp_le, ev_if_le, ev_ifnull0, ev_ifnull1, ev_ifnn0, ev_ifnn1, ev_tsw, ev_lsw, ev_iret, ev_zret, ev_lret, ev_aret, ev_ret, ev_call0, ev_call1, ev_call2, ev_call3, ev_call4, ev_call5, ev_call6, Option.toList_some, Option.toList_none, List.cons_append, List.nil_append, List.length_cons, List.length_nil, Nat.reduceMod, Nat.reduceDiv, Nat.reduceAdd, Nat.reduceLeDiff, nc, ↓reduceIte, Nat.zero_le, reduceCtorEq, w32_id, Int.reduceEq, Int.reduceNe, Int.reduceLT, Int.reduceLE, Int.reduceGT, Int.reduceGE, Int.reduceAdd, Int.reduceSub, Int.reduceMul, Int.reduceNeg, ne_eq, not_true_eq_false, not_false_eq_true, eq_self, J_154_0, k_154_0, e0, e1, e2]
theorem lstHC_c {M' : Mem} {byc k : Int} (hm : ∀ b, c ≤ b → b ≤ c + 8 → M' b = M b) : lstHC M' c byc k = lstHC M c byc k := by
  unfold lstHC
  rw [hm c (by omega) (by omega), hm (c + 1) (by omega) (by omega), hm (c + 6) (by omega) (by omega), hm (c + 7) (by omega) (by omega), hm (c + 8) (by omega) (by omega), hm (c + 3) (by omega) (by omega)]
theorem lstAC_c {M' : Mem} (hm : ∀ b, c ≤ b → b ≤ c + 8 → M' b = M b) : lstAC M' c = lstAC M c := by
  unfold lstAC
  rw [hm c (by omega) (by omega), hm (c + 1) (by omega) (by omega), hm (c + 6) (by omega) (by omega), hm (c + 7) (by omega) (by omega), hm (c + 8) (by omega) (by omega), hm (c + 3) (by omega) (by omega)]
theorem s_leastOfAll (h : PA Sh p) (hc : CH Sh c) (hd : c + 8 < p ∨ p + 9 < c) (gc : goodC M c) (gw : goodW M c) :
    ∃ M', frm p (p + 9) M M' ∧ evc X 141 [vR (some p), vR (some c)] Sh M = some (some (vI (lstAC M c)), Sh, M') ∧ 0 ≤ lstAC M c ∧ lstAC M c ≤ 47520 := by
  have hcc := hc
  have hk0 := h.1
  obtain ⟨ck0, cr0, cr1, cr2, cr3, cr4, cr5, cr6, cr7, ck1, ck2, ck3, ck4, ck5, ck6, ck7, ck8, cl1, cl2, cl3, cl4, cl5, cl6, cl7, cl8⟩ := hc
  have gs2 := gc.1.2.2.1
  have sb : ∀ i : Nat, 0 ≤ sumN (fun k => lstHC M c 0 k) i ∧ sumN (fun k => lstHC M c 0 k) i ≤ 9504 * i := fun i => by
    have e := sumN_le (f := fun k => lstHC M c 0 k) (a := 0) (b := 9504) (n := i) (fun k _ => by
      obtain ⟨M0, M1, M2, e0, e1, e2, f2, -, -, l0, l1⟩ := s_gr (X := X) h hcc hd gc gw (byc := 0) (Or.inl rfl) (k := k)
      exact ⟨l0, l1⟩)
    omega
  obtain ⟨ls', M2, ⟨hls, fr⟩, he⟩ := ev_for (X := X) (y := 141) (Sh := Sh) (fun i ls M' => ls = [some (vR (some p)), some (vR (some c)), some (vI (sumN (fun k => lstHC M c 0 k) i)), some (vI (i : Int))] ∧ frm p (p + 9) M M') J_141_4 (M (c + 1) 2).toNat (fun i hi ls M' hI => by
    obtain ⟨hls, fr⟩ := hI
    subst hls
    have hm : ∀ b, c ≤ b → b ≤ c + 8 → M' b = M b := fun b b0 b1 => fr b (by omega)
    obtain ⟨M0, M1, M2, e0, e1, e2, f2, f0, f1, l0, l1⟩ := s_gr (X := X) (M := M') h hcc hd (goodC_c hm gc) (goodW_c hm gw) (byc := 0) (Or.inl rfl) (k := i)
    rw [lstHC_c hm] at e2 l0 l1
    refine ⟨_, M2, ⟨rfl, frm_t fr f2⟩, ?_⟩
    have q0 : ¬ M (c + 1) 2 ≤ (i : Int) := by omega
    have fc := hm (c + 1) (by omega) (by omega)
    have b1 := sb i
    have b2 := sb (i + 1)
    rw [sumN_s] at b2 ⊢
    generalize sumN (fun k => lstHC M c 0 k) i = s at b1 b2 ⊢
    generalize lstHC M c 0 i = l at e2 l0 l1 b2 ⊢
    simp (disch := first | assumption | decide | omega | (simp only [List.length_cons, List.length_nil] <;> omega)) only [lgt_0, lgt_s, lset_0, lset_s, lst1_0, lst1_s, lst2_0, lst2_s, ev_iconst, ev_lconst, ev_ldc, ev_null, ev_iload, ev_lload, ev_aload, ev_istore, ev_lstore, ev_astore, ev_iinc, ev_iadd, ev_isub, ev_imul, ev_iand, ev_ior, ev_ishl, ev_ishr, ev_idiv, ev_irem, ev_ineg, ev_ladd, ev_lsub, ev_lmul, ev_land, ev_lor, ev_ldiv, ev_lrem, ev_lshl, ev_i2l, ev_l2i, ev_i2b, ev_i2s, ev_lcmp, ev_dupI, ev_dupR, ev_dup2, ev_popI, ev_popR, ev_alen, ev_xlen, ev_xald, ev_iald, ev_lald, ev_bald, ev_zald, ev_aald, ev_iast, ev_last, ev_bast, ev_zast, ev_aast, ev_gfI, ev_gfL, ev_gfR, ev_pfI, ev_pfZ, ev_pfL, ev_pfR, ev_new, ev_newa, ev_newq, ev_copy, ev_slen, ev_schr, ev_obj, ev_mmin, ev_mabs, ev_mmax, ev_goto, ev_jsr, ev_icmp_eq, ev_if_eq, ev_icmp_ne, ev_if_ne, ev_icmp_lt, ev_if_lt, ev_icmp_ge, ev_if_ge, ev_icmp_gt, ev_if_gt, ev_icmp_le, ev_if_le, ev_ifnull0, ev_ifnull1, ev_ifnn0, ev_ifnn1, ev_tsw, ev_lsw, ev_iret, ev_zret, ev_lret, ev_aret, ev_ret, ev_call0, ev_call1, ev_call2, ev_call3, ev_call4, ev_call5, ev_call6, Option.toList_some, Option.toList_none, List.cons_append, List.nil_append, List.length_cons, List.length_nil, Nat.reduceMod, Nat.reduceDiv, Nat.reduceAdd, Nat.reduceLeDiff, nc, ↓reduceIte, Nat.zero_le, reduceCtorEq, w32_id, Int.reduceEq, Int.reduceNe, Int.reduceLT, Int.reduceLE, Int.reduceGT, Int.reduceGE, Int.reduceAdd, Int.reduceSub, Int.reduceMul, Int.reduceNeg, ne_eq, not_true_eq_false, not_false_eq_true, eq_self, cr0, cr1, cr2, cr3, cr4, cr5, cr6, cr7, k_141_4, J_141_0, k_141_0, J_141_39, k_141_39, fc, q0, e0, e1, e2, nc_s]) [some (vR (some p)), some (vR (some c)), some (vI 0), some (vI 0)] M ⟨rfl, frm_r⟩
  subst hls
  have b := sb (M (c + 1) 2).toNat
  refine ⟨M2, fr, ?_, b.1, ?_⟩
  · rw [E_141 hk0]
    simp (disch := first | assumption | decide | omega | (simp only [List.length_cons, List.length_nil] <;> omega)) only [lgt_0, lgt_s, lset_0, lset_s, lst1_0, lst1_s, lst2_0, lst2_s, ev_iconst, ev_lconst, ev_ldc, ev_null, ev_iload, ev_lload, ev_aload, ev_istore, ev_lstore, ev_astore, ev_iinc, ev_iadd, ev_isub, ev_imul, ev_iand, ev_ior, ev_ishl, ev_ishr, ev_idiv, ev_irem, ev_ineg, ev_ladd, ev_lsub, ev_lmul, ev_land, ev_lor, ev_ldiv, ev_lrem, ev_lshl, ev_i2l, ev_l2i, ev_i2b, ev_i2s, ev_lcmp, ev_dupI, ev_dupR, ev_dup2, ev_popI, ev_popR, ev_alen, ev_xlen, ev_xald, ev_iald, ev_lald, ev_bald, ev_zald, ev_aald, ev_iast, ev_last, ev_bast, ev_zast, ev_aast, ev_gfI, ev_gfL, ev_gfR, ev_pfI, ev_pfZ, ev_pfL, ev_pfR, ev_new, ev_newa, ev_newq, ev_copy, ev_slen, ev_schr, ev_obj, ev_mmin, ev_mabs, ev_mmax, ev_goto, ev_jsr, ev_icmp_eq, ev_if_eq, ev_icmp_ne, ev_if_ne, ev_icmp_lt, ev_if_lt, ev_icmp_ge, ev_if_ge, ev_icmp_gt, ev_if_gt, ev_icmp_le, ev_if_le, ev_ifnull0, ev_ifnull1, ev_ifnn0, ev_ifnn1, ev_tsw, ev_lsw, ev_iret, ev_zret, ev_lret, ev_aret, ev_ret, ev_call0, ev_call1, ev_call2, ev_call3, ev_call4, ev_call5, ev_call6, Option.toList_some, Option.toList_none, List.cons_append, List.nil_append, List.length_cons, List.length_nil, Nat.reduceMod, Nat.reduceDiv, Nat.reduceAdd, Nat.reduceLeDiff, nc, ↓reduceIte, Nat.zero_le, reduceCtorEq, w32_id, Int.reduceEq, Int.reduceNe, Int.reduceLT, Int.reduceLE, Int.reduceGT, Int.reduceGE, Int.reduceAdd, Int.reduceSub, Int.reduceMul, Int.reduceNeg, ne_eq, not_true_eq_false, not_false_eq_true, eq_self, J_141_0, k_141_0, J_141_39, k_141_39]
    rw [he]
    have fc := fr (c + 1) (by omega)
    have e : (((M (c + 1) 2).toNat : Nat) : Int) = M (c + 1) 2 := by omega
    have q0 : M (c + 1) 2 ≤ M (c + 1) 2 := Int.le_refl _
    simp (disch := first | assumption | decide | omega | (simp only [List.length_cons, List.length_nil] <;> omega)) only [lgt_0, lgt_s, lset_0, lset_s, lst1_0, lst1_s, lst2_0, lst2_s, ev_iconst, ev_lconst, ev_ldc, ev_null, ev_iload, ev_lload, ev_aload, ev_istore, ev_lstore, ev_astore, ev_iinc, ev_iadd, ev_isub, ev_imul, ev_iand, ev_ior, ev_ishl, ev_ishr, ev_idiv, ev_irem, ev_ineg, ev_ladd, ev_lsub, ev_lmul, ev_land, ev_lor, ev_ldiv, ev_lrem, ev_lshl, ev_i2l, ev_l2i, ev_i2b, ev_i2s, ev_lcmp, ev_dupI, ev_dupR, ev_dup2, ev_popI, ev_popR, ev_alen, ev_xlen, ev_xald, ev_iald, ev_lald, ev_bald, ev_zald, ev_aald, ev_iast, ev_last, ev_bast, ev_zast, ev_aast, ev_gfI, ev_gfL, ev_gfR, ev_pfI, ev_pfZ, ev_pfL, ev_pfR, ev_new, ev_newa, ev_newq, ev_copy, ev_slen, ev_schr, ev_obj, ev_mmin, ev_mabs, ev_mmax, ev_goto, ev_jsr, ev_icmp_eq, ev_if_eq, ev_icmp_ne, ev_if_ne, ev_icmp_lt, ev_if_lt, ev_icmp_ge, ev_if_ge, ev_icmp_gt, ev_if_gt, ev_icmp_le, ev_if_le, ev_ifnull0, ev_ifnull1, ev_ifnn0, ev_ifnn1, ev_tsw, ev_lsw, ev_iret, ev_zret, ev_lret, ev_aret, ev_ret, ev_call0, ev_call1, ev_call2, ev_call3, ev_call4, ev_call5, ev_call6, Option.toList_some, Option.toList_none, List.cons_append, List.nil_append, List.length_cons, List.length_nil, Nat.reduceMod, Nat.reduceDiv, Nat.reduceAdd, Nat.reduceLeDiff, nc, ↓reduceIte, Nat.zero_le, reduceCtorEq, w32_id, Int.reduceEq, Int.reduceNe, Int.reduceLT, Int.reduceLE, Int.reduceGT, Int.reduceGE, Int.reduceAdd, Int.reduceSub, Int.reduceMul, Int.reduceNeg, ne_eq, not_true_eq_false, not_false_eq_true, eq_self, cr0, cr1, cr2, cr3, cr4, cr5, cr6, cr7, k_141_4, J_141_0, k_141_0, J_141_39, k_141_39, fc, e, q0]
    rfl
  · have e : sumN (fun k => lstHC M c 0 k) (M (c + 1) 2).toNat = lstAC M c := rfl
    omega
/-- which stitches go on into a row -/
def rowS (R L : Int → Int) (n row i : Int) : Bool := decide (R i = row ∨ (R i = row - 1 ∧ (¬ (0 ≤ L i ∧ L i < n) ∨ row ≤ R (L i))))
theorem s_leastOfRow (h : PA Sh p) (hc : CH Sh c) {q : Nat} (hq : PL Sh q) (hd : c + 8 < p ∨ p + 9 < c) (hdq : q + 2 < p ∨ p + 9 < q) (gc : goodC M c) (gw : goodW M c) {row : Int} (hr : 0 ≤ row ∧ row < 100) :
    ∃ M', frm p (p + 9) M M' ∧ evc X 159 [vR (some p), vR (some c), vR (some q), vI row] Sh M = some (some (vI (lstC M c 0 (rowS (M (c + 8)) (M (q + 1)) (M c 8) row) (fun i => decide (M (c + 8) i = row)))), Sh, M') := by
  have hcc := hc
  have hk0 := h.1
  have hqk := hq.1
  have hqr := hq.2.1
  have hq1 := hq.2.2.2.1
  have hql := hq.2.2.2.2.2.1
  obtain ⟨ck0, cr0, cr1, cr2, cr3, cr4, cr5, cr6, cr7, ck1, ck2, ck3, ck4, ck5, ck6, ck7, ck8, cl1, cl2, cl3, cl4, cl5, cl6, cl7, cl8⟩ := hc
  obtain ⟨gn0, gn1⟩ := gc.2.1
  generalize hn : M c 8 = n at gn0 gn1
  generalize hqs : rowS (M (c + 8)) (M (q + 1)) n row = qs
  have hqsi : ∀ i, qs i = decide (M (c + 8) i = row ∨ (M (c + 8) i = row - 1 ∧ (¬ (0 ≤ M (q + 1) i ∧ M (q + 1) i < n) ∨ row ≤ M (c + 8) (M (q + 1) i)))) := fun i => by rw [← hqs]; rfl
  generalize hqg : (fun i => decide (M (c + 8) i = row)) = qg
  have hqgi : ∀ i, qg i = decide (M (c + 8) i = row) := fun i => by rw [← hqg]
  obtain ⟨ls', M', ⟨w, hls, fr, i1, i2, i3, i4⟩, he⟩ := ev_for (X := X) (y := 159) (Sh := Sh) (fun i ls M' => ∃ w, ls = [some (vR (some p)), some (vR (some c)), some (vR (some q)), some (vI row), some (vI (i : Int)), w] ∧ (∀ b, b ≠ p → b ≠ p + 1 → b ≠ p + 2 → M' b = M b) ∧ M' p 2 = cntB qs i ∧ M' p 3 = cntB qg i ∧ (∀ x, 0 ≤ x → x < cntB qs i → M' (p + 1) x = ownB qs n.toNat x) ∧ (∀ x, 0 ≤ x → x < cntB qg i → M' (p + 2) x = ownB qg n.toNat x)) J_159_13 n.toNat (fun i hi ls M' hI => by
    obtain ⟨w, hls, fr, i1, i2, i3, i4⟩ := hI
    subst hls
    have fc := fr c (by omega) (by omega) (by omega)
    have fc8 := fr (c + 8) (by omega) (by omega) (by omega)
    have fq := fr (q + 1) (by omega) (by omega) (by omega)
    have q0 : ¬ n ≤ (i : Int) := by omega
    have e0 := cntB_rng (q := qs) (i := i)
    have e00 := cntB_rng (q := qg) (i := i)
    have src : ∀ M0 : Mem, M0 p 2 = cntB qs i → (∀ x, 0 ≤ x → x < cntB qs i → M0 (p + 1) x = ownB qs n.toNat x) → qs i = true → evc X 143 [vR (some p), vI i] Sh M0 = some (none, Sh, up (up M0 (p + 1) (cntB qs i) i) p 2 (cntB qs i + 1)) ∧ ∀ x, 0 ≤ x → x < cntB qs (i + 1) → up (up M0 (p + 1) (cntB qs i) i) p 2 (cntB qs i + 1) (p + 1) x = ownB qs n.toNat x := fun M0 h2 h3 ht => by
      have e1 := s_addSource (X := X) (M := M0) h (i := i) (by omega)
      rw [h2] at e1
      refine ⟨e1, fun x x0 x1 => ?_⟩
      rw [cntB_s, if_pos ht] at x1
      by_cases z : x = cntB qs i
      · subst z
        simp (disch := omega) only [up_ne, up_eq, up_ne2]
        exact (ownB_at hi ht).symm
      · simp (disch := omega) only [up_ne, up_eq, up_ne2]
        exact h3 x x0 (by omega)
    by_cases q1 : M (c + 8) i = row
    · have t1 : qs i = true := by rw [hqsi]; exact decide_eq_true (Or.inl q1)
      have t2 : qg i = true := by rw [hqgi]; exact decide_eq_true q1
      have e2 := s_addGoal (X := X) (M := M') h (i := i) (by omega)
      rw [i2] at e2
      generalize hM0 : up (up M' (p + 2) (cntB qg i) i) p 3 (cntB qg i + 1) = M0 at e2
      have e3 := src M0 (by rw [← hM0]; simp (disch := omega) only [up_ne, up_eq, up_ne2]; exact i1) (fun x x0 x1 => by rw [← hM0]; simp (disch := omega) only [up_ne, up_eq, up_ne2]; exact i3 x x0 x1) t1
      refine ⟨_, _, ⟨w, rfl, fun b h0 h1 h2 => ?_, ?_, ?_, e3.2, fun x x0 x1 => ?_⟩, ?_⟩
      · rw [← hM0]
        simp (disch := omega) only [up_ne, up_eq, up_ne2]
        exact fr b h0 h1 h2
      · simp (disch := omega) only [up_ne, up_eq, up_ne2]
        rw [cntB_s, if_pos t1]
      · rw [← hM0]
        simp (disch := omega) only [up_ne, up_eq, up_ne2]
        rw [cntB_s, if_pos t2]
      · rw [← hM0]
        rw [cntB_s, if_pos t2] at x1
        by_cases z : x = cntB qg i
        · subst z
          simp (disch := omega) only [up_ne, up_eq, up_ne2]
          exact (ownB_at hi t2).symm
        · simp (disch := omega) only [up_ne, up_eq, up_ne2]
          exact i4 x x0 (by omega)
      · simp (disch := first | assumption | decide | omega | (simp only [List.length_cons, List.length_nil] <;> omega)) only [lgt_0, lgt_s, lset_0, lset_s, lst1_0, lst1_s, lst2_0, lst2_s, ev_iconst, ev_lconst, ev_ldc, ev_null, ev_iload, ev_lload, ev_aload, ev_istore, ev_lstore, ev_astore, ev_iinc, ev_iadd, ev_isub, ev_imul, ev_iand, ev_ior, ev_ishl, ev_ishr, ev_idiv, ev_irem, ev_ineg, ev_ladd, ev_lsub, ev_lmul, ev_land, ev_lor, ev_ldiv, ev_lrem, ev_lshl, ev_i2l, ev_l2i, ev_i2b, ev_i2s, ev_lcmp, ev_dupI, ev_dupR, ev_dup2, ev_popI, ev_popR, ev_alen, ev_xlen, ev_xald, ev_iald, ev_lald, ev_bald, ev_zald, ev_aald, ev_iast, ev_last, ev_bast, ev_zast, ev_aast, ev_gfI, ev_gfL, ev_gfR, ev_pfI, ev_pfZ, ev_pfL, ev_pfR, ev_new, ev_newa, ev_newq, ev_copy, ev_slen, ev_schr, ev_obj, ev_mmin, ev_mabs, ev_mmax, ev_goto, ev_jsr, ev_icmp_eq, ev_if_eq, ev_icmp_ne, ev_if_ne, ev_icmp_lt, ev_if_lt, ev_icmp_ge, ev_if_ge, ev_icmp_gt, ev_if_gt, ev_icmp_le, ev_if_le, ev_ifnull0, ev_ifnull1, ev_ifnn0, ev_ifnn1, ev_tsw, ev_lsw, ev_iret, ev_zret, ev_lret, ev_aret, ev_ret, ev_call0, ev_call1, ev_call2, ev_call3, ev_call4, ev_call5, ev_call6, Option.toList_some, Option.toList_none, List.cons_append, List.nil_append, List.length_cons, List.length_nil, Nat.reduceMod, Nat.reduceDiv, Nat.reduceAdd, Nat.reduceLeDiff, nc, ↓reduceIte, Nat.zero_le, reduceCtorEq, w32_id, Int.reduceEq, Int.reduceNe, Int.reduceLT, Int.reduceLE, Int.reduceGT, Int.reduceGE, Int.reduceAdd, Int.reduceSub, Int.reduceMul, Int.reduceNeg, ne_eq, not_true_eq_false, not_false_eq_true, eq_self, cr0, cr1, cr2, cr3, cr4, cr5, cr6, cr7, k_159_13, J_159_0, k_159_0, J_159_48, k_159_48, J_159_90, k_159_90, J_159_96, k_159_96, J_159_102, k_159_102, fc, hn, fc8, q0, q1, e2, e3.1, nc_s]
    · have t2 : ¬ qg i = true := by rw [hqgi]; exact fun z => q1 (of_decide_eq_true z)
      have c2 : cntB qg (i + 1) = cntB qg i := by rw [cntB_s, if_neg t2]; omega
      by_cases q2 : M (c + 8) i = row - 1
      · have q8 : ¬ row - 1 = row := by omega
        have hst := s_hasStitch (X := X) (M := M') hcc (i := M (q + 1) i)
        rw [fc, hn] at hst
        by_cases q3 : ¬ (0 ≤ M (q + 1) i ∧ M (q + 1) i < n) ∨ row ≤ M (c + 8) (M (q + 1) i)
        · have t1 : qs i = true := by rw [hqsi]; exact decide_eq_true (Or.inr ⟨q2, q3⟩)
          have e3 := src M' i1 i3 t1
          refine ⟨_, _, ⟨some (vI (M (q + 1) i)), rfl, fun b h0 h1 h2 => ?_, ?_, ?_, e3.2, fun x x0 x1 => ?_⟩, ?_⟩
          · simp (disch := omega) only [up_ne, up_eq, up_ne2]
            exact fr b h0 h1 h2
          · simp (disch := omega) only [up_ne, up_eq, up_ne2]
            rw [cntB_s, if_pos t1]
          · simp (disch := omega) only [up_ne, up_eq, up_ne2]
            rw [c2]; exact i2
          · simp (disch := omega) only [up_ne, up_eq, up_ne2]
            rw [c2] at x1; exact i4 x x0 x1
          · by_cases q4 : 0 ≤ M (q + 1) i ∧ M (q + 1) i < n
            · have q5 : ¬ M (c + 8) (M (q + 1) i) < row := by rcases q3 with z | z <;> omega
              have q6 := q4.1
              have q7 := q4.2
              rw [if_pos q4] at hst
              simp (disch := first | assumption | decide | omega | (simp only [List.length_cons, List.length_nil] <;> omega)) only [lgt_0, lgt_s, lset_0, lset_s, lst1_0, lst1_s, lst2_0, lst2_s, ev_iconst, ev_lconst, ev_ldc, ev_null, ev_iload, ev_lload, ev_aload, ev_istore, ev_lstore, ev_astore, ev_iinc, ev_iadd, ev_isub, ev_imul, ev_iand, ev_ior, ev_ishl, ev_ishr, ev_idiv, ev_irem, ev_ineg, ev_ladd, ev_lsub, ev_lmul, ev_land, ev_lor, ev_ldiv, ev_lrem, ev_lshl, ev_i2l, ev_l2i, ev_i2b, ev_i2s, ev_lcmp, ev_dupI, ev_dupR, ev_dup2, ev_popI, ev_popR, ev_alen, ev_xlen, ev_xald, ev_iald, ev_lald, ev_bald, ev_zald, ev_aald, ev_iast, ev_last, ev_bast, ev_zast, ev_aast, ev_gfI, ev_gfL, ev_gfR, ev_pfI, ev_pfZ, ev_pfL, ev_pfR, ev_new, ev_newa, ev_newq, ev_copy, ev_slen, ev_schr, ev_obj, ev_mmin, ev_mabs, ev_mmax, ev_goto, ev_jsr, ev_icmp_eq, ev_if_eq, ev_icmp_ne, ev_if_ne, ev_icmp_lt, ev_if_lt, ev_icmp_ge, ev_if_ge, ev_icmp_gt, ev_if_gt, ev_icmp_le, ev_if_le, ev_ifnull0, ev_ifnull1, ev_ifnn0, ev_ifnn1, ev_tsw, ev_lsw, ev_iret, ev_zret, ev_lret, ev_aret, ev_ret, ev_call0, ev_call1, ev_call2, ev_call3, ev_call4, ev_call5, ev_call6, Option.toList_some, Option.toList_none, List.cons_append, List.nil_append, List.length_cons, List.length_nil, Nat.reduceMod, Nat.reduceDiv, Nat.reduceAdd, Nat.reduceLeDiff, nc, ↓reduceIte, Nat.zero_le, reduceCtorEq, w32_id, Int.reduceEq, Int.reduceNe, Int.reduceLT, Int.reduceLE, Int.reduceGT, Int.reduceGE, Int.reduceAdd, Int.reduceSub, Int.reduceMul, Int.reduceNeg, ne_eq, not_true_eq_false, not_false_eq_true, eq_self, cr0, cr1, cr2, cr3, cr4, cr5, cr6, cr7, hqr, k_159_13, J_159_0, k_159_0, J_159_48, k_159_48, J_159_90, k_159_90, J_159_96, k_159_96, J_159_102, k_159_102, fc, hn, fc8, fq, q0, q1, q2, q8, hst, q5, e3.1, nc_s]
            · rw [if_neg q4] at hst
              simp (disch := first | assumption | decide | omega | (simp only [List.length_cons, List.length_nil] <;> omega)) only [lgt_0, lgt_s, lset_0, lset_s, lst1_0, lst1_s, lst2_0, lst2_s, ev_iconst, ev_lconst, ev_ldc, ev_null, ev_iload, ev_lload, ev_aload, ev_istore, ev_lstore, ev_astore, ev_iinc, ev_iadd, ev_isub, ev_imul, ev_iand, ev_ior, ev_ishl, ev_ishr, ev_idiv, ev_irem, ev_ineg, ev_ladd, ev_lsub, ev_lmul, ev_land, ev_lor, ev_ldiv, ev_lrem, ev_lshl, ev_i2l, ev_l2i, ev_i2b, ev_i2s, ev_lcmp, ev_dupI, ev_dupR, ev_dup2, ev_popI, ev_popR, ev_alen, ev_xlen, ev_xald, ev_iald, ev_lald, ev_bald, ev_zald, ev_aald, ev_iast, ev_last, ev_bast, ev_zast, ev_aast, ev_gfI, ev_gfL, ev_gfR, ev_pfI, ev_pfZ, ev_pfL, ev_pfR, ev_new, ev_newa, ev_newq, ev_copy, ev_slen, ev_schr, ev_obj, ev_mmin, ev_mabs, ev_mmax, ev_goto, ev_jsr, ev_icmp_eq, ev_if_eq, ev_icmp_ne, ev_if_ne, ev_icmp_lt, ev_if_lt, ev_icmp_ge, ev_if_ge, ev_icmp_gt, ev_if_gt, ev_icmp_le, ev_if_le, ev_ifnull0, ev_ifnull1, ev_ifnn0, ev_ifnn1, ev_tsw, ev_lsw, ev_iret, ev_zret, ev_lret, ev_aret, ev_ret, ev_call0, ev_call1, ev_call2, ev_call3, ev_call4, ev_call5, ev_call6, Option.toList_some, Option.toList_none, List.cons_append, List.nil_append, List.length_cons, List.length_nil, Nat.reduceMod, Nat.reduceDiv, Nat.reduceAdd, Nat.reduceLeDiff, nc, ↓reduceIte, Nat.zero_le, reduceCtorEq, w32_id, Int.reduceEq, Int.reduceNe, Int.reduceLT, Int.reduceLE, Int.reduceGT, Int.reduceGE, Int.reduceAdd, Int.reduceSub, Int.reduceMul, Int.reduceNeg, ne_eq, not_true_eq_false, not_false_eq_true, eq_self, cr0, cr1, cr2, cr3, cr4, cr5, cr6, cr7, hqr, k_159_13, J_159_0, k_159_0, J_159_48, k_159_48, J_159_90, k_159_90, J_159_96, k_159_96, J_159_102, k_159_102, fc, hn, fc8, fq, q0, q1, q2, q8, hst, e3.1, nc_s]
        · have t1 : ¬ qs i = true := by
            rw [hqsi]
            intro z
            rcases of_decide_eq_true z with y | y
            · exact q1 y
            · exact q3 y.2
          have c1 : cntB qs (i + 1) = cntB qs i := by rw [cntB_s, if_neg t1]; omega
          refine ⟨_, M', ⟨some (vI (M (q + 1) i)), rfl, fr, by rw [c1]; exact i1, by rw [c2]; exact i2, by rw [c1]; exact i3, by rw [c2]; exact i4⟩, ?_⟩
          have q4 : 0 ≤ M (q + 1) i ∧ M (q + 1) i < n := by
            by_cases z : 0 ≤ M (q + 1) i ∧ M (q + 1) i < n
            · exact z
            · exact absurd (Or.inl z) q3
          have q5 : M (c + 8) (M (q + 1) i) < row := by
            by_cases z : row ≤ M (c + 8) (M (q + 1) i)
            · exact absurd (Or.inr z) q3
            · omega
          have q6 := q4.1
          have q7 := q4.2
          rw [if_pos q4] at hst
          simp (disch := first | assumption | decide | omega | (simp only [List.length_cons, List.length_nil] <;> omega)) only [lgt_0, lgt_s, lset_0, lset_s, lst1_0, lst1_s, lst2_0, lst2_s, ev_iconst, ev_lconst, ev_ldc, ev_null, ev_iload, ev_lload, ev_aload, ev_istore, ev_lstore, ev_astore, ev_iinc, ev_iadd, ev_isub, ev_imul, ev_iand, ev_ior, ev_ishl, ev_ishr, ev_idiv, ev_irem, ev_ineg, ev_ladd, ev_lsub, ev_lmul, ev_land, ev_lor, ev_ldiv, ev_lrem, ev_lshl, ev_i2l, ev_l2i, ev_i2b, ev_i2s, ev_lcmp, ev_dupI, ev_dupR, ev_dup2, ev_popI, ev_popR, ev_alen, ev_xlen, ev_xald, ev_iald, ev_lald, ev_bald, ev_zald, ev_aald, ev_iast, ev_last, ev_bast, ev_zast, ev_aast, ev_gfI, ev_gfL, ev_gfR, ev_pfI, ev_pfZ, ev_pfL, ev_pfR, ev_new, ev_newa, ev_newq, ev_copy, ev_slen, ev_schr, ev_obj, ev_mmin, ev_mabs, ev_mmax, ev_goto, ev_jsr, ev_icmp_eq, ev_if_eq, ev_icmp_ne, ev_if_ne, ev_icmp_lt, ev_if_lt, ev_icmp_ge, ev_if_ge, ev_icmp_gt, ev_if_gt, ev_icmp_le, ev_if_le, ev_ifnull0, ev_ifnull1, ev_ifnn0, ev_ifnn1, ev_tsw, ev_lsw, ev_iret, ev_zret, ev_lret, ev_aret, ev_ret, ev_call0, ev_call1, ev_call2, ev_call3, ev_call4, ev_call5, ev_call6, Option.toList_some, Option.toList_none, List.cons_append, List.nil_append, List.length_cons, List.length_nil, Nat.reduceMod, Nat.reduceDiv, Nat.reduceAdd, Nat.reduceLeDiff, nc, ↓reduceIte, Nat.zero_le, reduceCtorEq, w32_id, Int.reduceEq, Int.reduceNe, Int.reduceLT, Int.reduceLE, Int.reduceGT, Int.reduceGE, Int.reduceAdd, Int.reduceSub, Int.reduceMul, Int.reduceNeg, ne_eq, not_true_eq_false, not_false_eq_true, eq_self, cr0, cr1, cr2, cr3, cr4, cr5, cr6, cr7, hqr, k_159_13, J_159_0, k_159_0, J_159_48, k_159_48, J_159_90, k_159_90, J_159_96, k_159_96, J_159_102, k_159_102, fc, hn, fc8, fq, q0, q1, q2, q8, hst, q5, nc_s]
      · have t1 : ¬ qs i = true := by
          rw [hqsi]
          intro z
          rcases of_decide_eq_true z with y | y
          · exact q1 y
          · exact q2 y.1
        have c1 : cntB qs (i + 1) = cntB qs i := by rw [cntB_s, if_neg t1]; omega
        refine ⟨_, M', ⟨w, rfl, fr, by rw [c1]; exact i1, by rw [c2]; exact i2, by rw [c1]; exact i3, by rw [c2]; exact i4⟩, ?_⟩
        simp (disch := first | assumption | decide | omega | (simp only [List.length_cons, List.length_nil] <;> omega)) only [lgt_0, lgt_s, lset_0, lset_s, lst1_0, lst1_s, lst2_0, lst2_s, ev_iconst, ev_lconst, ev_ldc, ev_null, ev_iload, ev_lload, ev_aload, ev_istore, ev_lstore, ev_astore, ev_iinc, ev_iadd, ev_isub, ev_imul, ev_iand, ev_ior, ev_ishl, ev_ishr, ev_idiv, ev_irem, ev_ineg, ev_ladd, ev_lsub, ev_lmul, ev_land, ev_lor, ev_ldiv, ev_lrem, ev_lshl, ev_i2l, ev_l2i, ev_i2b, ev_i2s, ev_lcmp, ev_dupI, ev_dupR, ev_dup2, ev_popI, ev_popR, ev_alen, ev_xlen, ev_xald, ev_iald, ev_lald, ev_bald, ev_zald, ev_aald, ev_iast, ev_last, ev_bast, ev_zast, ev_aast, ev_gfI, ev_gfL, ev_gfR, ev_pfI, ev_pfZ, ev_pfL, ev_pfR, ev_new, ev_newa, ev_newq, ev_copy, ev_slen, ev_schr, ev_obj, ev_mmin, ev_mabs, ev_mmax, ev_goto, ev_jsr, ev_icmp_eq, ev_if_eq, ev_icmp_ne, ev_if_ne, ev_icmp_lt, ev_if_lt, ev_icmp_ge, ev_if_ge, ev_icmp_gt, ev_if_gt, ev_icmp_le, ev_if_le, ev_ifnull0, ev_ifnull1, ev_ifnn0, ev_ifnn1, ev_tsw, ev_lsw, ev_iret, ev_zret, ev_lret, ev_aret, ev_ret, ev_call0, ev_call1, ev_call2, ev_call3, ev_call4, ev_call5, ev_call6, Option.toList_some, Option.toList_none, List.cons_append, List.nil_append, List.length_cons, List.length_nil, Nat.reduceMod, Nat.reduceDiv, Nat.reduceAdd, Nat.reduceLeDiff, nc, ↓reduceIte, Nat.zero_le, reduceCtorEq, w32_id, Int.reduceEq, Int.reduceNe, Int.reduceLT, Int.reduceLE, Int.reduceGT, Int.reduceGE, Int.reduceAdd, Int.reduceSub, Int.reduceMul, Int.reduceNeg, ne_eq, not_true_eq_false, not_false_eq_true, eq_self, cr0, cr1, cr2, cr3, cr4, cr5, cr6, cr7, k_159_13, J_159_0, k_159_0, J_159_48, k_159_48, J_159_90, k_159_90, J_159_96, k_159_96, J_159_102, k_159_102, fc, hn, fc8, q0, q1, q2, nc_s]) [some (vR (some p)), some (vR (some c)), some (vR (some q)), some (vI row), some (vI 0), none] (up (up M p 2 0) p 3 0) ⟨none, rfl, fun b h0 _ _ => by rw [up_ne h0, up_ne h0], by rw [up_ne2 (by omega), up_eq]; rfl, by rw [up_eq]; rfl, fun x x0 x1 => by have : cntB qs 0 = 0 := rfl; omega, fun x x0 x1 => by have : cntB qg 0 = 0 := rfl; omega⟩
  subst hls
  have hm : ∀ b, c ≤ b → b ≤ c + 8 → M' b = M b := fun b b0 b1 => fr b (by omega) (by omega) (by omega)
  have m0 : M' c 8 = n := by rw [hm c (by omega) (by omega)]; exact hn
  obtain ⟨M1, M2, e1, e2, fr2, l0, l1⟩ := s_reckon (X := X) (M := M') h hcc hd (goodC_c hm gc) (goodW_c hm gw) (byc := 0) (Or.inl rfl) (qs := qs) (qg := qg) (by rw [m0]; exact i1) (by rw [m0]; exact i2) (fun x x0 x1 => by rw [m0] at x1 ⊢; exact i3 x x0 x1) (fun x x0 x1 => by rw [m0] at x1 ⊢; exact i4 x x0 x1)
  have ev : lstC M' c 0 qs qg = lstV (M (c + 1)) (M (c + 6)) (M (c + 7)) (M (c + 8)) (M (c + 3)) n 0 qs qg := by
    unfold lstC
    rw [m0, hm (c + 1) (by omega) (by omega), hm (c + 6) (by omega) (by omega), hm (c + 7) (by omega) (by omega), hm (c + 8) (by omega) (by omega), hm (c + 3) (by omega) (by omega)]
  rw [ev] at e2
  refine ⟨M2, fun b hb => by rw [fr2 b hb]; exact fr b (by omega) (by omega) (by omega), ?_⟩
  rw [E_159 hk0]
  simp (disch := first | assumption | decide | omega | (simp only [List.length_cons, List.length_nil] <;> omega)) only [lgt_0, lgt_s, lset_0, lset_s, lst1_0, lst1_s, lst2_0, lst2_s, ev_iconst, ev_lconst, ev_ldc, ev_null, ev_iload, ev_lload, ev_aload, ev_istore, ev_lstore, ev_astore, ev_iinc, ev_iadd, ev_isub, ev_imul, ev_iand, ev_ior, ev_ishl, ev_ishr, ev_idiv, ev_irem, ev_ineg, ev_ladd, ev_lsub, ev_lmul, ev_land, ev_lor, ev_ldiv, ev_lrem, ev_lshl, ev_i2l, ev_l2i, ev_i2b, ev_i2s, ev_lcmp, ev_dupI, ev_dupR, ev_dup2, ev_popI, ev_popR, ev_alen, ev_xlen, ev_xald, ev_iald, ev_lald, ev_bald, ev_zald, ev_aald, ev_iast, ev_last, ev_bast, ev_zast, ev_aast, ev_gfI, ev_gfL, ev_gfR, ev_pfI, ev_pfZ, ev_pfL, ev_pfR, ev_new, ev_newa, ev_newq, ev_copy, ev_slen, ev_schr, ev_obj, ev_mmin, ev_mabs, ev_mmax, ev_goto, ev_jsr, ev_icmp_eq, ev_if_eq, ev_icmp_ne, ev_if_ne, ev_icmp_lt, ev_if_lt, ev_icmp_ge, ev_if_ge, ev_icmp_gt, ev_if_gt, ev_icmp_le, ev_if_le, ev_ifnull0, ev_ifnull1, ev_ifnn0, ev_ifnn1, ev_tsw, ev_lsw, ev_iret, ev_zret, ev_lret, ev_aret, ev_ret, ev_call0, ev_call1, ev_call2, ev_call3, ev_call4, ev_call5, ev_call6, Option.toList_some, Option.toList_none, List.cons_append, List.nil_append, List.length_cons, List.length_nil, Nat.reduceMod, Nat.reduceDiv, Nat.reduceAdd, Nat.reduceLeDiff, nc, ↓reduceIte, Nat.zero_le, reduceCtorEq, w32_id, Int.reduceEq, Int.reduceNe, Int.reduceLT, Int.reduceLE, Int.reduceGT, Int.reduceGE, Int.reduceAdd, Int.reduceSub, Int.reduceMul, Int.reduceNeg, ne_eq, not_true_eq_false, not_false_eq_true, eq_self, J_159_0, k_159_0, J_159_48, k_159_48, J_159_90, k_159_90, J_159_96, k_159_96, J_159_102, k_159_102]
  rw [he]
  have fc := hm c (by omega) (by omega)
  have e : ((n.toNat : Nat) : Int) = n := by omega
  have q0 : n ≤ n := Int.le_refl _
  simp (disch := first | assumption | decide | omega | (simp only [List.length_cons, List.length_nil] <;> omega)) only [lgt_0, lgt_s, lset_0, lset_s, lst1_0, lst1_s, lst2_0, lst2_s, ev_iconst, ev_lconst, ev_ldc, ev_null, ev_iload, ev_lload, ev_aload, ev_istore, ev_lstore, ev_astore, ev_iinc, ev_iadd, ev_isub, ev_imul, ev_iand, ev_ior, ev_ishl, ev_ishr, ev_idiv, ev_irem, ev_ineg, ev_ladd, ev_lsub, ev_lmul, ev_land, ev_lor, ev_ldiv, ev_lrem, ev_lshl, ev_i2l, ev_l2i, ev_i2b, ev_i2s, ev_lcmp, ev_dupI, ev_dupR, ev_dup2, ev_popI, ev_popR, ev_alen, ev_xlen, ev_xald, ev_iald, ev_lald, ev_bald, ev_zald, ev_aald, ev_iast, ev_last, ev_bast, ev_zast, ev_aast, ev_gfI, ev_gfL, ev_gfR, ev_pfI, ev_pfZ, ev_pfL, ev_pfR, ev_new, ev_newa, ev_newq, ev_copy, ev_slen, ev_schr, ev_obj, ev_mmin, ev_mabs, ev_mmax, ev_goto, ev_jsr, ev_icmp_eq, ev_if_eq, ev_icmp_ne, ev_if_ne, ev_icmp_lt, ev_if_lt, ev_icmp_ge, ev_if_ge, ev_icmp_gt, ev_if_gt, ev_icmp_le, ev_if_le, ev_ifnull0, ev_ifnull1, ev_ifnn0, ev_ifnn1, ev_tsw, ev_lsw, ev_iret, ev_zret, ev_lret, ev_aret, ev_ret, ev_call0, ev_call1, ev_call2, ev_call3, ev_call4, ev_call5, ev_call6, Option.toList_some, Option.toList_none, List.cons_append, List.nil_append, List.length_cons, List.length_nil, Nat.reduceMod, Nat.reduceDiv, Nat.reduceAdd, Nat.reduceLeDiff, nc, ↓reduceIte, Nat.zero_le, reduceCtorEq, w32_id, Int.reduceEq, Int.reduceNe, Int.reduceLT, Int.reduceLE, Int.reduceGT, Int.reduceGE, Int.reduceAdd, Int.reduceSub, Int.reduceMul, Int.reduceNeg, ne_eq, not_true_eq_false, not_false_eq_true, eq_self, k_159_13, J_159_0, k_159_0, J_159_48, k_159_48, J_159_90, k_159_90, J_159_96, k_159_96, J_159_102, k_159_102, m0, e, q0, e1, e2]
  unfold lstC
  rw [hn]
end LES
