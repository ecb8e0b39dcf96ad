/-! THE MODEL: the least of all, the fewest, a row alone. -/
section MRW
variable {X : Int → Int} {Sh : List SE} {M : Mem} {m : Nat}
theorem lstHM_c {M' : Mem} {byc k : Int} (h : frmM m M M') : lstHM M' m byc k = lstHM M m byc k := by
  unfold lstHM
  rw [h.1 (m + 1) (by omega) (by omega), h.1 (m + 9) (by omega) (by omega), h.1 (m + 10) (by omega) (by omega)]
theorem goodM_f {M' : Mem} (h : frmM m M M') (g : goodM M m) : goodM M' m := goodM_c (h.1 (m + 1) (by omega) (by omega)) (h.1 (m + 9) (by omega) (by omega)) (h.1 (m + 10) (by omega) (by omega)) g
theorem goodV_f {M' : Mem} (h : frmM m M M') (g : goodV M m) : goodV M' m := goodV_c (h.1 (m + 1) (by omega) (by omega)) g
theorem m_leastAll (h : MD Sh m) (g : goodM M m) (gv : goodV M m) : ∃ M', frmM m M M' ∧ evc X 309 [vR (some m)] Sh M = some (some (vI (lstAM M m)), Sh, M') ∧ 0 ≤ lstAM M m ∧ lstAM M m ≤ 47520 := by
  have hmd := h
  have hk0 := h.1; obtain ⟨r_at, k_at, l_at⟩ := md_at h
  have gs2 := g.1.1.2.2.1
  have sb : ∀ i : Nat, 0 ≤ sumN (fun k => lstHM M m 0 k) i ∧ sumN (fun k => lstHM M m 0 k) i ≤ 9504 * i := fun i => by
    have e := sumN_le (f := fun k => lstHM M m 0 k) (a := 0) (b := 9504) (n := i) (fun k _ => by
      obtain ⟨M0, f, e, l0, l1⟩ := m_leastOf (X := X) hmd g gv (k := k)
      exact ⟨l0, l1⟩)
    omega
  obtain ⟨ls', M2, ⟨hls, fr⟩, he⟩ := ev_for (X := X) (y := 309) (Sh := Sh) (fun i ls M' => ls = [some (vR (some m)), some (vI (sumN (fun k => lstHM M m 0 k) i)), some (vI (i : Int))] ∧ frmM m M M') J_309_4 (M (m + 1) 2).toNat (fun i hi ls M' hI => by
    obtain ⟨hls, fr⟩ := hI
    subst hls
    obtain ⟨M2, f2, e2, l0, l1⟩ := m_leastOf (X := X) (M := M') hmd (goodM_f fr g) (goodV_f fr gv) (k := i)
    rw [lstHM_c fr] at e2 l0 l1
    refine ⟨_, M2, ⟨rfl, frmM_t fr f2⟩, ?_⟩
    have q0 : ¬ M (m + 1) 2 ≤ (i : Int) := by omega
    have fc := fr.1 (m + 1) (by omega) (by omega)
    have b1 := sb i
    have b2 := sb (i + 1)
    rw [sumN_s] at b2 ⊢
    generalize sumN (fun k => lstHM M m 0 k) i = s at b1 b2 ⊢
    generalize lstHM M m 0 i = l at e2 l0 l1 b2 ⊢
    simp (disch := first | assumption | decide | omega | (simp only [List.length_cons, List.length_nil] <;> omega)) only [lgt_0, lgt_s, lset_0, lset_s, lst1_0, lst1_s, lst2_0, lst2_s, ev_iconst, ev_lconst, ev_ldc, ev_null, ev_iload, ev_lload, ev_aload, ev_istore, ev_lstore, ev_astore, ev_iinc, ev_iadd, ev_isub, ev_imul, ev_iand, ev_ior, ev_ishl, ev_ishr, ev_idiv, ev_irem, ev_ineg, ev_ladd, ev_lsub, ev_lmul, ev_land, ev_lor, ev_ldiv, ev_lrem, ev_lshl, ev_i2l, ev_l2i, ev_i2b, ev_i2s, ev_lcmp, ev_dupI, ev_dupR, ev_dup2, ev_popI, ev_popR, ev_alen, ev_xlen, ev_xald, ev_iald, ev_lald, ev_bald, ev_zald, ev_aald, ev_iast, ev_last, ev_bast, ev_zast, ev_aast, ev_gfI, ev_gfL, ev_gfR, ev_pfI, ev_pfZ, ev_pfL, ev_pfR, ev_new, ev_newa, ev_newq, ev_copy, ev_slen, ev_schr, ev_obj, ev_mmin, ev_mabs, ev_mmax, ev_goto, ev_jsr, ev_icmp_eq, ev_if_eq, ev_icmp_ne, ev_if_ne, ev_icmp_lt, ev_if_lt, ev_icmp_ge, ev_if_ge, ev_icmp_gt, ev_if_gt, ev_icmp_le, ev_if_le, ev_ifnull0, ev_ifnull1, ev_ifnn0, ev_ifnn1, ev_tsw, ev_lsw, ev_iret, ev_zret, ev_lret, ev_aret, ev_ret, ev_call0, ev_call1, ev_call2, ev_call3, ev_call4, ev_call5, ev_call6, Option.toList_some, Option.toList_none, List.cons_append, List.nil_append, List.length_cons, List.length_nil, Nat.reduceMod, Nat.reduceDiv, Nat.reduceAdd, Nat.reduceLeDiff, nc, ↓reduceIte, Nat.zero_le, reduceCtorEq, w32_id, Int.reduceEq, Int.reduceNe, Int.reduceLT, Int.reduceLE, Int.reduceGT, Int.reduceGE, Int.reduceAdd, Int.reduceSub, Int.reduceMul, Int.reduceNeg, ne_eq, not_true_eq_false, not_false_eq_true, eq_self, r_at, k_309_4, J_309_0, k_309_0, J_309_28, k_309_28, fc, q0, e2, nc_s]) [some (vR (some m)), some (vI 0), some (vI 0)] M ⟨rfl, frmM_r⟩
  subst hls
  have b := sb (M (m + 1) 2).toNat
  refine ⟨M2, fr, ?_, b.1, ?_⟩
  · rw [E_309 hk0]
    simp (disch := first | assumption | decide | omega | (simp only [List.length_cons, List.length_nil] <;> omega)) only [lgt_0, lgt_s, lset_0, lset_s, lst1_0, lst1_s, lst2_0, lst2_s, ev_iconst, ev_lconst, ev_ldc, ev_null, ev_iload, ev_lload, ev_aload, ev_istore, ev_lstore, ev_astore, ev_iinc, ev_iadd, ev_isub, ev_imul, ev_iand, ev_ior, ev_ishl, ev_ishr, ev_idiv, ev_irem, ev_ineg, ev_ladd, ev_lsub, ev_lmul, ev_land, ev_lor, ev_ldiv, ev_lrem, ev_lshl, ev_i2l, ev_l2i, ev_i2b, ev_i2s, ev_lcmp, ev_dupI, ev_dupR, ev_dup2, ev_popI, ev_popR, ev_alen, ev_xlen, ev_xald, ev_iald, ev_lald, ev_bald, ev_zald, ev_aald, ev_iast, ev_last, ev_bast, ev_zast, ev_aast, ev_gfI, ev_gfL, ev_gfR, ev_pfI, ev_pfZ, ev_pfL, ev_pfR, ev_new, ev_newa, ev_newq, ev_copy, ev_slen, ev_schr, ev_obj, ev_mmin, ev_mabs, ev_mmax, ev_goto, ev_jsr, ev_icmp_eq, ev_if_eq, ev_icmp_ne, ev_if_ne, ev_icmp_lt, ev_if_lt, ev_icmp_ge, ev_if_ge, ev_icmp_gt, ev_if_gt, ev_icmp_le, ev_if_le, ev_ifnull0, ev_ifnull1, ev_ifnn0, ev_ifnn1, ev_tsw, ev_lsw, ev_iret, ev_zret, ev_lret, ev_aret, ev_ret, ev_call0, ev_call1, ev_call2, ev_call3, ev_call4, ev_call5, ev_call6, Option.toList_some, Option.toList_none, List.cons_append, List.nil_append, List.length_cons, List.length_nil, Nat.reduceMod, Nat.reduceDiv, Nat.reduceAdd, Nat.reduceLeDiff, nc, ↓reduceIte, Nat.zero_le, reduceCtorEq, w32_id, Int.reduceEq, Int.reduceNe, Int.reduceLT, Int.reduceLE, Int.reduceGT, Int.reduceGE, Int.reduceAdd, Int.reduceSub, Int.reduceMul, Int.reduceNeg, ne_eq, not_true_eq_false, not_false_eq_true, eq_self, J_309_0, k_309_0, J_309_28, k_309_28]
    rw [he]
    have fc := fr.1 (m + 1) (by omega) (by omega)
    have e : (((M (m + 1) 2).toNat : Nat) : Int) = M (m + 1) 2 := by omega
    have q0 : M (m + 1) 2 ≤ M (m + 1) 2 := Int.le_refl _
    simp (disch := first | assumption | decide | omega | (simp only [List.length_cons, List.length_nil] <;> omega)) only [lgt_0, lgt_s, lset_0, lset_s, lst1_0, lst1_s, lst2_0, lst2_s, ev_iconst, ev_lconst, ev_ldc, ev_null, ev_iload, ev_lload, ev_aload, ev_istore, ev_lstore, ev_astore, ev_iinc, ev_iadd, ev_isub, ev_imul, ev_iand, ev_ior, ev_ishl, ev_ishr, ev_idiv, ev_irem, ev_ineg, ev_ladd, ev_lsub, ev_lmul, ev_land, ev_lor, ev_ldiv, ev_lrem, ev_lshl, ev_i2l, ev_l2i, ev_i2b, ev_i2s, ev_lcmp, ev_dupI, ev_dupR, ev_dup2, ev_popI, ev_popR, ev_alen, ev_xlen, ev_xald, ev_iald, ev_lald, ev_bald, ev_zald, ev_aald, ev_iast, ev_last, ev_bast, ev_zast, ev_aast, ev_gfI, ev_gfL, ev_gfR, ev_pfI, ev_pfZ, ev_pfL, ev_pfR, ev_new, ev_newa, ev_newq, ev_copy, ev_slen, ev_schr, ev_obj, ev_mmin, ev_mabs, ev_mmax, ev_goto, ev_jsr, ev_icmp_eq, ev_if_eq, ev_icmp_ne, ev_if_ne, ev_icmp_lt, ev_if_lt, ev_icmp_ge, ev_if_ge, ev_icmp_gt, ev_if_gt, ev_icmp_le, ev_if_le, ev_ifnull0, ev_ifnull1, ev_ifnn0, ev_ifnn1, ev_tsw, ev_lsw, ev_iret, ev_zret, ev_lret, ev_aret, ev_ret, ev_call0, ev_call1, ev_call2, ev_call3, ev_call4, ev_call5, ev_call6, Option.toList_some, Option.toList_none, List.cons_append, List.nil_append, List.length_cons, List.length_nil, Nat.reduceMod, Nat.reduceDiv, Nat.reduceAdd, Nat.reduceLeDiff, nc, ↓reduceIte, Nat.zero_le, reduceCtorEq, w32_id, Int.reduceEq, Int.reduceNe, Int.reduceLT, Int.reduceLE, Int.reduceGT, Int.reduceGE, Int.reduceAdd, Int.reduceSub, Int.reduceMul, Int.reduceNeg, ne_eq, not_true_eq_false, not_false_eq_true, eq_self, r_at, k_309_4, J_309_0, k_309_0, J_309_28, k_309_28, fc, e, q0]
    rfl
  · have e : sumN (fun k => lstHM M m 0 k) (M (m + 1) 2).toNat = lstAM M m := rfl
    omega
theorem m_fewestOf (h : MD Sh m) (g : goodM M m) (gv : goodV M m) {k : Int} : ∃ M', frmM m M M' ∧ evc X 315 [vR (some m), vI k] Sh M = some (some (vI (lstHM M m 1 k)), Sh, M') ∧ 0 ≤ lstHM M m 1 k ∧ lstHM M m 1 k ≤ 9504 := by
  have hmd := h
  have hk0 := h.1; obtain ⟨r_weight, k_weight, l_weight⟩ := md_weight h; obtain ⟨r_own, k_own, l_own⟩ := md_own h
  obtain ⟨M1, f1, f1m, c1, o1, e311⟩ := m_gathers (X := X) hmd g.1.1 (k := k) rfl
  have hn2 := many_le (m := m) g.1.1
  generalize hq : (fun i => decide (M (m + 10) i = k)) = q at c1 o1
  generalize hn : M (m + 1) 0 * M (m + 1) 1 = n at c1 o1 hn2
  have c0 := cntB_rng (q := q) (i := n.toNat)
  generalize hc : cntB q n.toNat = c at c1 o1 c0
  have h1 := f1 (m + 1) (by omega) (by omega)
  have own_r : ∀ x, 0 ≤ x → x < c → 0 ≤ ownB q n.toNat x ∧ ownB q n.toNat x < n := fun x x0 x1 => by
    obtain ⟨i, i1, i2, i3, i4⟩ := ownB_ex (q := q) (n := n.toNat) x0 (by omega)
    rw [i4]; omega
  have fw : ∀ M' : Mem, (∀ b, b ≠ m + 12 → M' b = M1 b) → M' (m + 1) = M (m + 1) ∧ M' (m + 9) = M (m + 9) ∧ M' (m + 10) = M (m + 10) ∧ M' (m + 19) = M1 (m + 19) ∧ M' m = M1 m := fun M' fr => ⟨by rw [fr _ (by omega), h1], by rw [fr _ (by omega), f1 _ (by omega) (by omega)], by rw [fr _ (by omega), f1 _ (by omega) (by omega)], fr _ (by omega), fr _ (by omega)⟩
  have lk : ∀ x y, lnkM M m 1 x y = if wayM M m x y = 0 then 1000000 else 0 := fun x y => by
    unfold lnkM lnk
    rw [if_neg (c := (1 : Int) = 0) (by omega)]
  have fin : ∀ x y wv : Int, (wv = if wayM M m (ownB q n.toNat x) (ownB q n.toNat y) = 0 then 1 else 0) → wv = if lnkM M m 1 (ownB q n.toNat x) (ownB q n.toNat y) < 1 then lnkM M m 1 (ownB q n.toNat x) (ownB q n.toNat y) else 1 := fun x y wv e => by
    rw [lk, e]
    split <;> rfl
  obtain ⟨ls', M2, ⟨w4, hls, fr, i1⟩, he⟩ := ev_for (X := X) (y := 315) (Sh := Sh) (fun i ls M' => ∃ w4, ls = [some (vR (some m)), some (vI k), some (vI (i : Int)), w4] ∧ (∀ b, b ≠ m + 12 → M' b = M1 b) ∧ (∀ x y : Int, 0 ≤ x → x < i → 0 ≤ y → y < c → M' (m + 12) (56 * x + y) = if wayM M m (ownB q n.toNat x) (ownB q n.toNat y) = 0 then 1 else 0)) J_315_7 c.toNat (fun i hi ls M' hI => by
    obtain ⟨w4, hls, fr, i1⟩ := hI
    subst hls
    obtain ⟨a1, a2, a3, a4, a5⟩ := fw M' fr
    have q0 : ¬ c ≤ (i : Int) := by omega
    have oi := own_r i (by omega) (by omega)
    have oi2 := o1 i (by omega) (by omega)
    obtain ⟨ls2, M2, ⟨hls2, fr2, j1, j2⟩, he2⟩ := ev_for (X := X) (y := 315) (Sh := Sh) (fun j ls M2 => ls = [some (vR (some m)), some (vI k), some (vI (i : Int)), some (vI (j : Int))] ∧ (∀ b, b ≠ m + 12 → M2 b = M1 b) ∧ (∀ x y : Int, 0 ≤ x → x < i → 0 ≤ y → y < c → M2 (m + 12) (56 * x + y) = if wayM M m (ownB q n.toNat x) (ownB q n.toNat y) = 0 then 1 else 0) ∧ (∀ y : Int, 0 ≤ y → y < j → M2 (m + 12) (56 * (i : Int) + y) = if wayM M m (ownB q n.toNat i) (ownB q n.toNat y) = 0 then 1 else 0)) J_315_17 c.toNat (fun j hj ls M2 hI => by
      obtain ⟨hls, fr2, j1, j2⟩ := hI
      subst hls
      obtain ⟨b1, b2, b3, b4, b5⟩ := fw M2 fr2
      have q1 : ¬ c ≤ (j : Int) := by omega
      have oj := own_r j (by omega) (by omega)
      have oj2 := o1 j (by omega) (by omega)
      generalize hwv : (if wayM M m (ownB q n.toNat i) (ownB q n.toNat j) = 0 then (1 : Int) else 0) = wv
      refine ⟨_, up M2 (m + 12) (56 * (i : Int) + j) wv, ⟨rfl, fun b hb => by simp (disch := omega) only [up_ne, up_eq, up_ne2]; exact fr2 b hb, fun x y x0 x1 y0 y1 => by simp (disch := omega) only [up_ne, up_eq, up_ne2]; exact j1 x y x0 x1 y0 y1, fun y y0 y1 => ?_⟩, ?_⟩
      · by_cases z : y = j
        · subst z
          simp (disch := omega) only [up_ne, up_eq, up_ne2]
          exact hwv.symm
        · simp (disch := omega) only [up_ne, up_eq, up_ne2]
          exact j2 y y0 (by omega)
      · by_cases q2 : (i : Int) < j
        · have q2' : ¬ (j : Int) ≤ i := by omega
          have lt := ownB_mono (q := q) (n := n.toNat) (x := i) (y := j) (by omega) q2 (by omega)
          have ew := m_way (X := X) (M := M2) hmd (goodM_c b1 b2 b3 g) (i := ownB q n.toNat i) (j := ownB q n.toNat j) oi.1 lt (by rw [b1, hn]; exact oj.2)
          have ew : evc X 277 [vR (some m), vI (ownB q n.toNat i), vI (ownB q n.toNat j)] Sh M2 = some (some (vI (wayM M m (ownB q n.toNat i) (ownB q n.toNat j))), Sh, M2) := by
            rw [ew, b1, b2, b3]
          have wr : 0 ≤ wayM M m (ownB q n.toNat i) (ownB q n.toNat j) := wayF_rng.1
          generalize wayM M m (ownB q n.toNat i) (ownB q n.toNat j) = w at ew wr hwv
          by_cases q3 : w = 0
          · rw [if_pos q3] at hwv
            subst hwv
            have q3' : w ≤ 0 := by omega
            simp (disch := first | assumption | decide | omega | (simp only [List.length_cons, List.length_nil] <;> omega)) only [lgt_0, lgt_s, lset_0, lset_s, lst1_0, lst1_s, lst2_0, lst2_s, ev_iconst, ev_lconst, ev_ldc, ev_null, ev_iload, ev_lload, ev_aload, ev_istore, ev_lstore, ev_astore, ev_iinc, ev_iadd, ev_isub, ev_imul, ev_iand, ev_ior, ev_ishl, ev_ishr, ev_idiv, ev_irem, ev_ineg, ev_ladd, ev_lsub, ev_lmul, ev_land, ev_lor, ev_ldiv, ev_lrem, ev_lshl, ev_i2l, ev_l2i, ev_i2b, ev_i2s, ev_lcmp, ev_dupI, ev_dupR, ev_dup2, ev_popI, ev_popR, ev_alen, ev_xlen, ev_xald, ev_iald, ev_lald, ev_bald, ev_zald, ev_aald, ev_iast, ev_last, ev_bast, ev_zast, ev_aast, ev_gfI, ev_gfL, ev_gfR, ev_pfI, ev_pfZ, ev_pfL, ev_pfR, ev_new, ev_newa, ev_newq, ev_copy, ev_slen, ev_schr, ev_obj, ev_mmin, ev_mabs, ev_mmax, ev_goto, ev_jsr, ev_icmp_eq, ev_if_eq, ev_icmp_ne, ev_if_ne, ev_icmp_lt, ev_if_lt, ev_icmp_ge, ev_if_ge, ev_icmp_gt, ev_if_gt, ev_icmp_le, ev_if_le, ev_ifnull0, ev_ifnull1, ev_ifnn0, ev_ifnn1, ev_tsw, ev_lsw, ev_iret, ev_zret, ev_lret, ev_aret, ev_ret, ev_call0, ev_call1, ev_call2, ev_call3, ev_call4, ev_call5, ev_call6, Option.toList_some, Option.toList_none, List.cons_append, List.nil_append, List.length_cons, List.length_nil, Nat.reduceMod, Nat.reduceDiv, Nat.reduceAdd, Nat.reduceLeDiff, nc, ↓reduceIte, Nat.zero_le, reduceCtorEq, w32_id, Int.reduceEq, Int.reduceNe, Int.reduceLT, Int.reduceLE, Int.reduceGT, Int.reduceGE, Int.reduceAdd, Int.reduceSub, Int.reduceMul, Int.reduceNeg, ne_eq, not_true_eq_false, not_false_eq_true, eq_self, r_own, r_weight, k_315_17, J_315_0, k_315_0, J_315_63, k_315_63, J_315_64, k_315_64, J_315_71, k_315_71, J_315_77, k_315_77, b5, c1, q1, q2', b4, oi2, oj2, ew, q3', nc_s]
          · rw [if_neg q3] at hwv
            subst hwv
            have q3' : ¬ w ≤ 0 := by omega
            simp (disch := first | assumption | decide | omega | (simp only [List.length_cons, List.length_nil] <;> omega)) only [lgt_0, lgt_s, lset_0, lset_s, lst1_0, lst1_s, lst2_0, lst2_s, ev_iconst, ev_lconst, ev_ldc, ev_null, ev_iload, ev_lload, ev_aload, ev_istore, ev_lstore, ev_astore, ev_iinc, ev_iadd, ev_isub, ev_imul, ev_iand, ev_ior, ev_ishl, ev_ishr, ev_idiv, ev_irem, ev_ineg, ev_ladd, ev_lsub, ev_lmul, ev_land, ev_lor, ev_ldiv, ev_lrem, ev_lshl, ev_i2l, ev_l2i, ev_i2b, ev_i2s, ev_lcmp, ev_dupI, ev_dupR, ev_dup2, ev_popI, ev_popR, ev_alen, ev_xlen, ev_xald, ev_iald, ev_lald, ev_bald, ev_zald, ev_aald, ev_iast, ev_last, ev_bast, ev_zast, ev_aast, ev_gfI, ev_gfL, ev_gfR, ev_pfI, ev_pfZ, ev_pfL, ev_pfR, ev_new, ev_newa, ev_newq, ev_copy, ev_slen, ev_schr, ev_obj, ev_mmin, ev_mabs, ev_mmax, ev_goto, ev_jsr, ev_icmp_eq, ev_if_eq, ev_icmp_ne, ev_if_ne, ev_icmp_lt, ev_if_lt, ev_icmp_ge, ev_if_ge, ev_icmp_gt, ev_if_gt, ev_icmp_le, ev_if_le, ev_ifnull0, ev_ifnull1, ev_ifnn0, ev_ifnn1, ev_tsw, ev_lsw, ev_iret, ev_zret, ev_lret, ev_aret, ev_ret, ev_call0, ev_call1, ev_call2, ev_call3, ev_call4, ev_call5, ev_call6, Option.toList_some, Option.toList_none, List.cons_append, List.nil_append, List.length_cons, List.length_nil, Nat.reduceMod, Nat.reduceDiv, Nat.reduceAdd, Nat.reduceLeDiff, nc, ↓reduceIte, Nat.zero_le, reduceCtorEq, w32_id, Int.reduceEq, Int.reduceNe, Int.reduceLT, Int.reduceLE, Int.reduceGT, Int.reduceGE, Int.reduceAdd, Int.reduceSub, Int.reduceMul, Int.reduceNeg, ne_eq, not_true_eq_false, not_false_eq_true, eq_self, r_own, r_weight, k_315_17, J_315_0, k_315_0, J_315_63, k_315_63, J_315_64, k_315_64, J_315_71, k_315_71, J_315_77, k_315_77, b5, c1, q1, q2', b4, oi2, oj2, ew, q3', nc_s]
        · have q2' : (j : Int) ≤ i := by omega
          have le : ownB q n.toNat j ≤ ownB q n.toNat i := by
            by_cases z : (j : Int) = i
            · rw [z]; exact Int.le_refl _
            · have := ownB_mono (q := q) (n := n.toNat) (x := j) (y := i) (by omega) (by omega) (by omega)
              omega
          rw [if_pos (wayF_no le)] at hwv
          subst hwv
          simp (disch := first | assumption | decide | omega | (simp only [List.length_cons, List.length_nil] <;> omega)) only [lgt_0, lgt_s, lset_0, lset_s, lst1_0, lst1_s, lst2_0, lst2_s, ev_iconst, ev_lconst, ev_ldc, ev_null, ev_iload, ev_lload, ev_aload, ev_istore, ev_lstore, ev_astore, ev_iinc, ev_iadd, ev_isub, ev_imul, ev_iand, ev_ior, ev_ishl, ev_ishr, ev_idiv, ev_irem, ev_ineg, ev_ladd, ev_lsub, ev_lmul, ev_land, ev_lor, ev_ldiv, ev_lrem, ev_lshl, ev_i2l, ev_l2i, ev_i2b, ev_i2s, ev_lcmp, ev_dupI, ev_dupR, ev_dup2, ev_popI, ev_popR, ev_alen, ev_xlen, ev_xald, ev_iald, ev_lald, ev_bald, ev_zald, ev_aald, ev_iast, ev_last, ev_bast, ev_zast, ev_aast, ev_gfI, ev_gfL, ev_gfR, ev_pfI, ev_pfZ, ev_pfL, ev_pfR, ev_new, ev_newa, ev_newq, ev_copy, ev_slen, ev_schr, ev_obj, ev_mmin, ev_mabs, ev_mmax, ev_goto, ev_jsr, ev_icmp_eq, ev_if_eq, ev_icmp_ne, ev_if_ne, ev_icmp_lt, ev_if_lt, ev_icmp_ge, ev_if_ge, ev_icmp_gt, ev_if_gt, ev_icmp_le, ev_if_le, ev_ifnull0, ev_ifnull1, ev_ifnn0, ev_ifnn1, ev_tsw, ev_lsw, ev_iret, ev_zret, ev_lret, ev_aret, ev_ret, ev_call0, ev_call1, ev_call2, ev_call3, ev_call4, ev_call5, ev_call6, Option.toList_some, Option.toList_none, List.cons_append, List.nil_append, List.length_cons, List.length_nil, Nat.reduceMod, Nat.reduceDiv, Nat.reduceAdd, Nat.reduceLeDiff, nc, ↓reduceIte, Nat.zero_le, reduceCtorEq, w32_id, Int.reduceEq, Int.reduceNe, Int.reduceLT, Int.reduceLE, Int.reduceGT, Int.reduceGE, Int.reduceAdd, Int.reduceSub, Int.reduceMul, Int.reduceNeg, ne_eq, not_true_eq_false, not_false_eq_true, eq_self, r_own, r_weight, k_315_17, J_315_0, k_315_0, J_315_63, k_315_63, J_315_64, k_315_64, J_315_71, k_315_71, J_315_77, k_315_77, b5, c1, q1, q2', nc_s]) [some (vR (some m)), some (vI k), some (vI (i : Int)), some (vI 0)] M' ⟨rfl, fr, i1, fun y y0 y1 => by omega⟩
    subst hls2
    obtain ⟨d1, d2, d3, d4, d5⟩ := fw M2 fr2
    have e : ((c.toNat : Nat) : Int) = c := by omega
    rw [e] at he2 j2
    refine ⟨_, M2, ⟨some (vI c), rfl, fr2, fun x y x0 x1 y0 y1 => ?_⟩, ?_⟩
    · by_cases z : x = i
      · subst z; exact j2 y y0 y1
      · exact j1 x y x0 (by omega) y0 y1
    · have q2 : c ≤ c := Int.le_refl c
      simp (disch := first | assumption | decide | omega | (simp only [List.length_cons, List.length_nil] <;> omega)) only [lgt_0, lgt_s, lset_0, lset_s, lst1_0, lst1_s, lst2_0, lst2_s, ev_iconst, ev_lconst, ev_ldc, ev_null, ev_iload, ev_lload, ev_aload, ev_istore, ev_lstore, ev_astore, ev_iinc, ev_iadd, ev_isub, ev_imul, ev_iand, ev_ior, ev_ishl, ev_ishr, ev_idiv, ev_irem, ev_ineg, ev_ladd, ev_lsub, ev_lmul, ev_land, ev_lor, ev_ldiv, ev_lrem, ev_lshl, ev_i2l, ev_l2i, ev_i2b, ev_i2s, ev_lcmp, ev_dupI, ev_dupR, ev_dup2, ev_popI, ev_popR, ev_alen, ev_xlen, ev_xald, ev_iald, ev_lald, ev_bald, ev_zald, ev_aald, ev_iast, ev_last, ev_bast, ev_zast, ev_aast, ev_gfI, ev_gfL, ev_gfR, ev_pfI, ev_pfZ, ev_pfL, ev_pfR, ev_new, ev_newa, ev_newq, ev_copy, ev_slen, ev_schr, ev_obj, ev_mmin, ev_mabs, ev_mmax, ev_goto, ev_jsr, ev_icmp_eq, ev_if_eq, ev_icmp_ne, ev_if_ne, ev_icmp_lt, ev_if_lt, ev_icmp_ge, ev_if_ge, ev_icmp_gt, ev_if_gt, ev_icmp_le, ev_if_le, ev_ifnull0, ev_ifnull1, ev_ifnn0, ev_ifnn1, ev_tsw, ev_lsw, ev_iret, ev_zret, ev_lret, ev_aret, ev_ret, ev_call0, ev_call1, ev_call2, ev_call3, ev_call4, ev_call5, ev_call6, Option.toList_some, Option.toList_none, List.cons_append, List.nil_append, List.length_cons, List.length_nil, Nat.reduceMod, Nat.reduceDiv, Nat.reduceAdd, Nat.reduceLeDiff, nc, ↓reduceIte, Nat.zero_le, reduceCtorEq, w32_id, Int.reduceEq, Int.reduceNe, Int.reduceLT, Int.reduceLE, Int.reduceGT, Int.reduceGE, Int.reduceAdd, Int.reduceSub, Int.reduceMul, Int.reduceNeg, ne_eq, not_true_eq_false, not_false_eq_true, eq_self, k_315_7, J_315_0, k_315_0, J_315_63, k_315_63, J_315_64, k_315_64, J_315_71, k_315_71, J_315_77, k_315_77, a5, c1, q0]
      rw [he2]
      simp (disch := first | assumption | decide | omega | (simp only [List.length_cons, List.length_nil] <;> omega)) only [lgt_0, lgt_s, lset_0, lset_s, lst1_0, lst1_s, lst2_0, lst2_s, ev_iconst, ev_lconst, ev_ldc, ev_null, ev_iload, ev_lload, ev_aload, ev_istore, ev_lstore, ev_astore, ev_iinc, ev_iadd, ev_isub, ev_imul, ev_iand, ev_ior, ev_ishl, ev_ishr, ev_idiv, ev_irem, ev_ineg, ev_ladd, ev_lsub, ev_lmul, ev_land, ev_lor, ev_ldiv, ev_lrem, ev_lshl, ev_i2l, ev_l2i, ev_i2b, ev_i2s, ev_lcmp, ev_dupI, ev_dupR, ev_dup2, ev_popI, ev_popR, ev_alen, ev_xlen, ev_xald, ev_iald, ev_lald, ev_bald, ev_zald, ev_aald, ev_iast, ev_last, ev_bast, ev_zast, ev_aast, ev_gfI, ev_gfL, ev_gfR, ev_pfI, ev_pfZ, ev_pfL, ev_pfR, ev_new, ev_newa, ev_newq, ev_copy, ev_slen, ev_schr, ev_obj, ev_mmin, ev_mabs, ev_mmax, ev_goto, ev_jsr, ev_icmp_eq, ev_if_eq, ev_icmp_ne, ev_if_ne, ev_icmp_lt, ev_if_lt, ev_icmp_ge, ev_if_ge, ev_icmp_gt, ev_if_gt, ev_icmp_le, ev_if_le, ev_ifnull0, ev_ifnull1, ev_ifnn0, ev_ifnn1, ev_tsw, ev_lsw, ev_iret, ev_zret, ev_lret, ev_aret, ev_ret, ev_call0, ev_call1, ev_call2, ev_call3, ev_call4, ev_call5, ev_call6, Option.toList_some, Option.toList_none, List.cons_append, List.nil_append, List.length_cons, List.length_nil, Nat.reduceMod, Nat.reduceDiv, Nat.reduceAdd, Nat.reduceLeDiff, nc, ↓reduceIte, Nat.zero_le, reduceCtorEq, w32_id, Int.reduceEq, Int.reduceNe, Int.reduceLT, Int.reduceLE, Int.reduceGT, Int.reduceGE, Int.reduceAdd, Int.reduceSub, Int.reduceMul, Int.reduceNeg, ne_eq, not_true_eq_false, not_false_eq_true, eq_self, k_315_17, J_315_0, k_315_0, J_315_63, k_315_63, J_315_64, k_315_64, J_315_71, k_315_71, J_315_77, k_315_77, d5, c1, q2, nc_s]) [some (vR (some m)), some (vI k), some (vI 0), none] M1 ⟨none, rfl, fun _ _ => rfl, fun x y x0 x1 => by omega⟩
  subst hls
  have e : ((c.toNat : Nat) : Int) = c := by omega
  rw [e] at he i1
  obtain ⟨d1, d2, d3, d4, d5⟩ := fw M2 fr
  obtain ⟨M3, fr3, e312, l0, l1⟩ := m_square (X := X) (M := M) hmd g gv (byc := 1) (al := 1) (by rw [if_neg (by omega)]) (by omega) (q := q) (c := c) (by rw [hn]; exact hc.symm) (M1 := M2) (fun i j x0 x1 y0 y1 => by rw [hn]; exact fin i j _ (i1 i j x0 x1 y0 y1))
  have hv : lstM M m 1 q q = lstHM M m 1 k := by rw [← hq]; rfl
  rw [hv] at e312 l0 l1
  refine ⟨M3, ⟨fun b b0 b1 => by rw [fr3 b (by omega), fr b (by omega), f1 b b0 (by omega)], fun i hi => by rw [fr3 m (by omega), d5]; exact f1m i hi⟩, ?_, l0, l1⟩
  rw [E_315 hk0]
  simp (disch := first | assumption | decide | omega | (simp only [List.length_cons, List.length_nil] <;> omega)) only [lgt_0, lgt_s, lset_0, lset_s, lst1_0, lst1_s, lst2_0, lst2_s, ev_iconst, ev_lconst, ev_ldc, ev_null, ev_iload, ev_lload, ev_aload, ev_istore, ev_lstore, ev_astore, ev_iinc, ev_iadd, ev_isub, ev_imul, ev_iand, ev_ior, ev_ishl, ev_ishr, ev_idiv, ev_irem, ev_ineg, ev_ladd, ev_lsub, ev_lmul, ev_land, ev_lor, ev_ldiv, ev_lrem, ev_lshl, ev_i2l, ev_l2i, ev_i2b, ev_i2s, ev_lcmp, ev_dupI, ev_dupR, ev_dup2, ev_popI, ev_popR, ev_alen, ev_xlen, ev_xald, ev_iald, ev_lald, ev_bald, ev_zald, ev_aald, ev_iast, ev_last, ev_bast, ev_zast, ev_aast, ev_gfI, ev_gfL, ev_gfR, ev_pfI, ev_pfZ, ev_pfL, ev_pfR, ev_new, ev_newa, ev_newq, ev_copy, ev_slen, ev_schr, ev_obj, ev_mmin, ev_mabs, ev_mmax, ev_goto, ev_jsr, ev_icmp_eq, ev_if_eq, ev_icmp_ne, ev_if_ne, ev_icmp_lt, ev_if_lt, ev_icmp_ge, ev_if_ge, ev_icmp_gt, ev_if_gt, ev_icmp_le, ev_if_le, ev_ifnull0, ev_ifnull1, ev_ifnn0, ev_ifnn1, ev_tsw, ev_lsw, ev_iret, ev_zret, ev_lret, ev_aret, ev_ret, ev_call0, ev_call1, ev_call2, ev_call3, ev_call4, ev_call5, ev_call6, Option.toList_some, Option.toList_none, List.cons_append, List.nil_append, List.length_cons, List.length_nil, Nat.reduceMod, Nat.reduceDiv, Nat.reduceAdd, Nat.reduceLeDiff, nc, ↓reduceIte, Nat.zero_le, reduceCtorEq, w32_id, Int.reduceEq, Int.reduceNe, Int.reduceLT, Int.reduceLE, Int.reduceGT, Int.reduceGE, Int.reduceAdd, Int.reduceSub, Int.reduceMul, Int.reduceNeg, ne_eq, not_true_eq_false, not_false_eq_true, eq_self, J_315_0, k_315_0, J_315_63, k_315_63, J_315_64, k_315_64, J_315_71, k_315_71, J_315_77, k_315_77, e311]
  rw [he]
  have q2 : c ≤ c := Int.le_refl c
  simp (disch := first | assumption | decide | omega | (simp only [List.length_cons, List.length_nil] <;> omega)) only [lgt_0, lgt_s, lset_0, lset_s, lst1_0, lst1_s, lst2_0, lst2_s, ev_iconst, ev_lconst, ev_ldc, ev_null, ev_iload, ev_lload, ev_aload, ev_istore, ev_lstore, ev_astore, ev_iinc, ev_iadd, ev_isub, ev_imul, ev_iand, ev_ior, ev_ishl, ev_ishr, ev_idiv, ev_irem, ev_ineg, ev_ladd, ev_lsub, ev_lmul, ev_land, ev_lor, ev_ldiv, ev_lrem, ev_lshl, ev_i2l, ev_l2i, ev_i2b, ev_i2s, ev_lcmp, ev_dupI, ev_dupR, ev_dup2, ev_popI, ev_popR, ev_alen, ev_xlen, ev_xald, ev_iald, ev_lald, ev_bald, ev_zald, ev_aald, ev_iast, ev_last, ev_bast, ev_zast, ev_aast, ev_gfI, ev_gfL, ev_gfR, ev_pfI, ev_pfZ, ev_pfL, ev_pfR, ev_new, ev_newa, ev_newq, ev_copy, ev_slen, ev_schr, ev_obj, ev_mmin, ev_mabs, ev_mmax, ev_goto, ev_jsr, ev_icmp_eq, ev_if_eq, ev_icmp_ne, ev_if_ne, ev_icmp_lt, ev_if_lt, ev_icmp_ge, ev_if_ge, ev_icmp_gt, ev_if_gt, ev_icmp_le, ev_if_le, ev_ifnull0, ev_ifnull1, ev_ifnn0, ev_ifnn1, ev_tsw, ev_lsw, ev_iret, ev_zret, ev_lret, ev_aret, ev_ret, ev_call0, ev_call1, ev_call2, ev_call3, ev_call4, ev_call5, ev_call6, Option.toList_some, Option.toList_none, List.cons_append, List.nil_append, List.length_cons, List.length_nil, Nat.reduceMod, Nat.reduceDiv, Nat.reduceAdd, Nat.reduceLeDiff, nc, ↓reduceIte, Nat.zero_le, reduceCtorEq, w32_id, Int.reduceEq, Int.reduceNe, Int.reduceLT, Int.reduceLE, Int.reduceGT, Int.reduceGE, Int.reduceAdd, Int.reduceSub, Int.reduceMul, Int.reduceNeg, ne_eq, not_true_eq_false, not_false_eq_true, eq_self, k_315_7, J_315_0, k_315_0, J_315_63, k_315_63, J_315_64, k_315_64, J_315_71, k_315_71, J_315_77, k_315_77, d5, c1, q2, e312]
/-- links of the model's plan -/
def goodG (G : Int → Int) (n : Int) : Prop := ∀ i, 0 ≤ i → i < n → G i = -1 ∨ (i < G i ∧ G i < n)
theorem m_endsAhead (h : MD Sh m) (gs : goodS (M (m + 1))) {i row : Int} (hi : 0 ≤ i ∧ i < 48) (hg : M (m + 1) (80 + i) = -1 ∨ (0 ≤ M (m + 1) (80 + i) ∧ M (m + 1) (80 + i) < 48)) (hw : 0 < M (m + 1) 0) :
    evc X 320 [vR (some m), vI i, vI row] Sh M = some (some (vI (if M (m + 1) (80 + i) = -1 ∨ row ≤ M (m + 1) (80 + i) / M (m + 1) 0 then 1 else 0)), Sh, M) := by
  have hmd := h
  have hk0 := h.1; obtain ⟨r_at, k_at, l_at⟩ := md_at h
  rw [E_320 hk0]
  by_cases q1 : M (m + 1) (80 + i) = -1
  · rw [if_pos (Or.inl q1)]
    simp (disch := first | assumption | decide | omega | (simp only [List.length_cons, List.length_nil] <;> omega)) only [lgt_0, lgt_s, lset_0, lset_s, lst1_0, lst1_s, lst2_0, lst2_s, ev_iconst, ev_lconst, ev_ldc, ev_null, ev_iload, ev_lload, ev_aload, ev_istore, ev_lstore, ev_astore, ev_iinc, ev_iadd, ev_isub, ev_imul, ev_iand, ev_ior, ev_ishl, ev_ishr, ev_idiv, ev_irem, ev_ineg, ev_ladd, ev_lsub, ev_lmul, ev_land, ev_lor, ev_ldiv, ev_lrem, ev_lshl, ev_i2l, ev_l2i, ev_i2b, ev_i2s, ev_lcmp, ev_dupI, ev_dupR, ev_dup2, ev_popI, ev_popR, ev_alen, ev_xlen, ev_xald, ev_iald, ev_lald, ev_bald, ev_zald, ev_aald, ev_iast, ev_last, ev_bast, ev_zast, ev_aast, ev_gfI, ev_gfL, ev_gfR, ev_pfI, ev_pfZ, ev_pfL, ev_pfR, ev_new, ev_newa, ev_newq, ev_copy, ev_slen, ev_schr, ev_obj, ev_mmin, ev_mabs, ev_mmax, ev_goto, ev_jsr, ev_icmp_eq, ev_if_eq, ev_icmp_ne, ev_if_ne, ev_icmp_lt, ev_if_lt, ev_icmp_ge, ev_if_ge, ev_icmp_gt, ev_if_gt, ev_icmp_le, ev_if_le, ev_ifnull0, ev_ifnull1, ev_ifnn0, ev_ifnn1, ev_tsw, ev_lsw, ev_iret, ev_zret, ev_lret, ev_aret, ev_ret, ev_call0, ev_call1, ev_call2, ev_call3, ev_call4, ev_call5, ev_call6, Option.toList_some, Option.toList_none, List.cons_append, List.nil_append, List.length_cons, List.length_nil, Nat.reduceMod, Nat.reduceDiv, Nat.reduceAdd, Nat.reduceLeDiff, nc, ↓reduceIte, Nat.zero_le, reduceCtorEq, w32_id, Int.reduceEq, Int.reduceNe, Int.reduceLT, Int.reduceLE, Int.reduceGT, Int.reduceGE, Int.reduceAdd, Int.reduceSub, Int.reduceMul, Int.reduceNeg, ne_eq, not_true_eq_false, not_false_eq_true, eq_self, r_at, J_320_0, k_320_0, J_320_30, k_320_30, J_320_34, k_320_34, J_320_35, k_320_35, q1]
  · have hg2 : 0 ≤ M (m + 1) (80 + i) ∧ M (m + 1) (80 + i) < 48 := by omega
    have er := m_rowOf (X := X) (M := M) hmd gs (i := M (m + 1) (80 + i)) (by omega) hw
    generalize hgi : M (m + 1) (80 + i) = gi at q1 er hg2 ⊢
    generalize gi / M (m + 1) 0 = rw_ at er ⊢
    by_cases q2 : row ≤ rw_
    · rw [if_pos (Or.inr q2)]
      have q2' : ¬ rw_ < row := by omega
      simp (disch := first | assumption | decide | omega | (simp only [List.length_cons, List.length_nil] <;> omega)) only [lgt_0, lgt_s, lset_0, lset_s, lst1_0, lst1_s, lst2_0, lst2_s, ev_iconst, ev_lconst, ev_ldc, ev_null, ev_iload, ev_lload, ev_aload, ev_istore, ev_lstore, ev_astore, ev_iinc, ev_iadd, ev_isub, ev_imul, ev_iand, ev_ior, ev_ishl, ev_ishr, ev_idiv, ev_irem, ev_ineg, ev_ladd, ev_lsub, ev_lmul, ev_land, ev_lor, ev_ldiv, ev_lrem, ev_lshl, ev_i2l, ev_l2i, ev_i2b, ev_i2s, ev_lcmp, ev_dupI, ev_dupR, ev_dup2, ev_popI, ev_popR, ev_alen, ev_xlen, ev_xald, ev_iald, ev_lald, ev_bald, ev_zald, ev_aald, ev_iast, ev_last, ev_bast, ev_zast, ev_aast, ev_gfI, ev_gfL, ev_gfR, ev_pfI, ev_pfZ, ev_pfL, ev_pfR, ev_new, ev_newa, ev_newq, ev_copy, ev_slen, ev_schr, ev_obj, ev_mmin, ev_mabs, ev_mmax, ev_goto, ev_jsr, ev_icmp_eq, ev_if_eq, ev_icmp_ne, ev_if_ne, ev_icmp_lt, ev_if_lt, ev_icmp_ge, ev_if_ge, ev_icmp_gt, ev_if_gt, ev_icmp_le, ev_if_le, ev_ifnull0, ev_ifnull1, ev_ifnn0, ev_ifnn1, ev_tsw, ev_lsw, ev_iret, ev_zret, ev_lret, ev_aret, ev_ret, ev_call0, ev_call1, ev_call2, ev_call3, ev_call4, ev_call5, ev_call6, Option.toList_some, Option.toList_none, List.cons_append, List.nil_append, List.length_cons, List.length_nil, Nat.reduceMod, Nat.reduceDiv, Nat.reduceAdd, Nat.reduceLeDiff, nc, ↓reduceIte, Nat.zero_le, reduceCtorEq, w32_id, Int.reduceEq, Int.reduceNe, Int.reduceLT, Int.reduceLE, Int.reduceGT, Int.reduceGE, Int.reduceAdd, Int.reduceSub, Int.reduceMul, Int.reduceNeg, ne_eq, not_true_eq_false, not_false_eq_true, eq_self, r_at, J_320_0, k_320_0, J_320_30, k_320_30, J_320_34, k_320_34, J_320_35, k_320_35, hgi, q1, er, q2']
    · rw [if_neg (fun z => z.elim q1 q2)]
      have q2' : rw_ < row := by omega
      simp (disch := first | assumption | decide | omega | (simp only [List.length_cons, List.length_nil] <;> omega)) only [lgt_0, lgt_s, lset_0, lset_s, lst1_0, lst1_s, lst2_0, lst2_s, ev_iconst, ev_lconst, ev_ldc, ev_null, ev_iload, ev_lload, ev_aload, ev_istore, ev_lstore, ev_astore, ev_iinc, ev_iadd, ev_isub, ev_imul, ev_iand, ev_ior, ev_ishl, ev_ishr, ev_idiv, ev_irem, ev_ineg, ev_ladd, ev_lsub, ev_lmul, ev_land, ev_lor, ev_ldiv, ev_lrem, ev_lshl, ev_i2l, ev_l2i, ev_i2b, ev_i2s, ev_lcmp, ev_dupI, ev_dupR, ev_dup2, ev_popI, ev_popR, ev_alen, ev_xlen, ev_xald, ev_iald, ev_lald, ev_bald, ev_zald, ev_aald, ev_iast, ev_last, ev_bast, ev_zast, ev_aast, ev_gfI, ev_gfL, ev_gfR, ev_pfI, ev_pfZ, ev_pfL, ev_pfR, ev_new, ev_newa, ev_newq, ev_copy, ev_slen, ev_schr, ev_obj, ev_mmin, ev_mabs, ev_mmax, ev_goto, ev_jsr, ev_icmp_eq, ev_if_eq, ev_icmp_ne, ev_if_ne, ev_icmp_lt, ev_if_lt, ev_icmp_ge, ev_if_ge, ev_icmp_gt, ev_if_gt, ev_icmp_le, ev_if_le, ev_ifnull0, ev_ifnull1, ev_ifnn0, ev_ifnn1, ev_tsw, ev_lsw, ev_iret, ev_zret, ev_lret, ev_aret, ev_ret, ev_call0, ev_call1, ev_call2, ev_call3, ev_call4, ev_call5, ev_call6, Option.toList_some, Option.toList_none, List.cons_append, List.nil_append, List.length_cons, List.length_nil, Nat.reduceMod, Nat.reduceDiv, Nat.reduceAdd, Nat.reduceLeDiff, nc, ↓reduceIte, Nat.zero_le, reduceCtorEq, w32_id, Int.reduceEq, Int.reduceNe, Int.reduceLT, Int.reduceLE, Int.reduceGT, Int.reduceGE, Int.reduceAdd, Int.reduceSub, Int.reduceMul, Int.reduceNeg, ne_eq, not_true_eq_false, not_false_eq_true, eq_self, r_at, J_320_0, k_320_0, J_320_30, k_320_30, J_320_34, k_320_34, J_320_35, k_320_35, hgi, q1, er, q2']
/-- a product's quotient -/
theorem div_row {i w row : Int} (hw : 0 < w) : i / w = row ↔ w * row ≤ i ∧ i < w * row + w := by
  constructor
  · intro h
    have h1 := Int.mul_ediv_add_emod i w
    have h2 := Int.emod_nonneg i (show w ≠ 0 by omega)
    have h3 := Int.emod_lt_of_pos i hw
    rw [h] at h1
    omega
  · rintro ⟨h1, h2⟩
    have e : i = w * row + (i - w * row) := by omega
    rw [e, Int.add_comm, Int.add_mul_ediv_left _ _ (by omega), Int.ediv_eq_zero_of_lt (by omega) (by omega)]
    omega
end MRW
