/-! WINDOW: both sides' loops. -/
def wnS (w l f v p : Int) : Int := (f + p / v) * w + (l + p % v)
theorem wnS_at {w l f v j x : Int} (x0 : 0 ≤ x) (x1 : x < v) : wnS w l f v (j * v + x) = (f + j) * w + (l + x) := by
  have c : v * j = j * v := Int.mul_comm _ _
  have d : (j * v + x) / v = j := (div_row (by omega)).mpr ⟨by omega, by omega⟩
  have e := Int.mul_ediv_add_emod (j * v + x) v
  rw [d] at e
  unfold wnS
  rw [d, show (j * v + x) % v = x by omega]
theorem wn_idx {w hh l r f g j x v : Int} (hw : 0 ≤ w ∧ w ≤ 8) (h6 : hh ≤ 6) (l0 : 0 ≤ l) (lr : l ≤ r) (rw' : r < w) (f0 : 0 ≤ f) (gh : g < hh) (hv : v = r - l + 1) (j0 : 0 ≤ j) (j1 : f + j ≤ g) (x0 : 0 ≤ x) (x1 : x < v) : (0 ≤ j * v ∧ j * v + x ≤ (f + j) * w + (l + x)) ∧ (0 ≤ (f + j) * w ∧ (f + j) * w + (l + x) < hh * w) ∧ hh * w ≤ 48 := by
  have a := row_in (r := f + j) (w := w) (h := hh) (by omega) (by omega) hw.1 hw.2 h6
  have b : j * v ≤ j * w := Int.mul_le_mul_of_nonneg_left (by omega) j0
  have c : 0 ≤ j * v := Int.mul_nonneg j0 (by omega)
  have d : 0 ≤ f * w := Int.mul_nonneg f0 hw.1
  have e : (f + j) * w = f * w + j * w := Int.add_mul _ _ _
  omega
section WIN
variable {X : Int → Int} {M : Mem}
theorem k_cutLoop {w hh l r f g v u : Int} {C0 : Int → Int} (hw : 0 ≤ w ∧ w ≤ 8) (h6 : hh ≤ 6) (l0 : 0 ≤ l) (lr : l ≤ r) (rw' : r < w) (f0 : 0 ≤ f) (fg : f ≤ g) (gh : g < hh) (hv : v = r - l + 1) (hu : u = g - f + 1) (s0 : M (67 + 1) 0 = w) (c0 : ∀ p, 0 ≤ p → p < hh * w → M (67 + 5) p = C0 p) : ∃ M', (∀ b, b ≠ 67 + 1 → b ≠ 67 + 5 → M' b = M b) ∧ M' (67 + 1) 0 = v ∧ M' (67 + 1) 1 = u ∧ (∀ k, k ≠ 0 → k ≠ 1 → M' (67 + 1) k = M (67 + 1) k) ∧ (∀ p, 0 ≤ p → p < u * v → M' (67 + 5) p = C0 (wnS w l f v p)) ∧ ∀ Mc, evc X 61 [vR (some 67)] SH0 M' = some (none, SH0, Mc) → evc X 194 [vR (some 67), vI l, vI r, vI f, vI g] SH0 M = some (none, SH0, Mc) := by
  have ct := w0_ch67
  obtain ⟨tk0, tr0, tr1, tr2, tr3, tr4, tr5, tr6, tr7, tk1, tk2, tk3, tk4, tk5, tk6, tk7, tk8, tl1, tl2, tl3, tl4, tl5, tl6, tl7, tl8⟩ := ct
  have hv' : r - l + 1 = v := hv.symm
  have hu' : g - f + 1 = u := hu.symm
  generalize hMa : up (up M (67 + 1) 0 v) (67 + 1) 1 u = Ma
  have m5 : Ma (67 + 5) = M (67 + 5) := by rw [← hMa, up_ne (by omega), up_ne (by omega)]
  obtain ⟨ls', M2, ⟨z8, hls, fr, i1, i2⟩, he⟩ := ev_for (X := X) (y := 194) (Sh := SH0) (fun j ls M' => ∃ z8, ls = [some (vR (some 67)), some (vI l), some (vI r), some (vI f), some (vI g), some (vI w), some (vI ((j : Int) * v)), some (vI (f + (j : Int))), z8] ∧ (∀ b, b ≠ 67 + 5 → M' b = Ma b) ∧ (∀ p, 0 ≤ p → p < (j : Int) * v → M' (67 + 5) p = C0 (wnS w l f v p)) ∧ (∀ p, (j : Int) * v ≤ p → p < hh * w → M' (67 + 5) p = C0 p)) J_194_37 u.toNat (fun j hj ls M' hI => by
    obtain ⟨z8, hls, fr, i1, i2⟩ := hI
    subst hls
    have j1 : f + (j : Int) ≤ g := by omega
    obtain ⟨ls2, M3, ⟨hls, fr3, k1, k2⟩, he3⟩ := ev_for (X := X) (y := 194) (Sh := SH0) (fun x ls M' => ls = [some (vR (some 67)), some (vI l), some (vI r), some (vI f), some (vI g), some (vI w), some (vI ((j : Int) * v + (x : Int))), some (vI (f + (j : Int))), some (vI (l + (x : Int)))] ∧ (∀ b, b ≠ 67 + 5 → M' b = Ma b) ∧ (∀ p, 0 ≤ p → p < (j : Int) * v + x → M' (67 + 5) p = C0 (wnS w l f v p)) ∧ (∀ p, (j : Int) * v + x ≤ p → p < hh * w → M' (67 + 5) p = C0 p)) J_194_47 v.toNat (fun x hx ls M' hI => by
      obtain ⟨hls, fr, i1, i2⟩ := hI
      subst hls
      have ix := wn_idx (w := w) (hh := hh) (l := l) (r := r) (f := f) (g := g) (j := (j : Int)) (x := (x : Int)) (v := v) hw h6 l0 lr rw' f0 gh hv (by omega) j1 (by omega) (by omega)
      have rd := i2 ((f + (j : Int)) * w + (l + (x : Int))) ix.1.2 ix.2.1.2
      have wa := wnS_at (w := w) (l := l) (f := f) (v := v) (j := (j : Int)) (x := (x : Int)) (by omega) (by omega)
      refine ⟨_, up M' (67 + 5) ((j : Int) * v + x) (C0 ((f + (j : Int)) * w + (l + (x : Int)))), ⟨rfl, fun b hb => by rw [up_ne hb]; exact fr b hb, fun p p0 p1 => ?_, fun p p0 p1 => ?_⟩, ?_⟩
      · by_cases z : p = (j : Int) * v + x
        · rw [z, up_eq, wa]
        · rw [up_ne2 z]; exact i1 p p0 (by omega)
      · rw [up_ne2 (by omega)]; exact i2 p (by omega) p1
      · have e1 : (j : Int) * v + ((x + 1 : Nat) : Int) = (j : Int) * v + x + 1 := by omega
        have e2 : l + ((x + 1 : Nat) : Int) = l + (x : Int) + 1 := by omega
        rw [e1, e2]
        have q : ¬ r < l + (x : Int) := by omega
        generalize C0 ((f + (j : Int)) * w + (l + (x : Int))) = cv at rd ⊢
        generalize (j : Int) * v = jv at ix ⊢
        simp (disch := first | assumption | decide | omega | (simp only [List.length_cons, List.length_nil] <;> omega)) only [lgt_0, lgt_s, lset_0, lset_s, lst1_0, lst1_s, lst2_0, lst2_s, ev_iconst, ev_lconst, ev_ldc, ev_null, ev_iload, ev_lload, ev_aload, ev_istore, ev_lstore, ev_astore, ev_iinc, ev_iadd, ev_isub, ev_imul, ev_iand, ev_ior, ev_ishl, ev_ishr, ev_idiv, ev_irem, ev_ineg, ev_ladd, ev_lsub, ev_lmul, ev_land, ev_lor, ev_ldiv, ev_lrem, ev_lshl, ev_i2l, ev_l2i, ev_i2b, ev_i2s, ev_lcmp, ev_dupI, ev_dupR, ev_dup2, ev_popI, ev_popR, ev_alen, ev_xlen, ev_xald, ev_iald, ev_lald, ev_bald, ev_zald, ev_aald, ev_iast, ev_last, ev_bast, ev_zast, ev_aast, ev_gfI, ev_gfL, ev_gfR, ev_pfI, ev_pfZ, ev_pfL, ev_pfR, ev_new, ev_newa, ev_newq, ev_copy, ev_slen, ev_schr, ev_obj, ev_mmin, ev_mabs, ev_mmax, ev_goto, ev_jsr, ev_icmp_eq, ev_if_eq, ev_icmp_ne, ev_if_ne, ev_icmp_lt, ev_if_lt, ev_icmp_ge, ev_if_ge, ev_icmp_gt, ev_if_gt, ev_icmp_le, ev_if_le, ev_ifnull0, ev_ifnull1, ev_ifnn0, ev_ifnn1, ev_tsw, ev_lsw, ev_iret, ev_zret, ev_lret, ev_aret, ev_ret, ev_call0, ev_call1, ev_call2, ev_call3, ev_call4, ev_call5, ev_call6, Option.toList_some, Option.toList_none, List.cons_append, List.nil_append, List.length_cons, List.length_nil, Nat.reduceMod, Nat.reduceDiv, Nat.reduceLeDiff, nc, ↓reduceIte, Nat.zero_le, reduceCtorEq, w32_id, Int.reduceEq, Int.reduceNe, Int.reduceLT, Int.reduceLE, Int.reduceGT, Int.reduceGE, Int.reduceAdd, Int.reduceSub, Int.reduceMul, Int.reduceNeg, ne_eq, not_true_eq_false, not_false_eq_true, eq_self, ↓if_pos, ↓if_neg, J_194_0, k_194_0, J_194_82, k_194_82, J_194_88, k_194_88, k_194_47, tr0, tr1, tr2, tr3, tr4, tr5, tr6, tr7, q, rd]) [some (vR (some 67)), some (vI l), some (vI r), some (vI f), some (vI g), some (vI w), some (vI ((j : Int) * v)), some (vI (f + (j : Int))), some (vI l)] M' ⟨by simp only [Int.natCast_zero, Int.add_zero], fr, fun p p0 p1 => i1 p p0 (by omega), fun p p0 p1 => i2 p (by omega) p1⟩
    subst hls
    have en : ((v.toNat : Nat) : Int) = v := by omega
    rw [en] at k1 k2 he3
    have ej : ((j + 1 : Nat) : Int) * v = (j : Int) * v + v := by rw [nc_s, Int.add_mul, Int.one_mul]
    have ej2 : f + ((j + 1 : Nat) : Int) = f + (j : Int) + 1 := by omega
    refine ⟨_, M3, ⟨some (vI (l + v)), rfl, fr3, fun p p0 p1 => k1 p p0 (by rw [← ej]; exact p1), fun p p0 p1 => k2 p (by rw [← ej]; exact p0) p1⟩, ?_⟩
    rw [ej, ej2]
    have q1 : ¬ g < f + (j : Int) := by omega
    have q2 : r < l + v := by omega
    simp (disch := first | assumption | decide | omega | (simp only [List.length_cons, List.length_nil] <;> omega)) only [lgt_0, lgt_s, lset_0, lset_s, lst1_0, lst1_s, lst2_0, lst2_s, ev_iconst, ev_lconst, ev_ldc, ev_null, ev_iload, ev_lload, ev_aload, ev_istore, ev_lstore, ev_astore, ev_iinc, ev_iadd, ev_isub, ev_imul, ev_iand, ev_ior, ev_ishl, ev_ishr, ev_idiv, ev_irem, ev_ineg, ev_ladd, ev_lsub, ev_lmul, ev_land, ev_lor, ev_ldiv, ev_lrem, ev_lshl, ev_i2l, ev_l2i, ev_i2b, ev_i2s, ev_lcmp, ev_dupI, ev_dupR, ev_dup2, ev_popI, ev_popR, ev_alen, ev_xlen, ev_xald, ev_iald, ev_lald, ev_bald, ev_zald, ev_aald, ev_iast, ev_last, ev_bast, ev_zast, ev_aast, ev_gfI, ev_gfL, ev_gfR, ev_pfI, ev_pfZ, ev_pfL, ev_pfR, ev_new, ev_newa, ev_newq, ev_copy, ev_slen, ev_schr, ev_obj, ev_mmin, ev_mabs, ev_mmax, ev_goto, ev_jsr, ev_icmp_eq, ev_if_eq, ev_icmp_ne, ev_if_ne, ev_icmp_lt, ev_if_lt, ev_icmp_ge, ev_if_ge, ev_icmp_gt, ev_if_gt, ev_icmp_le, ev_if_le, ev_ifnull0, ev_ifnull1, ev_ifnn0, ev_ifnn1, ev_tsw, ev_lsw, ev_iret, ev_zret, ev_lret, ev_aret, ev_ret, ev_call0, ev_call1, ev_call2, ev_call3, ev_call4, ev_call5, ev_call6, Option.toList_some, Option.toList_none, List.cons_append, List.nil_append, List.length_cons, List.length_nil, Nat.reduceMod, Nat.reduceDiv, Nat.reduceLeDiff, nc, ↓reduceIte, Nat.zero_le, reduceCtorEq, w32_id, Int.reduceEq, Int.reduceNe, Int.reduceLT, Int.reduceLE, Int.reduceGT, Int.reduceGE, Int.reduceAdd, Int.reduceSub, Int.reduceMul, Int.reduceNeg, ne_eq, not_true_eq_false, not_false_eq_true, eq_self, ↓if_pos, ↓if_neg, J_194_0, k_194_0, J_194_82, k_194_82, J_194_88, k_194_88, k_194_37, q1]
    rw [he3]
    simp (disch := first | assumption | decide | omega | (simp only [List.length_cons, List.length_nil] <;> omega)) only [lgt_0, lgt_s, lset_0, lset_s, lst1_0, lst1_s, lst2_0, lst2_s, ev_iconst, ev_lconst, ev_ldc, ev_null, ev_iload, ev_lload, ev_aload, ev_istore, ev_lstore, ev_astore, ev_iinc, ev_iadd, ev_isub, ev_imul, ev_iand, ev_ior, ev_ishl, ev_ishr, ev_idiv, ev_irem, ev_ineg, ev_ladd, ev_lsub, ev_lmul, ev_land, ev_lor, ev_ldiv, ev_lrem, ev_lshl, ev_i2l, ev_l2i, ev_i2b, ev_i2s, ev_lcmp, ev_dupI, ev_dupR, ev_dup2, ev_popI, ev_popR, ev_alen, ev_xlen, ev_xald, ev_iald, ev_lald, ev_bald, ev_zald, ev_aald, ev_iast, ev_last, ev_bast, ev_zast, ev_aast, ev_gfI, ev_gfL, ev_gfR, ev_pfI, ev_pfZ, ev_pfL, ev_pfR, ev_new, ev_newa, ev_newq, ev_copy, ev_slen, ev_schr, ev_obj, ev_mmin, ev_mabs, ev_mmax, ev_goto, ev_jsr, ev_icmp_eq, ev_if_eq, ev_icmp_ne, ev_if_ne, ev_icmp_lt, ev_if_lt, ev_icmp_ge, ev_if_ge, ev_icmp_gt, ev_if_gt, ev_icmp_le, ev_if_le, ev_ifnull0, ev_ifnull1, ev_ifnn0, ev_ifnn1, ev_tsw, ev_lsw, ev_iret, ev_zret, ev_lret, ev_aret, ev_ret, ev_call0, ev_call1, ev_call2, ev_call3, ev_call4, ev_call5, ev_call6, Option.toList_some, Option.toList_none, List.cons_append, List.nil_append, List.length_cons, List.length_nil, Nat.reduceMod, Nat.reduceDiv, Nat.reduceLeDiff, nc, ↓reduceIte, Nat.zero_le, reduceCtorEq, w32_id, Int.reduceEq, Int.reduceNe, Int.reduceLT, Int.reduceLE, Int.reduceGT, Int.reduceGE, Int.reduceAdd, Int.reduceSub, Int.reduceMul, Int.reduceNeg, ne_eq, not_true_eq_false, not_false_eq_true, eq_self, ↓if_pos, ↓if_neg, J_194_0, k_194_0, J_194_82, k_194_82, J_194_88, k_194_88, k_194_47, q2]) [some (vR (some 67)), some (vI l), some (vI r), some (vI f), some (vI g), some (vI w), some (vI 0), some (vI f), none] Ma ⟨none, by simp only [Int.natCast_zero, Int.add_zero, Int.zero_mul], fun _ _ => rfl, fun p p0 p1 => by
      rw [Int.natCast_zero, Int.zero_mul] at p1
      omega, fun p p0 p1 => by
      rw [Int.natCast_zero, Int.zero_mul] at p0
      rw [m5]
      exact c0 p p0 p1⟩
  subst hls
  have en : ((u.toNat : Nat) : Int) = u := by omega
  rw [en] at i1 he
  refine ⟨M2, fun b b1 b5 => by rw [fr b b5, ← hMa, up_ne b1, up_ne b1], ?_, ?_, fun k k0 k1 => ?_, i1, fun Mc ec => ?_⟩
  · rw [fr _ (by omega), ← hMa, up_ne2 (by omega), up_eq]
  · rw [fr _ (by omega), ← hMa, up_eq]
  · rw [fr _ (by omega), ← hMa, up_ne2 k1, up_ne2 k0]
  · have q1 : g < f + u := by omega
    rw [E_194 tk0]
    simp (disch := first | assumption | decide | omega | (simp only [List.length_cons, List.length_nil] <;> omega)) only [lgt_0, lgt_s, lset_0, lset_s, lst1_0, lst1_s, lst2_0, lst2_s, ev_iconst, ev_lconst, ev_ldc, ev_null, ev_iload, ev_lload, ev_aload, ev_istore, ev_lstore, ev_astore, ev_iinc, ev_iadd, ev_isub, ev_imul, ev_iand, ev_ior, ev_ishl, ev_ishr, ev_idiv, ev_irem, ev_ineg, ev_ladd, ev_lsub, ev_lmul, ev_land, ev_lor, ev_ldiv, ev_lrem, ev_lshl, ev_i2l, ev_l2i, ev_i2b, ev_i2s, ev_lcmp, ev_dupI, ev_dupR, ev_dup2, ev_popI, ev_popR, ev_alen, ev_xlen, ev_xald, ev_iald, ev_lald, ev_bald, ev_zald, ev_aald, ev_iast, ev_last, ev_bast, ev_zast, ev_aast, ev_gfI, ev_gfL, ev_gfR, ev_pfI, ev_pfZ, ev_pfL, ev_pfR, ev_new, ev_newa, ev_newq, ev_copy, ev_slen, ev_schr, ev_obj, ev_mmin, ev_mabs, ev_mmax, ev_goto, ev_jsr, ev_icmp_eq, ev_if_eq, ev_icmp_ne, ev_if_ne, ev_icmp_lt, ev_if_lt, ev_icmp_ge, ev_if_ge, ev_icmp_gt, ev_if_gt, ev_icmp_le, ev_if_le, ev_ifnull0, ev_ifnull1, ev_ifnn0, ev_ifnn1, ev_tsw, ev_lsw, ev_iret, ev_zret, ev_lret, ev_aret, ev_ret, ev_call0, ev_call1, ev_call2, ev_call3, ev_call4, ev_call5, ev_call6, Option.toList_some, Option.toList_none, List.cons_append, List.nil_append, List.length_cons, List.length_nil, Nat.reduceMod, Nat.reduceDiv, Nat.reduceLeDiff, nc, ↓reduceIte, Nat.zero_le, reduceCtorEq, w32_id, Int.reduceEq, Int.reduceNe, Int.reduceLT, Int.reduceLE, Int.reduceGT, Int.reduceGE, Int.reduceAdd, Int.reduceSub, Int.reduceMul, Int.reduceNeg, ne_eq, not_true_eq_false, not_false_eq_true, eq_self, ↓if_pos, ↓if_neg, J_194_0, k_194_0, J_194_82, k_194_82, J_194_88, k_194_88, tr0, tr1, tr2, tr3, tr4, tr5, tr6, tr7, s0, hv', hu', hMa]
    rw [he]
    simp (disch := first | assumption | decide | omega | (simp only [List.length_cons, List.length_nil] <;> omega)) only [lgt_0, lgt_s, lset_0, lset_s, lst1_0, lst1_s, lst2_0, lst2_s, ev_iconst, ev_lconst, ev_ldc, ev_null, ev_iload, ev_lload, ev_aload, ev_istore, ev_lstore, ev_astore, ev_iinc, ev_iadd, ev_isub, ev_imul, ev_iand, ev_ior, ev_ishl, ev_ishr, ev_idiv, ev_irem, ev_ineg, ev_ladd, ev_lsub, ev_lmul, ev_land, ev_lor, ev_ldiv, ev_lrem, ev_lshl, ev_i2l, ev_l2i, ev_i2b, ev_i2s, ev_lcmp, ev_dupI, ev_dupR, ev_dup2, ev_popI, ev_popR, ev_alen, ev_xlen, ev_xald, ev_iald, ev_lald, ev_bald, ev_zald, ev_aald, ev_iast, ev_last, ev_bast, ev_zast, ev_aast, ev_gfI, ev_gfL, ev_gfR, ev_pfI, ev_pfZ, ev_pfL, ev_pfR, ev_new, ev_newa, ev_newq, ev_copy, ev_slen, ev_schr, ev_obj, ev_mmin, ev_mabs, ev_mmax, ev_goto, ev_jsr, ev_icmp_eq, ev_if_eq, ev_icmp_ne, ev_if_ne, ev_icmp_lt, ev_if_lt, ev_icmp_ge, ev_if_ge, ev_icmp_gt, ev_if_gt, ev_icmp_le, ev_if_le, ev_ifnull0, ev_ifnull1, ev_ifnn0, ev_ifnn1, ev_tsw, ev_lsw, ev_iret, ev_zret, ev_lret, ev_aret, ev_ret, ev_call0, ev_call1, ev_call2, ev_call3, ev_call4, ev_call5, ev_call6, Option.toList_some, Option.toList_none, List.cons_append, List.nil_append, List.length_cons, List.length_nil, Nat.reduceMod, Nat.reduceDiv, Nat.reduceLeDiff, nc, ↓reduceIte, Nat.zero_le, reduceCtorEq, w32_id, Int.reduceEq, Int.reduceNe, Int.reduceLT, Int.reduceLE, Int.reduceGT, Int.reduceGE, Int.reduceAdd, Int.reduceSub, Int.reduceMul, Int.reduceNeg, ne_eq, not_true_eq_false, not_false_eq_true, eq_self, ↓if_pos, ↓if_neg, J_194_0, k_194_0, J_194_82, k_194_82, J_194_88, k_194_88, k_194_37, q1, ec]
theorem m_winLoop {w hh l r f g v u : Int} {C0 : Int → Int} (hw : 0 ≤ w ∧ w ≤ 8) (h6 : hh ≤ 6) (l0 : 0 ≤ l) (lr : l ≤ r) (rw' : r < w) (f0 : 0 ≤ f) (fg : f ≤ g) (gh : g < hh) (hv : v = r - l + 1) (hu : u = g - f + 1) (c0 : ∀ p, 0 ≤ p → p < hh * w → M 163 p = C0 p) : ∃ M' z9, (∀ b, b ≠ 140 + 1 → M' b = M b) ∧ (∀ k, (k < 28 ∨ 76 ≤ k) → M' (140 + 1) k = M (140 + 1) k) ∧ (∀ p, 0 ≤ p → p < u * v → M' (140 + 1) (28 + p) = C0 (wnS w l f v p)) ∧ ev X 348 (jmp 348 74) [some (vR (some 140)), some (vI l), some (vI r), some (vI f), some (vI g), some (vI w), some (vI hh), some (vI 0), some (vI f), none] [] SH0 M = ev X 348 k_348_74 [some (vR (some 140)), some (vI l), some (vI r), some (vI f), some (vI g), some (vI w), some (vI hh), some (vI (u * v)), some (vI (f + u)), z9] [] SH0 M' := by
  have mk0 := w0_k140
  obtain ⟨r_at, k_at, l_at⟩ := md_at w0_md140; obtain ⟨r_keptPlaces, k_keptPlaces, l_keptPlaces⟩ := md_keptPlaces w0_md140
  have uv : u * v ≤ 48 ∧ 0 ≤ u * v := by
    have a : u * v ≤ 6 * 8 := Int.mul_le_mul (by omega) (by omega) (by omega) (by omega)
    have b : 0 ≤ u * v := Int.mul_nonneg (by omega) (by omega)
    omega
  obtain ⟨ls', M2, ⟨z9, hls, fr, i0, i1⟩, he⟩ := ev_for (X := X) (y := 348) (Sh := SH0) (fun j ls M' => ∃ z9, ls = [some (vR (some 140)), some (vI l), some (vI r), some (vI f), some (vI g), some (vI w), some (vI hh), some (vI ((j : Int) * v)), some (vI (f + (j : Int))), z9] ∧ (∀ b, b ≠ 140 + 1 → M' b = M b) ∧ (∀ k, (k < 28 ∨ 76 ≤ k) → M' (140 + 1) k = M (140 + 1) k) ∧ (∀ p, 0 ≤ p → p < (j : Int) * v → M' (140 + 1) (28 + p) = C0 (wnS w l f v p))) J_348_74 u.toNat (fun j hj ls M' hI => by
    obtain ⟨z9, hls, fr, i0, i1⟩ := hI
    subst hls
    have j1 : f + (j : Int) ≤ g := by omega
    obtain ⟨ls2, M3, ⟨hls, fr3, k0, k1⟩, he3⟩ := ev_for (X := X) (y := 348) (Sh := SH0) (fun x ls M' => ls = [some (vR (some 140)), some (vI l), some (vI r), some (vI f), some (vI g), some (vI w), some (vI hh), some (vI ((j : Int) * v + (x : Int))), some (vI (f + (j : Int))), some (vI (l + (x : Int)))] ∧ (∀ b, b ≠ 140 + 1 → M' b = M b) ∧ (∀ k, (k < 28 ∨ 76 ≤ k) → M' (140 + 1) k = M (140 + 1) k) ∧ (∀ p, 0 ≤ p → p < (j : Int) * v + x → M' (140 + 1) (28 + p) = C0 (wnS w l f v p))) J_348_84 v.toNat (fun x hx ls M' hI => by
      obtain ⟨hls, fr, i0, i1⟩ := hI
      subst hls
      have ix := wn_idx (w := w) (hh := hh) (l := l) (r := r) (f := f) (g := g) (j := (j : Int)) (x := (x : Int)) (v := v) hw h6 l0 lr rw' f0 gh hv (by omega) j1 (by omega) (by omega)
      have rd : M' 163 (w * (f + (j : Int)) + (l + (x : Int))) = C0 ((f + (j : Int)) * w + (l + (x : Int))) := by
        rw [fr 163 (by omega), Int.mul_comm w]
        exact c0 _ (by omega) ix.2.1.2
      have cm : w * (f + (j : Int)) = (f + (j : Int)) * w := Int.mul_comm _ _
      rw [cm] at rd
      have wa := wnS_at (w := w) (l := l) (f := f) (v := v) (j := (j : Int)) (x := (x : Int)) (by omega) (by omega)
      refine ⟨_, up M' (140 + 1) (28 + ((j : Int) * v + x)) (C0 ((f + (j : Int)) * w + (l + (x : Int)))), ⟨rfl, fun b hb => by rw [up_ne hb]; exact fr b hb, fun k hk => by rw [up_ne2 (by omega)]; exact i0 k hk, fun p p0 p1 => ?_⟩, ?_⟩
      · by_cases z : p = (j : Int) * v + x
        · rw [z, up_eq, wa]
        · rw [up_ne2 (by omega)]; exact i1 p p0 (by omega)
      · have e1 : (j : Int) * v + ((x + 1 : Nat) : Int) = (j : Int) * v + x + 1 := by omega
        have e2 : l + ((x + 1 : Nat) : Int) = l + (x : Int) + 1 := by omega
        rw [e1, e2]
        have q : ¬ r < l + (x : Int) := by omega
        generalize C0 ((f + (j : Int)) * w + (l + (x : Int))) = cv at rd ⊢
        generalize (j : Int) * v = jv at ix ⊢
        simp (disch := first | assumption | decide | omega | (simp only [List.length_cons, List.length_nil] <;> omega)) only [lgt_0, lgt_s, lset_0, lset_s, lst1_0, lst1_s, lst2_0, lst2_s, ev_iconst, ev_lconst, ev_ldc, ev_null, ev_iload, ev_lload, ev_aload, ev_istore, ev_lstore, ev_astore, ev_iinc, ev_iadd, ev_isub, ev_imul, ev_iand, ev_ior, ev_ishl, ev_ishr, ev_idiv, ev_irem, ev_ineg, ev_ladd, ev_lsub, ev_lmul, ev_land, ev_lor, ev_ldiv, ev_lrem, ev_lshl, ev_i2l, ev_l2i, ev_i2b, ev_i2s, ev_lcmp, ev_dupI, ev_dupR, ev_dup2, ev_popI, ev_popR, ev_alen, ev_xlen, ev_xald, ev_iald, ev_lald, ev_bald, ev_zald, ev_aald, ev_iast, ev_last, ev_bast, ev_zast, ev_aast, ev_gfI, ev_gfL, ev_gfR, ev_pfI, ev_pfZ, ev_pfL, ev_pfR, ev_new, ev_newa, ev_newq, ev_copy, ev_slen, ev_schr, ev_obj, ev_mmin, ev_mabs, ev_mmax, ev_goto, ev_jsr, ev_icmp_eq, ev_if_eq, ev_icmp_ne, ev_if_ne, ev_icmp_lt, ev_if_lt, ev_icmp_ge, ev_if_ge, ev_icmp_gt, ev_if_gt, ev_icmp_le, ev_if_le, ev_ifnull0, ev_ifnull1, ev_ifnn0, ev_ifnn1, ev_tsw, ev_lsw, ev_iret, ev_zret, ev_lret, ev_aret, ev_ret, ev_call0, ev_call1, ev_call2, ev_call3, ev_call4, ev_call5, ev_call6, Option.toList_some, Option.toList_none, List.cons_append, List.nil_append, List.length_cons, List.length_nil, Nat.reduceMod, Nat.reduceDiv, Nat.reduceLeDiff, nc, ↓reduceIte, Nat.zero_le, reduceCtorEq, w32_id, Int.reduceEq, Int.reduceNe, Int.reduceLT, Int.reduceLE, Int.reduceGT, Int.reduceGE, Int.reduceAdd, Int.reduceSub, Int.reduceMul, Int.reduceNeg, ne_eq, not_true_eq_false, not_false_eq_true, eq_self, ↓if_pos, ↓if_neg, J_348_0, k_348_0, J_348_42, k_348_42, J_348_48, k_348_48, J_348_122, k_348_122, J_348_128, k_348_128, k_348_84, r_at, r_keptPlaces, q, cm, rd]) [some (vR (some 140)), some (vI l), some (vI r), some (vI f), some (vI g), some (vI w), some (vI hh), some (vI ((j : Int) * v)), some (vI (f + (j : Int))), some (vI l)] M' ⟨by simp only [Int.natCast_zero, Int.add_zero], fr, i0, fun p p0 p1 => i1 p p0 (by omega)⟩
    subst hls
    have en : ((v.toNat : Nat) : Int) = v := by omega
    rw [en] at k1 he3
    have ej : ((j + 1 : Nat) : Int) * v = (j : Int) * v + v := by rw [nc_s, Int.add_mul, Int.one_mul]
    have ej2 : f + ((j + 1 : Nat) : Int) = f + (j : Int) + 1 := by omega
    refine ⟨_, M3, ⟨some (vI (l + v)), rfl, fr3, k0, fun p p0 p1 => k1 p p0 (by rw [← ej]; exact p1)⟩, ?_⟩
    rw [ej, ej2]
    have q1 : ¬ g < f + (j : Int) := by omega
    have q2 : r < l + v := by omega
    simp (disch := first | assumption | decide | omega | (simp only [List.length_cons, List.length_nil] <;> omega)) only [lgt_0, lgt_s, lset_0, lset_s, lst1_0, lst1_s, lst2_0, lst2_s, ev_iconst, ev_lconst, ev_ldc, ev_null, ev_iload, ev_lload, ev_aload, ev_istore, ev_lstore, ev_astore, ev_iinc, ev_iadd, ev_isub, ev_imul, ev_iand, ev_ior, ev_ishl, ev_ishr, ev_idiv, ev_irem, ev_ineg, ev_ladd, ev_lsub, ev_lmul, ev_land, ev_lor, ev_ldiv, ev_lrem, ev_lshl, ev_i2l, ev_l2i, ev_i2b, ev_i2s, ev_lcmp, ev_dupI, ev_dupR, ev_dup2, ev_popI, ev_popR, ev_alen, ev_xlen, ev_xald, ev_iald, ev_lald, ev_bald, ev_zald, ev_aald, ev_iast, ev_last, ev_bast, ev_zast, ev_aast, ev_gfI, ev_gfL, ev_gfR, ev_pfI, ev_pfZ, ev_pfL, ev_pfR, ev_new, ev_newa, ev_newq, ev_copy, ev_slen, ev_schr, ev_obj, ev_mmin, ev_mabs, ev_mmax, ev_goto, ev_jsr, ev_icmp_eq, ev_if_eq, ev_icmp_ne, ev_if_ne, ev_icmp_lt, ev_if_lt, ev_icmp_ge, ev_if_ge, ev_icmp_gt, ev_if_gt, ev_icmp_le, ev_if_le, ev_ifnull0, ev_ifnull1, ev_ifnn0, ev_ifnn1, ev_tsw, ev_lsw, ev_iret, ev_zret, ev_lret, ev_aret, ev_ret, ev_call0, ev_call1, ev_call2, ev_call3, ev_call4, ev_call5, ev_call6, Option.toList_some, Option.toList_none, List.cons_append, List.nil_append, List.length_cons, List.length_nil, Nat.reduceMod, Nat.reduceDiv, Nat.reduceLeDiff, nc, ↓reduceIte, Nat.zero_le, reduceCtorEq, w32_id, Int.reduceEq, Int.reduceNe, Int.reduceLT, Int.reduceLE, Int.reduceGT, Int.reduceGE, Int.reduceAdd, Int.reduceSub, Int.reduceMul, Int.reduceNeg, ne_eq, not_true_eq_false, not_false_eq_true, eq_self, ↓if_pos, ↓if_neg, J_348_0, k_348_0, J_348_42, k_348_42, J_348_48, k_348_48, J_348_122, k_348_122, J_348_128, k_348_128, k_348_74, q1]
    rw [he3]
    simp (disch := first | assumption | decide | omega | (simp only [List.length_cons, List.length_nil] <;> omega)) only [lgt_0, lgt_s, lset_0, lset_s, lst1_0, lst1_s, lst2_0, lst2_s, ev_iconst, ev_lconst, ev_ldc, ev_null, ev_iload, ev_lload, ev_aload, ev_istore, ev_lstore, ev_astore, ev_iinc, ev_iadd, ev_isub, ev_imul, ev_iand, ev_ior, ev_ishl, ev_ishr, ev_idiv, ev_irem, ev_ineg, ev_ladd, ev_lsub, ev_lmul, ev_land, ev_lor, ev_ldiv, ev_lrem, ev_lshl, ev_i2l, ev_l2i, ev_i2b, ev_i2s, ev_lcmp, ev_dupI, ev_dupR, ev_dup2, ev_popI, ev_popR, ev_alen, ev_xlen, ev_xald, ev_iald, ev_lald, ev_bald, ev_zald, ev_aald, ev_iast, ev_last, ev_bast, ev_zast, ev_aast, ev_gfI, ev_gfL, ev_gfR, ev_pfI, ev_pfZ, ev_pfL, ev_pfR, ev_new, ev_newa, ev_newq, ev_copy, ev_slen, ev_schr, ev_obj, ev_mmin, ev_mabs, ev_mmax, ev_goto, ev_jsr, ev_icmp_eq, ev_if_eq, ev_icmp_ne, ev_if_ne, ev_icmp_lt, ev_if_lt, ev_icmp_ge, ev_if_ge, ev_icmp_gt, ev_if_gt, ev_icmp_le, ev_if_le, ev_ifnull0, ev_ifnull1, ev_ifnn0, ev_ifnn1, ev_tsw, ev_lsw, ev_iret, ev_zret, ev_lret, ev_aret, ev_ret, ev_call0, ev_call1, ev_call2, ev_call3, ev_call4, ev_call5, ev_call6, Option.toList_some, Option.toList_none, List.cons_append, List.nil_append, List.length_cons, List.length_nil, Nat.reduceMod, Nat.reduceDiv, Nat.reduceLeDiff, nc, ↓reduceIte, Nat.zero_le, reduceCtorEq, w32_id, Int.reduceEq, Int.reduceNe, Int.reduceLT, Int.reduceLE, Int.reduceGT, Int.reduceGE, Int.reduceAdd, Int.reduceSub, Int.reduceMul, Int.reduceNeg, ne_eq, not_true_eq_false, not_false_eq_true, eq_self, ↓if_pos, ↓if_neg, J_348_0, k_348_0, J_348_42, k_348_42, J_348_48, k_348_48, J_348_122, k_348_122, J_348_128, k_348_128, k_348_84, q2]) [some (vR (some 140)), some (vI l), some (vI r), some (vI f), some (vI g), some (vI w), some (vI hh), some (vI 0), some (vI f), none] M ⟨none, by simp only [Int.natCast_zero, Int.add_zero, Int.zero_mul], fun _ _ => rfl, fun _ _ => rfl, fun p p0 p1 => by
      rw [Int.natCast_zero, Int.zero_mul] at p1
      omega⟩
  subst hls
  have en : ((u.toNat : Nat) : Int) = u := by omega
  rw [en] at i1 he
  exact ⟨M2, z9, fr, i0, i1, he⟩
end WIN
