/-! THE MODEL: what a call gives; a row alone. -/
section MAL
variable {X : Int → Int} {Sh : List SE} {M : Mem} {m : Nat}
theorem m_gives (h : MD Sh m) {v : Int} : evc X 262 [vR (some m), vI v] Sh M = some (some (vI v), Sh, up M m 2 0) := by
  have hk0 := h.1
  rw [E_262 hk0]
  simp (disch := first | assumption | decide | omega | (simp only [List.length_cons, List.length_nil] <;> omega)) only [lgt_0, lgt_s, lset_0, lset_s, lst1_0, lst1_s, lst2_0, lst2_s, ev_iconst, ev_lconst, ev_ldc, ev_null, ev_iload, ev_lload, ev_aload, ev_istore, ev_lstore, ev_astore, ev_iinc, ev_iadd, ev_isub, ev_imul, ev_iand, ev_ior, ev_ishl, ev_ishr, ev_idiv, ev_irem, ev_ineg, ev_ladd, ev_lsub, ev_lmul, ev_land, ev_lor, ev_ldiv, ev_lrem, ev_lshl, ev_i2l, ev_l2i, ev_i2b, ev_i2s, ev_lcmp, ev_dupI, ev_dupR, ev_dup2, ev_popI, ev_popR, ev_alen, ev_xlen, ev_xald, ev_iald, ev_lald, ev_bald, ev_zald, ev_aald, ev_iast, ev_last, ev_bast, ev_zast, ev_aast, ev_gfI, ev_gfL, ev_gfR, ev_pfI, ev_pfZ, ev_pfL, ev_pfR, ev_new, ev_newa, ev_newq, ev_copy, ev_slen, ev_schr, ev_obj, ev_mmin, ev_mabs, ev_mmax, ev_goto, ev_jsr, ev_icmp_eq, ev_if_eq, ev_icmp_ne, ev_if_ne, ev_icmp_lt, ev_if_lt, ev_icmp_ge, ev_if_ge, ev_icmp_gt, ev_if_gt, ev_icmp_le, ev_if_le, ev_ifnull0, ev_ifnull1, ev_ifnn0, ev_ifnn1, ev_tsw, ev_lsw, ev_iret, ev_zret, ev_lret, ev_aret, ev_ret, ev_call0, ev_call1, ev_call2, ev_call3, ev_call4, ev_call5, ev_call6, Option.toList_some, Option.toList_none, List.cons_append, List.nil_append, List.length_cons, List.length_nil, Nat.reduceMod, Nat.reduceDiv, Nat.reduceAdd, Nat.reduceLeDiff, nc, ↓reduceIte, Nat.zero_le, reduceCtorEq, w32_id, Int.reduceEq, Int.reduceNe, Int.reduceLT, Int.reduceLE, Int.reduceGT, Int.reduceGE, Int.reduceAdd, Int.reduceSub, Int.reduceMul, Int.reduceNeg, ne_eq, not_true_eq_false, not_false_eq_true, eq_self, J_262_0, k_262_0]
theorem m_refuse (h : MD Sh m) {v : Int} : evc X 246 [vR (some m), vI v] Sh M = some (some (vI (-1)), Sh, up M m 2 v) := by
  have hk0 := h.1
  rw [E_246 hk0]
  simp (disch := first | assumption | decide | omega | (simp only [List.length_cons, List.length_nil] <;> omega)) only [lgt_0, lgt_s, lset_0, lset_s, lst1_0, lst1_s, lst2_0, lst2_s, ev_iconst, ev_lconst, ev_ldc, ev_null, ev_iload, ev_lload, ev_aload, ev_istore, ev_lstore, ev_astore, ev_iinc, ev_iadd, ev_isub, ev_imul, ev_iand, ev_ior, ev_ishl, ev_ishr, ev_idiv, ev_irem, ev_ineg, ev_ladd, ev_lsub, ev_lmul, ev_land, ev_lor, ev_ldiv, ev_lrem, ev_lshl, ev_i2l, ev_l2i, ev_i2b, ev_i2s, ev_lcmp, ev_dupI, ev_dupR, ev_dup2, ev_popI, ev_popR, ev_alen, ev_xlen, ev_xald, ev_iald, ev_lald, ev_bald, ev_zald, ev_aald, ev_iast, ev_last, ev_bast, ev_zast, ev_aast, ev_gfI, ev_gfL, ev_gfR, ev_pfI, ev_pfZ, ev_pfL, ev_pfR, ev_new, ev_newa, ev_newq, ev_copy, ev_slen, ev_schr, ev_obj, ev_mmin, ev_mabs, ev_mmax, ev_goto, ev_jsr, ev_icmp_eq, ev_if_eq, ev_icmp_ne, ev_if_ne, ev_icmp_lt, ev_if_lt, ev_icmp_ge, ev_if_ge, ev_icmp_gt, ev_if_gt, ev_icmp_le, ev_if_le, ev_ifnull0, ev_ifnull1, ev_ifnn0, ev_ifnn1, ev_tsw, ev_lsw, ev_iret, ev_zret, ev_lret, ev_aret, ev_ret, ev_call0, ev_call1, ev_call2, ev_call3, ev_call4, ev_call5, ev_call6, Option.toList_some, Option.toList_none, List.cons_append, List.nil_append, List.length_cons, List.length_nil, Nat.reduceMod, Nat.reduceDiv, Nat.reduceAdd, Nat.reduceLeDiff, nc, ↓reduceIte, Nat.zero_le, reduceCtorEq, w32_id, Int.reduceEq, Int.reduceNe, Int.reduceLT, Int.reduceLE, Int.reduceGT, Int.reduceGE, Int.reduceAdd, Int.reduceSub, Int.reduceMul, Int.reduceNeg, ne_eq, not_true_eq_false, not_false_eq_true, eq_self, J_246_0, k_246_0]
theorem m_is (h : MD Sh m) {v : Int} : evc X 231 [vR (some m), vI v] Sh M = some (some (vI (if v = 0 then 1 else 0)), Sh, up M m 2 v) := by
  have hk0 := h.1
  rw [E_231 hk0]
  by_cases q : v = 0
  · subst q
    simp (disch := first | assumption | decide | omega | (simp only [List.length_cons, List.length_nil] <;> omega)) only [lgt_0, lgt_s, lset_0, lset_s, lst1_0, lst1_s, lst2_0, lst2_s, ev_iconst, ev_lconst, ev_ldc, ev_null, ev_iload, ev_lload, ev_aload, ev_istore, ev_lstore, ev_astore, ev_iinc, ev_iadd, ev_isub, ev_imul, ev_iand, ev_ior, ev_ishl, ev_ishr, ev_idiv, ev_irem, ev_ineg, ev_ladd, ev_lsub, ev_lmul, ev_land, ev_lor, ev_ldiv, ev_lrem, ev_lshl, ev_i2l, ev_l2i, ev_i2b, ev_i2s, ev_lcmp, ev_dupI, ev_dupR, ev_dup2, ev_popI, ev_popR, ev_alen, ev_xlen, ev_xald, ev_iald, ev_lald, ev_bald, ev_zald, ev_aald, ev_iast, ev_last, ev_bast, ev_zast, ev_aast, ev_gfI, ev_gfL, ev_gfR, ev_pfI, ev_pfZ, ev_pfL, ev_pfR, ev_new, ev_newa, ev_newq, ev_copy, ev_slen, ev_schr, ev_obj, ev_mmin, ev_mabs, ev_mmax, ev_goto, ev_jsr, ev_icmp_eq, ev_if_eq, ev_icmp_ne, ev_if_ne, ev_icmp_lt, ev_if_lt, ev_icmp_ge, ev_if_ge, ev_icmp_gt, ev_if_gt, ev_icmp_le, ev_if_le, ev_ifnull0, ev_ifnull1, ev_ifnn0, ev_ifnn1, ev_tsw, ev_lsw, ev_iret, ev_zret, ev_lret, ev_aret, ev_ret, ev_call0, ev_call1, ev_call2, ev_call3, ev_call4, ev_call5, ev_call6, Option.toList_some, Option.toList_none, List.cons_append, List.nil_append, List.length_cons, List.length_nil, Nat.reduceMod, Nat.reduceDiv, Nat.reduceAdd, Nat.reduceLeDiff, nc, ↓reduceIte, Nat.zero_le, reduceCtorEq, w32_id, Int.reduceEq, Int.reduceNe, Int.reduceLT, Int.reduceLE, Int.reduceGT, Int.reduceGE, Int.reduceAdd, Int.reduceSub, Int.reduceMul, Int.reduceNeg, ne_eq, not_true_eq_false, not_false_eq_true, eq_self, J_231_0, k_231_0, J_231_13, k_231_13, J_231_14, k_231_14]
  · rw [if_neg q]
    simp (disch := first | assumption | decide | omega | (simp only [List.length_cons, List.length_nil] <;> omega)) only [lgt_0, lgt_s, lset_0, lset_s, lst1_0, lst1_s, lst2_0, lst2_s, ev_iconst, ev_lconst, ev_ldc, ev_null, ev_iload, ev_lload, ev_aload, ev_istore, ev_lstore, ev_astore, ev_iinc, ev_iadd, ev_isub, ev_imul, ev_iand, ev_ior, ev_ishl, ev_ishr, ev_idiv, ev_irem, ev_ineg, ev_ladd, ev_lsub, ev_lmul, ev_land, ev_lor, ev_ldiv, ev_lrem, ev_lshl, ev_i2l, ev_l2i, ev_i2b, ev_i2s, ev_lcmp, ev_dupI, ev_dupR, ev_dup2, ev_popI, ev_popR, ev_alen, ev_xlen, ev_xald, ev_iald, ev_lald, ev_bald, ev_zald, ev_aald, ev_iast, ev_last, ev_bast, ev_zast, ev_aast, ev_gfI, ev_gfL, ev_gfR, ev_pfI, ev_pfZ, ev_pfL, ev_pfR, ev_new, ev_newa, ev_newq, ev_copy, ev_slen, ev_schr, ev_obj, ev_mmin, ev_mabs, ev_mmax, ev_goto, ev_jsr, ev_icmp_eq, ev_if_eq, ev_icmp_ne, ev_if_ne, ev_icmp_lt, ev_if_lt, ev_icmp_ge, ev_if_ge, ev_icmp_gt, ev_if_gt, ev_icmp_le, ev_if_le, ev_ifnull0, ev_ifnull1, ev_ifnn0, ev_ifnn1, ev_tsw, ev_lsw, ev_iret, ev_zret, ev_lret, ev_aret, ev_ret, ev_call0, ev_call1, ev_call2, ev_call3, ev_call4, ev_call5, ev_call6, Option.toList_some, Option.toList_none, List.cons_append, List.nil_append, List.length_cons, List.length_nil, Nat.reduceMod, Nat.reduceDiv, Nat.reduceAdd, Nat.reduceLeDiff, nc, ↓reduceIte, Nat.zero_le, reduceCtorEq, w32_id, Int.reduceEq, Int.reduceNe, Int.reduceLT, Int.reduceLE, Int.reduceGT, Int.reduceGE, Int.reduceAdd, Int.reduceSub, Int.reduceMul, Int.reduceNeg, ne_eq, not_true_eq_false, not_false_eq_true, eq_self, J_231_0, k_231_0, J_231_13, k_231_13, J_231_14, k_231_14, q]
theorem cnt_z {q : Int → Bool} {i : Nat} (h : ∀ j : Nat, j < i → q j ≠ true) : cntB q i = 0 := sumN_z fun j hj => if_neg (h j hj)
theorem cnt_same {q : Int → Bool} {i : Nat} : ∀ {k : Nat}, i ≤ k → (∀ j : Nat, i ≤ j → j < k → q j ≠ true) → cntB q k = cntB q i
  | 0, h, _ => by rw [Nat.le_zero.mp h]
  | k + 1, h, hq => by
    rcases Nat.lt_or_ge k i with z | z
    · rw [show i = k + 1 from by omega]
    · rw [cntB_s, if_neg (hq k z (by omega)), cnt_same z (fun j h1 h2 => hq j h1 (by omega))]
      omega
theorem cnt_run {q : Int → Bool} {i : Nat} (h0 : cntB q i = 0) : ∀ {k : Nat}, (∀ j : Nat, i ≤ j → j < i + k → q j = true) → cntB q (i + k) = k
  | 0, _ => h0
  | k + 1, hq => by
    rw [← Nat.add_assoc, cntB_s, if_pos (hq (i + k) (by omega) (by omega)), cnt_run h0 (fun j h1 h2 => hq j h1 (by omega))]
    omega
/-- the row's prices, as rows of goals -/
def rwt (M : Mem) (m : Nat) (row : Int) (qs : Int → Bool) (n : Int) (k c : Int) : Int := if lnkM M m 0 (ownB qs n.toNat c) (M (m + 1) 0 * row + k) < 2 * M (m + 1) 3 then lnkM M m 0 (ownB qs n.toNat c) (M (m + 1) 0 * row + k) else 2 * M (m + 1) 3
theorem m_rowAlone1 (h : MD Sh m) (g : goodM M m) (gv : goodV M m) {n row : Int} (hn : M (m + 1) 0 * M (m + 1) 1 = n) (hr : 0 ≤ row ∧ row < M (m + 1) 1) (hw : 0 < M (m + 1) 0) (gg : goodG (fun i => M (m + 1) (80 + i)) n) :
    ∃ M1, frmM m M M1 ∧ evc X 319 [vR (some m), vI row] Sh M = evc X 262 [vR (some m), vI (lstM M m 0 (rowS (fun i => i / M (m + 1) 0) (fun i => M (m + 1) (80 + i)) n row) (fun i => decide (i / M (m + 1) 0 = row)))] Sh M1 := by
  have hmd := h
  have hk0 := h.1; obtain ⟨r_at, k_at, l_at⟩ := md_at h; obtain ⟨r_weight, k_weight, l_weight⟩ := md_weight h
  have gs := g.1.1
  have hn2 := many_le (m := m) gs
  have g0 := gs.1
  have g1 := gs.2.1
  have g3 := gs.2.2.2.1
  have lr : ∀ i j, 0 ≤ lnkM M m 0 i j ∧ lnkM M m 0 i j ≤ 1000000 := fun i j => lnk_rng g.1 gv
  generalize hww : M (m + 1) 0 = w at hw g0 hn hn2
  generalize hhh : M (m + 1) 1 = hh at hr g1 hn hn2
  rw [hn] at hn2
  have hal : 0 ≤ M (m + 1) 3 ∧ M (m + 1) 3 ≤ 99 := g3
  generalize hq : rowS (fun i => i / w) (fun i => M (m + 1) (80 + i)) n row = qs
  have hqs : ∀ i, qs i = decide (i / w = row ∨ (i / w = row - 1 ∧ (¬ (0 ≤ M (m + 1) (80 + i) ∧ M (m + 1) (80 + i) < n) ∨ row ≤ M (m + 1) (80 + i) / w))) := fun i => by rw [← hq]; rfl
  -- the row's place
  have hfw : 0 ≤ w * row ∧ w * row + w ≤ n := by
    refine ⟨Int.mul_nonneg (by omega) (by omega), ?_⟩
    have e1 : w * (row + 1) ≤ w * hh := Int.mul_le_mul_of_nonneg_left (by omega) (by omega)
    rw [Int.mul_add, Int.mul_one, hn] at e1
    exact e1
  generalize hF : w * row = F at hfw
  have hrow : ∀ i : Int, i / w = row ↔ F ≤ i ∧ i < F + w := fun i => by rw [← hF]; exact div_row hw
  have hrow1 : ∀ i : Int, i / w = row - 1 ↔ F - w ≤ i ∧ i < F := fun i => by
    have e := div_row (i := i) (row := row - 1) hw
    rw [Int.mul_sub, Int.mul_one, hF] at e
    rw [e]
    omega
  have frw : ∀ M' : Mem, frmM m M M' → M' (m + 1) = M (m + 1) ∧ M' (m + 9) = M (m + 9) ∧ M' (m + 10) = M (m + 10) := fun M' f => ⟨f.1 _ (by omega) (by omega), f.1 _ (by omega) (by omega), f.1 _ (by omega) (by omega)⟩
  have fup : ∀ (M' : Mem) (j z : Int), frmM m M M' → frmM m M (up M' (m + 12) j z) := fun M' j z f => ⟨fun b b0 b1 => by rw [up_ne (by omega)]; exact f.1 b b0 b1, fun i hi => by rw [up_ne (by omega)]; exact f.2 i hi⟩
  have cb : ∀ i : Nat, cntB qs i ≤ i := fun i => cntB_rng.2
  have c00 : ∀ i : Nat, 0 ≤ cntB qs i := fun i => cntB_rng.1
  -- how many sources stand before place i (from max 0 (F - w))
  generalize hs0 : (if 0 < F - w then F - w else 0) = s0
  have s0b : 0 ≤ s0 ∧ s0 ≤ F ∧ F - w ≤ s0 ∧ (s0 = 0 ∨ s0 = F - w) := by rw [← hs0]; split <;> omega
  have cs0 : cntB qs s0.toNat = 0 := cnt_z fun j hj z => by
    rw [hqs] at z
    have e := of_decide_eq_true z
    have e1 := hrow j
    have e2 := hrow1 j
    omega
  have cle : ∀ i : Nat, s0.toNat ≤ i → cntB qs i ≤ i - s0.toNat := fun i hi => by
    have key : ∀ k : Nat, cntB qs (s0.toNat + k) ≤ k := by
      intro k
      induction k with
      | zero => rw [Nat.add_zero, cs0]; omega
      | succ k ih => rw [← Nat.add_assoc, cntB_s]; split <;> omega
    have e := key (i - s0.toNat)
    rw [show s0.toNat + (i - s0.toNat) = i from by omega] at e
    omega
  rw [E_319 hk0]
  have eir := m_isRow (X := X) (M := M) hmd (r := row)
  rw [hhh, if_pos ⟨by omega, by omega⟩] at eir
  have q00 : (if (0 : Int) < F - w then F - w else 0) = s0 := hs0
  simp (disch := first | assumption | decide | omega | (simp only [List.length_cons, List.length_nil] <;> omega)) only [lgt_0, lgt_s, lset_0, lset_s, lst1_0, lst1_s, lst2_0, lst2_s, ev_iconst, ev_lconst, ev_ldc, ev_null, ev_iload, ev_lload, ev_aload, ev_istore, ev_lstore, ev_astore, ev_iinc, ev_iadd, ev_isub, ev_imul, ev_iand, ev_ior, ev_ishl, ev_ishr, ev_idiv, ev_irem, ev_ineg, ev_ladd, ev_lsub, ev_lmul, ev_land, ev_lor, ev_ldiv, ev_lrem, ev_lshl, ev_i2l, ev_l2i, ev_i2b, ev_i2s, ev_lcmp, ev_dupI, ev_dupR, ev_dup2, ev_popI, ev_popR, ev_alen, ev_xlen, ev_xald, ev_iald, ev_lald, ev_bald, ev_zald, ev_aald, ev_iast, ev_last, ev_bast, ev_zast, ev_aast, ev_gfI, ev_gfL, ev_gfR, ev_pfI, ev_pfZ, ev_pfL, ev_pfR, ev_new, ev_newa, ev_newq, ev_copy, ev_slen, ev_schr, ev_obj, ev_mmin, ev_mabs, ev_mmax, ev_goto, ev_jsr, ev_icmp_eq, ev_if_eq, ev_icmp_ne, ev_if_ne, ev_icmp_lt, ev_if_lt, ev_icmp_ge, ev_if_ge, ev_icmp_gt, ev_if_gt, ev_icmp_le, ev_if_le, ev_ifnull0, ev_ifnull1, ev_ifnn0, ev_ifnn1, ev_tsw, ev_lsw, ev_iret, ev_zret, ev_lret, ev_aret, ev_ret, ev_call0, ev_call1, ev_call2, ev_call3, ev_call4, ev_call5, ev_call6, Option.toList_some, Option.toList_none, List.cons_append, List.nil_append, List.length_cons, List.length_nil, Nat.reduceMod, Nat.reduceDiv, Nat.reduceAdd, Nat.reduceLeDiff, nc, ↓reduceIte, Nat.zero_le, reduceCtorEq, w32_id, Int.reduceEq, Int.reduceNe, Int.reduceLT, Int.reduceLE, Int.reduceGT, Int.reduceGE, Int.reduceAdd, Int.reduceSub, Int.reduceMul, Int.reduceNeg, ne_eq, not_true_eq_false, not_false_eq_true, eq_self, r_at, J_319_0, k_319_0, J_319_14, k_319_14, J_319_81, k_319_81, J_319_146, k_319_146, J_319_147, k_319_147, J_319_154, k_319_154, J_319_157, k_319_157, J_319_163, k_319_163, J_319_214, k_319_214, J_319_220, k_319_220, eir, hww, hF, q00]
  obtain ⟨ls', M2, ⟨w6, w7, hls, fr, i1⟩, he⟩ := ev_for (X := X) (y := 319) (Sh := Sh) (fun i ls M' => ∃ w6 w7, ls = [some (vR (some m)), some (vI row), some (vI (2 * M (m + 1) 3)), some (vI F), some (vI (cntB qs (s0.toNat + i))), some (vI (s0 + i)), w6, w7] ∧ frmM m M M' ∧ (∀ k c : Int, 0 ≤ k → k < w → 0 ≤ c → c < cntB qs (s0.toNat + i) → M' (m + 12) (56 * k + c) = rwt M m row qs n k c)) J_319_49 (F + w - s0).toNat (fun i hi ls M' hI => by
    obtain ⟨w6, w7, hls, fr, i1⟩ := hI
    subst hls
    obtain ⟨a1, a2, a3⟩ := frw M' fr
    have q0 : ¬ F + w ≤ s0 + (i : Int) := by omega
    have ei : (((s0.toNat + i : Nat)) : Int) = s0 + i := by omega
    have cb1 := cb (s0.toNat + i)
    have cb0 := c00 (s0.toNat + i)
    have cb2 := cle (s0.toNat + i) (by omega)
    -- a column
    have col : qs (s0 + i) = true → ∃ M3 w6' w7', frmM m M M3 ∧ (∀ k c : Int, 0 ≤ k → k < w → 0 ≤ c → c < cntB qs (s0.toNat + (i + 1)) → M3 (m + 12) (56 * k + c) = rwt M m row qs n k c) ∧ ev X 319 (jmp 319 84) [some (vR (some m)), some (vI row), some (vI (2 * M (m + 1) 3)), some (vI F), some (vI (cntB qs (s0.toNat + i))), some (vI (s0 + i)), some (vI 0), w7] [] Sh M' = ev X 319 (jmp 319 49) [some (vR (some m)), some (vI row), some (vI (2 * M (m + 1) 3)), some (vI F), some (vI (cntB qs (s0.toNat + (i + 1)))), some (vI (s0 + ((i + 1 : Nat) : Int))), w6', w7'] [] Sh M3 := fun ht => by
      have hc1 : cntB qs (s0.toNat + (i + 1)) = cntB qs (s0.toNat + i) + 1 := by rw [← Nat.add_assoc, cntB_s, ei, if_pos ht]
      have ho : ownB qs n.toNat (cntB qs (s0.toNat + i)) = s0 + i := by rw [ownB_at (q := qs) (n := n.toNat) (i := s0.toNat + i) (by omega) (by rw [ei]; exact ht), ei]
      generalize hmm : cntB qs (s0.toNat + i) = mm at cb1 cb0 cb2 hc1 ho i1 ⊢
      obtain ⟨ls2, M3, ⟨w7', hls2, fr2, j1, j2⟩, he2⟩ := ev_for (X := X) (y := 319) (Sh := Sh) (fun k ls M3 => ∃ w7, ls = [some (vR (some m)), some (vI row), some (vI (2 * M (m + 1) 3)), some (vI F), some (vI mm), some (vI (s0 + i)), some (vI (k : Int)), w7] ∧ frmM m M M3 ∧ (∀ k c : Int, 0 ≤ k → k < w → 0 ≤ c → c < mm → M3 (m + 12) (56 * k + c) = rwt M m row qs n k c) ∧ (∀ l : Int, 0 ≤ l → l < k → M3 (m + 12) (56 * l + mm) = rwt M m row qs n l mm)) J_319_84 w.toNat (fun k hk ls M3 hI => by
        obtain ⟨w7, hls, fr2, j1, j2⟩ := hI
        subst hls
        obtain ⟨b1, b2, b3⟩ := frw M3 fr2
        have q1 : ¬ w ≤ (k : Int) := by omega
        generalize hwv : rwt M m row qs n k mm = wv
        have hwv2 := hwv
        unfold rwt at hwv2
        rw [ho, hww, hF] at hwv2
        refine ⟨_, up M3 (m + 12) (56 * (k : Int) + mm) wv, ⟨some (vI (F + k)), rfl, fup M3 _ _ fr2, fun l c l0 l1 y0 y1 => by simp (disch := omega) only [up_ne, up_eq, up_ne2]; exact j1 l c l0 l1 y0 y1, fun l l0 l1 => ?_⟩, ?_⟩
        · by_cases z : l = k
          · subst z
            simp (disch := omega) only [up_ne, up_eq, up_ne2]
            exact hwv.symm
          · simp (disch := omega) only [up_ne, up_eq, up_ne2]
            exact j2 l l0 (by omega)
        · by_cases q2 : s0 + (i : Int) < F + k
          · have q2' : ¬ F + (k : Int) ≤ s0 + i := by omega
            have ew := m_way (X := X) (M := M3) hmd (goodM_c b1 b2 b3 g) (i := s0 + i) (j := F + k) (by omega) q2 (by rw [b1, hww, hhh, hn]; omega)
            have ew : evc X 277 [vR (some m), vI (s0 + i), vI (F + k)] Sh M3 = some (some (vI (wayM M m (s0 + i) (F + k))), Sh, M3) := by
              rw [ew, b1, b2, b3]
            have wr : 0 ≤ wayM M m (s0 + i) (F + k) := wayF_rng.1
            have lk : lnkM M m 0 (s0 + i) (F + k) = if wayM M m (s0 + i) (F + k) = 0 then 1000000 else priM M m (s0 + i) (F + k) := by
              unfold lnkM lnk
              rw [if_pos (c := (0 : Int) = 0) rfl]
            by_cases q3 : wayM M m (s0 + i) (F + k) = 0
            · rw [lk, if_pos q3, if_neg (by omega)] at hwv2
              rw [q3] at ew
              simp (disch := first | assumption | decide | omega | (simp only [List.length_cons, List.length_nil] <;> omega)) only [lgt_0, lgt_s, lset_0, lset_s, lst1_0, lst1_s, lst2_0, lst2_s, ev_iconst, ev_lconst, ev_ldc, ev_null, ev_iload, ev_lload, ev_aload, ev_istore, ev_lstore, ev_astore, ev_iinc, ev_iadd, ev_isub, ev_imul, ev_iand, ev_ior, ev_ishl, ev_ishr, ev_idiv, ev_irem, ev_ineg, ev_ladd, ev_lsub, ev_lmul, ev_land, ev_lor, ev_ldiv, ev_lrem, ev_lshl, ev_i2l, ev_l2i, ev_i2b, ev_i2s, ev_lcmp, ev_dupI, ev_dupR, ev_dup2, ev_popI, ev_popR, ev_alen, ev_xlen, ev_xald, ev_iald, ev_lald, ev_bald, ev_zald, ev_aald, ev_iast, ev_last, ev_bast, ev_zast, ev_aast, ev_gfI, ev_gfL, ev_gfR, ev_pfI, ev_pfZ, ev_pfL, ev_pfR, ev_new, ev_newa, ev_newq, ev_copy, ev_slen, ev_schr, ev_obj, ev_mmin, ev_mabs, ev_mmax, ev_goto, ev_jsr, ev_icmp_eq, ev_if_eq, ev_icmp_ne, ev_if_ne, ev_icmp_lt, ev_if_lt, ev_icmp_ge, ev_if_ge, ev_icmp_gt, ev_if_gt, ev_icmp_le, ev_if_le, ev_ifnull0, ev_ifnull1, ev_ifnn0, ev_ifnn1, ev_tsw, ev_lsw, ev_iret, ev_zret, ev_lret, ev_aret, ev_ret, ev_call0, ev_call1, ev_call2, ev_call3, ev_call4, ev_call5, ev_call6, Option.toList_some, Option.toList_none, List.cons_append, List.nil_append, List.length_cons, List.length_nil, Nat.reduceMod, Nat.reduceDiv, Nat.reduceAdd, Nat.reduceLeDiff, nc, ↓reduceIte, Nat.zero_le, reduceCtorEq, w32_id, Int.reduceEq, Int.reduceNe, Int.reduceLT, Int.reduceLE, Int.reduceGT, Int.reduceGE, Int.reduceAdd, Int.reduceSub, Int.reduceMul, Int.reduceNeg, ne_eq, not_true_eq_false, not_false_eq_true, eq_self, r_at, r_weight, k_319_84, J_319_0, k_319_0, J_319_14, k_319_14, J_319_81, k_319_81, J_319_146, k_319_146, J_319_147, k_319_147, J_319_154, k_319_154, J_319_157, k_319_157, J_319_163, k_319_163, J_319_214, k_319_214, J_319_220, k_319_220, b1, hww, q1, q2', ew, hwv2, nc_s]
            · have ec := m_costOf (X := X) (M := M3) hmd (goodM_c b1 b2 b3 g) (goodV_c b1 gv) (i := s0 + i) (j := F + k) (by omega) q2 (by rw [b1, hww, hhh, hn]; omega) (by rw [b1, b2, b3]; exact q3)
              have ec : evc X 279 [vR (some m), vI (s0 + i), vI (F + k)] Sh M3 = some (some (vI (priM M m (s0 + i) (F + k))), Sh, M3) := by
                rw [ec, b1, b2, b3]
              rw [lk, if_neg q3] at hwv2
              generalize wayM M m (s0 + i) (F + k) = ww at ew wr q3
              have q3' : ¬ ww ≤ 0 := by omega
              generalize priM M m (s0 + i) (F + k) = pr at ec hwv2
              simp (disch := first | assumption | decide | omega | (simp only [List.length_cons, List.length_nil] <;> omega)) only [lgt_0, lgt_s, lset_0, lset_s, lst1_0, lst1_s, lst2_0, lst2_s, ev_iconst, ev_lconst, ev_ldc, ev_null, ev_iload, ev_lload, ev_aload, ev_istore, ev_lstore, ev_astore, ev_iinc, ev_iadd, ev_isub, ev_imul, ev_iand, ev_ior, ev_ishl, ev_ishr, ev_idiv, ev_irem, ev_ineg, ev_ladd, ev_lsub, ev_lmul, ev_land, ev_lor, ev_ldiv, ev_lrem, ev_lshl, ev_i2l, ev_l2i, ev_i2b, ev_i2s, ev_lcmp, ev_dupI, ev_dupR, ev_dup2, ev_popI, ev_popR, ev_alen, ev_xlen, ev_xald, ev_iald, ev_lald, ev_bald, ev_zald, ev_aald, ev_iast, ev_last, ev_bast, ev_zast, ev_aast, ev_gfI, ev_gfL, ev_gfR, ev_pfI, ev_pfZ, ev_pfL, ev_pfR, ev_new, ev_newa, ev_newq, ev_copy, ev_slen, ev_schr, ev_obj, ev_mmin, ev_mabs, ev_mmax, ev_goto, ev_jsr, ev_icmp_eq, ev_if_eq, ev_icmp_ne, ev_if_ne, ev_icmp_lt, ev_if_lt, ev_icmp_ge, ev_if_ge, ev_icmp_gt, ev_if_gt, ev_icmp_le, ev_if_le, ev_ifnull0, ev_ifnull1, ev_ifnn0, ev_ifnn1, ev_tsw, ev_lsw, ev_iret, ev_zret, ev_lret, ev_aret, ev_ret, ev_call0, ev_call1, ev_call2, ev_call3, ev_call4, ev_call5, ev_call6, Option.toList_some, Option.toList_none, List.cons_append, List.nil_append, List.length_cons, List.length_nil, Nat.reduceMod, Nat.reduceDiv, Nat.reduceAdd, Nat.reduceLeDiff, nc, ↓reduceIte, Nat.zero_le, reduceCtorEq, w32_id, Int.reduceEq, Int.reduceNe, Int.reduceLT, Int.reduceLE, Int.reduceGT, Int.reduceGE, Int.reduceAdd, Int.reduceSub, Int.reduceMul, Int.reduceNeg, ne_eq, not_true_eq_false, not_false_eq_true, eq_self, r_at, r_weight, k_319_84, J_319_0, k_319_0, J_319_14, k_319_14, J_319_81, k_319_81, J_319_146, k_319_146, J_319_147, k_319_147, J_319_154, k_319_154, J_319_157, k_319_157, J_319_163, k_319_163, J_319_214, k_319_214, J_319_220, k_319_220, b1, hww, q1, q2', ew, q3', ec, hwv2, nc_s]
          · have q2' : F + (k : Int) ≤ s0 + i := by omega
            have lk : lnkM M m 0 (s0 + i) (F + k) = 1000000 := by
              unfold lnkM lnk
              rw [if_pos (wayF_no q2')]
            rw [lk, if_neg (by omega)] at hwv2
            simp (disch := first | assumption | decide | omega | (simp only [List.length_cons, List.length_nil] <;> omega)) only [lgt_0, lgt_s, lset_0, lset_s, lst1_0, lst1_s, lst2_0, lst2_s, ev_iconst, ev_lconst, ev_ldc, ev_null, ev_iload, ev_lload, ev_aload, ev_istore, ev_lstore, ev_astore, ev_iinc, ev_iadd, ev_isub, ev_imul, ev_iand, ev_ior, ev_ishl, ev_ishr, ev_idiv, ev_irem, ev_ineg, ev_ladd, ev_lsub, ev_lmul, ev_land, ev_lor, ev_ldiv, ev_lrem, ev_lshl, ev_i2l, ev_l2i, ev_i2b, ev_i2s, ev_lcmp, ev_dupI, ev_dupR, ev_dup2, ev_popI, ev_popR, ev_alen, ev_xlen, ev_xald, ev_iald, ev_lald, ev_bald, ev_zald, ev_aald, ev_iast, ev_last, ev_bast, ev_zast, ev_aast, ev_gfI, ev_gfL, ev_gfR, ev_pfI, ev_pfZ, ev_pfL, ev_pfR, ev_new, ev_newa, ev_newq, ev_copy, ev_slen, ev_schr, ev_obj, ev_mmin, ev_mabs, ev_mmax, ev_goto, ev_jsr, ev_icmp_eq, ev_if_eq, ev_icmp_ne, ev_if_ne, ev_icmp_lt, ev_if_lt, ev_icmp_ge, ev_if_ge, ev_icmp_gt, ev_if_gt, ev_icmp_le, ev_if_le, ev_ifnull0, ev_ifnull1, ev_ifnn0, ev_ifnn1, ev_tsw, ev_lsw, ev_iret, ev_zret, ev_lret, ev_aret, ev_ret, ev_call0, ev_call1, ev_call2, ev_call3, ev_call4, ev_call5, ev_call6, Option.toList_some, Option.toList_none, List.cons_append, List.nil_append, List.length_cons, List.length_nil, Nat.reduceMod, Nat.reduceDiv, Nat.reduceAdd, Nat.reduceLeDiff, nc, ↓reduceIte, Nat.zero_le, reduceCtorEq, w32_id, Int.reduceEq, Int.reduceNe, Int.reduceLT, Int.reduceLE, Int.reduceGT, Int.reduceGE, Int.reduceAdd, Int.reduceSub, Int.reduceMul, Int.reduceNeg, ne_eq, not_true_eq_false, not_false_eq_true, eq_self, r_at, r_weight, k_319_84, J_319_0, k_319_0, J_319_14, k_319_14, J_319_81, k_319_81, J_319_146, k_319_146, J_319_147, k_319_147, J_319_154, k_319_154, J_319_157, k_319_157, J_319_163, k_319_163, J_319_214, k_319_214, J_319_220, k_319_220, b1, hww, q1, q2', hwv2, nc_s]) [some (vR (some m)), some (vI row), some (vI (2 * M (m + 1) 3)), some (vI F), some (vI mm), some (vI (s0 + i)), some (vI 0), w7] M' ⟨w7, rfl, fr, i1, fun l l0 l1 => by omega⟩
      subst hls2
      obtain ⟨b1, b2, b3⟩ := frw M3 fr2
      have e : ((w.toNat : Nat) : Int) = w := by omega
      rw [e] at he2 j2
      refine ⟨M3, some (vI w), w7', fr2, fun k c k0 k1 y0 y1 => ?_, ?_⟩
      · rw [hc1] at y1
        by_cases z : c = mm
        · subst z; exact j2 k k0 k1
        · exact j1 k c k0 k1 y0 (by omega)
      · rw [he2]
        have q2 : w ≤ w := Int.le_refl w
        have e5 : s0 + (i : Int) + 1 = s0 + ((i : Int) + 1) := by omega
        simp (disch := first | assumption | decide | omega | (simp only [List.length_cons, List.length_nil] <;> omega)) only [lgt_0, lgt_s, lset_0, lset_s, lst1_0, lst1_s, lst2_0, lst2_s, ev_iconst, ev_lconst, ev_ldc, ev_null, ev_iload, ev_lload, ev_aload, ev_istore, ev_lstore, ev_astore, ev_iinc, ev_iadd, ev_isub, ev_imul, ev_iand, ev_ior, ev_ishl, ev_ishr, ev_idiv, ev_irem, ev_ineg, ev_ladd, ev_lsub, ev_lmul, ev_land, ev_lor, ev_ldiv, ev_lrem, ev_lshl, ev_i2l, ev_l2i, ev_i2b, ev_i2s, ev_lcmp, ev_dupI, ev_dupR, ev_dup2, ev_popI, ev_popR, ev_alen, ev_xlen, ev_xald, ev_iald, ev_lald, ev_bald, ev_zald, ev_aald, ev_iast, ev_last, ev_bast, ev_zast, ev_aast, ev_gfI, ev_gfL, ev_gfR, ev_pfI, ev_pfZ, ev_pfL, ev_pfR, ev_new, ev_newa, ev_newq, ev_copy, ev_slen, ev_schr, ev_obj, ev_mmin, ev_mabs, ev_mmax, ev_goto, ev_jsr, ev_icmp_eq, ev_if_eq, ev_icmp_ne, ev_if_ne, ev_icmp_lt, ev_if_lt, ev_icmp_ge, ev_if_ge, ev_icmp_gt, ev_if_gt, ev_icmp_le, ev_if_le, ev_ifnull0, ev_ifnull1, ev_ifnn0, ev_ifnn1, ev_tsw, ev_lsw, ev_iret, ev_zret, ev_lret, ev_aret, ev_ret, ev_call0, ev_call1, ev_call2, ev_call3, ev_call4, ev_call5, ev_call6, Option.toList_some, Option.toList_none, List.cons_append, List.nil_append, List.length_cons, List.length_nil, Nat.reduceMod, Nat.reduceDiv, Nat.reduceAdd, Nat.reduceLeDiff, nc, ↓reduceIte, Nat.zero_le, reduceCtorEq, w32_id, Int.reduceEq, Int.reduceNe, Int.reduceLT, Int.reduceLE, Int.reduceGT, Int.reduceGE, Int.reduceAdd, Int.reduceSub, Int.reduceMul, Int.reduceNeg, ne_eq, not_true_eq_false, not_false_eq_true, eq_self, r_at, k_319_84, J_319_0, k_319_0, J_319_14, k_319_14, J_319_81, k_319_81, J_319_146, k_319_146, J_319_147, k_319_147, J_319_154, k_319_154, J_319_157, k_319_157, J_319_163, k_319_163, J_319_214, k_319_214, J_319_220, k_319_220, b1, hww, q2, hc1, e5, nc_s]
    by_cases q1 : s0 + (i : Int) < F
    · have q1' : ¬ F ≤ s0 + (i : Int) := by omega
      have gi := gg (s0 + i) (by omega) (by omega)
      dsimp only at gi
      have ea := m_endsAhead (X := X) (M := M') hmd (by rw [a1]; exact gs) (i := s0 + i) (row := row) (by omega) (by rw [a1]; omega) (by rw [a1, hww]; exact hw)
      rw [a1, hww] at ea
      have r1 := (hrow1 (s0 + i)).mpr ⟨by omega, q1⟩
      have r0 : ¬ (s0 + (i : Int)) / w = row := by omega
      by_cases q2 : M (m + 1) (80 + (s0 + i)) = -1 ∨ row ≤ M (m + 1) (80 + (s0 + i)) / w
      · have ht : qs (s0 + i) = true := by
          rw [hqs]
          refine decide_eq_true (Or.inr ⟨r1, ?_⟩)
          rcases q2 with z | z
          · exact Or.inl (by omega)
          · exact Or.inr z
        rw [if_pos q2] at ea
        obtain ⟨M3, w6', w7', f3, i3, e3⟩ := col ht
        refine ⟨_, M3, ⟨w6', w7', rfl, f3, i3⟩, ?_⟩
        rw [← e3]
        simp (disch := first | assumption | decide | omega | (simp only [List.length_cons, List.length_nil] <;> omega)) only [lgt_0, lgt_s, lset_0, lset_s, lst1_0, lst1_s, lst2_0, lst2_s, ev_iconst, ev_lconst, ev_ldc, ev_null, ev_iload, ev_lload, ev_aload, ev_istore, ev_lstore, ev_astore, ev_iinc, ev_iadd, ev_isub, ev_imul, ev_iand, ev_ior, ev_ishl, ev_ishr, ev_idiv, ev_irem, ev_ineg, ev_ladd, ev_lsub, ev_lmul, ev_land, ev_lor, ev_ldiv, ev_lrem, ev_lshl, ev_i2l, ev_l2i, ev_i2b, ev_i2s, ev_lcmp, ev_dupI, ev_dupR, ev_dup2, ev_popI, ev_popR, ev_alen, ev_xlen, ev_xald, ev_iald, ev_lald, ev_bald, ev_zald, ev_aald, ev_iast, ev_last, ev_bast, ev_zast, ev_aast, ev_gfI, ev_gfL, ev_gfR, ev_pfI, ev_pfZ, ev_pfL, ev_pfR, ev_new, ev_newa, ev_newq, ev_copy, ev_slen, ev_schr, ev_obj, ev_mmin, ev_mabs, ev_mmax, ev_goto, ev_jsr, ev_icmp_eq, ev_if_eq, ev_icmp_ne, ev_if_ne, ev_icmp_lt, ev_if_lt, ev_icmp_ge, ev_if_ge, ev_icmp_gt, ev_if_gt, ev_icmp_le, ev_if_le, ev_ifnull0, ev_ifnull1, ev_ifnn0, ev_ifnn1, ev_tsw, ev_lsw, ev_iret, ev_zret, ev_lret, ev_aret, ev_ret, ev_call0, ev_call1, ev_call2, ev_call3, ev_call4, ev_call5, ev_call6, Option.toList_some, Option.toList_none, List.cons_append, List.nil_append, List.length_cons, List.length_nil, Nat.reduceMod, Nat.reduceDiv, Nat.reduceAdd, Nat.reduceLeDiff, nc, ↓reduceIte, Nat.zero_le, reduceCtorEq, w32_id, Int.reduceEq, Int.reduceNe, Int.reduceLT, Int.reduceLE, Int.reduceGT, Int.reduceGE, Int.reduceAdd, Int.reduceSub, Int.reduceMul, Int.reduceNeg, ne_eq, not_true_eq_false, not_false_eq_true, eq_self, r_at, k_319_49, J_319_0, k_319_0, J_319_14, k_319_14, J_319_81, k_319_81, J_319_146, k_319_146, J_319_147, k_319_147, J_319_154, k_319_154, J_319_157, k_319_157, J_319_163, k_319_163, J_319_214, k_319_214, J_319_220, k_319_220, a1, hww, q0, q1', ea]
      · have ht : ¬ qs (s0 + i) = true := by
          rw [hqs]
          intro z
          rcases of_decide_eq_true z with y | y
          · exact r0 y
          · rcases y.2 with x | x
            · exact q2 (Or.inl (by omega))
            · exact q2 (Or.inr x)
        have hc1 : cntB qs (s0.toNat + (i + 1)) = cntB qs (s0.toNat + i) := by rw [← Nat.add_assoc, cntB_s, ei, if_neg ht]; omega
        rw [if_neg q2] at ea
        refine ⟨_, M', ⟨w6, w7, rfl, fr, by rw [hc1]; exact i1⟩, ?_⟩
        have e5 : s0 + (i : Int) + 1 = s0 + ((i : Int) + 1) := by omega
        simp (disch := first | assumption | decide | omega | (simp only [List.length_cons, List.length_nil] <;> omega)) only [lgt_0, lgt_s, lset_0, lset_s, lst1_0, lst1_s, lst2_0, lst2_s, ev_iconst, ev_lconst, ev_ldc, ev_null, ev_iload, ev_lload, ev_aload, ev_istore, ev_lstore, ev_astore, ev_iinc, ev_iadd, ev_isub, ev_imul, ev_iand, ev_ior, ev_ishl, ev_ishr, ev_idiv, ev_irem, ev_ineg, ev_ladd, ev_lsub, ev_lmul, ev_land, ev_lor, ev_ldiv, ev_lrem, ev_lshl, ev_i2l, ev_l2i, ev_i2b, ev_i2s, ev_lcmp, ev_dupI, ev_dupR, ev_dup2, ev_popI, ev_popR, ev_alen, ev_xlen, ev_xald, ev_iald, ev_lald, ev_bald, ev_zald, ev_aald, ev_iast, ev_last, ev_bast, ev_zast, ev_aast, ev_gfI, ev_gfL, ev_gfR, ev_pfI, ev_pfZ, ev_pfL, ev_pfR, ev_new, ev_newa, ev_newq, ev_copy, ev_slen, ev_schr, ev_obj, ev_mmin, ev_mabs, ev_mmax, ev_goto, ev_jsr, ev_icmp_eq, ev_if_eq, ev_icmp_ne, ev_if_ne, ev_icmp_lt, ev_if_lt, ev_icmp_ge, ev_if_ge, ev_icmp_gt, ev_if_gt, ev_icmp_le, ev_if_le, ev_ifnull0, ev_ifnull1, ev_ifnn0, ev_ifnn1, ev_tsw, ev_lsw, ev_iret, ev_zret, ev_lret, ev_aret, ev_ret, ev_call0, ev_call1, ev_call2, ev_call3, ev_call4, ev_call5, ev_call6, Option.toList_some, Option.toList_none, List.cons_append, List.nil_append, List.length_cons, List.length_nil, Nat.reduceMod, Nat.reduceDiv, Nat.reduceAdd, Nat.reduceLeDiff, nc, ↓reduceIte, Nat.zero_le, reduceCtorEq, w32_id, Int.reduceEq, Int.reduceNe, Int.reduceLT, Int.reduceLE, Int.reduceGT, Int.reduceGE, Int.reduceAdd, Int.reduceSub, Int.reduceMul, Int.reduceNeg, ne_eq, not_true_eq_false, not_false_eq_true, eq_self, r_at, k_319_49, J_319_0, k_319_0, J_319_14, k_319_14, J_319_81, k_319_81, J_319_146, k_319_146, J_319_147, k_319_147, J_319_154, k_319_154, J_319_157, k_319_157, J_319_163, k_319_163, J_319_214, k_319_214, J_319_220, k_319_220, a1, hww, q0, q1', ea, hc1, e5, nc_s]
    · have q1' : F ≤ s0 + (i : Int) := by omega
      have ht : qs (s0 + i) = true := by
        rw [hqs]
        exact decide_eq_true (Or.inl ((hrow _).mpr ⟨q1', by omega⟩))
      obtain ⟨M3, w6', w7', f3, i3, e3⟩ := col ht
      refine ⟨_, M3, ⟨w6', w7', rfl, f3, i3⟩, ?_⟩
      rw [← e3]
      simp (disch := first | assumption | decide | omega | (simp only [List.length_cons, List.length_nil] <;> omega)) only [lgt_0, lgt_s, lset_0, lset_s, lst1_0, lst1_s, lst2_0, lst2_s, ev_iconst, ev_lconst, ev_ldc, ev_null, ev_iload, ev_lload, ev_aload, ev_istore, ev_lstore, ev_astore, ev_iinc, ev_iadd, ev_isub, ev_imul, ev_iand, ev_ior, ev_ishl, ev_ishr, ev_idiv, ev_irem, ev_ineg, ev_ladd, ev_lsub, ev_lmul, ev_land, ev_lor, ev_ldiv, ev_lrem, ev_lshl, ev_i2l, ev_l2i, ev_i2b, ev_i2s, ev_lcmp, ev_dupI, ev_dupR, ev_dup2, ev_popI, ev_popR, ev_alen, ev_xlen, ev_xald, ev_iald, ev_lald, ev_bald, ev_zald, ev_aald, ev_iast, ev_last, ev_bast, ev_zast, ev_aast, ev_gfI, ev_gfL, ev_gfR, ev_pfI, ev_pfZ, ev_pfL, ev_pfR, ev_new, ev_newa, ev_newq, ev_copy, ev_slen, ev_schr, ev_obj, ev_mmin, ev_mabs, ev_mmax, ev_goto, ev_jsr, ev_icmp_eq, ev_if_eq, ev_icmp_ne, ev_if_ne, ev_icmp_lt, ev_if_lt, ev_icmp_ge, ev_if_ge, ev_icmp_gt, ev_if_gt, ev_icmp_le, ev_if_le, ev_ifnull0, ev_ifnull1, ev_ifnn0, ev_ifnn1, ev_tsw, ev_lsw, ev_iret, ev_zret, ev_lret, ev_aret, ev_ret, ev_call0, ev_call1, ev_call2, ev_call3, ev_call4, ev_call5, ev_call6, Option.toList_some, Option.toList_none, List.cons_append, List.nil_append, List.length_cons, List.length_nil, Nat.reduceMod, Nat.reduceDiv, Nat.reduceAdd, Nat.reduceLeDiff, nc, ↓reduceIte, Nat.zero_le, reduceCtorEq, w32_id, Int.reduceEq, Int.reduceNe, Int.reduceLT, Int.reduceLE, Int.reduceGT, Int.reduceGE, Int.reduceAdd, Int.reduceSub, Int.reduceMul, Int.reduceNeg, ne_eq, not_true_eq_false, not_false_eq_true, eq_self, r_at, k_319_49, J_319_0, k_319_0, J_319_14, k_319_14, J_319_81, k_319_81, J_319_146, k_319_146, J_319_147, k_319_147, J_319_154, k_319_154, J_319_157, k_319_157, J_319_163, k_319_163, J_319_214, k_319_214, J_319_220, k_319_220, a1, hww, q0, q1']) [some (vR (some m)), some (vI row), some (vI (2 * M (m + 1) 3)), some (vI F), some (vI 0), some (vI s0), none, none] M ⟨none, none, by show _ = [some (vR (some m)), some (vI row), some (vI (2 * M (m + 1) 3)), some (vI F), some (vI (cntB qs s0.toNat)), some (vI (s0 + 0)), none, none]; rw [cs0, Int.add_zero], frmM_r, fun k c _ _ y0 y1 => by have y2 : c < cntB qs s0.toNat := y1; rw [cs0] at y2; omega⟩
  subst hls
  have eT : s0.toNat + (F + w - s0).toNat = (F + w).toNat := by omega
  have eT2 : s0 + (((F + w - s0).toNat : Nat) : Int) = F + w := by omega
  rw [eT] at i1 he
  rw [eT2] at he
  have cN : cntB qs n.toNat = cntB qs (F + w).toNat := cnt_same (by omega) (fun j h1 h2 z => by
    rw [hqs] at z
    have e := of_decide_eq_true z
    have e1 := hrow j
    have e2 := hrow1 j
    omega)
  have cM := cle (F + w).toNat (by omega)
  have cM0 := c00 (F + w).toNat
  generalize hmm : cntB qs (F + w).toNat = mm at i1 he cN cM cM0
  rw [he]
  obtain ⟨d1, d2, d3⟩ := frw M2 fr
  have q0 : F + w ≤ F + w := Int.le_refl _
  simp (disch := first | assumption | decide | omega | (simp only [List.length_cons, List.length_nil] <;> omega)) only [lgt_0, lgt_s, lset_0, lset_s, lst1_0, lst1_s, lst2_0, lst2_s, ev_iconst, ev_lconst, ev_ldc, ev_null, ev_iload, ev_lload, ev_aload, ev_istore, ev_lstore, ev_astore, ev_iinc, ev_iadd, ev_isub, ev_imul, ev_iand, ev_ior, ev_ishl, ev_ishr, ev_idiv, ev_irem, ev_ineg, ev_ladd, ev_lsub, ev_lmul, ev_land, ev_lor, ev_ldiv, ev_lrem, ev_lshl, ev_i2l, ev_l2i, ev_i2b, ev_i2s, ev_lcmp, ev_dupI, ev_dupR, ev_dup2, ev_popI, ev_popR, ev_alen, ev_xlen, ev_xald, ev_iald, ev_lald, ev_bald, ev_zald, ev_aald, ev_iast, ev_last, ev_bast, ev_zast, ev_aast, ev_gfI, ev_gfL, ev_gfR, ev_pfI, ev_pfZ, ev_pfL, ev_pfR, ev_new, ev_newa, ev_newq, ev_copy, ev_slen, ev_schr, ev_obj, ev_mmin, ev_mabs, ev_mmax, ev_goto, ev_jsr, ev_icmp_eq, ev_if_eq, ev_icmp_ne, ev_if_ne, ev_icmp_lt, ev_if_lt, ev_icmp_ge, ev_if_ge, ev_icmp_gt, ev_if_gt, ev_icmp_le, ev_if_le, ev_ifnull0, ev_ifnull1, ev_ifnn0, ev_ifnn1, ev_tsw, ev_lsw, ev_iret, ev_zret, ev_lret, ev_aret, ev_ret, ev_call0, ev_call1, ev_call2, ev_call3, ev_call4, ev_call5, ev_call6, Option.toList_some, Option.toList_none, List.cons_append, List.nil_append, List.length_cons, List.length_nil, Nat.reduceMod, Nat.reduceDiv, Nat.reduceAdd, Nat.reduceLeDiff, nc, ↓reduceIte, Nat.zero_le, reduceCtorEq, w32_id, Int.reduceEq, Int.reduceNe, Int.reduceLT, Int.reduceLE, Int.reduceGT, Int.reduceGE, Int.reduceAdd, Int.reduceSub, Int.reduceMul, Int.reduceNeg, ne_eq, not_true_eq_false, not_false_eq_true, eq_self, r_at, k_319_49, J_319_0, k_319_0, J_319_14, k_319_14, J_319_81, k_319_81, J_319_146, k_319_146, J_319_147, k_319_147, J_319_154, k_319_154, J_319_157, k_319_157, J_319_163, k_319_163, J_319_214, k_319_214, J_319_220, k_319_220, d1, hww, q0]
  clear he
  -- the free columns
  obtain ⟨ls', M3, ⟨v6, hls, fr3, i3, i4⟩, he⟩ := ev_for (X := X) (y := 319) (Sh := Sh) (fun k ls M' => ∃ v6, ls = [some (vR (some m)), some (vI row), some (vI (2 * M (m + 1) 3)), some (vI F), some (vI mm), some (vI (k : Int)), v6, w7] ∧ frmM m M M' ∧ (∀ k c : Int, 0 ≤ k → k < w → 0 ≤ c → c < mm → M' (m + 12) (56 * k + c) = rwt M m row qs n k c) ∧ (∀ l e : Int, 0 ≤ l → l < k → 0 ≤ e → e < w → M' (m + 12) (56 * l + (mm + e)) = 2 * M (m + 1) 3)) J_319_166 w.toNat (fun k hk ls M' hI => by
    obtain ⟨v6, hls, fr2, i3, i4⟩ := hI
    subst hls
    obtain ⟨b1, b2, b3⟩ := frw M' fr2
    have q1 : ¬ w ≤ (k : Int) := by omega
    obtain ⟨ls2, M3, ⟨hls2, fr4, j3, j4, j5⟩, he2⟩ := ev_for (X := X) (y := 319) (Sh := Sh) (fun e ls M' => ls = [some (vR (some m)), some (vI row), some (vI (2 * M (m + 1) 3)), some (vI F), some (vI mm), some (vI (k : Int)), some (vI (e : Int)), w7] ∧ frmM m M M' ∧ (∀ k c : Int, 0 ≤ k → k < w → 0 ≤ c → c < mm → M' (m + 12) (56 * k + c) = rwt M m row qs n k c) ∧ (∀ l e : Int, 0 ≤ l → l < k → 0 ≤ e → e < w → M' (m + 12) (56 * l + (mm + e)) = 2 * M (m + 1) 3) ∧ (∀ y : Int, 0 ≤ y → y < e → M' (m + 12) (56 * (k : Int) + (mm + y)) = 2 * M (m + 1) 3)) J_319_180 w.toNat (fun e hel ls M' hI => by
      obtain ⟨hls, fr2, i3, i4, i5⟩ := hI
      subst hls
      obtain ⟨b1, b2, b3⟩ := frw M' fr2
      have q2 : ¬ w ≤ (e : Int) := by omega
      refine ⟨_, up M' (m + 12) (56 * (k : Int) + (mm + e)) (2 * M (m + 1) 3), ⟨rfl, fup M' _ _ fr2, fun l c l0 l1 y0 y1 => by simp (disch := omega) only [up_ne, up_eq, up_ne2]; exact i3 l c l0 l1 y0 y1, fun l y l0 l1 y0 y1 => by simp (disch := omega) only [up_ne, up_eq, up_ne2]; exact i4 l y l0 l1 y0 y1, fun y y0 y1 => ?_⟩, ?_⟩
      · by_cases z : y = e
        · subst z
          simp (disch := omega) only [up_ne, up_eq, up_ne2]
        · simp (disch := omega) only [up_ne, up_eq, up_ne2]
          exact i5 y y0 (by omega)
      · have e5 : 56 * (k : Int) + mm + e = 56 * (k : Int) + (mm + e) := by omega
        simp (disch := first | assumption | decide | omega | (simp only [List.length_cons, List.length_nil] <;> omega)) only [lgt_0, lgt_s, lset_0, lset_s, lst1_0, lst1_s, lst2_0, lst2_s, ev_iconst, ev_lconst, ev_ldc, ev_null, ev_iload, ev_lload, ev_aload, ev_istore, ev_lstore, ev_astore, ev_iinc, ev_iadd, ev_isub, ev_imul, ev_iand, ev_ior, ev_ishl, ev_ishr, ev_idiv, ev_irem, ev_ineg, ev_ladd, ev_lsub, ev_lmul, ev_land, ev_lor, ev_ldiv, ev_lrem, ev_lshl, ev_i2l, ev_l2i, ev_i2b, ev_i2s, ev_lcmp, ev_dupI, ev_dupR, ev_dup2, ev_popI, ev_popR, ev_alen, ev_xlen, ev_xald, ev_iald, ev_lald, ev_bald, ev_zald, ev_aald, ev_iast, ev_last, ev_bast, ev_zast, ev_aast, ev_gfI, ev_gfL, ev_gfR, ev_pfI, ev_pfZ, ev_pfL, ev_pfR, ev_new, ev_newa, ev_newq, ev_copy, ev_slen, ev_schr, ev_obj, ev_mmin, ev_mabs, ev_mmax, ev_goto, ev_jsr, ev_icmp_eq, ev_if_eq, ev_icmp_ne, ev_if_ne, ev_icmp_lt, ev_if_lt, ev_icmp_ge, ev_if_ge, ev_icmp_gt, ev_if_gt, ev_icmp_le, ev_if_le, ev_ifnull0, ev_ifnull1, ev_ifnn0, ev_ifnn1, ev_tsw, ev_lsw, ev_iret, ev_zret, ev_lret, ev_aret, ev_ret, ev_call0, ev_call1, ev_call2, ev_call3, ev_call4, ev_call5, ev_call6, Option.toList_some, Option.toList_none, List.cons_append, List.nil_append, List.length_cons, List.length_nil, Nat.reduceMod, Nat.reduceDiv, Nat.reduceAdd, Nat.reduceLeDiff, nc, ↓reduceIte, Nat.zero_le, reduceCtorEq, w32_id, Int.reduceEq, Int.reduceNe, Int.reduceLT, Int.reduceLE, Int.reduceGT, Int.reduceGE, Int.reduceAdd, Int.reduceSub, Int.reduceMul, Int.reduceNeg, ne_eq, not_true_eq_false, not_false_eq_true, eq_self, r_at, r_weight, k_319_180, J_319_0, k_319_0, J_319_14, k_319_14, J_319_81, k_319_81, J_319_146, k_319_146, J_319_147, k_319_147, J_319_154, k_319_154, J_319_157, k_319_157, J_319_163, k_319_163, J_319_214, k_319_214, J_319_220, k_319_220, b1, hww, q2, e5, nc_s]) [some (vR (some m)), some (vI row), some (vI (2 * M (m + 1) 3)), some (vI F), some (vI mm), some (vI (k : Int)), some (vI 0), w7] M' ⟨rfl, fr2, i3, i4, fun y y0 y1 => by omega⟩
    subst hls2
    obtain ⟨x1, x2, x3⟩ := frw M3 fr4
    have e : ((w.toNat : Nat) : Int) = w := by omega
    rw [e] at he2 j5
    refine ⟨_, M3, ⟨some (vI w), rfl, fr4, j3, fun l y l0 l1 y0 y1 => ?_⟩, ?_⟩
    · by_cases z : l = k
      · subst z; exact j5 y y0 y1
      · exact j4 l y l0 (by omega) y0 y1
    · have q2 : w ≤ w := Int.le_refl w
      simp (disch := first | assumption | decide | omega | (simp only [List.length_cons, List.length_nil] <;> omega)) only [lgt_0, lgt_s, lset_0, lset_s, lst1_0, lst1_s, lst2_0, lst2_s, ev_iconst, ev_lconst, ev_ldc, ev_null, ev_iload, ev_lload, ev_aload, ev_istore, ev_lstore, ev_astore, ev_iinc, ev_iadd, ev_isub, ev_imul, ev_iand, ev_ior, ev_ishl, ev_ishr, ev_idiv, ev_irem, ev_ineg, ev_ladd, ev_lsub, ev_lmul, ev_land, ev_lor, ev_ldiv, ev_lrem, ev_lshl, ev_i2l, ev_l2i, ev_i2b, ev_i2s, ev_lcmp, ev_dupI, ev_dupR, ev_dup2, ev_popI, ev_popR, ev_alen, ev_xlen, ev_xald, ev_iald, ev_lald, ev_bald, ev_zald, ev_aald, ev_iast, ev_last, ev_bast, ev_zast, ev_aast, ev_gfI, ev_gfL, ev_gfR, ev_pfI, ev_pfZ, ev_pfL, ev_pfR, ev_new, ev_newa, ev_newq, ev_copy, ev_slen, ev_schr, ev_obj, ev_mmin, ev_mabs, ev_mmax, ev_goto, ev_jsr, ev_icmp_eq, ev_if_eq, ev_icmp_ne, ev_if_ne, ev_icmp_lt, ev_if_lt, ev_icmp_ge, ev_if_ge, ev_icmp_gt, ev_if_gt, ev_icmp_le, ev_if_le, ev_ifnull0, ev_ifnull1, ev_ifnn0, ev_ifnn1, ev_tsw, ev_lsw, ev_iret, ev_zret, ev_lret, ev_aret, ev_ret, ev_call0, ev_call1, ev_call2, ev_call3, ev_call4, ev_call5, ev_call6, Option.toList_some, Option.toList_none, List.cons_append, List.nil_append, List.length_cons, List.length_nil, Nat.reduceMod, Nat.reduceDiv, Nat.reduceAdd, Nat.reduceLeDiff, nc, ↓reduceIte, Nat.zero_le, reduceCtorEq, w32_id, Int.reduceEq, Int.reduceNe, Int.reduceLT, Int.reduceLE, Int.reduceGT, Int.reduceGE, Int.reduceAdd, Int.reduceSub, Int.reduceMul, Int.reduceNeg, ne_eq, not_true_eq_false, not_false_eq_true, eq_self, r_at, k_319_166, J_319_0, k_319_0, J_319_14, k_319_14, J_319_81, k_319_81, J_319_146, k_319_146, J_319_147, k_319_147, J_319_154, k_319_154, J_319_157, k_319_157, J_319_163, k_319_163, J_319_214, k_319_214, J_319_220, k_319_220, b1, hww, q1]
      rw [he2]
      simp (disch := first | assumption | decide | omega | (simp only [List.length_cons, List.length_nil] <;> omega)) only [lgt_0, lgt_s, lset_0, lset_s, lst1_0, lst1_s, lst2_0, lst2_s, ev_iconst, ev_lconst, ev_ldc, ev_null, ev_iload, ev_lload, ev_aload, ev_istore, ev_lstore, ev_astore, ev_iinc, ev_iadd, ev_isub, ev_imul, ev_iand, ev_ior, ev_ishl, ev_ishr, ev_idiv, ev_irem, ev_ineg, ev_ladd, ev_lsub, ev_lmul, ev_land, ev_lor, ev_ldiv, ev_lrem, ev_lshl, ev_i2l, ev_l2i, ev_i2b, ev_i2s, ev_lcmp, ev_dupI, ev_dupR, ev_dup2, ev_popI, ev_popR, ev_alen, ev_xlen, ev_xald, ev_iald, ev_lald, ev_bald, ev_zald, ev_aald, ev_iast, ev_last, ev_bast, ev_zast, ev_aast, ev_gfI, ev_gfL, ev_gfR, ev_pfI, ev_pfZ, ev_pfL, ev_pfR, ev_new, ev_newa, ev_newq, ev_copy, ev_slen, ev_schr, ev_obj, ev_mmin, ev_mabs, ev_mmax, ev_goto, ev_jsr, ev_icmp_eq, ev_if_eq, ev_icmp_ne, ev_if_ne, ev_icmp_lt, ev_if_lt, ev_icmp_ge, ev_if_ge, ev_icmp_gt, ev_if_gt, ev_icmp_le, ev_if_le, ev_ifnull0, ev_ifnull1, ev_ifnn0, ev_ifnn1, ev_tsw, ev_lsw, ev_iret, ev_zret, ev_lret, ev_aret, ev_ret, ev_call0, ev_call1, ev_call2, ev_call3, ev_call4, ev_call5, ev_call6, Option.toList_some, Option.toList_none, List.cons_append, List.nil_append, List.length_cons, List.length_nil, Nat.reduceMod, Nat.reduceDiv, Nat.reduceAdd, Nat.reduceLeDiff, nc, ↓reduceIte, Nat.zero_le, reduceCtorEq, w32_id, Int.reduceEq, Int.reduceNe, Int.reduceLT, Int.reduceLE, Int.reduceGT, Int.reduceGE, Int.reduceAdd, Int.reduceSub, Int.reduceMul, Int.reduceNeg, ne_eq, not_true_eq_false, not_false_eq_true, eq_self, r_at, k_319_180, J_319_0, k_319_0, J_319_14, k_319_14, J_319_81, k_319_81, J_319_146, k_319_146, J_319_147, k_319_147, J_319_154, k_319_154, J_319_157, k_319_157, J_319_163, k_319_163, J_319_214, k_319_214, J_319_220, k_319_220, x1, hww, q2, nc_s]) [some (vR (some m)), some (vI row), some (vI (2 * M (m + 1) 3)), some (vI F), some (vI mm), some (vI 0), w6, w7] M2 ⟨w6, rfl, fr, i1, fun l e l0 l1 => by omega⟩
  subst hls
  have ew : ((w.toNat : Nat) : Int) = w := by omega
  rw [ew] at i4 he
  rw [he]
  clear he
  obtain ⟨x1, x2, x3⟩ := frw M3 fr3
  -- the goals
  generalize hqg : (fun i => decide (i / w = row)) = qg
  have hqgi : ∀ i, qg i = decide (i / w = row) := fun i => by rw [← hqg]
  have g1 : cntB qg F.toNat = 0 := cnt_z fun j hj z => by
    rw [hqgi] at z
    have e := of_decide_eq_true z
    have e1 := hrow j
    omega
  have gt : ∀ j : Nat, F.toNat ≤ j → j < F.toNat + w.toNat → qg j = true := fun j h1 h2 => by
    rw [hqgi]
    exact decide_eq_true ((hrow j).mpr (by omega))
  have g2 : ∀ k : Nat, k ≤ w.toNat → cntB qg (F.toNat + k) = k := fun k hk => cnt_run g1 (fun j h1 h2 => gt j h1 (by omega))
  have gN : cntB qg n.toNat = w := by
    rw [cnt_same (i := F.toNat + w.toNat) (by omega) (fun j h1 h2 z => by
      rw [hqgi] at z
      have e := of_decide_eq_true z
      have e1 := hrow j
      omega), g2 _ (Nat.le_refl _)]
    omega
  have go : ∀ x : Nat, x < w.toNat → ownB qg n.toNat x = F + x := fun x hx => by
    have e := ownB_at (q := qg) (n := n.toNat) (i := F.toNat + x) (by omega) (gt _ (by omega) (by omega))
    rw [g2 x (by omega)] at e
    rw [e]
    omega
  have sk : SKm w (mm + w) (fun x c => M3 (m + 12) (56 * (x - 1) + c - 1)) m M3 := by
    refine ⟨by omega, fun x k hx hk => ?_, fun _ _ => rfl⟩
    have x0 := hx.1
    have x1 := hx.2
    have k0 := hk.1
    have k1 := hk.2
    dsimp only
    by_cases z : k - 1 < mm
    · have e := i3 (x - 1) (k - 1) (by omega) (by omega) (by omega) z
      rw [show 56 * (x - 1) + (k - 1) = 56 * (x - 1) + k - 1 by omega] at e
      rw [e]
      unfold rwt
      have := lr (ownB qs n.toNat (k - 1)) (M (m + 1) 0 * row + (x - 1))
      split <;> omega
    · have e := i4 (x - 1) (k - 1 - mm) (by omega) (by omega) (by omega) (by omega)
      rw [show 56 * (x - 1) + (mm + (k - 1 - mm)) = 56 * (x - 1) + k - 1 by omega] at e
      rw [e]
      omega
  obtain ⟨v, M4, hA, fr4, e4⟩ := m_gives0 (X := X) hmd sk
  have hM := min_of_asg (a := fun x k => lnkM M m 0 (ownB qs n.toNat k) (F + x)) (al := 2 * M (m + 1) 3) (n := mm.toNat) hA (by omega) (by omega) (fun x k hx hk => by
    have e := i3 x k (by omega) (by omega) (by omega) (by omega)
    rw [show (56 : Int) * x + k = 56 * ((x : Int) + 1 - 1) + (k + 1) - 1 by omega] at e
    rw [e]
    unfold rwt
    rw [hww, hF]) (fun x k hx h1 h2 => by
    have e := i4 x (k - mm) (by omega) (by omega) (by omega) (by omega)
    rw [show (56 : Int) * x + (mm + (k - mm)) = 56 * ((x : Int) + 1 - 1) + (k + 1) - 1 by omega] at e
    exact e)
  have hv : lstM M m 0 qs qg = v := by
    rw [← lstF_is hM]
    unfold lstM lstV
    rw [hww, hhh, hn, cN, gN, if_pos rfl]
    exact lstF_congr fun x k hx hk => by
      rw [go x hx]
      unfold lnkM
      rw [hww, hhh, hn]
  refine ⟨M4, ⟨fun b b0 b1 => by rw [fr4 b (by omega)]; exact fr3.1 b b0 b1, fun i hi => by rw [fr4 m (by omega)]; exact fr3.2 i hi⟩, ?_⟩
  have q2 : w ≤ w := Int.le_refl w
  simp (disch := first | assumption | decide | omega | (simp only [List.length_cons, List.length_nil] <;> omega)) only [lgt_0, lgt_s, lset_0, lset_s, lst1_0, lst1_s, lst2_0, lst2_s, ev_iconst, ev_lconst, ev_ldc, ev_null, ev_iload, ev_lload, ev_aload, ev_istore, ev_lstore, ev_astore, ev_iinc, ev_iadd, ev_isub, ev_imul, ev_iand, ev_ior, ev_ishl, ev_ishr, ev_idiv, ev_irem, ev_ineg, ev_ladd, ev_lsub, ev_lmul, ev_land, ev_lor, ev_ldiv, ev_lrem, ev_lshl, ev_i2l, ev_l2i, ev_i2b, ev_i2s, ev_lcmp, ev_dupI, ev_dupR, ev_dup2, ev_popI, ev_popR, ev_alen, ev_xlen, ev_xald, ev_iald, ev_lald, ev_bald, ev_zald, ev_aald, ev_iast, ev_last, ev_bast, ev_zast, ev_aast, ev_gfI, ev_gfL, ev_gfR, ev_pfI, ev_pfZ, ev_pfL, ev_pfR, ev_new, ev_newa, ev_newq, ev_copy, ev_slen, ev_schr, ev_obj, ev_mmin, ev_mabs, ev_mmax, ev_goto, ev_jsr, ev_icmp_eq, ev_if_eq, ev_icmp_ne, ev_if_ne, ev_icmp_lt, ev_if_lt, ev_icmp_ge, ev_if_ge, ev_icmp_gt, ev_if_gt, ev_icmp_le, ev_if_le, ev_ifnull0, ev_ifnull1, ev_ifnn0, ev_ifnn1, ev_tsw, ev_lsw, ev_iret, ev_zret, ev_lret, ev_aret, ev_ret, ev_call0, ev_call1, ev_call2, ev_call3, ev_call4, ev_call5, ev_call6, Option.toList_some, Option.toList_none, List.cons_append, List.nil_append, List.length_cons, List.length_nil, Nat.reduceMod, Nat.reduceDiv, Nat.reduceAdd, Nat.reduceLeDiff, nc, ↓reduceIte, Nat.zero_le, reduceCtorEq, w32_id, Int.reduceEq, Int.reduceNe, Int.reduceLT, Int.reduceLE, Int.reduceGT, Int.reduceGE, Int.reduceAdd, Int.reduceSub, Int.reduceMul, Int.reduceNeg, ne_eq, not_true_eq_false, not_false_eq_true, eq_self, r_at, k_319_166, J_319_0, k_319_0, J_319_14, k_319_14, J_319_81, k_319_81, J_319_146, k_319_146, J_319_147, k_319_147, J_319_154, k_319_154, J_319_157, k_319_157, J_319_163, k_319_163, J_319_214, k_319_214, J_319_220, k_319_220, x1, hww, q2, e4]
  rw [hv]
  have eg := m_gives (X := X) (M := M4) hmd (v := v)
  simp (disch := first | assumption | decide | omega | (simp only [List.length_cons, List.length_nil] <;> omega)) only [lgt_0, lgt_s, lset_0, lset_s, lst1_0, lst1_s, lst2_0, lst2_s, ev_iconst, ev_lconst, ev_ldc, ev_null, ev_iload, ev_lload, ev_aload, ev_istore, ev_lstore, ev_astore, ev_iinc, ev_iadd, ev_isub, ev_imul, ev_iand, ev_ior, ev_ishl, ev_ishr, ev_idiv, ev_irem, ev_ineg, ev_ladd, ev_lsub, ev_lmul, ev_land, ev_lor, ev_ldiv, ev_lrem, ev_lshl, ev_i2l, ev_l2i, ev_i2b, ev_i2s, ev_lcmp, ev_dupI, ev_dupR, ev_dup2, ev_popI, ev_popR, ev_alen, ev_xlen, ev_xald, ev_iald, ev_lald, ev_bald, ev_zald, ev_aald, ev_iast, ev_last, ev_bast, ev_zast, ev_aast, ev_gfI, ev_gfL, ev_gfR, ev_pfI, ev_pfZ, ev_pfL, ev_pfR, ev_new, ev_newa, ev_newq, ev_copy, ev_slen, ev_schr, ev_obj, ev_mmin, ev_mabs, ev_mmax, ev_goto, ev_jsr, ev_icmp_eq, ev_if_eq, ev_icmp_ne, ev_if_ne, ev_icmp_lt, ev_if_lt, ev_icmp_ge, ev_if_ge, ev_icmp_gt, ev_if_gt, ev_icmp_le, ev_if_le, ev_ifnull0, ev_ifnull1, ev_ifnn0, ev_ifnn1, ev_tsw, ev_lsw, ev_iret, ev_zret, ev_lret, ev_aret, ev_ret, ev_call0, ev_call1, ev_call2, ev_call3, ev_call4, ev_call5, ev_call6, Option.toList_some, Option.toList_none, List.cons_append, List.nil_append, List.length_cons, List.length_nil, Nat.reduceMod, Nat.reduceDiv, Nat.reduceAdd, Nat.reduceLeDiff, nc, ↓reduceIte, Nat.zero_le, reduceCtorEq, w32_id, Int.reduceEq, Int.reduceNe, Int.reduceLT, Int.reduceLE, Int.reduceGT, Int.reduceGE, Int.reduceAdd, Int.reduceSub, Int.reduceMul, Int.reduceNeg, ne_eq, not_true_eq_false, not_false_eq_true, eq_self, eg]
end MAL
