/-! OPERATIONS: what all of them share. -/
abbrev AA (M : Mem) : Int → Int := cA (M (140 + 1)) 0
def prA (A : Int → Int) (i j : Int) : Int := priF A (xH A) (xW A) (wyA A i j) i j
def stA (A : Int → Int) (i j : Int) : Int := strF A (xP A) (wyA A i j) i j
section BAS
variable {X : Int → Int} {M : Mem}
theorem s_answer {v : Int} : evc X 77 [vR (some 0), vI v] SH0 M = some (some (vI v), SH0, up M 0 0 0) := by
  have k0 := w0_k0
  rw [E_77 k0]
  simp (disch := first | assumption | decide | omega | (simp only [List.length_cons, List.length_nil] <;> omega)) only [lgt_0, lgt_s, lset_0, lset_s, lst1_0, lst1_s, lst2_0, lst2_s, ev_iconst, ev_lconst, ev_ldc, ev_null, ev_iload, ev_lload, ev_aload, ev_istore, ev_lstore, ev_astore, ev_iinc, ev_iadd, ev_isub, ev_imul, ev_iand, ev_ior, ev_ishl, ev_ishr, ev_idiv, ev_irem, ev_ineg, ev_ladd, ev_lsub, ev_lmul, ev_land, ev_lor, ev_ldiv, ev_lrem, ev_lshl, ev_i2l, ev_l2i, ev_i2b, ev_i2s, ev_lcmp, ev_dupI, ev_dupR, ev_dup2, ev_popI, ev_popR, ev_alen, ev_xlen, ev_xald, ev_iald, ev_lald, ev_bald, ev_zald, ev_aald, ev_iast, ev_last, ev_bast, ev_zast, ev_aast, ev_gfI, ev_gfL, ev_gfR, ev_pfI, ev_pfZ, ev_pfL, ev_pfR, ev_new, ev_newa, ev_newq, ev_copy, ev_slen, ev_schr, ev_obj, ev_mmin, ev_mabs, ev_mmax, ev_goto, ev_jsr, ev_icmp_eq, ev_if_eq, ev_icmp_ne, ev_if_ne, ev_icmp_lt, ev_if_lt, ev_icmp_ge, ev_if_ge, ev_icmp_gt, ev_if_gt, ev_icmp_le, ev_if_le, ev_ifnull0, ev_ifnull1, ev_ifnn0, ev_ifnn1, ev_tsw, ev_lsw, ev_iret, ev_zret, ev_lret, ev_aret, ev_ret, ev_call0, ev_call1, ev_call2, ev_call3, ev_call4, ev_call5, ev_call6, Option.toList_some, Option.toList_none, List.cons_append, List.nil_append, List.length_cons, List.length_nil, Nat.reduceMod, Nat.reduceDiv, Nat.reduceLeDiff, nc, ↓reduceIte, Nat.zero_le, reduceCtorEq, w32_id, Int.reduceEq, Int.reduceNe, Int.reduceLT, Int.reduceLE, Int.reduceGT, Int.reduceGE, Int.reduceAdd, Int.reduceSub, Int.reduceMul, Int.reduceNeg, ne_eq, not_true_eq_false, not_false_eq_true, eq_self, ↓if_pos, ↓if_neg, w0_r0_3, w0_r0_4, w0_r0_5, w0_r0_6, w0_r0_7, w0_r0_8, w0_r0_10, w0_r0_11, w0_r0_12, w0_r0_13, w0_r0_14, w0_r0_15, w0_r0_16, w0_r0_17, w0_r0_18, J_77_0, k_77_0, ]
theorem s_none {v : Int} : evc X 31 [vR (some 0), vI v] SH0 M = some (some (vI (-1)), SH0, up M 0 0 v) := by
  have k0 := w0_k0
  rw [E_31 k0]
  simp (disch := first | assumption | decide | omega | (simp only [List.length_cons, List.length_nil] <;> omega)) only [lgt_0, lgt_s, lset_0, lset_s, lst1_0, lst1_s, lst2_0, lst2_s, ev_iconst, ev_lconst, ev_ldc, ev_null, ev_iload, ev_lload, ev_aload, ev_istore, ev_lstore, ev_astore, ev_iinc, ev_iadd, ev_isub, ev_imul, ev_iand, ev_ior, ev_ishl, ev_ishr, ev_idiv, ev_irem, ev_ineg, ev_ladd, ev_lsub, ev_lmul, ev_land, ev_lor, ev_ldiv, ev_lrem, ev_lshl, ev_i2l, ev_l2i, ev_i2b, ev_i2s, ev_lcmp, ev_dupI, ev_dupR, ev_dup2, ev_popI, ev_popR, ev_alen, ev_xlen, ev_xald, ev_iald, ev_lald, ev_bald, ev_zald, ev_aald, ev_iast, ev_last, ev_bast, ev_zast, ev_aast, ev_gfI, ev_gfL, ev_gfR, ev_pfI, ev_pfZ, ev_pfL, ev_pfR, ev_new, ev_newa, ev_newq, ev_copy, ev_slen, ev_schr, ev_obj, ev_mmin, ev_mabs, ev_mmax, ev_goto, ev_jsr, ev_icmp_eq, ev_if_eq, ev_icmp_ne, ev_if_ne, ev_icmp_lt, ev_if_lt, ev_icmp_ge, ev_if_ge, ev_icmp_gt, ev_if_gt, ev_icmp_le, ev_if_le, ev_ifnull0, ev_ifnull1, ev_ifnn0, ev_ifnn1, ev_tsw, ev_lsw, ev_iret, ev_zret, ev_lret, ev_aret, ev_ret, ev_call0, ev_call1, ev_call2, ev_call3, ev_call4, ev_call5, ev_call6, Option.toList_some, Option.toList_none, List.cons_append, List.nil_append, List.length_cons, List.length_nil, Nat.reduceMod, Nat.reduceDiv, Nat.reduceLeDiff, nc, ↓reduceIte, Nat.zero_le, reduceCtorEq, w32_id, Int.reduceEq, Int.reduceNe, Int.reduceLT, Int.reduceLE, Int.reduceGT, Int.reduceGE, Int.reduceAdd, Int.reduceSub, Int.reduceMul, Int.reduceNeg, ne_eq, not_true_eq_false, not_false_eq_true, eq_self, ↓if_pos, ↓if_neg, w0_r0_3, w0_r0_4, w0_r0_5, w0_r0_6, w0_r0_7, w0_r0_8, w0_r0_10, w0_r0_11, w0_r0_12, w0_r0_13, w0_r0_14, w0_r0_15, w0_r0_16, w0_r0_17, w0_r0_18, J_31_0, k_31_0, ]
theorem s_agree : evc X 24 [vR (some 0)] SH0 M = some (some (vI 1), SH0, up M 0 0 0) := by
  have k0 := w0_k0
  rw [E_24 k0]
  simp (disch := first | assumption | decide | omega | (simp only [List.length_cons, List.length_nil] <;> omega)) only [lgt_0, lgt_s, lset_0, lset_s, lst1_0, lst1_s, lst2_0, lst2_s, ev_iconst, ev_lconst, ev_ldc, ev_null, ev_iload, ev_lload, ev_aload, ev_istore, ev_lstore, ev_astore, ev_iinc, ev_iadd, ev_isub, ev_imul, ev_iand, ev_ior, ev_ishl, ev_ishr, ev_idiv, ev_irem, ev_ineg, ev_ladd, ev_lsub, ev_lmul, ev_land, ev_lor, ev_ldiv, ev_lrem, ev_lshl, ev_i2l, ev_l2i, ev_i2b, ev_i2s, ev_lcmp, ev_dupI, ev_dupR, ev_dup2, ev_popI, ev_popR, ev_alen, ev_xlen, ev_xald, ev_iald, ev_lald, ev_bald, ev_zald, ev_aald, ev_iast, ev_last, ev_bast, ev_zast, ev_aast, ev_gfI, ev_gfL, ev_gfR, ev_pfI, ev_pfZ, ev_pfL, ev_pfR, ev_new, ev_newa, ev_newq, ev_copy, ev_slen, ev_schr, ev_obj, ev_mmin, ev_mabs, ev_mmax, ev_goto, ev_jsr, ev_icmp_eq, ev_if_eq, ev_icmp_ne, ev_if_ne, ev_icmp_lt, ev_if_lt, ev_icmp_ge, ev_if_ge, ev_icmp_gt, ev_if_gt, ev_icmp_le, ev_if_le, ev_ifnull0, ev_ifnull1, ev_ifnn0, ev_ifnn1, ev_tsw, ev_lsw, ev_iret, ev_zret, ev_lret, ev_aret, ev_ret, ev_call0, ev_call1, ev_call2, ev_call3, ev_call4, ev_call5, ev_call6, Option.toList_some, Option.toList_none, List.cons_append, List.nil_append, List.length_cons, List.length_nil, Nat.reduceMod, Nat.reduceDiv, Nat.reduceLeDiff, nc, ↓reduceIte, Nat.zero_le, reduceCtorEq, w32_id, Int.reduceEq, Int.reduceNe, Int.reduceLT, Int.reduceLE, Int.reduceGT, Int.reduceGE, Int.reduceAdd, Int.reduceSub, Int.reduceMul, Int.reduceNeg, ne_eq, not_true_eq_false, not_false_eq_true, eq_self, ↓if_pos, ↓if_neg, w0_r0_3, w0_r0_4, w0_r0_5, w0_r0_6, w0_r0_7, w0_r0_8, w0_r0_10, w0_r0_11, w0_r0_12, w0_r0_13, w0_r0_14, w0_r0_15, w0_r0_16, w0_r0_17, w0_r0_18, J_24_0, k_24_0, ]
theorem s_refuse {v : Int} : evc X 21 [vR (some 0), vI v] SH0 M = some (some (vI 0), SH0, up M 0 0 v) := by
  have k0 := w0_k0
  rw [E_21 k0]
  simp (disch := first | assumption | decide | omega | (simp only [List.length_cons, List.length_nil] <;> omega)) only [lgt_0, lgt_s, lset_0, lset_s, lst1_0, lst1_s, lst2_0, lst2_s, ev_iconst, ev_lconst, ev_ldc, ev_null, ev_iload, ev_lload, ev_aload, ev_istore, ev_lstore, ev_astore, ev_iinc, ev_iadd, ev_isub, ev_imul, ev_iand, ev_ior, ev_ishl, ev_ishr, ev_idiv, ev_irem, ev_ineg, ev_ladd, ev_lsub, ev_lmul, ev_land, ev_lor, ev_ldiv, ev_lrem, ev_lshl, ev_i2l, ev_l2i, ev_i2b, ev_i2s, ev_lcmp, ev_dupI, ev_dupR, ev_dup2, ev_popI, ev_popR, ev_alen, ev_xlen, ev_xald, ev_iald, ev_lald, ev_bald, ev_zald, ev_aald, ev_iast, ev_last, ev_bast, ev_zast, ev_aast, ev_gfI, ev_gfL, ev_gfR, ev_pfI, ev_pfZ, ev_pfL, ev_pfR, ev_new, ev_newa, ev_newq, ev_copy, ev_slen, ev_schr, ev_obj, ev_mmin, ev_mabs, ev_mmax, ev_goto, ev_jsr, ev_icmp_eq, ev_if_eq, ev_icmp_ne, ev_if_ne, ev_icmp_lt, ev_if_lt, ev_icmp_ge, ev_if_ge, ev_icmp_gt, ev_if_gt, ev_icmp_le, ev_if_le, ev_ifnull0, ev_ifnull1, ev_ifnn0, ev_ifnn1, ev_tsw, ev_lsw, ev_iret, ev_zret, ev_lret, ev_aret, ev_ret, ev_call0, ev_call1, ev_call2, ev_call3, ev_call4, ev_call5, ev_call6, Option.toList_some, Option.toList_none, List.cons_append, List.nil_append, List.length_cons, List.length_nil, Nat.reduceMod, Nat.reduceDiv, Nat.reduceLeDiff, nc, ↓reduceIte, Nat.zero_le, reduceCtorEq, w32_id, Int.reduceEq, Int.reduceNe, Int.reduceLT, Int.reduceLE, Int.reduceGT, Int.reduceGE, Int.reduceAdd, Int.reduceSub, Int.reduceMul, Int.reduceNeg, ne_eq, not_true_eq_false, not_false_eq_true, eq_self, ↓if_pos, ↓if_neg, w0_r0_3, w0_r0_4, w0_r0_5, w0_r0_6, w0_r0_7, w0_r0_8, w0_r0_10, w0_r0_11, w0_r0_12, w0_r0_13, w0_r0_14, w0_r0_15, w0_r0_16, w0_r0_17, w0_r0_18, J_21_0, k_21_0, ]
theorem ro_up {M' : Mem} {st : Int} (h1 : ∀ b, 0 < b → (b < 36 ∨ 45 < b) → (b < 67 ∨ 80 < b) → M' b = M b) (h2 : ∀ i, i ≠ 0 → M' 0 i = M 0 i) : RO M (up M' 0 0 st) st := ⟨fun b a b1 b2 => by rw [up_ne (by omega)]; exact h1 b a b1 b2, fun i hi => by rw [up_ne2 hi]; exact h2 i hi, up_eq⟩
theorem ro_0 {st : Int} : RO M (up M 0 0 st) st := ro_up (fun _ _ _ _ => rfl) (fun _ _ => rfl)
theorem ro_f {M' : Mem} {st : Int} (h : frm 36 45 M M') : RO M (up M' 0 0 st) st := ro_up (fun b _ b1 _ => h b (by omega)) (fun i _ => by rw [h 0 (by omega)])
theorem rom_up {M' : Mem} {st : Int} (h1 : ∀ b, b ≠ 140 → (b < 151 ∨ (159 < b ∧ b < 161) ∨ 163 < b) → M' b = M b) (h2 : ∀ i, (i < 36 ∨ i = 40 ∨ i = 41 ∨ 43 < i) → i ≠ 2 → M' 140 i = M 140 i) : ROm M (up M' 140 2 st) st := ⟨fun b b1 b2 => by rw [up_ne (by omega)]; exact h1 b b1 b2, fun i hi h => by rw [up_ne2 h]; exact h2 i hi h, up_eq⟩
theorem rom_0 {st : Int} : ROm M (up M 140 2 st) st := rom_up (fun _ _ _ => rfl) (fun _ _ _ => rfl)
theorem rom_f {M' : Mem} {st : Int} (h : frmM 140 M M') : ROm M (up M' 140 2 st) st := rom_up (fun b b1 b2 => h.1 b b1 (by omega)) (fun i hi _ => h.2 i (by omega))
theorem RO_m {M' : Mem} {st : Int} (h : RO M M' st) : ∀ b, 80 < b → M' b = M b := fun b hb => h.1 b (by omega) (by omega) (by omega)
theorem RO_A {M' : Mem} {st : Int} (h : RO M M' st) : M' (140 + 1) = M (140 + 1) := RO_m h _ (by omega)
/-- what the relation says of the chart -/
theorem rr_c (h : RR' M) : RC1 M 4 (AA M) (nA (M (140 + 2)) 0) := h.2.2.2.1
theorem rr_gA (h : RR' M) : goodN (AA M) (xH (AA M)) (xP (AA M)) (xR (AA M)) (xn (AA M)) := rch_A (rr_c h)
theorem rr_ve (h : RR' M) : VE (M (4 + 1)) (M (4 + 6)) (M (4 + 7)) (M (4 + 8)) (M (4 + 3)) (M 4 8) (AA M) (xH (AA M)) (xP (AA M)) (xR (AA M)) (xW (AA M)) (xn (AA M)) := rch_ve (rr_c h)
theorem rr_gc (h : RR' M) : goodC M 4 := ve_goodN (rr_ve h) (rr_gA h)
theorem rr_gw (h : RR' M) : goodW M 4 := fun k a b => ((rr_c h).2.2.2.2.1 k a b).1
theorem rr_at {M : Mem} {k : Int} (h0 : 0 ≤ k) (h1 : k < 80) : M (140 + 1) k = AA M k := (cA_0 h0 h1).symm
theorem rr_vm (h : RR' M) : VE (M (140 + 1)) (M (140 + 10)) (fun i => M (140 + 9) i % M (140 + 1) 0) (fun i => i / M (140 + 1) 0) (fun k => M (140 + 1) (16 + 2 * k)) (M (140 + 1) 0 * M (140 + 1) 1) (AA M) (xH (AA M)) (xP (AA M)) (xR (AA M)) (xW (AA M)) (xn (AA M)) := by
  have r := rnu_ve h.2.2.2.2.1
  have gs := (rr_gA h).1
  obtain ⟨r1, r2, r3, r4⟩ := r
  have e0 : M (140 + 1) 0 = AA M 0 := rr_at (by omega) (by omega)
  have e1 : M (140 + 1) 1 = AA M 1 := rr_at (by omega) (by omega)
  have e2 : M (140 + 1) 2 = AA M 2 := rr_at (by omega) (by omega)
  refine ⟨by rw [e0, e1], fun k a b => rr_at a (by omega), fun i a b => ?_, fun k a b => rr_at (by omega) (by have := gs.2.2.1; omega)⟩
  rw [e0, e1] at b
  have e := r3 i a b
  rw [e0]
  exact e
theorem rr_gm (h : RR' M) : goodM M 140 := by
  refine ⟨ve_goodN (rr_vm h) (rr_gA h), fun i a b => ?_⟩
  have e0 : M (140 + 1) 0 = AA M 0 := rr_at (by omega) (by omega)
  have e1 : M (140 + 1) 1 = AA M 1 := rr_at (by omega) (by omega)
  rw [e0, e1] at b
  have g := rr_gA h
  have hw := xn_pos g.1 (show 0 < xn (AA M) from by have : xn (AA M) = AA M 0 * AA M 1 := rfl; omega)
  have e := plF_rng a b hw
  have gn : AA M 0 * AA M 1 ≤ 48 := g.2.1.2
  rw [(h.2.2.2.2.1 i a b).1]
  exact ⟨e.1, Int.lt_of_lt_of_le e.2.1 gn⟩
theorem rr_gv (h : RR' M) : goodV M 140 := fun k a b => by
  rw [rr_at (M := M) (by omega) (by omega)]
  exact ((rr_c h).2.2.2.2.1 k a b).2.1
theorem wy_c (h : RR' M) {i j : Int} : wayC M 4 i j = wyA (AA M) i j := ve_way (rr_ve h)
theorem wy_m (h : RR' M) {i j : Int} : wayM M 140 i j = wyA (AA M) i j := ve_way (rr_vm h)
theorem n_c (h : RR' M) : M 4 8 = xn (AA M) := (rr_ve h).1
theorem n_m (h : RR' M) : M (140 + 1) 0 * M (140 + 1) 1 = xn (AA M) := (rr_vm h).1
theorem S_c (h : RR' M) {k : Int} (h0 : 0 ≤ k) (h1 : k < 15) : M (4 + 1) k = AA M k := (rr_ve h).2.1 k h0 h1
/-- the chart's specs in the common words -/
theorem c_way (h : RR' M) {i j : Int} (hi : -2147483648 ≤ i ∧ i < 2147483648) (hj : -2147483648 ≤ j ∧ j < 2147483648) : evc X 100 [vR (some 4), vI i, vI j] SH0 M = some (some (vI (wyA (AA M) i j)), SH0, M) := by
  rw [s_way w0_ch4 (rr_gc h) hi hj, ← wy_c h]
theorem c_price (h : RR' M) {i j : Int} (hi : -2147483648 ≤ i ∧ i < 2147483648) (hj : -2147483648 ≤ j ∧ j < 2147483648) : evc X 103 [vR (some 4), vI i, vI j] SH0 M = some (some (vI (prA (AA M) i j)), SH0, M) := by
  rw [s_priceOf w0_ch4 (rr_gc h) (rr_gw h) hi hj]
  unfold prA wyA
  rw [← ve_pri (rr_ve h) (rr_gc h)]
theorem c_strand (h : RR' M) {i j : Int} (hi : -2147483648 ≤ i ∧ i < 2147483648) (hj : -2147483648 ≤ j ∧ j < 2147483648) : evc X 106 [vR (some 4), vI i, vI j] SH0 M = some (some (vI (stA (AA M) i j)), SH0, M) := by
  rw [s_strandOf w0_ch4 (rr_gc h) hi hj]
  unfold stA wyA
  rw [← ve_str (rr_ve h)]
theorem c_hasStitch (h : RR' M) {i : Int} : evc X 95 [vR (some 4), vI i] SH0 M = some (some (vI (if 0 ≤ i ∧ i < xn (AA M) then 1 else 0)), SH0, M) := by
  rw [s_hasStitch w0_ch4, n_c h]
theorem c_hasCouple (h : RR' M) {i j : Int} : evc X 99 [vR (some 4), vI i, vI j] SH0 M = some (some (vI (if 0 ≤ i ∧ i < j ∧ j < xn (AA M) then 1 else 0)), SH0, M) := by
  rw [s_hasCouple w0_ch4, n_c h]
theorem c_hasRow (h : RR' M) {i : Int} : evc X 97 [vR (some 4), vI i] SH0 M = some (some (vI (if 0 ≤ i ∧ i < AA M 1 then 1 else 0)), SH0, M) := by
  rw [s_hasRow w0_ch4, S_c h (by omega) (by omega)]
theorem c_hasColour (h : RR' M) {i : Int} : evc X 92 [vR (some 4), vI i] SH0 M = some (some (vI (if 0 ≤ i ∧ i < AA M 2 then 1 else 0)), SH0, M) := by
  rw [s_hasColour w0_ch4, S_c h (by omega) (by omega)]
theorem d_way (h : RR' M) {i j : Int} (hi : 0 ≤ i) (hij : i < j) (hj : j < xn (AA M)) : evc X 277 [vR (some 140), vI i, vI j] SH0 M = some (some (vI (wyA (AA M) i j)), SH0, M) := by
  rw [m_way w0_md140 (rr_gm h) hi hij (by rw [n_m h]; exact hj), ← wy_m h]
theorem d_cost (h : RR' M) {i j : Int} (hi : 0 ≤ i) (hij : i < j) (hj : j < xn (AA M)) (hne : wyA (AA M) i j ≠ 0) : evc X 279 [vR (some 140), vI i, vI j] SH0 M = some (some (vI (prA (AA M) i j)), SH0, M) := by
  rw [m_costOf w0_md140 (rr_gm h) (rr_gv h) hi hij (by rw [n_m h]; exact hj) (by rw [← wy_m h] at hne; exact hne)]
  unfold prA wyA
  rw [← ve_pri (rr_vm h) (rr_gm h).1]
theorem d_strand (h : RR' M) {i j : Int} (hi : 0 ≤ i) (hij : i < j) (hj : j < xn (AA M)) (hne : wyA (AA M) i j ≠ 0) : evc X 281 [vR (some 140), vI i, vI j] SH0 M = some (some (vI (stA (AA M) i j)), SH0, M) := by
  rw [m_strandOf w0_md140 (rr_gm h) hi hij (by rw [n_m h]; exact hj) (by rw [← wy_m h] at hne; exact hne)]
  unfold stA wyA
  rw [← ve_str (rr_vm h)]
theorem d_isStitch (h : RR' M) {i : Int} : evc X 270 [vR (some 140), vL i] SH0 M = some (some (vI (if 0 ≤ i ∧ i < xn (AA M) then 1 else 0)), SH0, M) := by
  rw [m_isStitch w0_md140 (rr_gm h).1.1, n_m h]
theorem d_isRow (h : RR' M) {i : Int} : evc X 274 [vR (some 140), vI i] SH0 M = some (some (vI (if 0 ≤ i ∧ i < AA M 1 then 1 else 0)), SH0, M) := by
  rw [m_isRow w0_md140, rr_at (M := M) (by omega) (by omega)]
theorem d_isColour (h : RR' M) {i : Int} : evc X 267 [vR (some 140), vI i] SH0 M = some (some (vI (if 0 ≤ i ∧ i < AA M 2 then 1 else 0)), SH0, M) := by
  rw [m_isColour w0_md140, rr_at (M := M) (by omega) (by omega)]
theorem d_many (h : RR' M) : evc X 225 [vR (some 140)] SH0 M = some (some (vI (xn (AA M))), SH0, M) := by
  rw [m_many w0_md140 (rr_gm h).1.1, n_m h]
theorem d_rowOf (h : RR' M) {i : Int} (hi : 0 ≤ i ∧ i < xn (AA M)) : evc X 272 [vR (some 140), vI i] SH0 M = some (some (vI (xR (AA M) i)), SH0, M) := by
  have g := rr_gA h
  have e0 : M (140 + 1) 0 = AA M 0 := rr_at (by omega) (by omega)
  rw [m_rowOf w0_md140 (rr_gm h).1.1 (by have := g.2.1.2; omega) (by rw [e0]; exact xn_pos g.1 (by omega)), e0]
theorem d_xOf (h : RR' M) {i : Int} (hi : 0 ≤ i ∧ i < xn (AA M)) : evc X 271 [vR (some 140), vI i] SH0 M = some (some (vI (xP (AA M) i)), SH0, M) := by
  have g := rr_gA h
  have e0 : M (140 + 1) 0 = AA M 0 := rr_at (by omega) (by omega)
  have gm := rr_gm h
  have b := gm.2 i hi.1 (by rw [n_m h]; exact hi.2)
  rw [m_xOf w0_md140 gm.1.1 (by have := g.2.1.2; omega) (by omega) (by rw [e0]; exact xn_pos g.1 (by omega)), e0]
  have e := (h.2.2.2.2.1 i hi.1 hi.2).1
  rw [e]
theorem d_isCouple (h : RR' M) {i j : Int} : evc X 276 [vR (some 140), vL i, vL j] SH0 M = some (some (vI (if 0 ≤ i ∧ i < j ∧ j < xn (AA M) then 1 else 0)), SH0, M) := by
  have mk0 := w0_k140
  rw [E_276 mk0]
  have e1 := d_isStitch (X := X) h (i := i)
  have e2 := d_isStitch (X := X) h (i := j)
  by_cases q1 : 0 ≤ i ∧ i < xn (AA M)
  · rw [if_pos q1] at e1
    by_cases q2 : 0 ≤ j ∧ j < xn (AA M)
    · rw [if_pos q2] at e2
      by_cases q3 : i < j
      · rw [if_pos ⟨q1.1, q3, q2.2⟩]
        simp (disch := first | assumption | decide | omega | (simp only [List.length_cons, List.length_nil] <;> omega)) only [lgt_0, lgt_s, lset_0, lset_s, lst1_0, lst1_s, lst2_0, lst2_s, ev_iconst, ev_lconst, ev_ldc, ev_null, ev_iload, ev_lload, ev_aload, ev_istore, ev_lstore, ev_astore, ev_iinc, ev_iadd, ev_isub, ev_imul, ev_iand, ev_ior, ev_ishl, ev_ishr, ev_idiv, ev_irem, ev_ineg, ev_ladd, ev_lsub, ev_lmul, ev_land, ev_lor, ev_ldiv, ev_lrem, ev_lshl, ev_i2l, ev_l2i, ev_i2b, ev_i2s, ev_lcmp, ev_dupI, ev_dupR, ev_dup2, ev_popI, ev_popR, ev_alen, ev_xlen, ev_xald, ev_iald, ev_lald, ev_bald, ev_zald, ev_aald, ev_iast, ev_last, ev_bast, ev_zast, ev_aast, ev_gfI, ev_gfL, ev_gfR, ev_pfI, ev_pfZ, ev_pfL, ev_pfR, ev_new, ev_newa, ev_newq, ev_copy, ev_slen, ev_schr, ev_obj, ev_mmin, ev_mabs, ev_mmax, ev_goto, ev_jsr, ev_icmp_eq, ev_if_eq, ev_icmp_ne, ev_if_ne, ev_icmp_lt, ev_if_lt, ev_icmp_ge, ev_if_ge, ev_icmp_gt, ev_if_gt, ev_icmp_le, ev_if_le, ev_ifnull0, ev_ifnull1, ev_ifnn0, ev_ifnn1, ev_tsw, ev_lsw, ev_iret, ev_zret, ev_lret, ev_aret, ev_ret, ev_call0, ev_call1, ev_call2, ev_call3, ev_call4, ev_call5, ev_call6, Option.toList_some, Option.toList_none, List.cons_append, List.nil_append, List.length_cons, List.length_nil, Nat.reduceMod, Nat.reduceDiv, Nat.reduceLeDiff, nc, ↓reduceIte, Nat.zero_le, reduceCtorEq, w32_id, Int.reduceEq, Int.reduceNe, Int.reduceLT, Int.reduceLE, Int.reduceGT, Int.reduceGE, Int.reduceAdd, Int.reduceSub, Int.reduceMul, Int.reduceNeg, ne_eq, not_true_eq_false, not_false_eq_true, eq_self, ↓if_pos, ↓if_neg, J_276_0, k_276_0, J_276_26, k_276_26, J_276_27, k_276_27, e1, e2, q3]
      · rw [if_neg (fun z => q3 z.2.1)]
        by_cases q4 : i = j
        · subst q4
          simp (disch := first | assumption | decide | omega | (simp only [List.length_cons, List.length_nil] <;> omega)) only [lgt_0, lgt_s, lset_0, lset_s, lst1_0, lst1_s, lst2_0, lst2_s, ev_iconst, ev_lconst, ev_ldc, ev_null, ev_iload, ev_lload, ev_aload, ev_istore, ev_lstore, ev_astore, ev_iinc, ev_iadd, ev_isub, ev_imul, ev_iand, ev_ior, ev_ishl, ev_ishr, ev_idiv, ev_irem, ev_ineg, ev_ladd, ev_lsub, ev_lmul, ev_land, ev_lor, ev_ldiv, ev_lrem, ev_lshl, ev_i2l, ev_l2i, ev_i2b, ev_i2s, ev_lcmp, ev_dupI, ev_dupR, ev_dup2, ev_popI, ev_popR, ev_alen, ev_xlen, ev_xald, ev_iald, ev_lald, ev_bald, ev_zald, ev_aald, ev_iast, ev_last, ev_bast, ev_zast, ev_aast, ev_gfI, ev_gfL, ev_gfR, ev_pfI, ev_pfZ, ev_pfL, ev_pfR, ev_new, ev_newa, ev_newq, ev_copy, ev_slen, ev_schr, ev_obj, ev_mmin, ev_mabs, ev_mmax, ev_goto, ev_jsr, ev_icmp_eq, ev_if_eq, ev_icmp_ne, ev_if_ne, ev_icmp_lt, ev_if_lt, ev_icmp_ge, ev_if_ge, ev_icmp_gt, ev_if_gt, ev_icmp_le, ev_if_le, ev_ifnull0, ev_ifnull1, ev_ifnn0, ev_ifnn1, ev_tsw, ev_lsw, ev_iret, ev_zret, ev_lret, ev_aret, ev_ret, ev_call0, ev_call1, ev_call2, ev_call3, ev_call4, ev_call5, ev_call6, Option.toList_some, Option.toList_none, List.cons_append, List.nil_append, List.length_cons, List.length_nil, Nat.reduceMod, Nat.reduceDiv, Nat.reduceLeDiff, nc, ↓reduceIte, Nat.zero_le, reduceCtorEq, w32_id, Int.reduceEq, Int.reduceNe, Int.reduceLT, Int.reduceLE, Int.reduceGT, Int.reduceGE, Int.reduceAdd, Int.reduceSub, Int.reduceMul, Int.reduceNeg, ne_eq, not_true_eq_false, not_false_eq_true, eq_self, ↓if_pos, ↓if_neg, J_276_0, k_276_0, J_276_26, k_276_26, J_276_27, k_276_27, e1, q3]
        · simp (disch := first | assumption | decide | omega | (simp only [List.length_cons, List.length_nil] <;> omega)) only [lgt_0, lgt_s, lset_0, lset_s, lst1_0, lst1_s, lst2_0, lst2_s, ev_iconst, ev_lconst, ev_ldc, ev_null, ev_iload, ev_lload, ev_aload, ev_istore, ev_lstore, ev_astore, ev_iinc, ev_iadd, ev_isub, ev_imul, ev_iand, ev_ior, ev_ishl, ev_ishr, ev_idiv, ev_irem, ev_ineg, ev_ladd, ev_lsub, ev_lmul, ev_land, ev_lor, ev_ldiv, ev_lrem, ev_lshl, ev_i2l, ev_l2i, ev_i2b, ev_i2s, ev_lcmp, ev_dupI, ev_dupR, ev_dup2, ev_popI, ev_popR, ev_alen, ev_xlen, ev_xald, ev_iald, ev_lald, ev_bald, ev_zald, ev_aald, ev_iast, ev_last, ev_bast, ev_zast, ev_aast, ev_gfI, ev_gfL, ev_gfR, ev_pfI, ev_pfZ, ev_pfL, ev_pfR, ev_new, ev_newa, ev_newq, ev_copy, ev_slen, ev_schr, ev_obj, ev_mmin, ev_mabs, ev_mmax, ev_goto, ev_jsr, ev_icmp_eq, ev_if_eq, ev_icmp_ne, ev_if_ne, ev_icmp_lt, ev_if_lt, ev_icmp_ge, ev_if_ge, ev_icmp_gt, ev_if_gt, ev_icmp_le, ev_if_le, ev_ifnull0, ev_ifnull1, ev_ifnn0, ev_ifnn1, ev_tsw, ev_lsw, ev_iret, ev_zret, ev_lret, ev_aret, ev_ret, ev_call0, ev_call1, ev_call2, ev_call3, ev_call4, ev_call5, ev_call6, Option.toList_some, Option.toList_none, List.cons_append, List.nil_append, List.length_cons, List.length_nil, Nat.reduceMod, Nat.reduceDiv, Nat.reduceLeDiff, nc, ↓reduceIte, Nat.zero_le, reduceCtorEq, w32_id, Int.reduceEq, Int.reduceNe, Int.reduceLT, Int.reduceLE, Int.reduceGT, Int.reduceGE, Int.reduceAdd, Int.reduceSub, Int.reduceMul, Int.reduceNeg, ne_eq, not_true_eq_false, not_false_eq_true, eq_self, ↓if_pos, ↓if_neg, J_276_0, k_276_0, J_276_26, k_276_26, J_276_27, k_276_27, e1, e2, q3, q4]
    · rw [if_neg q2] at e2
      rw [if_neg (fun z => q2 ⟨by omega, z.2.2⟩)]
      simp (disch := first | assumption | decide | omega | (simp only [List.length_cons, List.length_nil] <;> omega)) only [lgt_0, lgt_s, lset_0, lset_s, lst1_0, lst1_s, lst2_0, lst2_s, ev_iconst, ev_lconst, ev_ldc, ev_null, ev_iload, ev_lload, ev_aload, ev_istore, ev_lstore, ev_astore, ev_iinc, ev_iadd, ev_isub, ev_imul, ev_iand, ev_ior, ev_ishl, ev_ishr, ev_idiv, ev_irem, ev_ineg, ev_ladd, ev_lsub, ev_lmul, ev_land, ev_lor, ev_ldiv, ev_lrem, ev_lshl, ev_i2l, ev_l2i, ev_i2b, ev_i2s, ev_lcmp, ev_dupI, ev_dupR, ev_dup2, ev_popI, ev_popR, ev_alen, ev_xlen, ev_xald, ev_iald, ev_lald, ev_bald, ev_zald, ev_aald, ev_iast, ev_last, ev_bast, ev_zast, ev_aast, ev_gfI, ev_gfL, ev_gfR, ev_pfI, ev_pfZ, ev_pfL, ev_pfR, ev_new, ev_newa, ev_newq, ev_copy, ev_slen, ev_schr, ev_obj, ev_mmin, ev_mabs, ev_mmax, ev_goto, ev_jsr, ev_icmp_eq, ev_if_eq, ev_icmp_ne, ev_if_ne, ev_icmp_lt, ev_if_lt, ev_icmp_ge, ev_if_ge, ev_icmp_gt, ev_if_gt, ev_icmp_le, ev_if_le, ev_ifnull0, ev_ifnull1, ev_ifnn0, ev_ifnn1, ev_tsw, ev_lsw, ev_iret, ev_zret, ev_lret, ev_aret, ev_ret, ev_call0, ev_call1, ev_call2, ev_call3, ev_call4, ev_call5, ev_call6, Option.toList_some, Option.toList_none, List.cons_append, List.nil_append, List.length_cons, List.length_nil, Nat.reduceMod, Nat.reduceDiv, Nat.reduceLeDiff, nc, ↓reduceIte, Nat.zero_le, reduceCtorEq, w32_id, Int.reduceEq, Int.reduceNe, Int.reduceLT, Int.reduceLE, Int.reduceGT, Int.reduceGE, Int.reduceAdd, Int.reduceSub, Int.reduceMul, Int.reduceNeg, ne_eq, not_true_eq_false, not_false_eq_true, eq_self, ↓if_pos, ↓if_neg, J_276_0, k_276_0, J_276_26, k_276_26, J_276_27, k_276_27, e1, e2]
  · rw [if_neg q1] at e1
    rw [if_neg (fun z => q1 ⟨z.1, by omega⟩)]
    simp (disch := first | assumption | decide | omega | (simp only [List.length_cons, List.length_nil] <;> omega)) only [lgt_0, lgt_s, lset_0, lset_s, lst1_0, lst1_s, lst2_0, lst2_s, ev_iconst, ev_lconst, ev_ldc, ev_null, ev_iload, ev_lload, ev_aload, ev_istore, ev_lstore, ev_astore, ev_iinc, ev_iadd, ev_isub, ev_imul, ev_iand, ev_ior, ev_ishl, ev_ishr, ev_idiv, ev_irem, ev_ineg, ev_ladd, ev_lsub, ev_lmul, ev_land, ev_lor, ev_ldiv, ev_lrem, ev_lshl, ev_i2l, ev_l2i, ev_i2b, ev_i2s, ev_lcmp, ev_dupI, ev_dupR, ev_dup2, ev_popI, ev_popR, ev_alen, ev_xlen, ev_xald, ev_iald, ev_lald, ev_bald, ev_zald, ev_aald, ev_iast, ev_last, ev_bast, ev_zast, ev_aast, ev_gfI, ev_gfL, ev_gfR, ev_pfI, ev_pfZ, ev_pfL, ev_pfR, ev_new, ev_newa, ev_newq, ev_copy, ev_slen, ev_schr, ev_obj, ev_mmin, ev_mabs, ev_mmax, ev_goto, ev_jsr, ev_icmp_eq, ev_if_eq, ev_icmp_ne, ev_if_ne, ev_icmp_lt, ev_if_lt, ev_icmp_ge, ev_if_ge, ev_icmp_gt, ev_if_gt, ev_icmp_le, ev_if_le, ev_ifnull0, ev_ifnull1, ev_ifnn0, ev_ifnn1, ev_tsw, ev_lsw, ev_iret, ev_zret, ev_lret, ev_aret, ev_ret, ev_call0, ev_call1, ev_call2, ev_call3, ev_call4, ev_call5, ev_call6, Option.toList_some, Option.toList_none, List.cons_append, List.nil_append, List.length_cons, List.length_nil, Nat.reduceMod, Nat.reduceDiv, Nat.reduceLeDiff, nc, ↓reduceIte, Nat.zero_le, reduceCtorEq, w32_id, Int.reduceEq, Int.reduceNe, Int.reduceLT, Int.reduceLE, Int.reduceGT, Int.reduceGE, Int.reduceAdd, Int.reduceSub, Int.reduceMul, Int.reduceNeg, ne_eq, not_true_eq_false, not_false_eq_true, eq_self, ↓if_pos, ↓if_neg, J_276_0, k_276_0, J_276_26, k_276_26, J_276_27, k_276_27, e1]
end BAS
