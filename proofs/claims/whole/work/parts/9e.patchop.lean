/-! OPERATIONS: patch. -/
def inF (g : Int → Int) (G i : Int) : Int := if g i = G then 1 else 0
def bRF (g R : Int → Int) (G : Int) : Nat → Int → Int
  | 0, _ => 0
  | k + 1, r => if g k = G ∧ R k = r then 1 else bRF g R G k r
theorem bRF_s {g R : Int → Int} {G r : Int} {k : Nat} : bRF g R G (k + 1) r = if g k = G ∧ R k = r then 1 else bRF g R G k r := rfl
theorem bRF_rng {g R : Int → Int} {G r : Int} : ∀ {k : Nat}, 0 ≤ bRF g R G k r ∧ bRF g R G k r ≤ 1
  | 0 => ⟨Int.le_refl _, by show (0 : Int) ≤ 1; omega⟩
  | k + 1 => by
    have ih := bRF_rng (g := g) (R := R) (G := G) (r := r) (k := k)
    rw [bRF_s]
    split <;> omega
theorem bRF_no {g R : Int → Int} {G : Int} {k : Nat} (h : ¬ g k = G) : bRF g R G (k + 1) = bRF g R G k := by
  funext r
  rw [bRF_s, if_neg (fun z => h z.1)]
theorem bRF_old {g R : Int → Int} {G : Int} {k : Nat} (h : bRF g R G k (R k) = 1) : bRF g R G (k + 1) = bRF g R G k := by
  funext r
  rw [bRF_s]
  by_cases z : g k = G ∧ R k = r
  · rw [if_pos z, ← z.2, h]
  · rw [if_neg z]
theorem bRF_new {g R : Int → Int} {G : Int} {k n : Nat} (hg : g k = G) (h : bRF g R G k (R k) = 0) (r0 : 0 ≤ R k) (r1 : R k < n) : sumN (bRF g R G (k + 1)) n = sumN (bRF g R G k) n + 1 := by
  rw [sumN_congr (g := fun r => bRF g R G k r + if r = R k then 1 else 0) (fun r hr => by
    rw [bRF_s]
    by_cases z : R k = (r : Int)
    · rw [if_pos ⟨hg, z⟩, ← z, h, if_pos rfl]
      rfl
    · rw [if_neg (fun y => z y.2), if_neg (fun y => z y.symm), Int.add_zero]), sumN_add]
  have := sumN_one (f := fun _ => 1) (a := R k) (n := n)
  rw [if_pos ⟨r0, r1⟩] at this
  rw [this]
theorem bRF_congr {g g' R : Int → Int} {G G' : Int} : ∀ {k : Nat}, (∀ i : Nat, i < k → (g i = G ↔ g' i = G')) → bRF g R G k = bRF g' R G' k
  | 0, _ => rfl
  | k + 1, h => by
    funext r
    rw [bRF_s, bRF_s, bRF_congr (fun i hi => h i (by omega))]
    have := h k (by omega)
    by_cases z : g k = G ∧ R k = r
    · rw [if_pos z, if_pos ⟨this.mp z.1, z.2⟩]
    · rw [if_neg z, if_neg (fun y => z ⟨this.mpr y.1, y.2⟩)]
theorem bits6 : ∀ m : Nat, m < 64 → ∀ a : Nat, a < 6 → (0 ≤ i_or (m : Int) (i_shl 1 (a : Int)) ∧ i_or (m : Int) (i_shl 1 (a : Int)) < 64) ∧ ∀ r : Nat, r < 6 → i_and (i_shr (i_or (m : Int) (i_shl 1 (a : Int))) (r : Int)) 1 = if a = r then 1 else i_and (i_shr (m : Int) (r : Int)) 1 := by decide +kernel
theorem bits6I {m a : Int} (m0 : 0 ≤ m) (m1 : m < 64) (a0 : 0 ≤ a) (a1 : a < 6) : (0 ≤ i_or m (i_shl 1 a) ∧ i_or m (i_shl 1 a) < 64) ∧ ∀ r : Int, 0 ≤ r → r < 6 → i_and (i_shr (i_or m (i_shl 1 a)) r) 1 = if a = r then 1 else i_and (i_shr m r) 1 := by
  obtain ⟨m, rfl⟩ := Int.eq_ofNat_of_zero_le m0
  obtain ⟨a, rfl⟩ := Int.eq_ofNat_of_zero_le a0
  have h := bits6 m (by omega) a (by omega)
  refine ⟨h.1, fun r r0 r1 => ?_⟩
  obtain ⟨r, rfl⟩ := Int.eq_ofNat_of_zero_le r0
  have e := h.2 r (by omega)
  by_cases z : a = r
  · rw [if_pos z] at e
    rw [if_pos (by omega)]
    exact e
  · rw [if_neg z] at e
    rw [if_neg (by omega)]
    exact e
theorem bits60N : ∀ r : Nat, r < 6 → i_and (i_shr 0 (r : Int)) 1 = 0 := by decide +kernel
theorem bits60 {r : Int} (r0 : 0 ≤ r) (r1 : r < 6) : i_and (i_shr 0 r) 1 = 0 := by
  obtain ⟨r, rfl⟩ := Int.eq_ofNat_of_zero_le r0
  exact bits60N r (by omega)
section PTO
variable {X : Int → Int} {M : Mem}
theorem c_inGroup (h : RR' M) {G : Int} : evc X 181 [vR (some 0), vI G] SH0 M = some (some (vI (sumN (inF (M 79) G) (xn (AA M)).toNat)), SH0, M) := by
  have k0 := w0_k0; have hc4 := w0_ch4; have hmd := w0_md140; have mk0 := hmd.1; have hc4' := w0_ch4; obtain ⟨ck0, cr0, cr1, cr2, cr3, cr4, cr5, cr6, cr7, ck1, ck2, ck3, ck4, ck5, ck6, ck7, ck8, cl1, cl2, cl3, cl4, cl5, cl6, cl7, cl8⟩ := hc4'
  have k79 := w0_k79
  have l79 := w0_l79
  have n48 := (rr_gA h).2.1
  have hn := n_c h
  have en : (((xn (AA M)).toNat : Nat) : Int) = xn (AA M) := by omega
  have q0 : xn (AA M) ≤ xn (AA M) := Int.le_refl _
  obtain ⟨ls', M', ⟨hls, hM⟩, he⟩ := ev_for (X := X) (y := 181) (Sh := SH0) (fun i ls M' => ls = [some (vR (some 0)), some (vI G), some (vI (sumN (inF (M 79) G) i)), some (vI (i : Int))] ∧ M' = M) J_181_4 (xn (AA M)).toNat (fun i hi ls M' hI => by
    obtain ⟨hls, hM⟩ := hI
    subst hls hM
    refine ⟨_, M', ⟨rfl, rfl⟩, ?_⟩
    have hb := sumN_le (f := inF (M' 79) G) (a := 0) (b := 1) (n := i) (fun j _ => by unfold inF; split <;> omega)
    rw [sumN_s]
    generalize sumN (inF (M' 79) G) i = sm at hb ⊢
    have hlt : (i : Int) < xn (AA M') := by omega
    by_cases z : M' 79 i = G
    · rw [show inF (M' 79) G i = 1 from if_pos z]
      simp (disch := first | assumption | decide | omega | (simp only [List.length_cons, List.length_nil] <;> omega)) only [lgt_0, lgt_s, lset_0, lset_s, lst1_0, lst1_s, lst2_0, lst2_s, ev_iconst, ev_lconst, ev_ldc, ev_null, ev_iload, ev_lload, ev_aload, ev_istore, ev_lstore, ev_astore, ev_iinc, ev_iadd, ev_isub, ev_imul, ev_iand, ev_ior, ev_ishl, ev_ishr, ev_idiv, ev_irem, ev_ineg, ev_ladd, ev_lsub, ev_lmul, ev_land, ev_lor, ev_ldiv, ev_lrem, ev_lshl, ev_i2l, ev_l2i, ev_i2b, ev_i2s, ev_lcmp, ev_dupI, ev_dupR, ev_dup2, ev_popI, ev_popR, ev_alen, ev_xlen, ev_xald, ev_iald, ev_lald, ev_bald, ev_zald, ev_aald, ev_iast, ev_last, ev_bast, ev_zast, ev_aast, ev_gfI, ev_gfL, ev_gfR, ev_pfI, ev_pfZ, ev_pfL, ev_pfR, ev_new, ev_newa, ev_newq, ev_copy, ev_slen, ev_schr, ev_obj, ev_mmin, ev_mabs, ev_mmax, ev_goto, ev_jsr, ev_icmp_eq, ev_if_eq, ev_icmp_ne, ev_if_ne, ev_icmp_lt, ev_if_lt, ev_icmp_ge, ev_if_ge, ev_icmp_gt, ev_if_gt, ev_icmp_le, ev_if_le, ev_ifnull0, ev_ifnull1, ev_ifnn0, ev_ifnn1, ev_tsw, ev_lsw, ev_iret, ev_zret, ev_lret, ev_aret, ev_ret, ev_call0, ev_call1, ev_call2, ev_call3, ev_call4, ev_call5, ev_call6, Option.toList_some, Option.toList_none, List.cons_append, List.nil_append, List.length_cons, List.length_nil, Nat.reduceMod, Nat.reduceDiv, Nat.reduceLeDiff, nc, ↓reduceIte, Nat.zero_le, reduceCtorEq, w32_id, Int.reduceEq, Int.reduceNe, Int.reduceLT, Int.reduceLE, Int.reduceGT, Int.reduceGE, Int.reduceAdd, Int.reduceSub, Int.reduceMul, Int.reduceNeg, ne_eq, not_true_eq_false, not_false_eq_true, eq_self, ↓if_pos, ↓if_neg, w0_r0_3, w0_r0_4, w0_r0_5, w0_r0_6, w0_r0_7, w0_r0_8, w0_r0_10, w0_r0_11, w0_r0_12, w0_r0_13, w0_r0_14, w0_r0_15, w0_r0_16, w0_r0_17, w0_r0_18, cr0, cr1, cr2, cr3, cr4, cr5, cr6, cr7, J_181_0, k_181_0, J_181_28, k_181_28, J_181_34, k_181_34, k_181_4, hn, hlt, z, nc_s]
    · rw [show inF (M' 79) G i = 0 from if_neg z, Int.add_zero]
      simp (disch := first | assumption | decide | omega | (simp only [List.length_cons, List.length_nil] <;> omega)) only [lgt_0, lgt_s, lset_0, lset_s, lst1_0, lst1_s, lst2_0, lst2_s, ev_iconst, ev_lconst, ev_ldc, ev_null, ev_iload, ev_lload, ev_aload, ev_istore, ev_lstore, ev_astore, ev_iinc, ev_iadd, ev_isub, ev_imul, ev_iand, ev_ior, ev_ishl, ev_ishr, ev_idiv, ev_irem, ev_ineg, ev_ladd, ev_lsub, ev_lmul, ev_land, ev_lor, ev_ldiv, ev_lrem, ev_lshl, ev_i2l, ev_l2i, ev_i2b, ev_i2s, ev_lcmp, ev_dupI, ev_dupR, ev_dup2, ev_popI, ev_popR, ev_alen, ev_xlen, ev_xald, ev_iald, ev_lald, ev_bald, ev_zald, ev_aald, ev_iast, ev_last, ev_bast, ev_zast, ev_aast, ev_gfI, ev_gfL, ev_gfR, ev_pfI, ev_pfZ, ev_pfL, ev_pfR, ev_new, ev_newa, ev_newq, ev_copy, ev_slen, ev_schr, ev_obj, ev_mmin, ev_mabs, ev_mmax, ev_goto, ev_jsr, ev_icmp_eq, ev_if_eq, ev_icmp_ne, ev_if_ne, ev_icmp_lt, ev_if_lt, ev_icmp_ge, ev_if_ge, ev_icmp_gt, ev_if_gt, ev_icmp_le, ev_if_le, ev_ifnull0, ev_ifnull1, ev_ifnn0, ev_ifnn1, ev_tsw, ev_lsw, ev_iret, ev_zret, ev_lret, ev_aret, ev_ret, ev_call0, ev_call1, ev_call2, ev_call3, ev_call4, ev_call5, ev_call6, Option.toList_some, Option.toList_none, List.cons_append, List.nil_append, List.length_cons, List.length_nil, Nat.reduceMod, Nat.reduceDiv, Nat.reduceLeDiff, nc, ↓reduceIte, Nat.zero_le, reduceCtorEq, w32_id, Int.reduceEq, Int.reduceNe, Int.reduceLT, Int.reduceLE, Int.reduceGT, Int.reduceGE, Int.reduceAdd, Int.reduceSub, Int.reduceMul, Int.reduceNeg, ne_eq, not_true_eq_false, not_false_eq_true, eq_self, ↓if_pos, ↓if_neg, w0_r0_3, w0_r0_4, w0_r0_5, w0_r0_6, w0_r0_7, w0_r0_8, w0_r0_10, w0_r0_11, w0_r0_12, w0_r0_13, w0_r0_14, w0_r0_15, w0_r0_16, w0_r0_17, w0_r0_18, cr0, cr1, cr2, cr3, cr4, cr5, cr6, cr7, J_181_0, k_181_0, J_181_28, k_181_28, J_181_34, k_181_34, k_181_4, hn, hlt, z, nc_s]) [some (vR (some 0)), some (vI G), some (vI 0), some (vI 0)] M ⟨rfl, rfl⟩
  subst hls hM
  rw [E_181 k0]
  simp (disch := first | assumption | decide | omega | (simp only [List.length_cons, List.length_nil] <;> omega)) only [lgt_0, lgt_s, lset_0, lset_s, lst1_0, lst1_s, lst2_0, lst2_s, ev_iconst, ev_lconst, ev_ldc, ev_null, ev_iload, ev_lload, ev_aload, ev_istore, ev_lstore, ev_astore, ev_iinc, ev_iadd, ev_isub, ev_imul, ev_iand, ev_ior, ev_ishl, ev_ishr, ev_idiv, ev_irem, ev_ineg, ev_ladd, ev_lsub, ev_lmul, ev_land, ev_lor, ev_ldiv, ev_lrem, ev_lshl, ev_i2l, ev_l2i, ev_i2b, ev_i2s, ev_lcmp, ev_dupI, ev_dupR, ev_dup2, ev_popI, ev_popR, ev_alen, ev_xlen, ev_xald, ev_iald, ev_lald, ev_bald, ev_zald, ev_aald, ev_iast, ev_last, ev_bast, ev_zast, ev_aast, ev_gfI, ev_gfL, ev_gfR, ev_pfI, ev_pfZ, ev_pfL, ev_pfR, ev_new, ev_newa, ev_newq, ev_copy, ev_slen, ev_schr, ev_obj, ev_mmin, ev_mabs, ev_mmax, ev_goto, ev_jsr, ev_icmp_eq, ev_if_eq, ev_icmp_ne, ev_if_ne, ev_icmp_lt, ev_if_lt, ev_icmp_ge, ev_if_ge, ev_icmp_gt, ev_if_gt, ev_icmp_le, ev_if_le, ev_ifnull0, ev_ifnull1, ev_ifnn0, ev_ifnn1, ev_tsw, ev_lsw, ev_iret, ev_zret, ev_lret, ev_aret, ev_ret, ev_call0, ev_call1, ev_call2, ev_call3, ev_call4, ev_call5, ev_call6, Option.toList_some, Option.toList_none, List.cons_append, List.nil_append, List.length_cons, List.length_nil, Nat.reduceMod, Nat.reduceDiv, Nat.reduceLeDiff, nc, ↓reduceIte, Nat.zero_le, reduceCtorEq, w32_id, Int.reduceEq, Int.reduceNe, Int.reduceLT, Int.reduceLE, Int.reduceGT, Int.reduceGE, Int.reduceAdd, Int.reduceSub, Int.reduceMul, Int.reduceNeg, ne_eq, not_true_eq_false, not_false_eq_true, eq_self, ↓if_pos, ↓if_neg, w0_r0_3, w0_r0_4, w0_r0_5, w0_r0_6, w0_r0_7, w0_r0_8, w0_r0_10, w0_r0_11, w0_r0_12, w0_r0_13, w0_r0_14, w0_r0_15, w0_r0_16, w0_r0_17, w0_r0_18, cr0, cr1, cr2, cr3, cr4, cr5, cr6, cr7, J_181_0, k_181_0, J_181_28, k_181_28, J_181_34, k_181_34, ]
  rw [he]
  simp (disch := first | assumption | decide | omega | (simp only [List.length_cons, List.length_nil] <;> omega)) only [lgt_0, lgt_s, lset_0, lset_s, lst1_0, lst1_s, lst2_0, lst2_s, ev_iconst, ev_lconst, ev_ldc, ev_null, ev_iload, ev_lload, ev_aload, ev_istore, ev_lstore, ev_astore, ev_iinc, ev_iadd, ev_isub, ev_imul, ev_iand, ev_ior, ev_ishl, ev_ishr, ev_idiv, ev_irem, ev_ineg, ev_ladd, ev_lsub, ev_lmul, ev_land, ev_lor, ev_ldiv, ev_lrem, ev_lshl, ev_i2l, ev_l2i, ev_i2b, ev_i2s, ev_lcmp, ev_dupI, ev_dupR, ev_dup2, ev_popI, ev_popR, ev_alen, ev_xlen, ev_xald, ev_iald, ev_lald, ev_bald, ev_zald, ev_aald, ev_iast, ev_last, ev_bast, ev_zast, ev_aast, ev_gfI, ev_gfL, ev_gfR, ev_pfI, ev_pfZ, ev_pfL, ev_pfR, ev_new, ev_newa, ev_newq, ev_copy, ev_slen, ev_schr, ev_obj, ev_mmin, ev_mabs, ev_mmax, ev_goto, ev_jsr, ev_icmp_eq, ev_if_eq, ev_icmp_ne, ev_if_ne, ev_icmp_lt, ev_if_lt, ev_icmp_ge, ev_if_ge, ev_icmp_gt, ev_if_gt, ev_icmp_le, ev_if_le, ev_ifnull0, ev_ifnull1, ev_ifnn0, ev_ifnn1, ev_tsw, ev_lsw, ev_iret, ev_zret, ev_lret, ev_aret, ev_ret, ev_call0, ev_call1, ev_call2, ev_call3, ev_call4, ev_call5, ev_call6, Option.toList_some, Option.toList_none, List.cons_append, List.nil_append, List.length_cons, List.length_nil, Nat.reduceMod, Nat.reduceDiv, Nat.reduceLeDiff, nc, ↓reduceIte, Nat.zero_le, reduceCtorEq, w32_id, Int.reduceEq, Int.reduceNe, Int.reduceLT, Int.reduceLE, Int.reduceGT, Int.reduceGE, Int.reduceAdd, Int.reduceSub, Int.reduceMul, Int.reduceNeg, ne_eq, not_true_eq_false, not_false_eq_true, eq_self, ↓if_pos, ↓if_neg, w0_r0_3, w0_r0_4, w0_r0_5, w0_r0_6, w0_r0_7, w0_r0_8, w0_r0_10, w0_r0_11, w0_r0_12, w0_r0_13, w0_r0_14, w0_r0_15, w0_r0_16, w0_r0_17, w0_r0_18, cr0, cr1, cr2, cr3, cr4, cr5, cr6, cr7, J_181_0, k_181_0, J_181_28, k_181_28, J_181_34, k_181_34, k_181_4, hn, en, q0]
theorem c_rowsOf (h : RR' M) {G : Int} : evc X 182 [vR (some 0), vI G] SH0 M = some (some (vI (sumN (bRF (M 79) (xR (AA M)) G (xn (AA M)).toNat) (AA M 1).toNat)), SH0, M) := by
  have k0 := w0_k0; have hc4 := w0_ch4; have hmd := w0_md140; have mk0 := hmd.1; have hc4' := w0_ch4; obtain ⟨ck0, cr0, cr1, cr2, cr3, cr4, cr5, cr6, cr7, ck1, ck2, ck3, ck4, ck5, ck6, ck7, ck8, cl1, cl2, cl3, cl4, cl5, cl6, cl7, cl8⟩ := hc4'
  have k79 := w0_k79
  have l79 := w0_l79
  have gA := rr_gA h
  have n48 := gA.2.1
  have hn := n_c h
  have g1 := gA.1.2.1
  have en : (((xn (AA M)).toNat : Nat) : Int) = xn (AA M) := by omega
  have q0 : xn (AA M) ≤ xn (AA M) := Int.le_refl _
  obtain ⟨ls', M', ⟨lt, hls, hM, _⟩, he⟩ := ev_for (X := X) (y := 182) (Sh := SH0) (fun i ls M' => ∃ lt, ls = [some (vR (some 0)), some (vI G), some (vI (sumN (bRF (M 79) (xR (AA M)) G i) (AA M 1).toNat)), some (vI lt), some (vI (i : Int))] ∧ M' = M ∧ (∀ r, lt < r → bRF (M 79) (xR (AA M)) G i r = 0) ∧ (lt = -1 ∨ (bRF (M 79) (xR (AA M)) G i lt = 1 ∧ ∃ j : Nat, j < i ∧ xR (AA M) j = lt))) J_182_7 (xn (AA M)).toNat (fun i hi ls M' hI => by
    obtain ⟨lt, hls, hM, hz, hl⟩ := hI
    subst hls hM
    have hlt : (i : Int) < xn (AA M') := by omega
    have gi := gA.2.2 i (by omega) hlt
    have hw := xn_pos gA.1 (by omega)
    have vr := ((rr_ve h).2.2.1 i (by omega) (by rw [hn]; exact hlt)).2.2
    have hb := sumN_le (f := bRF (M' 79) (xR (AA M')) G i) (a := 0) (b := 1) (n := (AA M' 1).toNat) (fun j _ => bRF_rng)
    have gR := gi.2.2
    by_cases z : M' 79 i = G
    · by_cases z2 : xR (AA M') i = lt
      · have e := bRF_old (g := M' 79) (R := xR (AA M')) (G := G) (k := i) (by
          rcases hl with y | y
          · omega
          · rw [z2]; exact y.1)
        refine ⟨_, M', ⟨lt, rfl, rfl, fun r hr => by rw [e]; exact hz r hr, hl.elim Or.inl fun y => Or.inr ⟨by rw [e]; exact y.1, y.2.elim fun j hj => ⟨j, by omega, hj.2⟩⟩⟩, ?_⟩
        rw [e]
        generalize sumN (bRF (M' 79) (xR (AA M')) G i) (AA M' 1).toNat = sm at hb ⊢
        generalize xR (AA M') i = rr at vr z2 gR
        simp (disch := first | assumption | decide | omega | (simp only [List.length_cons, List.length_nil] <;> omega)) only [lgt_0, lgt_s, lset_0, lset_s, lst1_0, lst1_s, lst2_0, lst2_s, ev_iconst, ev_lconst, ev_ldc, ev_null, ev_iload, ev_lload, ev_aload, ev_istore, ev_lstore, ev_astore, ev_iinc, ev_iadd, ev_isub, ev_imul, ev_iand, ev_ior, ev_ishl, ev_ishr, ev_idiv, ev_irem, ev_ineg, ev_ladd, ev_lsub, ev_lmul, ev_land, ev_lor, ev_ldiv, ev_lrem, ev_lshl, ev_i2l, ev_l2i, ev_i2b, ev_i2s, ev_lcmp, ev_dupI, ev_dupR, ev_dup2, ev_popI, ev_popR, ev_alen, ev_xlen, ev_xald, ev_iald, ev_lald, ev_bald, ev_zald, ev_aald, ev_iast, ev_last, ev_bast, ev_zast, ev_aast, ev_gfI, ev_gfL, ev_gfR, ev_pfI, ev_pfZ, ev_pfL, ev_pfR, ev_new, ev_newa, ev_newq, ev_copy, ev_slen, ev_schr, ev_obj, ev_mmin, ev_mabs, ev_mmax, ev_goto, ev_jsr, ev_icmp_eq, ev_if_eq, ev_icmp_ne, ev_if_ne, ev_icmp_lt, ev_if_lt, ev_icmp_ge, ev_if_ge, ev_icmp_gt, ev_if_gt, ev_icmp_le, ev_if_le, ev_ifnull0, ev_ifnull1, ev_ifnn0, ev_ifnn1, ev_tsw, ev_lsw, ev_iret, ev_zret, ev_lret, ev_aret, ev_ret, ev_call0, ev_call1, ev_call2, ev_call3, ev_call4, ev_call5, ev_call6, Option.toList_some, Option.toList_none, List.cons_append, List.nil_append, List.length_cons, List.length_nil, Nat.reduceMod, Nat.reduceDiv, Nat.reduceLeDiff, nc, ↓reduceIte, Nat.zero_le, reduceCtorEq, w32_id, Int.reduceEq, Int.reduceNe, Int.reduceLT, Int.reduceLE, Int.reduceGT, Int.reduceGE, Int.reduceAdd, Int.reduceSub, Int.reduceMul, Int.reduceNeg, ne_eq, not_true_eq_false, not_false_eq_true, eq_self, ↓if_pos, ↓if_neg, w0_r0_3, w0_r0_4, w0_r0_5, w0_r0_6, w0_r0_7, w0_r0_8, w0_r0_10, w0_r0_11, w0_r0_12, w0_r0_13, w0_r0_14, w0_r0_15, w0_r0_16, w0_r0_17, w0_r0_18, cr0, cr1, cr2, cr3, cr4, cr5, cr6, cr7, J_182_0, k_182_0, J_182_58, k_182_58, J_182_64, k_182_64, k_182_7, hn, hlt, z, vr, z2, nc_s]
      · have lt_r : lt < xR (AA M') i := by
          rcases hl with y | ⟨_, j, hj, y⟩
          · omega
          · have : xR (AA M') j ≤ xR (AA M') i := Int.ediv_le_ediv hw (by omega)
            omega
        have e := bRF_new (g := M' 79) (R := xR (AA M')) (G := G) (k := i) (n := (AA M' 1).toNat) z (hz _ lt_r) gR.1 (by omega)
        refine ⟨_, M', ⟨xR (AA M') i, rfl, rfl, fun r hr => ?_, Or.inr ⟨?_, i, by omega, rfl⟩⟩, ?_⟩
        · rw [bRF_s, if_neg (fun y => by omega)]
          exact hz r (by omega)
        · rw [bRF_s, if_pos ⟨z, rfl⟩]
        · rw [e]
          generalize sumN (bRF (M' 79) (xR (AA M')) G i) (AA M' 1).toNat = sm at hb ⊢
          generalize xR (AA M') i = rr at vr z2 gR
          simp (disch := first | assumption | decide | omega | (simp only [List.length_cons, List.length_nil] <;> omega)) only [lgt_0, lgt_s, lset_0, lset_s, lst1_0, lst1_s, lst2_0, lst2_s, ev_iconst, ev_lconst, ev_ldc, ev_null, ev_iload, ev_lload, ev_aload, ev_istore, ev_lstore, ev_astore, ev_iinc, ev_iadd, ev_isub, ev_imul, ev_iand, ev_ior, ev_ishl, ev_ishr, ev_idiv, ev_irem, ev_ineg, ev_ladd, ev_lsub, ev_lmul, ev_land, ev_lor, ev_ldiv, ev_lrem, ev_lshl, ev_i2l, ev_l2i, ev_i2b, ev_i2s, ev_lcmp, ev_dupI, ev_dupR, ev_dup2, ev_popI, ev_popR, ev_alen, ev_xlen, ev_xald, ev_iald, ev_lald, ev_bald, ev_zald, ev_aald, ev_iast, ev_last, ev_bast, ev_zast, ev_aast, ev_gfI, ev_gfL, ev_gfR, ev_pfI, ev_pfZ, ev_pfL, ev_pfR, ev_new, ev_newa, ev_newq, ev_copy, ev_slen, ev_schr, ev_obj, ev_mmin, ev_mabs, ev_mmax, ev_goto, ev_jsr, ev_icmp_eq, ev_if_eq, ev_icmp_ne, ev_if_ne, ev_icmp_lt, ev_if_lt, ev_icmp_ge, ev_if_ge, ev_icmp_gt, ev_if_gt, ev_icmp_le, ev_if_le, ev_ifnull0, ev_ifnull1, ev_ifnn0, ev_ifnn1, ev_tsw, ev_lsw, ev_iret, ev_zret, ev_lret, ev_aret, ev_ret, ev_call0, ev_call1, ev_call2, ev_call3, ev_call4, ev_call5, ev_call6, Option.toList_some, Option.toList_none, List.cons_append, List.nil_append, List.length_cons, List.length_nil, Nat.reduceMod, Nat.reduceDiv, Nat.reduceLeDiff, nc, ↓reduceIte, Nat.zero_le, reduceCtorEq, w32_id, Int.reduceEq, Int.reduceNe, Int.reduceLT, Int.reduceLE, Int.reduceGT, Int.reduceGE, Int.reduceAdd, Int.reduceSub, Int.reduceMul, Int.reduceNeg, ne_eq, not_true_eq_false, not_false_eq_true, eq_self, ↓if_pos, ↓if_neg, w0_r0_3, w0_r0_4, w0_r0_5, w0_r0_6, w0_r0_7, w0_r0_8, w0_r0_10, w0_r0_11, w0_r0_12, w0_r0_13, w0_r0_14, w0_r0_15, w0_r0_16, w0_r0_17, w0_r0_18, cr0, cr1, cr2, cr3, cr4, cr5, cr6, cr7, J_182_0, k_182_0, J_182_58, k_182_58, J_182_64, k_182_64, k_182_7, hn, hlt, z, vr, z2, nc_s]
    · have e := bRF_no (g := M' 79) (R := xR (AA M')) (G := G) (k := i) z
      refine ⟨_, M', ⟨lt, rfl, rfl, fun r hr => by rw [e]; exact hz r hr, hl.elim Or.inl fun y => Or.inr ⟨by rw [e]; exact y.1, y.2.elim fun j hj => ⟨j, by omega, hj.2⟩⟩⟩, ?_⟩
      rw [e]
      generalize sumN (bRF (M' 79) (xR (AA M')) G i) (AA M' 1).toNat = sm at hb ⊢
      simp (disch := first | assumption | decide | omega | (simp only [List.length_cons, List.length_nil] <;> omega)) only [lgt_0, lgt_s, lset_0, lset_s, lst1_0, lst1_s, lst2_0, lst2_s, ev_iconst, ev_lconst, ev_ldc, ev_null, ev_iload, ev_lload, ev_aload, ev_istore, ev_lstore, ev_astore, ev_iinc, ev_iadd, ev_isub, ev_imul, ev_iand, ev_ior, ev_ishl, ev_ishr, ev_idiv, ev_irem, ev_ineg, ev_ladd, ev_lsub, ev_lmul, ev_land, ev_lor, ev_ldiv, ev_lrem, ev_lshl, ev_i2l, ev_l2i, ev_i2b, ev_i2s, ev_lcmp, ev_dupI, ev_dupR, ev_dup2, ev_popI, ev_popR, ev_alen, ev_xlen, ev_xald, ev_iald, ev_lald, ev_bald, ev_zald, ev_aald, ev_iast, ev_last, ev_bast, ev_zast, ev_aast, ev_gfI, ev_gfL, ev_gfR, ev_pfI, ev_pfZ, ev_pfL, ev_pfR, ev_new, ev_newa, ev_newq, ev_copy, ev_slen, ev_schr, ev_obj, ev_mmin, ev_mabs, ev_mmax, ev_goto, ev_jsr, ev_icmp_eq, ev_if_eq, ev_icmp_ne, ev_if_ne, ev_icmp_lt, ev_if_lt, ev_icmp_ge, ev_if_ge, ev_icmp_gt, ev_if_gt, ev_icmp_le, ev_if_le, ev_ifnull0, ev_ifnull1, ev_ifnn0, ev_ifnn1, ev_tsw, ev_lsw, ev_iret, ev_zret, ev_lret, ev_aret, ev_ret, ev_call0, ev_call1, ev_call2, ev_call3, ev_call4, ev_call5, ev_call6, Option.toList_some, Option.toList_none, List.cons_append, List.nil_append, List.length_cons, List.length_nil, Nat.reduceMod, Nat.reduceDiv, Nat.reduceLeDiff, nc, ↓reduceIte, Nat.zero_le, reduceCtorEq, w32_id, Int.reduceEq, Int.reduceNe, Int.reduceLT, Int.reduceLE, Int.reduceGT, Int.reduceGE, Int.reduceAdd, Int.reduceSub, Int.reduceMul, Int.reduceNeg, ne_eq, not_true_eq_false, not_false_eq_true, eq_self, ↓if_pos, ↓if_neg, w0_r0_3, w0_r0_4, w0_r0_5, w0_r0_6, w0_r0_7, w0_r0_8, w0_r0_10, w0_r0_11, w0_r0_12, w0_r0_13, w0_r0_14, w0_r0_15, w0_r0_16, w0_r0_17, w0_r0_18, cr0, cr1, cr2, cr3, cr4, cr5, cr6, cr7, J_182_0, k_182_0, J_182_58, k_182_58, J_182_64, k_182_64, k_182_7, hn, hlt, z, nc_s]) [some (vR (some 0)), some (vI G), some (vI 0), some (vI (-1)), some (vI 0)] M ⟨-1, by rw [sumN_z (f := bRF (M 79) (xR (AA M)) G 0) (fun _ _ => rfl)]; rfl, rfl, fun _ _ => rfl, Or.inl rfl⟩
  subst hls hM
  rw [E_182 k0]
  simp (disch := first | assumption | decide | omega | (simp only [List.length_cons, List.length_nil] <;> omega)) only [lgt_0, lgt_s, lset_0, lset_s, lst1_0, lst1_s, lst2_0, lst2_s, ev_iconst, ev_lconst, ev_ldc, ev_null, ev_iload, ev_lload, ev_aload, ev_istore, ev_lstore, ev_astore, ev_iinc, ev_iadd, ev_isub, ev_imul, ev_iand, ev_ior, ev_ishl, ev_ishr, ev_idiv, ev_irem, ev_ineg, ev_ladd, ev_lsub, ev_lmul, ev_land, ev_lor, ev_ldiv, ev_lrem, ev_lshl, ev_i2l, ev_l2i, ev_i2b, ev_i2s, ev_lcmp, ev_dupI, ev_dupR, ev_dup2, ev_popI, ev_popR, ev_alen, ev_xlen, ev_xald, ev_iald, ev_lald, ev_bald, ev_zald, ev_aald, ev_iast, ev_last, ev_bast, ev_zast, ev_aast, ev_gfI, ev_gfL, ev_gfR, ev_pfI, ev_pfZ, ev_pfL, ev_pfR, ev_new, ev_newa, ev_newq, ev_copy, ev_slen, ev_schr, ev_obj, ev_mmin, ev_mabs, ev_mmax, ev_goto, ev_jsr, ev_icmp_eq, ev_if_eq, ev_icmp_ne, ev_if_ne, ev_icmp_lt, ev_if_lt, ev_icmp_ge, ev_if_ge, ev_icmp_gt, ev_if_gt, ev_icmp_le, ev_if_le, ev_ifnull0, ev_ifnull1, ev_ifnn0, ev_ifnn1, ev_tsw, ev_lsw, ev_iret, ev_zret, ev_lret, ev_aret, ev_ret, ev_call0, ev_call1, ev_call2, ev_call3, ev_call4, ev_call5, ev_call6, Option.toList_some, Option.toList_none, List.cons_append, List.nil_append, List.length_cons, List.length_nil, Nat.reduceMod, Nat.reduceDiv, Nat.reduceLeDiff, nc, ↓reduceIte, Nat.zero_le, reduceCtorEq, w32_id, Int.reduceEq, Int.reduceNe, Int.reduceLT, Int.reduceLE, Int.reduceGT, Int.reduceGE, Int.reduceAdd, Int.reduceSub, Int.reduceMul, Int.reduceNeg, ne_eq, not_true_eq_false, not_false_eq_true, eq_self, ↓if_pos, ↓if_neg, w0_r0_3, w0_r0_4, w0_r0_5, w0_r0_6, w0_r0_7, w0_r0_8, w0_r0_10, w0_r0_11, w0_r0_12, w0_r0_13, w0_r0_14, w0_r0_15, w0_r0_16, w0_r0_17, w0_r0_18, cr0, cr1, cr2, cr3, cr4, cr5, cr6, cr7, J_182_0, k_182_0, J_182_58, k_182_58, J_182_64, k_182_64, ]
  rw [he]
  simp (disch := first | assumption | decide | omega | (simp only [List.length_cons, List.length_nil] <;> omega)) only [lgt_0, lgt_s, lset_0, lset_s, lst1_0, lst1_s, lst2_0, lst2_s, ev_iconst, ev_lconst, ev_ldc, ev_null, ev_iload, ev_lload, ev_aload, ev_istore, ev_lstore, ev_astore, ev_iinc, ev_iadd, ev_isub, ev_imul, ev_iand, ev_ior, ev_ishl, ev_ishr, ev_idiv, ev_irem, ev_ineg, ev_ladd, ev_lsub, ev_lmul, ev_land, ev_lor, ev_ldiv, ev_lrem, ev_lshl, ev_i2l, ev_l2i, ev_i2b, ev_i2s, ev_lcmp, ev_dupI, ev_dupR, ev_dup2, ev_popI, ev_popR, ev_alen, ev_xlen, ev_xald, ev_iald, ev_lald, ev_bald, ev_zald, ev_aald, ev_iast, ev_last, ev_bast, ev_zast, ev_aast, ev_gfI, ev_gfL, ev_gfR, ev_pfI, ev_pfZ, ev_pfL, ev_pfR, ev_new, ev_newa, ev_newq, ev_copy, ev_slen, ev_schr, ev_obj, ev_mmin, ev_mabs, ev_mmax, ev_goto, ev_jsr, ev_icmp_eq, ev_if_eq, ev_icmp_ne, ev_if_ne, ev_icmp_lt, ev_if_lt, ev_icmp_ge, ev_if_ge, ev_icmp_gt, ev_if_gt, ev_icmp_le, ev_if_le, ev_ifnull0, ev_ifnull1, ev_ifnn0, ev_ifnn1, ev_tsw, ev_lsw, ev_iret, ev_zret, ev_lret, ev_aret, ev_ret, ev_call0, ev_call1, ev_call2, ev_call3, ev_call4, ev_call5, ev_call6, Option.toList_some, Option.toList_none, List.cons_append, List.nil_append, List.length_cons, List.length_nil, Nat.reduceMod, Nat.reduceDiv, Nat.reduceLeDiff, nc, ↓reduceIte, Nat.zero_le, reduceCtorEq, w32_id, Int.reduceEq, Int.reduceNe, Int.reduceLT, Int.reduceLE, Int.reduceGT, Int.reduceGE, Int.reduceAdd, Int.reduceSub, Int.reduceMul, Int.reduceNeg, ne_eq, not_true_eq_false, not_false_eq_true, eq_self, ↓if_pos, ↓if_neg, w0_r0_3, w0_r0_4, w0_r0_5, w0_r0_6, w0_r0_7, w0_r0_8, w0_r0_10, w0_r0_11, w0_r0_12, w0_r0_13, w0_r0_14, w0_r0_15, w0_r0_16, w0_r0_17, w0_r0_18, cr0, cr1, cr2, cr3, cr4, cr5, cr6, cr7, J_182_0, k_182_0, J_182_58, k_182_58, J_182_64, k_182_64, k_182_7, hn, en, q0]
end PTO
