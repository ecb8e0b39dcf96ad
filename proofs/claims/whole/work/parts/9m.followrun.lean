section FOR
variable {X : Int → Int} {M M' : Mem} {A : Int → Int}
theorem c_behind0 {l t : Int} {n : Nat} {o : Nat} (hn : n < 3) (ho : o < 80) (h10 : M 60 10 = (n : Int) + 1) (h65 : M 65 n = (o : Int)) (h66 : M 66 n = t) (ht : 1 ≤ t ∧ t ≤ 48) (hl : 0 ≤ l ∧ l < 80) : (0 < t - 1 → evc X 212 [vR (some 60), vI l] SH0 M = some (some (vI ((o : Int) + 1)), SH0, up M 66 n (t - 1))) ∧ (¬ 0 < t - 1 → evc X 212 [vR (some 60), vI l] SH0 M = some (some (vI (l + 1)), SH0, up (up M 66 n (t - 1)) 60 10 n)) := by
  have k60 := w0_k60
  have k65 := w0_k65
  have l65 := w0_l65
  have k66 := w0_k66
  have l66 := w0_l66
  have e1 : (n : Int) + 1 - 1 = n := by omega
  constructor <;> intro q <;> rw [E_212 k60]
  · have q' : ¬ t - 1 ≤ 0 := by omega
    simp (disch := first | assumption | decide | omega | (simp only [List.length_cons, List.length_nil] <;> omega)) only [lgt_0, lgt_s, lset_0, lset_s, lst1_0, lst1_s, lst2_0, lst2_s, ev_iconst, ev_lconst, ev_ldc, ev_null, ev_iload, ev_lload, ev_aload, ev_istore, ev_lstore, ev_astore, ev_iinc, ev_iadd, ev_isub, ev_imul, ev_iand, ev_ior, ev_ishl, ev_ishr, ev_idiv, ev_irem, ev_ineg, ev_ladd, ev_lsub, ev_lmul, ev_land, ev_lor, ev_ldiv, ev_lrem, ev_lshl, ev_i2l, ev_l2i, ev_i2b, ev_i2s, ev_lcmp, ev_dupI, ev_dupR, ev_dup2, ev_popI, ev_popR, ev_alen, ev_xlen, ev_xald, ev_iald, ev_lald, ev_bald, ev_zald, ev_aald, ev_iast, ev_last, ev_bast, ev_zast, ev_aast, ev_gfI, ev_gfL, ev_gfR, ev_pfI, ev_pfZ, ev_pfL, ev_pfR, ev_new, ev_newa, ev_newq, ev_copy, ev_slen, ev_schr, ev_obj, ev_mmin, ev_mabs, ev_mmax, ev_goto, ev_jsr, ev_icmp_eq, ev_if_eq, ev_icmp_ne, ev_if_ne, ev_icmp_lt, ev_if_lt, ev_icmp_ge, ev_if_ge, ev_icmp_gt, ev_if_gt, ev_icmp_le, ev_if_le, ev_ifnull0, ev_ifnull1, ev_ifnn0, ev_ifnn1, ev_tsw, ev_lsw, ev_iret, ev_zret, ev_lret, ev_aret, ev_ret, ev_call0, ev_call1, ev_call2, ev_call3, ev_call4, ev_call5, ev_call6, Option.toList_some, Option.toList_none, List.cons_append, List.nil_append, List.length_cons, List.length_nil, Nat.reduceMod, Nat.reduceDiv, Nat.reduceLeDiff, nc, ↓reduceIte, Nat.zero_le, reduceCtorEq, w32_id, Int.reduceEq, Int.reduceNe, Int.reduceLT, Int.reduceLE, Int.reduceGT, Int.reduceGE, Int.reduceAdd, Int.reduceSub, Int.reduceMul, Int.reduceNeg, ne_eq, not_true_eq_false, not_false_eq_true, eq_self, ↓if_pos, ↓if_neg, J_212_0, k_212_0, J_212_15, k_212_15, J_212_19, k_212_19, J_212_54, k_212_54, w0_r60_8, w0_r60_9, h10, e1, h65, h66, q', up_ne, up_eq, up_ne2]
  · have q' : t - 1 ≤ 0 := by omega
    simp (disch := first | assumption | decide | omega | (simp only [List.length_cons, List.length_nil] <;> omega)) only [lgt_0, lgt_s, lset_0, lset_s, lst1_0, lst1_s, lst2_0, lst2_s, ev_iconst, ev_lconst, ev_ldc, ev_null, ev_iload, ev_lload, ev_aload, ev_istore, ev_lstore, ev_astore, ev_iinc, ev_iadd, ev_isub, ev_imul, ev_iand, ev_ior, ev_ishl, ev_ishr, ev_idiv, ev_irem, ev_ineg, ev_ladd, ev_lsub, ev_lmul, ev_land, ev_lor, ev_ldiv, ev_lrem, ev_lshl, ev_i2l, ev_l2i, ev_i2b, ev_i2s, ev_lcmp, ev_dupI, ev_dupR, ev_dup2, ev_popI, ev_popR, ev_alen, ev_xlen, ev_xald, ev_iald, ev_lald, ev_bald, ev_zald, ev_aald, ev_iast, ev_last, ev_bast, ev_zast, ev_aast, ev_gfI, ev_gfL, ev_gfR, ev_pfI, ev_pfZ, ev_pfL, ev_pfR, ev_new, ev_newa, ev_newq, ev_copy, ev_slen, ev_schr, ev_obj, ev_mmin, ev_mabs, ev_mmax, ev_goto, ev_jsr, ev_icmp_eq, ev_if_eq, ev_icmp_ne, ev_if_ne, ev_icmp_lt, ev_if_lt, ev_icmp_ge, ev_if_ge, ev_icmp_gt, ev_if_gt, ev_icmp_le, ev_if_le, ev_ifnull0, ev_ifnull1, ev_ifnn0, ev_ifnn1, ev_tsw, ev_lsw, ev_iret, ev_zret, ev_lret, ev_aret, ev_ret, ev_call0, ev_call1, ev_call2, ev_call3, ev_call4, ev_call5, ev_call6, Option.toList_some, Option.toList_none, List.cons_append, List.nil_append, List.length_cons, List.length_nil, Nat.reduceMod, Nat.reduceDiv, Nat.reduceLeDiff, nc, ↓reduceIte, Nat.zero_le, reduceCtorEq, w32_id, Int.reduceEq, Int.reduceNe, Int.reduceLT, Int.reduceLE, Int.reduceGT, Int.reduceGE, Int.reduceAdd, Int.reduceSub, Int.reduceMul, Int.reduceNeg, ne_eq, not_true_eq_false, not_false_eq_true, eq_self, ↓if_pos, ↓if_neg, J_212_0, k_212_0, J_212_15, k_212_15, J_212_19, k_212_19, J_212_54, k_212_54, w0_r60_8, w0_r60_9, h10, e1, h65, h66, q', up_ne, up_eq, up_ne2]
theorem c_openLoop {l t : Int} {n : Nat} (hn : n < 3) (h10 : M 60 10 = (n : Int)) : evc X 216 [vR (some 60), vI l, vI t] SH0 M = some (none, SH0, up (up (up M 65 n l) 66 n t) 60 10 ((n : Int) + 1)) := by
  have k60 := w0_k60
  have k65 := w0_k65
  have l65 := w0_l65
  have k66 := w0_k66
  have l66 := w0_l66
  rw [E_216 k60]
  simp (disch := first | assumption | decide | omega | (simp only [List.length_cons, List.length_nil] <;> omega)) only [lgt_0, lgt_s, lset_0, lset_s, lst1_0, lst1_s, lst2_0, lst2_s, ev_iconst, ev_lconst, ev_ldc, ev_null, ev_iload, ev_lload, ev_aload, ev_istore, ev_lstore, ev_astore, ev_iinc, ev_iadd, ev_isub, ev_imul, ev_iand, ev_ior, ev_ishl, ev_ishr, ev_idiv, ev_irem, ev_ineg, ev_ladd, ev_lsub, ev_lmul, ev_land, ev_lor, ev_ldiv, ev_lrem, ev_lshl, ev_i2l, ev_l2i, ev_i2b, ev_i2s, ev_lcmp, ev_dupI, ev_dupR, ev_dup2, ev_popI, ev_popR, ev_alen, ev_xlen, ev_xald, ev_iald, ev_lald, ev_bald, ev_zald, ev_aald, ev_iast, ev_last, ev_bast, ev_zast, ev_aast, ev_gfI, ev_gfL, ev_gfR, ev_pfI, ev_pfZ, ev_pfL, ev_pfR, ev_new, ev_newa, ev_newq, ev_copy, ev_slen, ev_schr, ev_obj, ev_mmin, ev_mabs, ev_mmax, ev_goto, ev_jsr, ev_icmp_eq, ev_if_eq, ev_icmp_ne, ev_if_ne, ev_icmp_lt, ev_if_lt, ev_icmp_ge, ev_if_ge, ev_icmp_gt, ev_if_gt, ev_icmp_le, ev_if_le, ev_ifnull0, ev_ifnull1, ev_ifnn0, ev_ifnn1, ev_tsw, ev_lsw, ev_iret, ev_zret, ev_lret, ev_aret, ev_ret, ev_call0, ev_call1, ev_call2, ev_call3, ev_call4, ev_call5, ev_call6, Option.toList_some, Option.toList_none, List.cons_append, List.nil_append, List.length_cons, List.length_nil, Nat.reduceMod, Nat.reduceDiv, Nat.reduceLeDiff, nc, ↓reduceIte, Nat.zero_le, reduceCtorEq, w32_id, Int.reduceEq, Int.reduceNe, Int.reduceLT, Int.reduceLE, Int.reduceGT, Int.reduceGE, Int.reduceAdd, Int.reduceSub, Int.reduceMul, Int.reduceNeg, ne_eq, not_true_eq_false, not_false_eq_true, eq_self, ↓if_pos, ↓if_neg, J_216_0, k_216_0, J_216_38, k_216_38, w0_r60_8, w0_r60_9, h10, up_ne, up_eq, up_ne2]
theorem c_runF (k : KV M A) (hl : lnO (M 17) (M 18) (M 19) (M 16 3) (A 2)) (h80 : M 16 3 ≤ 80) (h3 : ∀ l : Nat, (l : Int) ≤ M 16 3 → (stk (M 17) l).length ≤ 3) : ∀ (f l : Nat) (T : List Int) (st : Int) (s : KS) (gd : Int) (w5 w6 : Option PV) (M' : Mem) (r : Int × Int × KS), (∀ b, b < 60 ∨ 66 < b → M' b = M b) → KSc M' s → ksI A s → fI (M 17) (M 16 3) l T st → M' 60 4 = st → M' 60 10 = T.length → lpR (M' 65) (M' 66) (stk (M 17) l) T → folF A (M 17) (M 18) (M 19) (M 16 3) f l T st s = some r → 0 ≤ gd → f + gd ≤ 28800 →
    ∃ M2, (∀ b, b < 60 ∨ 66 < b → M2 b = M b) ∧ (∀ i, i ≠ 1 → i ≠ 2 → i ≠ 3 → i ≠ 4 → i ≠ 10 → M2 60 i = M' 60 i) ∧ KSc M2 r.2.2 ∧ ksI A r.2.2 ∧ M2 60 4 = r.2.1 ∧ ev X 210 (jmp 210 9) [some (vR (some 60)), some (vR (some 4)), some (vR (some 16)), some (vI (l : Int)), some (vI gd), w5, w6] [] SH0 M' = some (some (vI r.1), SH0, M2)
  | 0, _, _, _, _, _, _, _, _, _, _, _, _, _, _, _, _, hf, _, _ => by
    have hf' : (none : Option (Int × Int × KS)) = some _ := hf
    exact absurd hf' (by simp)
  | f + 1, l, T, st, s, gd, w5, w6, M', r, fr, ks, hs, hI, h4, h10, hlp, hf, g0, g1 => by
    have k60 := w0_k60
    have k64 := w0_k64
    have l64 := w0_l64
    have k16 := w0_k16
    have k17 := w0_k17
    have k18 := w0_k18
    have k19 := w0_k19
    have l17 := w0_l17
    have l18 := w0_l18
    have l19 := w0_l19
    have hc4 := w0_ch4
    have hc4' := w0_ch4
    obtain ⟨ck0, cr0, cr1, cr2, cr3, cr4, cr5, cr6, cr7, ck1, ck2, ck3, ck4, ck5, ck6, ck7, ck8, cl1, cl2, cl3, cl4, cl5, cl6, cl7, cl8⟩ := hc4'
    have kv' : KV M' A := kv_f k fun b b0 b1 => fr b (by omega)
    have g := k_gWY k
    have n8 := k_n kv'
    have hli : M' 16 3 = M 16 3 := by rw [fr 16 (by omega)]
    have gq : ¬ 28800 ≤ gd := by omega
    obtain ⟨ks1, ks2, ks3, ks4, ks5, ks6⟩ := id ks
    unfold folF at hf
    by_cases q1 : M 16 3 ≤ (l : Int)
    · rw [if_pos q1] at hf
      injection hf with hf
      subst hf
      refine ⟨M', fr, fun _ _ _ _ _ _ => rfl, ks, hs, h4, ?_⟩
      rw [J_210_9]
      show _ = some (some (vI (if s.1 = xn A then 0 else 1)), SH0, M')
      by_cases z : s.1 = xn A
      · rw [if_pos z]
        simp (disch := first | assumption | decide | omega | (simp only [List.length_cons, List.length_nil] <;> omega)) only [lgt_0, lgt_s, lset_0, lset_s, lst1_0, lst1_s, lst2_0, lst2_s, ev_iconst, ev_lconst, ev_ldc, ev_null, ev_iload, ev_lload, ev_aload, ev_istore, ev_lstore, ev_astore, ev_iinc, ev_iadd, ev_isub, ev_imul, ev_iand, ev_ior, ev_ishl, ev_ishr, ev_idiv, ev_irem, ev_ineg, ev_ladd, ev_lsub, ev_lmul, ev_land, ev_lor, ev_ldiv, ev_lrem, ev_lshl, ev_i2l, ev_l2i, ev_i2b, ev_i2s, ev_lcmp, ev_dupI, ev_dupR, ev_dup2, ev_popI, ev_popR, ev_alen, ev_xlen, ev_xald, ev_iald, ev_lald, ev_bald, ev_zald, ev_aald, ev_iast, ev_last, ev_bast, ev_zast, ev_aast, ev_gfI, ev_gfL, ev_gfR, ev_pfI, ev_pfZ, ev_pfL, ev_pfR, ev_new, ev_newa, ev_newq, ev_copy, ev_slen, ev_schr, ev_obj, ev_mmin, ev_mabs, ev_mmax, ev_goto, ev_jsr, ev_icmp_eq, ev_if_eq, ev_icmp_ne, ev_if_ne, ev_icmp_lt, ev_if_lt, ev_icmp_ge, ev_if_ge, ev_icmp_gt, ev_if_gt, ev_icmp_le, ev_if_le, ev_ifnull0, ev_ifnull1, ev_ifnn0, ev_ifnn1, ev_tsw, ev_lsw, ev_iret, ev_zret, ev_lret, ev_aret, ev_ret, ev_call0, ev_call1, ev_call2, ev_call3, ev_call4, ev_call5, ev_call6, Option.toList_some, Option.toList_none, List.cons_append, List.nil_append, List.length_cons, List.length_nil, Nat.reduceMod, Nat.reduceDiv, Nat.reduceLeDiff, nc, ↓reduceIte, Nat.zero_le, reduceCtorEq, w32_id, Int.reduceEq, Int.reduceNe, Int.reduceLT, Int.reduceLE, Int.reduceGT, Int.reduceGE, Int.reduceAdd, Int.reduceSub, Int.reduceMul, Int.reduceNeg, ne_eq, not_true_eq_false, not_false_eq_true, eq_self, ↓if_pos, ↓if_neg, J_210_0, k_210_0, J_210_40, k_210_40, J_210_41, k_210_41, J_210_42, k_210_42, J_210_65, k_210_65, J_210_77, k_210_77, J_210_105, k_210_105, J_210_108, k_210_108, J_210_114, k_210_114, k_210_9, gq, hli, q1, ks1, n8, z]
      · rw [if_neg z]
        simp (disch := first | assumption | decide | omega | (simp only [List.length_cons, List.length_nil] <;> omega)) only [lgt_0, lgt_s, lset_0, lset_s, lst1_0, lst1_s, lst2_0, lst2_s, ev_iconst, ev_lconst, ev_ldc, ev_null, ev_iload, ev_lload, ev_aload, ev_istore, ev_lstore, ev_astore, ev_iinc, ev_iadd, ev_isub, ev_imul, ev_iand, ev_ior, ev_ishl, ev_ishr, ev_idiv, ev_irem, ev_ineg, ev_ladd, ev_lsub, ev_lmul, ev_land, ev_lor, ev_ldiv, ev_lrem, ev_lshl, ev_i2l, ev_l2i, ev_i2b, ev_i2s, ev_lcmp, ev_dupI, ev_dupR, ev_dup2, ev_popI, ev_popR, ev_alen, ev_xlen, ev_xald, ev_iald, ev_lald, ev_bald, ev_zald, ev_aald, ev_iast, ev_last, ev_bast, ev_zast, ev_aast, ev_gfI, ev_gfL, ev_gfR, ev_pfI, ev_pfZ, ev_pfL, ev_pfR, ev_new, ev_newa, ev_newq, ev_copy, ev_slen, ev_schr, ev_obj, ev_mmin, ev_mabs, ev_mmax, ev_goto, ev_jsr, ev_icmp_eq, ev_if_eq, ev_icmp_ne, ev_if_ne, ev_icmp_lt, ev_if_lt, ev_icmp_ge, ev_if_ge, ev_icmp_gt, ev_if_gt, ev_icmp_le, ev_if_le, ev_ifnull0, ev_ifnull1, ev_ifnn0, ev_ifnn1, ev_tsw, ev_lsw, ev_iret, ev_zret, ev_lret, ev_aret, ev_ret, ev_call0, ev_call1, ev_call2, ev_call3, ev_call4, ev_call5, ev_call6, Option.toList_some, Option.toList_none, List.cons_append, List.nil_append, List.length_cons, List.length_nil, Nat.reduceMod, Nat.reduceDiv, Nat.reduceLeDiff, nc, ↓reduceIte, Nat.zero_le, reduceCtorEq, w32_id, Int.reduceEq, Int.reduceNe, Int.reduceLT, Int.reduceLE, Int.reduceGT, Int.reduceGE, Int.reduceAdd, Int.reduceSub, Int.reduceMul, Int.reduceNeg, ne_eq, not_true_eq_false, not_false_eq_true, eq_self, ↓if_pos, ↓if_neg, J_210_0, k_210_0, J_210_40, k_210_40, J_210_41, k_210_41, J_210_42, k_210_42, J_210_65, k_210_65, J_210_77, k_210_77, J_210_105, k_210_105, J_210_108, k_210_108, J_210_114, k_210_114, k_210_9, gq, hli, q1, ks1, n8, z]
    rw [if_neg q1] at hf
    have q1' : (l : Int) < M 16 3 := by omega
    have lk := hl.1 l (by omega) q1'
    have h17 : M' 17 (l : Int) = M 17 l := by rw [fr 17 (by omega)]
    have h18 : M' 18 (l : Int) = M 18 l := by rw [fr 18 (by omega)]
    have h19 : M' 19 (l : Int) = M 19 l := by rw [fr 19 (by omega)]
    by_cases q3 : M 17 l = 3
    · rw [if_pos q3] at hf
      obtain ⟨o, rr, t, T', hst, hT, ht, e1, e2, el, ko, so, ol⟩ := fI_end hl hI q1' q3
      subst hT
      rw [hst] at hlp
      have hf' : (if 0 < t - 1 then folF A (M 17) (M 18) (M 19) (M 16 3) f ((stk (M 17) l).headD 0 + 1) ((t - 1) :: T') st s else folF A (M 17) (M 18) (M 19) (M 16 3) f (l + 1) T' st s) = some r := hf
      rw [hst] at hf'
      have h3l := h3 l (by omega)
      rw [hst] at h3l
      have T3 : T'.length < 3 := by
        simp only [List.length_cons] at h3l
        omega
      have h10' : M' 60 10 = (T'.length : Int) + 1 := by
        rw [h10]
        simp only [List.length_cons]
        omega
      have be := c_behind0 (X := X) (M := M') (l := (l : Int)) (n := T'.length) (o := o) T3 (by omega) h10' hlp.1 hlp.2.1 ht (by omega)
      by_cases z : 0 < t - 1
      · rw [if_pos z] at hf'
        have e := be.1 z
        obtain ⟨M2, a1, a2, a3, a4, a5, a6⟩ := c_runF k hl h80 h3 f (o + 1) ((t - 1) :: T') st s (gd + 1) (some (vI 3)) w6 (up M' 66 (T'.length : Int) (t - 1)) r (fun b hb => by rw [up_ne (by omega)]; exact fr b hb) ⟨by rw [up_ne (by omega)]; exact ks1, by rw [up_ne (by omega)]; exact ks2, by rw [up_ne (by omega)]; exact ks3, fun c c0 c1 => by rw [up_ne (by omega)]; exact ks4 c c0 c1, by rw [up_ne (by omega)]; exact ks5, by rw [up_ne (by omega)]; exact ks6⟩ hs (e1 z) (by rw [up_ne (by omega)]; exact h4) (by rw [up_ne (by omega), h10']; simp only [List.length_cons]; omega) (by
          rw [stk_s, if_pos ko, so]
          refine ⟨by rw [up_ne (by omega)]; exact hlp.1, up_eq, lpR_up hlp.2.2 fun i i0 i1 => ⟨by rw [up_ne (by omega)], up_ne2 (by omega)⟩⟩) hf' (by omega) (by omega)
        refine ⟨M2, a1, fun i i1 i2 i3 i4 i5 => by rw [a2 i i1 i2 i3 i4 i5, up_ne (by omega)], a3, a4, a5, ?_⟩
        rw [nc_s] at a6
        rw [J_210_9]
        simp (disch := first | assumption | decide | omega | (simp only [List.length_cons, List.length_nil] <;> omega)) only [lgt_0, lgt_s, lset_0, lset_s, lst1_0, lst1_s, lst2_0, lst2_s, ev_iconst, ev_lconst, ev_ldc, ev_null, ev_iload, ev_lload, ev_aload, ev_istore, ev_lstore, ev_astore, ev_iinc, ev_iadd, ev_isub, ev_imul, ev_iand, ev_ior, ev_ishl, ev_ishr, ev_idiv, ev_irem, ev_ineg, ev_ladd, ev_lsub, ev_lmul, ev_land, ev_lor, ev_ldiv, ev_lrem, ev_lshl, ev_i2l, ev_l2i, ev_i2b, ev_i2s, ev_lcmp, ev_dupI, ev_dupR, ev_dup2, ev_popI, ev_popR, ev_alen, ev_xlen, ev_xald, ev_iald, ev_lald, ev_bald, ev_zald, ev_aald, ev_iast, ev_last, ev_bast, ev_zast, ev_aast, ev_gfI, ev_gfL, ev_gfR, ev_pfI, ev_pfZ, ev_pfL, ev_pfR, ev_new, ev_newa, ev_newq, ev_copy, ev_slen, ev_schr, ev_obj, ev_mmin, ev_mabs, ev_mmax, ev_goto, ev_jsr, ev_icmp_eq, ev_if_eq, ev_icmp_ne, ev_if_ne, ev_icmp_lt, ev_if_lt, ev_icmp_ge, ev_if_ge, ev_icmp_gt, ev_if_gt, ev_icmp_le, ev_if_le, ev_ifnull0, ev_ifnull1, ev_ifnn0, ev_ifnn1, ev_tsw, ev_lsw, ev_iret, ev_zret, ev_lret, ev_aret, ev_ret, ev_call0, ev_call1, ev_call2, ev_call3, ev_call4, ev_call5, ev_call6, Option.toList_some, Option.toList_none, List.cons_append, List.nil_append, List.length_cons, List.length_nil, Nat.reduceMod, Nat.reduceDiv, Nat.reduceLeDiff, nc, ↓reduceIte, Nat.zero_le, reduceCtorEq, w32_id, Int.reduceEq, Int.reduceNe, Int.reduceLT, Int.reduceLE, Int.reduceGT, Int.reduceGE, Int.reduceAdd, Int.reduceSub, Int.reduceMul, Int.reduceNeg, ne_eq, not_true_eq_false, not_false_eq_true, eq_self, ↓if_pos, ↓if_neg, J_210_0, k_210_0, J_210_40, k_210_40, J_210_41, k_210_41, J_210_42, k_210_42, J_210_65, k_210_65, J_210_77, k_210_77, J_210_105, k_210_105, J_210_108, k_210_108, J_210_114, k_210_114, k_210_9, gq, hli, q1, w0_r16_0, h17, q3, e, a6]
      · rw [if_neg z] at hf'
        have e := be.2 z
        obtain ⟨M2, a1, a2, a3, a4, a5, a6⟩ := c_runF k hl h80 h3 f (l + 1) T' st s (gd + 1) (some (vI 3)) w6 (up (up M' 66 (T'.length : Int) (t - 1)) 60 10 (T'.length : Int)) r (fun b hb => by rw [up_ne (by omega), up_ne (by omega)]; exact fr b hb) ⟨by rw [up_ne2 (by omega), up_ne (by omega)]; exact ks1, by rw [up_ne2 (by omega), up_ne (by omega)]; exact ks2, by rw [up_ne2 (by omega), up_ne (by omega)]; exact ks3, fun c c0 c1 => by rw [up_ne (by omega), up_ne (by omega)]; exact ks4 c c0 c1, by rw [up_ne (by omega), up_ne (by omega)]; exact ks5, by rw [up_ne (by omega), up_ne (by omega)]; exact ks6⟩ hs (e2 z) (by rw [up_ne2 (by omega), up_ne (by omega)]; exact h4) up_eq (by
          rw [stk_s, if_neg (by omega), if_pos q3, hst]
          exact lpR_up hlp.2.2 fun i i0 i1 => ⟨by rw [up_ne (by omega), up_ne (by omega)], by rw [up_ne (by omega), up_ne2 (by omega)]⟩) hf' (by omega) (by omega)
        refine ⟨M2, a1, fun i i1 i2 i3 i4 i5 => by rw [a2 i i1 i2 i3 i4 i5, up_ne2 i5, up_ne (by omega)], a3, a4, a5, ?_⟩
        rw [nc_s] at a6
        rw [J_210_9]
        simp (disch := first | assumption | decide | omega | (simp only [List.length_cons, List.length_nil] <;> omega)) only [lgt_0, lgt_s, lset_0, lset_s, lst1_0, lst1_s, lst2_0, lst2_s, ev_iconst, ev_lconst, ev_ldc, ev_null, ev_iload, ev_lload, ev_aload, ev_istore, ev_lstore, ev_astore, ev_iinc, ev_iadd, ev_isub, ev_imul, ev_iand, ev_ior, ev_ishl, ev_ishr, ev_idiv, ev_irem, ev_ineg, ev_ladd, ev_lsub, ev_lmul, ev_land, ev_lor, ev_ldiv, ev_lrem, ev_lshl, ev_i2l, ev_l2i, ev_i2b, ev_i2s, ev_lcmp, ev_dupI, ev_dupR, ev_dup2, ev_popI, ev_popR, ev_alen, ev_xlen, ev_xald, ev_iald, ev_lald, ev_bald, ev_zald, ev_aald, ev_iast, ev_last, ev_bast, ev_zast, ev_aast, ev_gfI, ev_gfL, ev_gfR, ev_pfI, ev_pfZ, ev_pfL, ev_pfR, ev_new, ev_newa, ev_newq, ev_copy, ev_slen, ev_schr, ev_obj, ev_mmin, ev_mabs, ev_mmax, ev_goto, ev_jsr, ev_icmp_eq, ev_if_eq, ev_icmp_ne, ev_if_ne, ev_icmp_lt, ev_if_lt, ev_icmp_ge, ev_if_ge, ev_icmp_gt, ev_if_gt, ev_icmp_le, ev_if_le, ev_ifnull0, ev_ifnull1, ev_ifnn0, ev_ifnn1, ev_tsw, ev_lsw, ev_iret, ev_zret, ev_lret, ev_aret, ev_ret, ev_call0, ev_call1, ev_call2, ev_call3, ev_call4, ev_call5, ev_call6, Option.toList_some, Option.toList_none, List.cons_append, List.nil_append, List.length_cons, List.length_nil, Nat.reduceMod, Nat.reduceDiv, Nat.reduceLeDiff, nc, ↓reduceIte, Nat.zero_le, reduceCtorEq, w32_id, Int.reduceEq, Int.reduceNe, Int.reduceLT, Int.reduceLE, Int.reduceGT, Int.reduceGE, Int.reduceAdd, Int.reduceSub, Int.reduceMul, Int.reduceNeg, ne_eq, not_true_eq_false, not_false_eq_true, eq_self, ↓if_pos, ↓if_neg, J_210_0, k_210_0, J_210_40, k_210_40, J_210_41, k_210_41, J_210_42, k_210_42, J_210_65, k_210_65, J_210_77, k_210_77, J_210_105, k_210_105, J_210_108, k_210_108, J_210_114, k_210_114, k_210_9, gq, hli, q1, w0_r16_0, h17, q3, e, a6]
    rw [if_neg q3] at hf
    by_cases q4 : 300 ≤ st
    · rw [if_pos q4] at hf
      injection hf with hf
      subst hf
      refine ⟨M', fr, fun _ _ _ _ _ _ => rfl, ks, hs, h4, ?_⟩
      rw [J_210_9]
      show _ = some (some (vI 5), SH0, M')
      have q1n : ¬ M 16 3 ≤ (l : Int) := q1
      simp (disch := first | assumption | decide | omega | (simp only [List.length_cons, List.length_nil] <;> omega)) only [lgt_0, lgt_s, lset_0, lset_s, lst1_0, lst1_s, lst2_0, lst2_s, ev_iconst, ev_lconst, ev_ldc, ev_null, ev_iload, ev_lload, ev_aload, ev_istore, ev_lstore, ev_astore, ev_iinc, ev_iadd, ev_isub, ev_imul, ev_iand, ev_ior, ev_ishl, ev_ishr, ev_idiv, ev_irem, ev_ineg, ev_ladd, ev_lsub, ev_lmul, ev_land, ev_lor, ev_ldiv, ev_lrem, ev_lshl, ev_i2l, ev_l2i, ev_i2b, ev_i2s, ev_lcmp, ev_dupI, ev_dupR, ev_dup2, ev_popI, ev_popR, ev_alen, ev_xlen, ev_xald, ev_iald, ev_lald, ev_bald, ev_zald, ev_aald, ev_iast, ev_last, ev_bast, ev_zast, ev_aast, ev_gfI, ev_gfL, ev_gfR, ev_pfI, ev_pfZ, ev_pfL, ev_pfR, ev_new, ev_newa, ev_newq, ev_copy, ev_slen, ev_schr, ev_obj, ev_mmin, ev_mabs, ev_mmax, ev_goto, ev_jsr, ev_icmp_eq, ev_if_eq, ev_icmp_ne, ev_if_ne, ev_icmp_lt, ev_if_lt, ev_icmp_ge, ev_if_ge, ev_icmp_gt, ev_if_gt, ev_icmp_le, ev_if_le, ev_ifnull0, ev_ifnull1, ev_ifnn0, ev_ifnn1, ev_tsw, ev_lsw, ev_iret, ev_zret, ev_lret, ev_aret, ev_ret, ev_call0, ev_call1, ev_call2, ev_call3, ev_call4, ev_call5, ev_call6, Option.toList_some, Option.toList_none, List.cons_append, List.nil_append, List.length_cons, List.length_nil, Nat.reduceMod, Nat.reduceDiv, Nat.reduceLeDiff, nc, ↓reduceIte, Nat.zero_le, reduceCtorEq, w32_id, Int.reduceEq, Int.reduceNe, Int.reduceLT, Int.reduceLE, Int.reduceGT, Int.reduceGE, Int.reduceAdd, Int.reduceSub, Int.reduceMul, Int.reduceNeg, ne_eq, not_true_eq_false, not_false_eq_true, eq_self, ↓if_pos, ↓if_neg, J_210_0, k_210_0, J_210_40, k_210_40, J_210_41, k_210_41, J_210_42, k_210_42, J_210_65, k_210_65, J_210_77, k_210_77, J_210_105, k_210_105, J_210_108, k_210_108, J_210_114, k_210_114, k_210_9, gq, hli, q1n, w0_r16_0, h17, q3, h4, q4]
    rw [if_neg q4] at hf
    obtain ⟨i1, i2, i3, i4⟩ := id hI
    have t0 : lsw 73 #[(0, 40), (1, 54)].toList 0 = 40 := rfl
    have t1 : lsw 73 #[(0, 40), (1, 54)].toList 1 = 54 := rfl
    have t2 : lsw 73 #[(0, 40), (1, 54)].toList 2 = 73 := rfl
    -- the step is counted
    have d4 : up M' 60 4 (st + 1) 60 4 = st + 1 := up_eq
    have kd : KV (up M' 60 4 (st + 1)) A := kv_f kv' fun b b0 b1 => by rw [up_ne (by omega)]
    have ksd : KSc (up M' 60 4 (st + 1)) s := ⟨by rw [up_ne2 (by omega)]; exact ks1, by rw [up_ne2 (by omega)]; exact ks2, by rw [up_ne2 (by omega)]; exact ks3, fun c c0 c1 => by rw [up_ne (by omega)]; exact ks4 c c0 c1, by rw [up_ne (by omega)]; exact ks5, by rw [up_ne (by omega)]; exact ks6⟩
    have frd : ∀ b, b < 60 ∨ 66 < b → up M' 60 4 (st + 1) b = M b := fun b hb => by rw [up_ne (by omega)]; exact fr b hb
    have d10 : up M' 60 4 (st + 1) 60 10 = T.length := by rw [up_ne2 (by omega)]; exact h10
    have dlp : lpR (up M' 60 4 (st + 1) 65) (up M' 60 4 (st + 1) 66) (stk (M 17) l) T := by rw [up_ne (by omega), up_ne (by omega)]; exact hlp
    have d60 : ∀ i, i ≠ 4 → up M' 60 4 (st + 1) 60 i = M' 60 i := fun i hi => up_ne2 hi
    generalize hMd : up M' 60 4 (st + 1) = Md at d4 kd ksd frd d10 dlp d60
    have h17 : Md 17 (l : Int) = M 17 l := by rw [frd 17 (by omega)]
    have h18 : Md 18 (l : Int) = M 18 l := by rw [frd 18 (by omega)]
    have h19 : Md 19 (l : Int) = M 19 l := by rw [frd 19 (by omega)]
    have h17' : M' 17 (l : Int) = M 17 l := by rw [fr 17 (by omega)]
    by_cases k0 : M 17 l = 0
    · rw [if_pos k0] at hf
      have lc := lk.2.1 (Or.inl k0)
      have ln := lk.2.2 (Or.inl k0)
      obtain ⟨M2, b1, b2, b3, b4⟩ := c_knitN (X := X) kd hs ksd lc (m := M 19 l) (by omega) (by omega)
      have es : evc X 213 [vR (some 60), vR (some 4), vR (some 16), vI (l : Int)] SH0 Md = some (some (vI (knN A (M 18 l) (M 19 l).toNat s).1), SH0, M2) := by
        rw [E_213 k60]
        simp (disch := first | assumption | decide | omega | (simp only [List.length_cons, List.length_nil] <;> omega)) only [lgt_0, lgt_s, lset_0, lset_s, lst1_0, lst1_s, lst2_0, lst2_s, ev_iconst, ev_lconst, ev_ldc, ev_null, ev_iload, ev_lload, ev_aload, ev_istore, ev_lstore, ev_astore, ev_iinc, ev_iadd, ev_isub, ev_imul, ev_iand, ev_ior, ev_ishl, ev_ishr, ev_idiv, ev_irem, ev_ineg, ev_ladd, ev_lsub, ev_lmul, ev_land, ev_lor, ev_ldiv, ev_lrem, ev_lshl, ev_i2l, ev_l2i, ev_i2b, ev_i2s, ev_lcmp, ev_dupI, ev_dupR, ev_dup2, ev_popI, ev_popR, ev_alen, ev_xlen, ev_xald, ev_iald, ev_lald, ev_bald, ev_zald, ev_aald, ev_iast, ev_last, ev_bast, ev_zast, ev_aast, ev_gfI, ev_gfL, ev_gfR, ev_pfI, ev_pfZ, ev_pfL, ev_pfR, ev_new, ev_newa, ev_newq, ev_copy, ev_slen, ev_schr, ev_obj, ev_mmin, ev_mabs, ev_mmax, ev_goto, ev_jsr, ev_icmp_eq, ev_if_eq, ev_icmp_ne, ev_if_ne, ev_icmp_lt, ev_if_lt, ev_icmp_ge, ev_if_ge, ev_icmp_gt, ev_if_gt, ev_icmp_le, ev_if_le, ev_ifnull0, ev_ifnull1, ev_ifnn0, ev_ifnn1, ev_tsw, ev_lsw, ev_iret, ev_zret, ev_lret, ev_aret, ev_ret, ev_call0, ev_call1, ev_call2, ev_call3, ev_call4, ev_call5, ev_call6, Option.toList_some, Option.toList_none, List.cons_append, List.nil_append, List.length_cons, List.length_nil, Nat.reduceMod, Nat.reduceDiv, Nat.reduceLeDiff, nc, ↓reduceIte, Nat.zero_le, reduceCtorEq, w32_id, Int.reduceEq, Int.reduceNe, Int.reduceLT, Int.reduceLE, Int.reduceGT, Int.reduceGE, Int.reduceAdd, Int.reduceSub, Int.reduceMul, Int.reduceNeg, ne_eq, not_true_eq_false, not_false_eq_true, eq_self, ↓if_pos, ↓if_neg, J_213_0, k_213_0, J_213_40, k_213_40, J_213_54, k_213_54, J_213_71, k_213_71, J_213_73, k_213_73, w0_r16_0, w0_r16_1, w0_r16_2, h17, h18, h19, k0, t0, b4]
      have i' := knN_I g lc (m := (M 19 l).toNat) hs
      have fr2 : ∀ b, b < 60 ∨ 66 < b → M2 b = M b := fun b hb => by rw [b2 b (by omega) (by omega) (by omega) (by omega)]; exact frd b hb
      by_cases z : (knN A (M 18 l) (M 19 l).toNat s).1 = -1
      · rw [if_pos z] at hf
        rw [z] at es
        obtain ⟨M3, a1, a2, a3, a4, a5, a6⟩ := c_runF k hl h80 h3 f (l + 1) T (st + 1) _ (gd + 1) (some (vI 0)) (some (vI (-1))) M2 r fr2 b1 i' ⟨by rw [stk_s, if_neg (by omega), if_neg q3]; exact i1, i2, by omega, by omega, by omega⟩ (by rw [b3 4 (by omega) (by omega) (by omega)]; exact d4) (by rw [b3 10 (by omega) (by omega) (by omega)]; exact d10) (by
          rw [stk_s, if_neg (by omega), if_neg q3, b2 65 (by omega) (by omega) (by omega) (by omega), b2 66 (by omega) (by omega) (by omega) (by omega)]
          exact dlp) hf (by omega) (by omega)
        refine ⟨M3, a1, fun i i1 i2 i3 i4 i5 => by rw [a2 i i1 i2 i3 i4 i5, b3 i i1 i2 i3, d60 i i4], a3, a4, a5, ?_⟩
        rw [nc_s] at a6
        rw [J_210_9]
        simp (disch := first | assumption | decide | omega | (simp only [List.length_cons, List.length_nil] <;> omega)) only [lgt_0, lgt_s, lset_0, lset_s, lst1_0, lst1_s, lst2_0, lst2_s, ev_iconst, ev_lconst, ev_ldc, ev_null, ev_iload, ev_lload, ev_aload, ev_istore, ev_lstore, ev_astore, ev_iinc, ev_iadd, ev_isub, ev_imul, ev_iand, ev_ior, ev_ishl, ev_ishr, ev_idiv, ev_irem, ev_ineg, ev_ladd, ev_lsub, ev_lmul, ev_land, ev_lor, ev_ldiv, ev_lrem, ev_lshl, ev_i2l, ev_l2i, ev_i2b, ev_i2s, ev_lcmp, ev_dupI, ev_dupR, ev_dup2, ev_popI, ev_popR, ev_alen, ev_xlen, ev_xald, ev_iald, ev_lald, ev_bald, ev_zald, ev_aald, ev_iast, ev_last, ev_bast, ev_zast, ev_aast, ev_gfI, ev_gfL, ev_gfR, ev_pfI, ev_pfZ, ev_pfL, ev_pfR, ev_new, ev_newa, ev_newq, ev_copy, ev_slen, ev_schr, ev_obj, ev_mmin, ev_mabs, ev_mmax, ev_goto, ev_jsr, ev_icmp_eq, ev_if_eq, ev_icmp_ne, ev_if_ne, ev_icmp_lt, ev_if_lt, ev_icmp_ge, ev_if_ge, ev_icmp_gt, ev_if_gt, ev_icmp_le, ev_if_le, ev_ifnull0, ev_ifnull1, ev_ifnn0, ev_ifnn1, ev_tsw, ev_lsw, ev_iret, ev_zret, ev_lret, ev_aret, ev_ret, ev_call0, ev_call1, ev_call2, ev_call3, ev_call4, ev_call5, ev_call6, Option.toList_some, Option.toList_none, List.cons_append, List.nil_append, List.length_cons, List.length_nil, Nat.reduceMod, Nat.reduceDiv, Nat.reduceLeDiff, nc, ↓reduceIte, Nat.zero_le, reduceCtorEq, w32_id, Int.reduceEq, Int.reduceNe, Int.reduceLT, Int.reduceLE, Int.reduceGT, Int.reduceGE, Int.reduceAdd, Int.reduceSub, Int.reduceMul, Int.reduceNeg, ne_eq, not_true_eq_false, not_false_eq_true, eq_self, ↓if_pos, ↓if_neg, J_210_0, k_210_0, J_210_40, k_210_40, J_210_41, k_210_41, J_210_42, k_210_42, J_210_65, k_210_65, J_210_77, k_210_77, J_210_105, k_210_105, J_210_108, k_210_108, J_210_114, k_210_114, k_210_9, gq, hli, q1, w0_r16_0, h17', k0, h4, q4, hMd, es, a6]
      · rw [if_neg z] at hf
        injection hf with hf
        subst hf
        refine ⟨M2, fr2, fun i i1 i2 i3 i4 i5 => by rw [b3 i i1 i2 i3, d60 i i4], b1, i', by rw [b3 4 (by omega) (by omega) (by omega)]; exact d4, ?_⟩
        rw [J_210_9]
        show _ = some (some (vI (knN A (M 18 l) (M 19 l).toNat s).1), SH0, M2)
        generalize (knN A (M 18 l) (M 19 l).toNat s).1 = ov at es z ⊢
        simp (disch := first | assumption | decide | omega | (simp only [List.length_cons, List.length_nil] <;> omega)) only [lgt_0, lgt_s, lset_0, lset_s, lst1_0, lst1_s, lst2_0, lst2_s, ev_iconst, ev_lconst, ev_ldc, ev_null, ev_iload, ev_lload, ev_aload, ev_istore, ev_lstore, ev_astore, ev_iinc, ev_iadd, ev_isub, ev_imul, ev_iand, ev_ior, ev_ishl, ev_ishr, ev_idiv, ev_irem, ev_ineg, ev_ladd, ev_lsub, ev_lmul, ev_land, ev_lor, ev_ldiv, ev_lrem, ev_lshl, ev_i2l, ev_l2i, ev_i2b, ev_i2s, ev_lcmp, ev_dupI, ev_dupR, ev_dup2, ev_popI, ev_popR, ev_alen, ev_xlen, ev_xald, ev_iald, ev_lald, ev_bald, ev_zald, ev_aald, ev_iast, ev_last, ev_bast, ev_zast, ev_aast, ev_gfI, ev_gfL, ev_gfR, ev_pfI, ev_pfZ, ev_pfL, ev_pfR, ev_new, ev_newa, ev_newq, ev_copy, ev_slen, ev_schr, ev_obj, ev_mmin, ev_mabs, ev_mmax, ev_goto, ev_jsr, ev_icmp_eq, ev_if_eq, ev_icmp_ne, ev_if_ne, ev_icmp_lt, ev_if_lt, ev_icmp_ge, ev_if_ge, ev_icmp_gt, ev_if_gt, ev_icmp_le, ev_if_le, ev_ifnull0, ev_ifnull1, ev_ifnn0, ev_ifnn1, ev_tsw, ev_lsw, ev_iret, ev_zret, ev_lret, ev_aret, ev_ret, ev_call0, ev_call1, ev_call2, ev_call3, ev_call4, ev_call5, ev_call6, Option.toList_some, Option.toList_none, List.cons_append, List.nil_append, List.length_cons, List.length_nil, Nat.reduceMod, Nat.reduceDiv, Nat.reduceLeDiff, nc, ↓reduceIte, Nat.zero_le, reduceCtorEq, w32_id, Int.reduceEq, Int.reduceNe, Int.reduceLT, Int.reduceLE, Int.reduceGT, Int.reduceGE, Int.reduceAdd, Int.reduceSub, Int.reduceMul, Int.reduceNeg, ne_eq, not_true_eq_false, not_false_eq_true, eq_self, ↓if_pos, ↓if_neg, J_210_0, k_210_0, J_210_40, k_210_40, J_210_41, k_210_41, J_210_42, k_210_42, J_210_65, k_210_65, J_210_77, k_210_77, J_210_105, k_210_105, J_210_108, k_210_108, J_210_114, k_210_114, k_210_9, gq, hli, q1, w0_r16_0, h17', k0, h4, q4, hMd, es, z]
    rw [if_neg k0] at hf
    by_cases k1 : M 17 l = 1
    · rw [if_pos k1] at hf
      have lc := lk.2.1 (Or.inr k1)
      have g2 := g.1.1.2.2.1
      have hcol := s_hasColour (X := X) (M := Md) hc4 (i := M 18 l)
      rw [k_S kd (i := 2) (by omega) (by omega), if_pos ⟨lc.1, lc.2⟩] at hcol
      have es : evc X 213 [vR (some 60), vR (some 4), vR (some 16), vI (l : Int)] SH0 Md = some (some (vI (-1)), SH0, up Md 64 (M 18 l) (-1)) := by
        rw [E_213 k60]
        simp (disch := first | assumption | decide | omega | (simp only [List.length_cons, List.length_nil] <;> omega)) only [lgt_0, lgt_s, lset_0, lset_s, lst1_0, lst1_s, lst2_0, lst2_s, ev_iconst, ev_lconst, ev_ldc, ev_null, ev_iload, ev_lload, ev_aload, ev_istore, ev_lstore, ev_astore, ev_iinc, ev_iadd, ev_isub, ev_imul, ev_iand, ev_ior, ev_ishl, ev_ishr, ev_idiv, ev_irem, ev_ineg, ev_ladd, ev_lsub, ev_lmul, ev_land, ev_lor, ev_ldiv, ev_lrem, ev_lshl, ev_i2l, ev_l2i, ev_i2b, ev_i2s, ev_lcmp, ev_dupI, ev_dupR, ev_dup2, ev_popI, ev_popR, ev_alen, ev_xlen, ev_xald, ev_iald, ev_lald, ev_bald, ev_zald, ev_aald, ev_iast, ev_last, ev_bast, ev_zast, ev_aast, ev_gfI, ev_gfL, ev_gfR, ev_pfI, ev_pfZ, ev_pfL, ev_pfR, ev_new, ev_newa, ev_newq, ev_copy, ev_slen, ev_schr, ev_obj, ev_mmin, ev_mabs, ev_mmax, ev_goto, ev_jsr, ev_icmp_eq, ev_if_eq, ev_icmp_ne, ev_if_ne, ev_icmp_lt, ev_if_lt, ev_icmp_ge, ev_if_ge, ev_icmp_gt, ev_if_gt, ev_icmp_le, ev_if_le, ev_ifnull0, ev_ifnull1, ev_ifnn0, ev_ifnn1, ev_tsw, ev_lsw, ev_iret, ev_zret, ev_lret, ev_aret, ev_ret, ev_call0, ev_call1, ev_call2, ev_call3, ev_call4, ev_call5, ev_call6, Option.toList_some, Option.toList_none, List.cons_append, List.nil_append, List.length_cons, List.length_nil, Nat.reduceMod, Nat.reduceDiv, Nat.reduceLeDiff, nc, ↓reduceIte, Nat.zero_le, reduceCtorEq, w32_id, Int.reduceEq, Int.reduceNe, Int.reduceLT, Int.reduceLE, Int.reduceGT, Int.reduceGE, Int.reduceAdd, Int.reduceSub, Int.reduceMul, Int.reduceNeg, ne_eq, not_true_eq_false, not_false_eq_true, eq_self, ↓if_pos, ↓if_neg, J_213_0, k_213_0, J_213_40, k_213_40, J_213_54, k_213_54, J_213_71, k_213_71, J_213_73, k_213_73, w0_r16_0, w0_r16_1, w0_r16_2, w0_r60_7, h17, h18, h19, k1, t1, hcol]
      obtain ⟨x1, x2, x3, x4, x5, x6⟩ := ksd
      obtain ⟨M3, a1, a2, a3, a4, a5, a6⟩ := c_runF k hl h80 h3 f (l + 1) T (st + 1) (kcut (M 18 l) s) (gd + 1) (some (vI 1)) (some (vI (-1))) (up Md 64 (M 18 l) (-1)) r (fun b hb => by rw [up_ne (by omega)]; exact frd b hb) ⟨by rw [up_ne (by omega)]; exact x1, by rw [up_ne (by omega)]; exact x2, by rw [up_ne (by omega)]; exact x3, fun c c0 c1 => by
          show _ = upH s.2.2.2.1 (M 18 l) (-1) c
          unfold upH
          by_cases z : c = M 18 l
          · rw [if_pos z, z, up_eq]
          · rw [if_neg z, up_ne2 z]
            exact x4 c c0 c1, by rw [up_ne (by omega)]; exact x5, by rw [up_ne (by omega)]; exact x6⟩ (kcut_I hs) ⟨by rw [stk_s, if_neg (by omega), if_neg q3]; exact i1, i2, by omega, by omega, by omega⟩ (by rw [up_ne (by omega)]; exact d4) (by rw [up_ne (by omega)]; exact d10) (by
          rw [stk_s, if_neg (by omega), if_neg q3, up_ne (by omega), up_ne (by omega)]
          exact dlp) hf (by omega) (by omega)
      refine ⟨M3, a1, fun i i1 i2 i3 i4 i5 => by rw [a2 i i1 i2 i3 i4 i5, up_ne (by omega), d60 i i4], a3, a4, a5, ?_⟩
      rw [nc_s] at a6
      rw [J_210_9]
      simp (disch := first | assumption | decide | omega | (simp only [List.length_cons, List.length_nil] <;> omega)) only [lgt_0, lgt_s, lset_0, lset_s, lst1_0, lst1_s, lst2_0, lst2_s, ev_iconst, ev_lconst, ev_ldc, ev_null, ev_iload, ev_lload, ev_aload, ev_istore, ev_lstore, ev_astore, ev_iinc, ev_iadd, ev_isub, ev_imul, ev_iand, ev_ior, ev_ishl, ev_ishr, ev_idiv, ev_irem, ev_ineg, ev_ladd, ev_lsub, ev_lmul, ev_land, ev_lor, ev_ldiv, ev_lrem, ev_lshl, ev_i2l, ev_l2i, ev_i2b, ev_i2s, ev_lcmp, ev_dupI, ev_dupR, ev_dup2, ev_popI, ev_popR, ev_alen, ev_xlen, ev_xald, ev_iald, ev_lald, ev_bald, ev_zald, ev_aald, ev_iast, ev_last, ev_bast, ev_zast, ev_aast, ev_gfI, ev_gfL, ev_gfR, ev_pfI, ev_pfZ, ev_pfL, ev_pfR, ev_new, ev_newa, ev_newq, ev_copy, ev_slen, ev_schr, ev_obj, ev_mmin, ev_mabs, ev_mmax, ev_goto, ev_jsr, ev_icmp_eq, ev_if_eq, ev_icmp_ne, ev_if_ne, ev_icmp_lt, ev_if_lt, ev_icmp_ge, ev_if_ge, ev_icmp_gt, ev_if_gt, ev_icmp_le, ev_if_le, ev_ifnull0, ev_ifnull1, ev_ifnn0, ev_ifnn1, ev_tsw, ev_lsw, ev_iret, ev_zret, ev_lret, ev_aret, ev_ret, ev_call0, ev_call1, ev_call2, ev_call3, ev_call4, ev_call5, ev_call6, Option.toList_some, Option.toList_none, List.cons_append, List.nil_append, List.length_cons, List.length_nil, Nat.reduceMod, Nat.reduceDiv, Nat.reduceLeDiff, nc, ↓reduceIte, Nat.zero_le, reduceCtorEq, w32_id, Int.reduceEq, Int.reduceNe, Int.reduceLT, Int.reduceLE, Int.reduceGT, Int.reduceGE, Int.reduceAdd, Int.reduceSub, Int.reduceMul, Int.reduceNeg, ne_eq, not_true_eq_false, not_false_eq_true, eq_self, ↓if_pos, ↓if_neg, J_210_0, k_210_0, J_210_40, k_210_40, J_210_41, k_210_41, J_210_42, k_210_42, J_210_65, k_210_65, J_210_77, k_210_77, J_210_105, k_210_105, J_210_108, k_210_108, J_210_114, k_210_114, k_210_9, gq, hli, q1, w0_r16_0, h17', k1, h4, q4, hMd, es, a6]
    rw [if_neg k1] at hf
    have k2 : M 17 l = 2 := by omega
    have ln := lk.2.2 (Or.inr k2)
    have h3l := h3 (l + 1) (by omega)
    rw [stk_s, if_pos k2] at h3l
    have T3 : T.length < 3 := by
      simp only [List.length_cons] at h3l
      omega
    have eo := c_openLoop (X := X) (M := Md) (l := (l : Int)) (t := M 19 l) T3 d10
    have es : evc X 213 [vR (some 60), vR (some 4), vR (some 16), vI (l : Int)] SH0 Md = some (some (vI (-1)), SH0, up (up (up Md 65 (T.length : Int) (l : Int)) 66 (T.length : Int) (M 19 l)) 60 10 ((T.length : Int) + 1)) := by
      rw [E_213 k60]
      simp (disch := first | assumption | decide | omega | (simp only [List.length_cons, List.length_nil] <;> omega)) only [lgt_0, lgt_s, lset_0, lset_s, lst1_0, lst1_s, lst2_0, lst2_s, ev_iconst, ev_lconst, ev_ldc, ev_null, ev_iload, ev_lload, ev_aload, ev_istore, ev_lstore, ev_astore, ev_iinc, ev_iadd, ev_isub, ev_imul, ev_iand, ev_ior, ev_ishl, ev_ishr, ev_idiv, ev_irem, ev_ineg, ev_ladd, ev_lsub, ev_lmul, ev_land, ev_lor, ev_ldiv, ev_lrem, ev_lshl, ev_i2l, ev_l2i, ev_i2b, ev_i2s, ev_lcmp, ev_dupI, ev_dupR, ev_dup2, ev_popI, ev_popR, ev_alen, ev_xlen, ev_xald, ev_iald, ev_lald, ev_bald, ev_zald, ev_aald, ev_iast, ev_last, ev_bast, ev_zast, ev_aast, ev_gfI, ev_gfL, ev_gfR, ev_pfI, ev_pfZ, ev_pfL, ev_pfR, ev_new, ev_newa, ev_newq, ev_copy, ev_slen, ev_schr, ev_obj, ev_mmin, ev_mabs, ev_mmax, ev_goto, ev_jsr, ev_icmp_eq, ev_if_eq, ev_icmp_ne, ev_if_ne, ev_icmp_lt, ev_if_lt, ev_icmp_ge, ev_if_ge, ev_icmp_gt, ev_if_gt, ev_icmp_le, ev_if_le, ev_ifnull0, ev_ifnull1, ev_ifnn0, ev_ifnn1, ev_tsw, ev_lsw, ev_iret, ev_zret, ev_lret, ev_aret, ev_ret, ev_call0, ev_call1, ev_call2, ev_call3, ev_call4, ev_call5, ev_call6, Option.toList_some, Option.toList_none, List.cons_append, List.nil_append, List.length_cons, List.length_nil, Nat.reduceMod, Nat.reduceDiv, Nat.reduceLeDiff, nc, ↓reduceIte, Nat.zero_le, reduceCtorEq, w32_id, Int.reduceEq, Int.reduceNe, Int.reduceLT, Int.reduceLE, Int.reduceGT, Int.reduceGE, Int.reduceAdd, Int.reduceSub, Int.reduceMul, Int.reduceNeg, ne_eq, not_true_eq_false, not_false_eq_true, eq_self, ↓if_pos, ↓if_neg, J_213_0, k_213_0, J_213_40, k_213_40, J_213_54, k_213_54, J_213_71, k_213_71, J_213_73, k_213_73, w0_r16_0, w0_r16_1, w0_r16_2, h17, h18, h19, k2, t2, eo]
    obtain ⟨x1, x2, x3, x4, x5, x6⟩ := ksd
    obtain ⟨M3, a1, a2, a3, a4, a5, a6⟩ := c_runF k hl h80 h3 f (l + 1) (M 19 l :: T) (st + 1) s (gd + 1) (some (vI 2)) (some (vI (-1))) (up (up (up Md 65 (T.length : Int) (l : Int)) 66 (T.length : Int) (M 19 l)) 60 10 ((T.length : Int) + 1)) r (fun b hb => by rw [up_ne (by omega), up_ne (by omega), up_ne (by omega)]; exact frd b hb) ⟨by rw [up_ne2 (by omega), up_ne (by omega), up_ne (by omega)]; exact x1, by rw [up_ne2 (by omega), up_ne (by omega), up_ne (by omega)]; exact x2, by rw [up_ne2 (by omega), up_ne (by omega), up_ne (by omega)]; exact x3, fun c c0 c1 => by rw [up_ne (by omega), up_ne (by omega), up_ne (by omega)]; exact x4 c c0 c1, by rw [up_ne (by omega), up_ne (by omega), up_ne (by omega)]; exact x5, by rw [up_ne (by omega), up_ne (by omega), up_ne (by omega)]; exact x6⟩ hs ⟨by rw [stk_s, if_pos k2]; simp only [List.length_cons]; omega, fun x hx => by
        rcases List.mem_cons.mp hx with y | y
        · omega
        · exact i2 x y, by omega, by omega, by omega⟩ (by rw [up_ne2 (by omega), up_ne (by omega), up_ne (by omega)]; exact d4) (by rw [up_eq]; simp only [List.length_cons]; omega) (by
      rw [stk_s, if_pos k2]
      refine ⟨by rw [up_ne (by omega), up_ne (by omega), up_eq], by rw [up_ne (by omega), up_eq], lpR_up dlp fun i i0 i1 => ⟨by rw [up_ne (by omega), up_ne (by omega), up_ne2 (by omega)], by rw [up_ne (by omega), up_ne2 (by omega), up_ne (by omega)]⟩⟩) hf (by omega) (by omega)
    refine ⟨M3, a1, fun i i1 i2 i3 i4 i5 => by rw [a2 i i1 i2 i3 i4 i5, up_ne2 i5, up_ne (by omega), up_ne (by omega), d60 i i4], a3, a4, a5, ?_⟩
    rw [nc_s] at a6
    rw [J_210_9]
    simp (disch := first | assumption | decide | omega | (simp only [List.length_cons, List.length_nil] <;> omega)) only [lgt_0, lgt_s, lset_0, lset_s, lst1_0, lst1_s, lst2_0, lst2_s, ev_iconst, ev_lconst, ev_ldc, ev_null, ev_iload, ev_lload, ev_aload, ev_istore, ev_lstore, ev_astore, ev_iinc, ev_iadd, ev_isub, ev_imul, ev_iand, ev_ior, ev_ishl, ev_ishr, ev_idiv, ev_irem, ev_ineg, ev_ladd, ev_lsub, ev_lmul, ev_land, ev_lor, ev_ldiv, ev_lrem, ev_lshl, ev_i2l, ev_l2i, ev_i2b, ev_i2s, ev_lcmp, ev_dupI, ev_dupR, ev_dup2, ev_popI, ev_popR, ev_alen, ev_xlen, ev_xald, ev_iald, ev_lald, ev_bald, ev_zald, ev_aald, ev_iast, ev_last, ev_bast, ev_zast, ev_aast, ev_gfI, ev_gfL, ev_gfR, ev_pfI, ev_pfZ, ev_pfL, ev_pfR, ev_new, ev_newa, ev_newq, ev_copy, ev_slen, ev_schr, ev_obj, ev_mmin, ev_mabs, ev_mmax, ev_goto, ev_jsr, ev_icmp_eq, ev_if_eq, ev_icmp_ne, ev_if_ne, ev_icmp_lt, ev_if_lt, ev_icmp_ge, ev_if_ge, ev_icmp_gt, ev_if_gt, ev_icmp_le, ev_if_le, ev_ifnull0, ev_ifnull1, ev_ifnn0, ev_ifnn1, ev_tsw, ev_lsw, ev_iret, ev_zret, ev_lret, ev_aret, ev_ret, ev_call0, ev_call1, ev_call2, ev_call3, ev_call4, ev_call5, ev_call6, Option.toList_some, Option.toList_none, List.cons_append, List.nil_append, List.length_cons, List.length_nil, Nat.reduceMod, Nat.reduceDiv, Nat.reduceLeDiff, nc, ↓reduceIte, Nat.zero_le, reduceCtorEq, w32_id, Int.reduceEq, Int.reduceNe, Int.reduceLT, Int.reduceLE, Int.reduceGT, Int.reduceGE, Int.reduceAdd, Int.reduceSub, Int.reduceMul, Int.reduceNeg, ne_eq, not_true_eq_false, not_false_eq_true, eq_self, ↓if_pos, ↓if_neg, J_210_0, k_210_0, J_210_40, k_210_40, J_210_41, k_210_41, J_210_42, k_210_42, J_210_65, k_210_65, J_210_77, k_210_77, J_210_105, k_210_105, J_210_108, k_210_108, J_210_114, k_210_114, k_210_9, gq, hli, q1, w0_r16_0, h17', k2, h4, q4, hMd, es, a6]
end FOR
