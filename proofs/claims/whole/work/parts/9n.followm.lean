/-! FOLLOW: the model's side. -/
def mSt (M : Mem) (s : KS) : Prop := M 140 51 = s.1 ∧ M 140 52 = s.2.1 ∧ M 140 53 = s.2.2.1 ∧ (∀ c, 0 ≤ c → c < 5 → M 165 c = s.2.2.2.1 c) ∧ ∀ i, 0 ≤ i → i < 48 → M 166 i = s.2.2.2.2.1 i
def rdR (g : Int → Int) : List Nat → List Int → Prop
  | [], [] => True
  | o :: r, t :: T => g (o : Int) = t - 1 ∧ rdR g r T
  | _, _ => False
theorem rdR_up {g g' : Int → Int} : ∀ {r : List Nat} {T : List Int}, rdR g r T → (∀ o ∈ r, g' (o : Int) = g (o : Int)) → rdR g' r T
  | [], [], _, _ => trivial
  | o :: r, t :: T, h, e => ⟨by rw [e o (List.mem_cons_self ..)]; exact h.1, rdR_up h.2 fun x hx => e x (List.mem_cons_of_mem _ hx)⟩
  | [], _ :: _, h, _ => h.elim
  | _ :: _, [], h, _ => h.elim
theorem stk_lt {K : Int → Int} : ∀ {l o : Nat}, o ∈ stk K l → o < l
  | 0, o, h => by
    have h' : o ∈ ([] : List Nat) := h
    exact absurd h' (by simp)
  | l + 1, o, h => by
    rw [stk_s] at h
    by_cases q : K l = 2
    · rw [if_pos q] at h
      rcases List.mem_cons.mp h with y | y
      · omega
      · have := stk_lt y; omega
    · rw [if_neg q] at h
      by_cases q3 : K l = 3
      · rw [if_pos q3] at h
        have := stk_lt (List.mem_of_mem_tail h)
        omega
      · rw [if_neg q3] at h
        have := stk_lt h
        omega
def lnM (AT K C N : Int → Int) (lines : Int) : Prop := AT 15 = lines ∧ (∀ l, 0 ≤ l → l < lines → AT (130 + 4 * l) = K l ∧ (K l = 0 ∨ K l = 1 → AT (130 + 4 * l + 1) = C l) ∧ (K l = 0 ∨ K l = 2 → AT (130 + 4 * l + 2) = N l)) ∧ ∀ l : Nat, (l : Int) < lines → K l = 3 → ∀ o r, stk K l = o :: r → AT (130 + 4 * (l : Int) + 3) = (o : Int)
section FOM
variable {X : Int → Int} {M : Mem} {A L E : Int → Int}
theorem d_knits (q : QV M A L E) {s : KS} (hs : ksI A s) (ms : mSt M s) {c : Int} (hc : 0 ≤ c ∧ c < A 2) : ∃ M', mSt M' (kn1 A c s).2 ∧ (∀ b, b ≠ 140 → b ≠ 165 → b ≠ 166 → M' b = M b) ∧ (∀ i, i ≠ 51 → i ≠ 52 → i ≠ 53 → M' 140 i = M 140 i) ∧ evc X 358 [vR (some 140), vI c] SH0 M = some (some (vI (kn1 A c s).1), SH0, M') := by
  have mk0 := w0_k140
  have hmd := w0_md140
  obtain ⟨r_at, k_at, l_at⟩ := md_at w0_md140; obtain ⟨r_colourOf, k_colourOf, l_colourOf⟩ := md_colourOf w0_md140; obtain ⟨r_ballAt, k_ballAt, l_ballAt⟩ := md_ballAt w0_md140; obtain ⟨r_laidGoes, k_laidGoes, l_laidGoes⟩ := md_laidGoes w0_md140
  have g := q.2.2.1
  have g2 := g.1.1.2.2.1
  have g3 := g.1.1.2.2.2.1
  have gn := g.1.2.1
  obtain ⟨s1, s2, s3, s4, s5⟩ := ms
  obtain ⟨h1, h2, h3, h4, h5, h6⟩ := hs
  have em := v_many (X := X) q
  have a3 := q.1 3 (by omega) (by omega)
  have hh := s4 c hc.1 (by omega)
  unfold kn1
  by_cases q1 : xn A ≤ s.1
  · rw [if_pos q1]
    have q1' : s.1 = xn A := by omega
    rw [q1'] at s1
    refine ⟨M, ⟨by rw [s1, q1'], s2, s3, s4, s5⟩, fun _ _ _ _ => rfl, fun _ _ _ _ => rfl, ?_⟩
    rw [E_358 mk0]
    simp (disch := first | assumption | decide | omega | (simp only [List.length_cons, List.length_nil] <;> omega)) only [lgt_0, lgt_s, lset_0, lset_s, lst1_0, lst1_s, lst2_0, lst2_s, ev_iconst, ev_lconst, ev_ldc, ev_null, ev_iload, ev_lload, ev_aload, ev_istore, ev_lstore, ev_astore, ev_iinc, ev_iadd, ev_isub, ev_imul, ev_iand, ev_ior, ev_ishl, ev_ishr, ev_idiv, ev_irem, ev_ineg, ev_ladd, ev_lsub, ev_lmul, ev_land, ev_lor, ev_ldiv, ev_lrem, ev_lshl, ev_i2l, ev_l2i, ev_i2b, ev_i2s, ev_lcmp, ev_dupI, ev_dupR, ev_dup2, ev_popI, ev_popR, ev_alen, ev_xlen, ev_xald, ev_iald, ev_lald, ev_bald, ev_zald, ev_aald, ev_iast, ev_last, ev_bast, ev_zast, ev_aast, ev_gfI, ev_gfL, ev_gfR, ev_pfI, ev_pfZ, ev_pfL, ev_pfR, ev_new, ev_newa, ev_newq, ev_copy, ev_slen, ev_schr, ev_obj, ev_mmin, ev_mabs, ev_mmax, ev_goto, ev_jsr, ev_icmp_eq, ev_if_eq, ev_icmp_ne, ev_if_ne, ev_icmp_lt, ev_if_lt, ev_icmp_ge, ev_if_ge, ev_icmp_gt, ev_if_gt, ev_icmp_le, ev_if_le, ev_ifnull0, ev_ifnull1, ev_ifnn0, ev_ifnn1, ev_tsw, ev_lsw, ev_iret, ev_zret, ev_lret, ev_aret, ev_ret, ev_call0, ev_call1, ev_call2, ev_call3, ev_call4, ev_call5, ev_call6, Option.toList_some, Option.toList_none, List.cons_append, List.nil_append, List.length_cons, List.length_nil, Nat.reduceMod, Nat.reduceDiv, Nat.reduceLeDiff, nc, ↓reduceIte, Nat.zero_le, reduceCtorEq, w32_id, Int.reduceEq, Int.reduceNe, Int.reduceLT, Int.reduceLE, Int.reduceGT, Int.reduceGE, Int.reduceAdd, Int.reduceSub, Int.reduceMul, Int.reduceNeg, ne_eq, not_true_eq_false, not_false_eq_true, eq_self, ↓if_pos, ↓if_neg, J_358_0, k_358_0, J_358_13, k_358_13, J_358_28, k_358_28, J_358_54, k_358_54, J_358_69, k_358_69, J_358_90, k_358_90, J_358_99, k_358_99, J_358_117, k_358_117, J_358_118, k_358_118, s1, em]
  rw [if_neg q1]
  have q1' : ¬ s.1 = xn A := by omega
  have vh := v_CO q (i := s.1) h1.1 (by omega)
  by_cases q2 : xH A s.1 ≠ c
  · rw [if_pos q2]
    refine ⟨M, ⟨s1, s2, s3, s4, s5⟩, fun _ _ _ _ => rfl, fun _ _ _ _ => rfl, ?_⟩
    rw [E_358 mk0]
    generalize xH A s.1 = hv at vh q2
    simp (disch := first | assumption | decide | omega | (simp only [List.length_cons, List.length_nil] <;> omega)) only [lgt_0, lgt_s, lset_0, lset_s, lst1_0, lst1_s, lst2_0, lst2_s, ev_iconst, ev_lconst, ev_ldc, ev_null, ev_iload, ev_lload, ev_aload, ev_istore, ev_lstore, ev_astore, ev_iinc, ev_iadd, ev_isub, ev_imul, ev_iand, ev_ior, ev_ishl, ev_ishr, ev_idiv, ev_irem, ev_ineg, ev_ladd, ev_lsub, ev_lmul, ev_land, ev_lor, ev_ldiv, ev_lrem, ev_lshl, ev_i2l, ev_l2i, ev_i2b, ev_i2s, ev_lcmp, ev_dupI, ev_dupR, ev_dup2, ev_popI, ev_popR, ev_alen, ev_xlen, ev_xald, ev_iald, ev_lald, ev_bald, ev_zald, ev_aald, ev_iast, ev_last, ev_bast, ev_zast, ev_aast, ev_gfI, ev_gfL, ev_gfR, ev_pfI, ev_pfZ, ev_pfL, ev_pfR, ev_new, ev_newa, ev_newq, ev_copy, ev_slen, ev_schr, ev_obj, ev_mmin, ev_mabs, ev_mmax, ev_goto, ev_jsr, ev_icmp_eq, ev_if_eq, ev_icmp_ne, ev_if_ne, ev_icmp_lt, ev_if_lt, ev_icmp_ge, ev_if_ge, ev_icmp_gt, ev_if_gt, ev_icmp_le, ev_if_le, ev_ifnull0, ev_ifnull1, ev_ifnn0, ev_ifnn1, ev_tsw, ev_lsw, ev_iret, ev_zret, ev_lret, ev_aret, ev_ret, ev_call0, ev_call1, ev_call2, ev_call3, ev_call4, ev_call5, ev_call6, Option.toList_some, Option.toList_none, List.cons_append, List.nil_append, List.length_cons, List.length_nil, Nat.reduceMod, Nat.reduceDiv, Nat.reduceLeDiff, nc, ↓reduceIte, Nat.zero_le, reduceCtorEq, w32_id, Int.reduceEq, Int.reduceNe, Int.reduceLT, Int.reduceLE, Int.reduceGT, Int.reduceGE, Int.reduceAdd, Int.reduceSub, Int.reduceMul, Int.reduceNeg, ne_eq, not_true_eq_false, not_false_eq_true, eq_self, ↓if_pos, ↓if_neg, J_358_0, k_358_0, J_358_13, k_358_13, J_358_28, k_358_28, J_358_54, k_358_54, J_358_69, k_358_69, J_358_90, k_358_90, J_358_99, k_358_99, J_358_117, k_358_117, J_358_118, k_358_118, s1, em, q1', r_colourOf, vh, q2]
  rw [if_neg q2]
  have q2' : xH A s.1 = c := Classical.not_not.mp q2
  rw [q2'] at vh
  by_cases q3 : s.2.2.2.1 c = -1
  · rw [if_pos q3]
    rw [q3] at hh
    refine ⟨up (up (up (up M 140 53 (s.2.2.1 + 2 * A 3)) 140 52 (s.2.1 + 1)) 165 c s.1) 140 51 (s.1 + 1), ⟨up_eq, ?_, ?_, fun d d0 d1 => ?_, fun i i0 i1 => ?_⟩, fun b b0 b1 b2 => ?_, fun i i1 i2 i3 => ?_, ?_⟩
    · simp (disch := omega) only [up_ne, up_eq, up_ne2]
    · simp (disch := omega) only [up_ne, up_eq, up_ne2]
    · show _ = upH s.2.2.2.1 c s.1 d
      unfold upH
      by_cases z : d = c
      · rw [if_pos z, z]; simp (disch := omega) only [up_ne, up_eq, up_ne2]
      · rw [if_neg z, up_ne (by omega), up_ne2 z, up_ne (by omega), up_ne (by omega)]
        exact s4 d d0 d1
    · simp (disch := omega) only [up_ne, up_eq, up_ne2]; exact s5 i i0 i1
    · rw [up_ne b0, up_ne b1, up_ne b0, up_ne b0]
    · rw [up_ne2 i1, up_ne (by omega), up_ne2 i2, up_ne2 i3]
    · rw [E_358 mk0]
      simp (disch := first | assumption | decide | omega | (simp only [List.length_cons, List.length_nil] <;> omega)) only [lgt_0, lgt_s, lset_0, lset_s, lst1_0, lst1_s, lst2_0, lst2_s, ev_iconst, ev_lconst, ev_ldc, ev_null, ev_iload, ev_lload, ev_aload, ev_istore, ev_lstore, ev_astore, ev_iinc, ev_iadd, ev_isub, ev_imul, ev_iand, ev_ior, ev_ishl, ev_ishr, ev_idiv, ev_irem, ev_ineg, ev_ladd, ev_lsub, ev_lmul, ev_land, ev_lor, ev_ldiv, ev_lrem, ev_lshl, ev_i2l, ev_l2i, ev_i2b, ev_i2s, ev_lcmp, ev_dupI, ev_dupR, ev_dup2, ev_popI, ev_popR, ev_alen, ev_xlen, ev_xald, ev_iald, ev_lald, ev_bald, ev_zald, ev_aald, ev_iast, ev_last, ev_bast, ev_zast, ev_aast, ev_gfI, ev_gfL, ev_gfR, ev_pfI, ev_pfZ, ev_pfL, ev_pfR, ev_new, ev_newa, ev_newq, ev_copy, ev_slen, ev_schr, ev_obj, ev_mmin, ev_mabs, ev_mmax, ev_goto, ev_jsr, ev_icmp_eq, ev_if_eq, ev_icmp_ne, ev_if_ne, ev_icmp_lt, ev_if_lt, ev_icmp_ge, ev_if_ge, ev_icmp_gt, ev_if_gt, ev_icmp_le, ev_if_le, ev_ifnull0, ev_ifnull1, ev_ifnn0, ev_ifnn1, ev_tsw, ev_lsw, ev_iret, ev_zret, ev_lret, ev_aret, ev_ret, ev_call0, ev_call1, ev_call2, ev_call3, ev_call4, ev_call5, ev_call6, Option.toList_some, Option.toList_none, List.cons_append, List.nil_append, List.length_cons, List.length_nil, Nat.reduceMod, Nat.reduceDiv, Nat.reduceLeDiff, nc, ↓reduceIte, Nat.zero_le, reduceCtorEq, w32_id, Int.reduceEq, Int.reduceNe, Int.reduceLT, Int.reduceLE, Int.reduceGT, Int.reduceGE, Int.reduceAdd, Int.reduceSub, Int.reduceMul, Int.reduceNeg, ne_eq, not_true_eq_false, not_false_eq_true, eq_self, ↓if_pos, ↓if_neg, J_358_0, k_358_0, J_358_13, k_358_13, J_358_28, k_358_28, J_358_54, k_358_54, J_358_69, k_358_69, J_358_90, k_358_90, J_358_99, k_358_99, J_358_117, k_358_117, J_358_118, k_358_118, s1, s2, s3, em, q1', r_at, r_colourOf, r_ballAt, vh, hh, a3, up_ne, up_eq, up_ne2]
  rw [if_neg q3]
  have hb := (h4 c hc.1 (by omega)).resolve_left q3
  have ew := v_way (X := X) q (i := s.2.2.2.1 c) (j := s.1) hb.1.1 hb.1.2 (by omega)
  by_cases q4 : wyA A (s.2.2.2.1 c) s.1 = 0
  · rw [if_pos q4]
    rw [q4] at ew
    refine ⟨M, ⟨s1, s2, s3, s4, s5⟩, fun _ _ _ _ => rfl, fun _ _ _ _ => rfl, ?_⟩
    rw [E_358 mk0]
    simp (disch := first | assumption | decide | omega | (simp only [List.length_cons, List.length_nil] <;> omega)) only [lgt_0, lgt_s, lset_0, lset_s, lst1_0, lst1_s, lst2_0, lst2_s, ev_iconst, ev_lconst, ev_ldc, ev_null, ev_iload, ev_lload, ev_aload, ev_istore, ev_lstore, ev_astore, ev_iinc, ev_iadd, ev_isub, ev_imul, ev_iand, ev_ior, ev_ishl, ev_ishr, ev_idiv, ev_irem, ev_ineg, ev_ladd, ev_lsub, ev_lmul, ev_land, ev_lor, ev_ldiv, ev_lrem, ev_lshl, ev_i2l, ev_l2i, ev_i2b, ev_i2s, ev_lcmp, ev_dupI, ev_dupR, ev_dup2, ev_popI, ev_popR, ev_alen, ev_xlen, ev_xald, ev_iald, ev_lald, ev_bald, ev_zald, ev_aald, ev_iast, ev_last, ev_bast, ev_zast, ev_aast, ev_gfI, ev_gfL, ev_gfR, ev_pfI, ev_pfZ, ev_pfL, ev_pfR, ev_new, ev_newa, ev_newq, ev_copy, ev_slen, ev_schr, ev_obj, ev_mmin, ev_mabs, ev_mmax, ev_goto, ev_jsr, ev_icmp_eq, ev_if_eq, ev_icmp_ne, ev_if_ne, ev_icmp_lt, ev_if_lt, ev_icmp_ge, ev_if_ge, ev_icmp_gt, ev_if_gt, ev_icmp_le, ev_if_le, ev_ifnull0, ev_ifnull1, ev_ifnn0, ev_ifnn1, ev_tsw, ev_lsw, ev_iret, ev_zret, ev_lret, ev_aret, ev_ret, ev_call0, ev_call1, ev_call2, ev_call3, ev_call4, ev_call5, ev_call6, Option.toList_some, Option.toList_none, List.cons_append, List.nil_append, List.length_cons, List.length_nil, Nat.reduceMod, Nat.reduceDiv, Nat.reduceLeDiff, nc, ↓reduceIte, Nat.zero_le, reduceCtorEq, w32_id, Int.reduceEq, Int.reduceNe, Int.reduceLT, Int.reduceLE, Int.reduceGT, Int.reduceGE, Int.reduceAdd, Int.reduceSub, Int.reduceMul, Int.reduceNeg, ne_eq, not_true_eq_false, not_false_eq_true, eq_self, ↓if_pos, ↓if_neg, J_358_0, k_358_0, J_358_13, k_358_13, J_358_28, k_358_28, J_358_54, k_358_54, J_358_69, k_358_69, J_358_90, k_358_90, J_358_99, k_358_99, J_358_117, k_358_117, J_358_118, k_358_118, s1, em, q1', r_colourOf, r_ballAt, vh, hh, q3, ew]
  rw [if_neg q4]
  have pr := prA_rng g (i := s.2.2.2.1 c) (j := s.1)
  generalize hMa : up M 166 (s.2.2.2.1 c) s.1 = Ma
  have fa : ∀ b, b ≠ 166 → Ma b = M b := fun b b0 => by rw [← hMa, up_ne b0]
  have qa : QV Ma A L E := qv_c q fun b hb => fa b (by omega)
  have ep := v_cost (X := X) qa (i := s.2.2.2.1 c) (j := s.1) hb.1.1 hb.1.2 (by omega) q4
  have t1 : Ma 140 51 = s.1 := by rw [fa 140 (by omega)]; exact s1
  have t2 : Ma 140 52 = s.2.1 := by rw [fa 140 (by omega)]; exact s2
  have t3 : Ma 140 53 = s.2.2.1 := by rw [fa 140 (by omega)]; exact s3
  refine ⟨up (up (up (up Ma 140 53 (s.2.2.1 + prA A (s.2.2.2.1 c) s.1)) 140 52 (s.2.1 + 0)) 165 c s.1) 140 51 (s.1 + 1), ⟨up_eq, ?_, ?_, fun d d0 d1 => ?_, fun i i0 i1 => ?_⟩, fun b b0 b1 b2 => ?_, fun i i1 i2 i3 => ?_, ?_⟩
  · rw [up_ne2 (by omega), up_ne (by omega), up_eq, Int.add_zero]
  · simp (disch := omega) only [up_ne, up_eq, up_ne2]
  · show _ = upH s.2.2.2.1 c s.1 d
    unfold upH
    by_cases z : d = c
    · rw [if_pos z, z]; simp (disch := omega) only [up_ne, up_eq, up_ne2]
    · rw [if_neg z, up_ne (by omega), up_ne2 z, up_ne (by omega), up_ne (by omega), fa 165 (by omega)]
      exact s4 d d0 d1
  · show _ = if i = s.2.2.2.1 c then s.1 else s.2.2.2.2.1 i
    rw [up_ne (by omega), up_ne (by omega), up_ne (by omega), up_ne (by omega), ← hMa]
    by_cases z : i = s.2.2.2.1 c
    · rw [if_pos z, z, up_eq]
    · rw [if_neg z, up_ne2 z]
      exact s5 i i0 i1
  · rw [up_ne b0, up_ne b1, up_ne b0, up_ne b0, fa b b2]
  · rw [up_ne2 i1, up_ne (by omega), up_ne2 i2, up_ne2 i3, fa 140 (by omega)]
  · rw [E_358 mk0]
    generalize hq : wyA A (s.2.2.2.1 c) s.1 = wq at ew q4
    generalize prA A (s.2.2.2.1 c) s.1 = pq at ep pr ⊢
    simp (disch := first | assumption | decide | omega | (simp only [List.length_cons, List.length_nil] <;> omega)) only [lgt_0, lgt_s, lset_0, lset_s, lst1_0, lst1_s, lst2_0, lst2_s, ev_iconst, ev_lconst, ev_ldc, ev_null, ev_iload, ev_lload, ev_aload, ev_istore, ev_lstore, ev_astore, ev_iinc, ev_iadd, ev_isub, ev_imul, ev_iand, ev_ior, ev_ishl, ev_ishr, ev_idiv, ev_irem, ev_ineg, ev_ladd, ev_lsub, ev_lmul, ev_land, ev_lor, ev_ldiv, ev_lrem, ev_lshl, ev_i2l, ev_l2i, ev_i2b, ev_i2s, ev_lcmp, ev_dupI, ev_dupR, ev_dup2, ev_popI, ev_popR, ev_alen, ev_xlen, ev_xald, ev_iald, ev_lald, ev_bald, ev_zald, ev_aald, ev_iast, ev_last, ev_bast, ev_zast, ev_aast, ev_gfI, ev_gfL, ev_gfR, ev_pfI, ev_pfZ, ev_pfL, ev_pfR, ev_new, ev_newa, ev_newq, ev_copy, ev_slen, ev_schr, ev_obj, ev_mmin, ev_mabs, ev_mmax, ev_goto, ev_jsr, ev_icmp_eq, ev_if_eq, ev_icmp_ne, ev_if_ne, ev_icmp_lt, ev_if_lt, ev_icmp_ge, ev_if_ge, ev_icmp_gt, ev_if_gt, ev_icmp_le, ev_if_le, ev_ifnull0, ev_ifnull1, ev_ifnn0, ev_ifnn1, ev_tsw, ev_lsw, ev_iret, ev_zret, ev_lret, ev_aret, ev_ret, ev_call0, ev_call1, ev_call2, ev_call3, ev_call4, ev_call5, ev_call6, Option.toList_some, Option.toList_none, List.cons_append, List.nil_append, List.length_cons, List.length_nil, Nat.reduceMod, Nat.reduceDiv, Nat.reduceLeDiff, nc, ↓reduceIte, Nat.zero_le, reduceCtorEq, w32_id, Int.reduceEq, Int.reduceNe, Int.reduceLT, Int.reduceLE, Int.reduceGT, Int.reduceGE, Int.reduceAdd, Int.reduceSub, Int.reduceMul, Int.reduceNeg, ne_eq, not_true_eq_false, not_false_eq_true, eq_self, ↓if_pos, ↓if_neg, J_358_0, k_358_0, J_358_13, k_358_13, J_358_28, k_358_28, J_358_54, k_358_54, J_358_69, k_358_69, J_358_90, k_358_90, J_358_99, k_358_99, J_358_117, k_358_117, J_358_118, k_358_118, s1, em, q1', r_colourOf, r_ballAt, r_laidGoes, vh, hh, q3, ew, q4, hMa, t1, t2, t3, ep, up_ne, up_eq, up_ne2]
theorem d_behind {K C N : Int → Int} {lines ncl : Int} (hl : lnO K C N lines ncl) (h80 : lines ≤ 80) {a : Int} (hm : ∀ M : Mem, M (140 + 1) = A → lnM (M (140 + 1)) K C N lines) : ∀ (n l : Nat) (T : List Int) (st : Int) (w3 w4 : Option PV) (M : Mem), M (140 + 1) = A → fI K lines l T st → rdR (M 164) (stk K l) T → sL T ≤ n → ∃ l' T' M', fI K lines l' T' st ∧ rdR (M' 164) (stk K l') T' ∧ (∀ b, b ≠ 164 → M' b = M b) ∧ ((l' : Int) < lines → K l' ≠ 3) ∧ (∀ (A' : Int → Int) f s r, folF A' K C N lines f l T st s = some r → ∃ f', f' ≤ f ∧ folF A' K C N lines f' l' T' st s = some r) ∧ ev X 359 (jmp 359 2) [some (vR (some 140)), some (vI a), some (vI (l : Int)), w3, w4] [] SH0 M = some (some (vI (l' : Int)), SH0, M')
  | n, l, T, st, w3, w4, M, hA, hI, hr, hn => by
    have mk0 := w0_k140
    obtain ⟨r_at, k_at, l_at⟩ := md_at w0_md140; obtain ⟨r_rounds, k_rounds, l_rounds⟩ := md_rounds w0_md140
    have lm := hm M hA
    have a15 := lm.1
    by_cases q1 : lines ≤ (l : Int)
    · refine ⟨l, T, M, hI, hr, fun _ _ => rfl, fun z => by omega, fun A' f s r h => ⟨f, Nat.le_refl f, h⟩, ?_⟩
      rw [J_359_2]
      simp (disch := first | assumption | decide | omega | (simp only [List.length_cons, List.length_nil] <;> omega)) only [lgt_0, lgt_s, lset_0, lset_s, lst1_0, lst1_s, lst2_0, lst2_s, ev_iconst, ev_lconst, ev_ldc, ev_null, ev_iload, ev_lload, ev_aload, ev_istore, ev_lstore, ev_astore, ev_iinc, ev_iadd, ev_isub, ev_imul, ev_iand, ev_ior, ev_ishl, ev_ishr, ev_idiv, ev_irem, ev_ineg, ev_ladd, ev_lsub, ev_lmul, ev_land, ev_lor, ev_ldiv, ev_lrem, ev_lshl, ev_i2l, ev_l2i, ev_i2b, ev_i2s, ev_lcmp, ev_dupI, ev_dupR, ev_dup2, ev_popI, ev_popR, ev_alen, ev_xlen, ev_xald, ev_iald, ev_lald, ev_bald, ev_zald, ev_aald, ev_iast, ev_last, ev_bast, ev_zast, ev_aast, ev_gfI, ev_gfL, ev_gfR, ev_pfI, ev_pfZ, ev_pfL, ev_pfR, ev_new, ev_newa, ev_newq, ev_copy, ev_slen, ev_schr, ev_obj, ev_mmin, ev_mabs, ev_mmax, ev_goto, ev_jsr, ev_icmp_eq, ev_if_eq, ev_icmp_ne, ev_if_ne, ev_icmp_lt, ev_if_lt, ev_icmp_ge, ev_if_ge, ev_icmp_gt, ev_if_gt, ev_icmp_le, ev_if_le, ev_ifnull0, ev_ifnull1, ev_ifnn0, ev_ifnn1, ev_tsw, ev_lsw, ev_iret, ev_zret, ev_lret, ev_aret, ev_ret, ev_call0, ev_call1, ev_call2, ev_call3, ev_call4, ev_call5, ev_call6, Option.toList_some, Option.toList_none, List.cons_append, List.nil_append, List.length_cons, List.length_nil, Nat.reduceMod, Nat.reduceDiv, Nat.reduceLeDiff, nc, ↓reduceIte, Nat.zero_le, reduceCtorEq, w32_id, Int.reduceEq, Int.reduceNe, Int.reduceLT, Int.reduceLE, Int.reduceGT, Int.reduceGE, Int.reduceAdd, Int.reduceSub, Int.reduceMul, Int.reduceNeg, ne_eq, not_true_eq_false, not_false_eq_true, eq_self, ↓if_pos, ↓if_neg, J_359_0, k_359_0, J_359_57, k_359_57, J_359_58, k_359_58, J_359_76, k_359_76, J_359_77, k_359_77, J_359_90, k_359_90, J_359_93, k_359_93, J_359_97, k_359_97, k_359_2, r_at, a15, q1]
    have q1' : (l : Int) < lines := by omega
    have lk := lm.2.1 l (by omega) q1'
    have ak := lk.1
    by_cases q3 : K l = 3
    · obtain ⟨o, rr, t, T', hst, hT, ht, e1, e2, el, ko, so, ol⟩ := fI_end hl hI q1' q3
      subst hT
      rw [hst] at hr
      have a3 := lm.2.2 l q1' q3 o rr hst
      rw [q3] at ak
      have hro := hr.1
      have sT : sL (t :: T') = t + sL T' := rfl
      have snn := sL_nn (T := T') (fun x hx => hI.2.1 x (List.mem_cons_of_mem _ hx))
      have fol1 : ∀ (A' : Int → Int) f s r, folF A' K C N lines f l (t :: T') st s = some r → ∃ f', f' ≤ f ∧ (if 0 < t - 1 then folF A' K C N lines f' (o + 1) ((t - 1) :: T') st s else folF A' K C N lines f' (l + 1) T' st s) = some r := fun A' f s r h => by
        cases f with
        | zero =>
          have h' : (none : Option (Int × Int × KS)) = some r := h
          exact absurd h' (by simp)
        | succ f =>
          unfold folF at h
          rw [if_neg q1, if_pos q3] at h
          have h' : (if 0 < t - 1 then folF A' K C N lines f ((stk K l).headD 0 + 1) ((t - 1) :: T') st s else folF A' K C N lines f (l + 1) T' st s) = some r := h
          rw [hst] at h'
          exact ⟨f, Nat.le_succ f, h'⟩
      cases n with
      | zero => omega
      | succ n =>
        by_cases z : 0 < t - 1
        · obtain ⟨l', T2, M2, b1, b2, b3, b4, b5, b6⟩ := d_behind hl h80 (a := a) hm n (o + 1) ((t - 1) :: T') st (some (vI (o : Int))) (some (vI 1)) (up M 164 (o : Int) (t - 1 - 1)) (by rw [up_ne (by omega)]; exact hA) (e1 z) (by
            rw [stk_s, if_pos ko, so]
            exact ⟨up_eq, rdR_up hr.2 fun x hx => up_ne2 (by have := stk_lt (l := o) (K := K) (o := x) (by rw [so]; exact hx); omega)⟩) (by
            have sT' : sL ((t - 1) :: T') = t - 1 + sL T' := rfl
            omega)
          refine ⟨l', T2, M2, b1, b2, fun b hb => by rw [b3 b hb, up_ne hb], b4, fun A' f s r h => ?_, ?_⟩
          · obtain ⟨f1, hf1, h1⟩ := fol1 A' f s r h
            rw [if_pos z] at h1
            obtain ⟨f2, hf2, h2⟩ := b5 A' f1 s r h1
            exact ⟨f2, by omega, h2⟩
          · rw [nc_s] at b6
            rw [J_359_2]
            simp (disch := first | assumption | decide | omega | (simp only [List.length_cons, List.length_nil] <;> omega)) only [lgt_0, lgt_s, lset_0, lset_s, lst1_0, lst1_s, lst2_0, lst2_s, ev_iconst, ev_lconst, ev_ldc, ev_null, ev_iload, ev_lload, ev_aload, ev_istore, ev_lstore, ev_astore, ev_iinc, ev_iadd, ev_isub, ev_imul, ev_iand, ev_ior, ev_ishl, ev_ishr, ev_idiv, ev_irem, ev_ineg, ev_ladd, ev_lsub, ev_lmul, ev_land, ev_lor, ev_ldiv, ev_lrem, ev_lshl, ev_i2l, ev_l2i, ev_i2b, ev_i2s, ev_lcmp, ev_dupI, ev_dupR, ev_dup2, ev_popI, ev_popR, ev_alen, ev_xlen, ev_xald, ev_iald, ev_lald, ev_bald, ev_zald, ev_aald, ev_iast, ev_last, ev_bast, ev_zast, ev_aast, ev_gfI, ev_gfL, ev_gfR, ev_pfI, ev_pfZ, ev_pfL, ev_pfR, ev_new, ev_newa, ev_newq, ev_copy, ev_slen, ev_schr, ev_obj, ev_mmin, ev_mabs, ev_mmax, ev_goto, ev_jsr, ev_icmp_eq, ev_if_eq, ev_icmp_ne, ev_if_ne, ev_icmp_lt, ev_if_lt, ev_icmp_ge, ev_if_ge, ev_icmp_gt, ev_if_gt, ev_icmp_le, ev_if_le, ev_ifnull0, ev_ifnull1, ev_ifnn0, ev_ifnn1, ev_tsw, ev_lsw, ev_iret, ev_zret, ev_lret, ev_aret, ev_ret, ev_call0, ev_call1, ev_call2, ev_call3, ev_call4, ev_call5, ev_call6, Option.toList_some, Option.toList_none, List.cons_append, List.nil_append, List.length_cons, List.length_nil, Nat.reduceMod, Nat.reduceDiv, Nat.reduceLeDiff, nc, ↓reduceIte, Nat.zero_le, reduceCtorEq, w32_id, Int.reduceEq, Int.reduceNe, Int.reduceLT, Int.reduceLE, Int.reduceGT, Int.reduceGE, Int.reduceAdd, Int.reduceSub, Int.reduceMul, Int.reduceNeg, ne_eq, not_true_eq_false, not_false_eq_true, eq_self, ↓if_pos, ↓if_neg, J_359_0, k_359_0, J_359_57, k_359_57, J_359_58, k_359_58, J_359_76, k_359_76, J_359_77, k_359_77, J_359_90, k_359_90, J_359_93, k_359_93, J_359_97, k_359_97, k_359_2, r_at, r_rounds, a15, q1, ak, a3, hro, z, b6, up_ne, up_eq, up_ne2]
        · have tz : t - 1 = 0 := by omega
          obtain ⟨l', T2, M2, b1, b2, b3, b4, b5, b6⟩ := d_behind hl h80 (a := a) hm n (l + 1) T' st (some (vI (o : Int))) (some (vI 0)) (up M 164 (o : Int) (t - 1 - 0)) (by rw [up_ne (by omega)]; exact hA) (e2 z) (by
            rw [stk_s, if_neg (by omega), if_pos q3, hst]
            exact rdR_up hr.2 fun x hx => up_ne2 (by have := stk_lt (l := o) (K := K) (o := x) (by rw [so]; exact hx); omega)) (by omega)
          refine ⟨l', T2, M2, b1, b2, fun b hb => by rw [b3 b hb, up_ne hb], b4, fun A' f s r h => ?_, ?_⟩
          · obtain ⟨f1, hf1, h1⟩ := fol1 A' f s r h
            rw [if_neg z] at h1
            obtain ⟨f2, hf2, h2⟩ := b5 A' f1 s r h1
            exact ⟨f2, by omega, h2⟩
          · rw [nc_s] at b6
            rw [J_359_2]
            simp (disch := first | assumption | decide | omega | (simp only [List.length_cons, List.length_nil] <;> omega)) only [lgt_0, lgt_s, lset_0, lset_s, lst1_0, lst1_s, lst2_0, lst2_s, ev_iconst, ev_lconst, ev_ldc, ev_null, ev_iload, ev_lload, ev_aload, ev_istore, ev_lstore, ev_astore, ev_iinc, ev_iadd, ev_isub, ev_imul, ev_iand, ev_ior, ev_ishl, ev_ishr, ev_idiv, ev_irem, ev_ineg, ev_ladd, ev_lsub, ev_lmul, ev_land, ev_lor, ev_ldiv, ev_lrem, ev_lshl, ev_i2l, ev_l2i, ev_i2b, ev_i2s, ev_lcmp, ev_dupI, ev_dupR, ev_dup2, ev_popI, ev_popR, ev_alen, ev_xlen, ev_xald, ev_iald, ev_lald, ev_bald, ev_zald, ev_aald, ev_iast, ev_last, ev_bast, ev_zast, ev_aast, ev_gfI, ev_gfL, ev_gfR, ev_pfI, ev_pfZ, ev_pfL, ev_pfR, ev_new, ev_newa, ev_newq, ev_copy, ev_slen, ev_schr, ev_obj, ev_mmin, ev_mabs, ev_mmax, ev_goto, ev_jsr, ev_icmp_eq, ev_if_eq, ev_icmp_ne, ev_if_ne, ev_icmp_lt, ev_if_lt, ev_icmp_ge, ev_if_ge, ev_icmp_gt, ev_if_gt, ev_icmp_le, ev_if_le, ev_ifnull0, ev_ifnull1, ev_ifnn0, ev_ifnn1, ev_tsw, ev_lsw, ev_iret, ev_zret, ev_lret, ev_aret, ev_ret, ev_call0, ev_call1, ev_call2, ev_call3, ev_call4, ev_call5, ev_call6, Option.toList_some, Option.toList_none, List.cons_append, List.nil_append, List.length_cons, List.length_nil, Nat.reduceMod, Nat.reduceDiv, Nat.reduceLeDiff, nc, ↓reduceIte, Nat.zero_le, reduceCtorEq, w32_id, Int.reduceEq, Int.reduceNe, Int.reduceLT, Int.reduceLE, Int.reduceGT, Int.reduceGE, Int.reduceAdd, Int.reduceSub, Int.reduceMul, Int.reduceNeg, ne_eq, not_true_eq_false, not_false_eq_true, eq_self, ↓if_pos, ↓if_neg, J_359_0, k_359_0, J_359_57, k_359_57, J_359_58, k_359_58, J_359_76, k_359_76, J_359_77, k_359_77, J_359_90, k_359_90, J_359_93, k_359_93, J_359_97, k_359_97, k_359_2, r_at, r_rounds, a15, q1, ak, a3, hro, z, b6, up_ne, up_eq, up_ne2]
    · refine ⟨l, T, M, hI, hr, fun _ _ => rfl, fun _ => q3, fun A' f s r h => ⟨f, Nat.le_refl f, h⟩, ?_⟩
      rw [J_359_2]
      simp (disch := first | assumption | decide | omega | (simp only [List.length_cons, List.length_nil] <;> omega)) only [lgt_0, lgt_s, lset_0, lset_s, lst1_0, lst1_s, lst2_0, lst2_s, ev_iconst, ev_lconst, ev_ldc, ev_null, ev_iload, ev_lload, ev_aload, ev_istore, ev_lstore, ev_astore, ev_iinc, ev_iadd, ev_isub, ev_imul, ev_iand, ev_ior, ev_ishl, ev_ishr, ev_idiv, ev_irem, ev_ineg, ev_ladd, ev_lsub, ev_lmul, ev_land, ev_lor, ev_ldiv, ev_lrem, ev_lshl, ev_i2l, ev_l2i, ev_i2b, ev_i2s, ev_lcmp, ev_dupI, ev_dupR, ev_dup2, ev_popI, ev_popR, ev_alen, ev_xlen, ev_xald, ev_iald, ev_lald, ev_bald, ev_zald, ev_aald, ev_iast, ev_last, ev_bast, ev_zast, ev_aast, ev_gfI, ev_gfL, ev_gfR, ev_pfI, ev_pfZ, ev_pfL, ev_pfR, ev_new, ev_newa, ev_newq, ev_copy, ev_slen, ev_schr, ev_obj, ev_mmin, ev_mabs, ev_mmax, ev_goto, ev_jsr, ev_icmp_eq, ev_if_eq, ev_icmp_ne, ev_if_ne, ev_icmp_lt, ev_if_lt, ev_icmp_ge, ev_if_ge, ev_icmp_gt, ev_if_gt, ev_icmp_le, ev_if_le, ev_ifnull0, ev_ifnull1, ev_ifnn0, ev_ifnn1, ev_tsw, ev_lsw, ev_iret, ev_zret, ev_lret, ev_aret, ev_ret, ev_call0, ev_call1, ev_call2, ev_call3, ev_call4, ev_call5, ev_call6, Option.toList_some, Option.toList_none, List.cons_append, List.nil_append, List.length_cons, List.length_nil, Nat.reduceMod, Nat.reduceDiv, Nat.reduceLeDiff, nc, ↓reduceIte, Nat.zero_le, reduceCtorEq, w32_id, Int.reduceEq, Int.reduceNe, Int.reduceLT, Int.reduceLE, Int.reduceGT, Int.reduceGE, Int.reduceAdd, Int.reduceSub, Int.reduceMul, Int.reduceNeg, ne_eq, not_true_eq_false, not_false_eq_true, eq_self, ↓if_pos, ↓if_neg, J_359_0, k_359_0, J_359_57, k_359_57, J_359_58, k_359_58, J_359_76, k_359_76, J_359_77, k_359_77, J_359_90, k_359_90, J_359_93, k_359_93, J_359_97, k_359_97, k_359_2, r_at, a15, q1, ak, q3]
end FOM
