/-! FOLLOW: the class's side. -/
def KSc (M : Mem) (s : KS) : Prop := M 60 1 = s.1 ∧ M 60 2 = s.2.1 ∧ M 60 3 = s.2.2.1 ∧ (∀ c, 0 ≤ c → c < 5 → M 64 c = s.2.2.2.1 c) ∧ M 62 = s.2.2.2.2.1 ∧ M 63 = s.2.2.2.2.2
def lpR (f g : Int → Int) : List Nat → List Int → Prop
  | [], [] => True
  | o :: r, t :: T => f (T.length : Int) = (o : Int) ∧ g (T.length : Int) = t ∧ lpR f g r T
  | _, _ => False
theorem lpR_up {f g f' g' : Int → Int} : ∀ {r : List Nat} {T : List Int}, lpR f g r T → (∀ i : Int, 0 ≤ i → i < T.length → f' i = f i ∧ g' i = g i) → lpR f' g' r T
  | [], [], _, _ => trivial
  | o :: r, t :: T, h, e => by
    have a := e (T.length : Int) (by omega) (by simp only [List.length_cons]; omega)
    exact ⟨by rw [a.1]; exact h.1, by rw [a.2]; exact h.2.1, lpR_up h.2.2 fun i i0 i1 => e i i0 (by simp only [List.length_cons]; omega)⟩
  | [], _ :: _, h, _ => h.elim
  | _ :: _, [], h, _ => h.elim
section FOC
variable {X : Int → Int} {M M' : Mem} {A : Int → Int}
theorem kv_f (k : KV M A) (f : ∀ b, 4 ≤ b → b ≤ 15 → M' b = M b) : KV M' A := by
  obtain ⟨⟨NM, r⟩, p⟩ := k
  refine ⟨⟨NM, RC1_c (fun b b0 b1 => f b (by omega) (by omega)) r⟩, ?_⟩
  rw [f (13 + 1) (by omega) (by omega), f (13 + 2) (by omega) (by omega)]
  exact p
theorem c_knit1 (k : KV M A) {s : KS} (hs : ksI A s) (ks : KSc M s) {c : Int} (hc : 0 ≤ c ∧ c < A 2) : ∃ M', KSc M' (kn1 A c s).2 ∧ (∀ b, b ≠ 60 → b ≠ 62 → b ≠ 63 → b ≠ 64 → M' b = M b) ∧ (∀ i, i ≠ 1 → i ≠ 2 → i ≠ 3 → M' 60 i = M 60 i) ∧ evc X 215 [vR (some 60), vR (some 4), vI c] SH0 M = some (some (vI (kn1 A c s).1), SH0, M') := by
  have k0 := w0_k0; have hc4 := w0_ch4; have hmd := w0_md140; have mk0 := hmd.1; have hc4' := w0_ch4; obtain ⟨ck0, cr0, cr1, cr2, cr3, cr4, cr5, cr6, cr7, ck1, ck2, ck3, ck4, ck5, ck6, ck7, ck8, cl1, cl2, cl3, cl4, cl5, cl6, cl7, cl8⟩ := hc4'
  have k60 := w0_k60
  have k64 := w0_k64
  have l64 := w0_l64
  have g := k_gWY k
  have g2 := g.1.1.2.2.1
  have g3 := g.1.1.2.2.2.1
  have gn := g.1.2.1
  obtain ⟨s1, s2, s3, s4, s5, s6⟩ := ks
  obtain ⟨h1, h2, h3, h4, h5, h6⟩ := hs
  have hst := s_hasStitch (X := X) (M := M) hc4 (i := s.1)
  have hcol := s_hasColour (X := X) (M := M) hc4 (i := c)
  have hn := k_n k
  have a2 := k_S k (i := 2) (by omega) (by omega)
  have a3 := k_S k (i := 3) (by omega) (by omega)
  have hh := s4 c hc.1 (by omega)
  rw [hn] at hst
  rw [a2, if_pos ⟨hc.1, hc.2⟩] at hcol
  unfold kn1
  by_cases q1 : xn A ≤ s.1
  · rw [if_pos q1]
    rw [if_neg (by omega)] at hst
    refine ⟨M, ⟨s1, s2, s3, s4, s5, s6⟩, fun _ _ _ _ _ => rfl, fun _ _ _ _ => rfl, ?_⟩
    rw [E_215 k60]
    simp (disch := first | assumption | decide | omega | (simp only [List.length_cons, List.length_nil] <;> omega)) only [lgt_0, lgt_s, lset_0, lset_s, lst1_0, lst1_s, lst2_0, lst2_s, ev_iconst, ev_lconst, ev_ldc, ev_null, ev_iload, ev_lload, ev_aload, ev_istore, ev_lstore, ev_astore, ev_iinc, ev_iadd, ev_isub, ev_imul, ev_iand, ev_ior, ev_ishl, ev_ishr, ev_idiv, ev_irem, ev_ineg, ev_ladd, ev_lsub, ev_lmul, ev_land, ev_lor, ev_ldiv, ev_lrem, ev_lshl, ev_i2l, ev_l2i, ev_i2b, ev_i2s, ev_lcmp, ev_dupI, ev_dupR, ev_dup2, ev_popI, ev_popR, ev_alen, ev_xlen, ev_xald, ev_iald, ev_lald, ev_bald, ev_zald, ev_aald, ev_iast, ev_last, ev_bast, ev_zast, ev_aast, ev_gfI, ev_gfL, ev_gfR, ev_pfI, ev_pfZ, ev_pfL, ev_pfR, ev_new, ev_newa, ev_newq, ev_copy, ev_slen, ev_schr, ev_obj, ev_mmin, ev_mabs, ev_mmax, ev_goto, ev_jsr, ev_icmp_eq, ev_if_eq, ev_icmp_ne, ev_if_ne, ev_icmp_lt, ev_if_lt, ev_icmp_ge, ev_if_ge, ev_icmp_gt, ev_if_gt, ev_icmp_le, ev_if_le, ev_ifnull0, ev_ifnull1, ev_ifnn0, ev_ifnn1, ev_tsw, ev_lsw, ev_iret, ev_zret, ev_lret, ev_aret, ev_ret, ev_call0, ev_call1, ev_call2, ev_call3, ev_call4, ev_call5, ev_call6, Option.toList_some, Option.toList_none, List.cons_append, List.nil_append, List.length_cons, List.length_nil, Nat.reduceMod, Nat.reduceDiv, Nat.reduceLeDiff, nc, ↓reduceIte, Nat.zero_le, reduceCtorEq, w32_id, Int.reduceEq, Int.reduceNe, Int.reduceLT, Int.reduceLE, Int.reduceGT, Int.reduceGE, Int.reduceAdd, Int.reduceSub, Int.reduceMul, Int.reduceNeg, ne_eq, not_true_eq_false, not_false_eq_true, eq_self, ↓if_pos, ↓if_neg, w0_r0_3, w0_r0_4, w0_r0_5, w0_r0_6, w0_r0_7, w0_r0_8, w0_r0_10, w0_r0_11, w0_r0_12, w0_r0_13, w0_r0_14, w0_r0_15, w0_r0_16, w0_r0_17, w0_r0_18, cr0, cr1, cr2, cr3, cr4, cr5, cr6, cr7, J_215_0, k_215_0, J_215_13, k_215_13, J_215_34, k_215_34, J_215_36, k_215_36, J_215_78, k_215_78, J_215_92, k_215_92, J_215_122, k_215_122, s1, hst]
  rw [if_neg q1]
  rw [if_pos ⟨h1.1, by omega⟩] at hst
  have vh := (k_H k (i := s.1) h1.1 (by omega)).1
  by_cases q2 : xH A s.1 ≠ c
  · rw [if_pos q2]
    refine ⟨M, ⟨s1, s2, s3, s4, s5, s6⟩, fun _ _ _ _ _ => rfl, fun _ _ _ _ => rfl, ?_⟩
    rw [E_215 k60]
    generalize xH A s.1 = hv at vh q2
    simp (disch := first | assumption | decide | omega | (simp only [List.length_cons, List.length_nil] <;> omega)) only [lgt_0, lgt_s, lset_0, lset_s, lst1_0, lst1_s, lst2_0, lst2_s, ev_iconst, ev_lconst, ev_ldc, ev_null, ev_iload, ev_lload, ev_aload, ev_istore, ev_lstore, ev_astore, ev_iinc, ev_iadd, ev_isub, ev_imul, ev_iand, ev_ior, ev_ishl, ev_ishr, ev_idiv, ev_irem, ev_ineg, ev_ladd, ev_lsub, ev_lmul, ev_land, ev_lor, ev_ldiv, ev_lrem, ev_lshl, ev_i2l, ev_l2i, ev_i2b, ev_i2s, ev_lcmp, ev_dupI, ev_dupR, ev_dup2, ev_popI, ev_popR, ev_alen, ev_xlen, ev_xald, ev_iald, ev_lald, ev_bald, ev_zald, ev_aald, ev_iast, ev_last, ev_bast, ev_zast, ev_aast, ev_gfI, ev_gfL, ev_gfR, ev_pfI, ev_pfZ, ev_pfL, ev_pfR, ev_new, ev_newa, ev_newq, ev_copy, ev_slen, ev_schr, ev_obj, ev_mmin, ev_mabs, ev_mmax, ev_goto, ev_jsr, ev_icmp_eq, ev_if_eq, ev_icmp_ne, ev_if_ne, ev_icmp_lt, ev_if_lt, ev_icmp_ge, ev_if_ge, ev_icmp_gt, ev_if_gt, ev_icmp_le, ev_if_le, ev_ifnull0, ev_ifnull1, ev_ifnn0, ev_ifnn1, ev_tsw, ev_lsw, ev_iret, ev_zret, ev_lret, ev_aret, ev_ret, ev_call0, ev_call1, ev_call2, ev_call3, ev_call4, ev_call5, ev_call6, Option.toList_some, Option.toList_none, List.cons_append, List.nil_append, List.length_cons, List.length_nil, Nat.reduceMod, Nat.reduceDiv, Nat.reduceLeDiff, nc, ↓reduceIte, Nat.zero_le, reduceCtorEq, w32_id, Int.reduceEq, Int.reduceNe, Int.reduceLT, Int.reduceLE, Int.reduceGT, Int.reduceGE, Int.reduceAdd, Int.reduceSub, Int.reduceMul, Int.reduceNeg, ne_eq, not_true_eq_false, not_false_eq_true, eq_self, ↓if_pos, ↓if_neg, w0_r0_3, w0_r0_4, w0_r0_5, w0_r0_6, w0_r0_7, w0_r0_8, w0_r0_10, w0_r0_11, w0_r0_12, w0_r0_13, w0_r0_14, w0_r0_15, w0_r0_16, w0_r0_17, w0_r0_18, cr0, cr1, cr2, cr3, cr4, cr5, cr6, cr7, J_215_0, k_215_0, J_215_13, k_215_13, J_215_34, k_215_34, J_215_36, k_215_36, J_215_78, k_215_78, J_215_92, k_215_92, J_215_122, k_215_122, s1, hst, hcol, vh, q2]
  rw [if_neg q2]
  have q2' : xH A s.1 = c := Classical.not_not.mp q2
  rw [q2'] at vh
  by_cases q3 : s.2.2.2.1 c = -1
  · rw [if_pos q3]
    rw [q3] at hh
    refine ⟨up (up (up (up M 60 2 (s.2.1 + 1)) 60 3 (s.2.2.1 + 2 * A 3)) 64 c s.1) 60 1 (s.1 + 1), ⟨up_eq, ?_, ?_, fun d d0 d1 => ?_, ?_, ?_⟩, fun b b0 b1 b2 b3 => ?_, fun i i1 i2 i3 => ?_, ?_⟩
    · simp (disch := omega) only [up_ne, up_eq, up_ne2]
    · simp (disch := omega) only [up_ne, up_eq, up_ne2]
    · show _ = upH s.2.2.2.1 c s.1 d
      unfold upH
      by_cases z : d = c
      · rw [if_pos z, z]; simp (disch := omega) only [up_ne, up_eq, up_ne2]
      · rw [if_neg z, up_ne (by omega), up_ne2 z, up_ne (by omega), up_ne (by omega)]
        exact s4 d d0 d1
    · simp (disch := omega) only [up_ne, up_eq, up_ne2]; exact s5
    · simp (disch := omega) only [up_ne, up_eq, up_ne2]; exact s6
    · rw [up_ne b0, up_ne b3, up_ne b0, up_ne b0]
    · rw [up_ne2 i1, up_ne (by omega), up_ne2 i3, up_ne2 i2]
    · rw [E_215 k60]
      simp (disch := first | assumption | decide | omega | (simp only [List.length_cons, List.length_nil] <;> omega)) only [lgt_0, lgt_s, lset_0, lset_s, lst1_0, lst1_s, lst2_0, lst2_s, ev_iconst, ev_lconst, ev_ldc, ev_null, ev_iload, ev_lload, ev_aload, ev_istore, ev_lstore, ev_astore, ev_iinc, ev_iadd, ev_isub, ev_imul, ev_iand, ev_ior, ev_ishl, ev_ishr, ev_idiv, ev_irem, ev_ineg, ev_ladd, ev_lsub, ev_lmul, ev_land, ev_lor, ev_ldiv, ev_lrem, ev_lshl, ev_i2l, ev_l2i, ev_i2b, ev_i2s, ev_lcmp, ev_dupI, ev_dupR, ev_dup2, ev_popI, ev_popR, ev_alen, ev_xlen, ev_xald, ev_iald, ev_lald, ev_bald, ev_zald, ev_aald, ev_iast, ev_last, ev_bast, ev_zast, ev_aast, ev_gfI, ev_gfL, ev_gfR, ev_pfI, ev_pfZ, ev_pfL, ev_pfR, ev_new, ev_newa, ev_newq, ev_copy, ev_slen, ev_schr, ev_obj, ev_mmin, ev_mabs, ev_mmax, ev_goto, ev_jsr, ev_icmp_eq, ev_if_eq, ev_icmp_ne, ev_if_ne, ev_icmp_lt, ev_if_lt, ev_icmp_ge, ev_if_ge, ev_icmp_gt, ev_if_gt, ev_icmp_le, ev_if_le, ev_ifnull0, ev_ifnull1, ev_ifnn0, ev_ifnn1, ev_tsw, ev_lsw, ev_iret, ev_zret, ev_lret, ev_aret, ev_ret, ev_call0, ev_call1, ev_call2, ev_call3, ev_call4, ev_call5, ev_call6, Option.toList_some, Option.toList_none, List.cons_append, List.nil_append, List.length_cons, List.length_nil, Nat.reduceMod, Nat.reduceDiv, Nat.reduceLeDiff, nc, ↓reduceIte, Nat.zero_le, reduceCtorEq, w32_id, Int.reduceEq, Int.reduceNe, Int.reduceLT, Int.reduceLE, Int.reduceGT, Int.reduceGE, Int.reduceAdd, Int.reduceSub, Int.reduceMul, Int.reduceNeg, ne_eq, not_true_eq_false, not_false_eq_true, eq_self, ↓if_pos, ↓if_neg, w0_r0_3, w0_r0_4, w0_r0_5, w0_r0_6, w0_r0_7, w0_r0_8, w0_r0_10, w0_r0_11, w0_r0_12, w0_r0_13, w0_r0_14, w0_r0_15, w0_r0_16, w0_r0_17, w0_r0_18, cr0, cr1, cr2, cr3, cr4, cr5, cr6, cr7, J_215_0, k_215_0, J_215_13, k_215_13, J_215_34, k_215_34, J_215_36, k_215_36, J_215_78, k_215_78, J_215_92, k_215_92, J_215_122, k_215_122, w0_r60_7, s1, s2, s3, hst, hcol, vh, hh, a3, up_ne, up_eq, up_ne2]
  rw [if_neg q3]
  have hb := (h4 c hc.1 (by omega)).resolve_left q3
  have ew := k_way (X := X) k (i := s.2.2.2.1 c) (j := s.1) (by unfold i32; omega) (by unfold i32; omega)
  by_cases q4 : wyA A (s.2.2.2.1 c) s.1 = 0
  · rw [if_pos q4]
    rw [q4] at ew
    refine ⟨M, ⟨s1, s2, s3, s4, s5, s6⟩, fun _ _ _ _ _ => rfl, fun _ _ _ _ => rfl, ?_⟩
    rw [E_215 k60]
    simp (disch := first | assumption | decide | omega | (simp only [List.length_cons, List.length_nil] <;> omega)) only [lgt_0, lgt_s, lset_0, lset_s, lst1_0, lst1_s, lst2_0, lst2_s, ev_iconst, ev_lconst, ev_ldc, ev_null, ev_iload, ev_lload, ev_aload, ev_istore, ev_lstore, ev_astore, ev_iinc, ev_iadd, ev_isub, ev_imul, ev_iand, ev_ior, ev_ishl, ev_ishr, ev_idiv, ev_irem, ev_ineg, ev_ladd, ev_lsub, ev_lmul, ev_land, ev_lor, ev_ldiv, ev_lrem, ev_lshl, ev_i2l, ev_l2i, ev_i2b, ev_i2s, ev_lcmp, ev_dupI, ev_dupR, ev_dup2, ev_popI, ev_popR, ev_alen, ev_xlen, ev_xald, ev_iald, ev_lald, ev_bald, ev_zald, ev_aald, ev_iast, ev_last, ev_bast, ev_zast, ev_aast, ev_gfI, ev_gfL, ev_gfR, ev_pfI, ev_pfZ, ev_pfL, ev_pfR, ev_new, ev_newa, ev_newq, ev_copy, ev_slen, ev_schr, ev_obj, ev_mmin, ev_mabs, ev_mmax, ev_goto, ev_jsr, ev_icmp_eq, ev_if_eq, ev_icmp_ne, ev_if_ne, ev_icmp_lt, ev_if_lt, ev_icmp_ge, ev_if_ge, ev_icmp_gt, ev_if_gt, ev_icmp_le, ev_if_le, ev_ifnull0, ev_ifnull1, ev_ifnn0, ev_ifnn1, ev_tsw, ev_lsw, ev_iret, ev_zret, ev_lret, ev_aret, ev_ret, ev_call0, ev_call1, ev_call2, ev_call3, ev_call4, ev_call5, ev_call6, Option.toList_some, Option.toList_none, List.cons_append, List.nil_append, List.length_cons, List.length_nil, Nat.reduceMod, Nat.reduceDiv, Nat.reduceLeDiff, nc, ↓reduceIte, Nat.zero_le, reduceCtorEq, w32_id, Int.reduceEq, Int.reduceNe, Int.reduceLT, Int.reduceLE, Int.reduceGT, Int.reduceGE, Int.reduceAdd, Int.reduceSub, Int.reduceMul, Int.reduceNeg, ne_eq, not_true_eq_false, not_false_eq_true, eq_self, ↓if_pos, ↓if_neg, w0_r0_3, w0_r0_4, w0_r0_5, w0_r0_6, w0_r0_7, w0_r0_8, w0_r0_10, w0_r0_11, w0_r0_12, w0_r0_13, w0_r0_14, w0_r0_15, w0_r0_16, w0_r0_17, w0_r0_18, cr0, cr1, cr2, cr3, cr4, cr5, cr6, cr7, J_215_0, k_215_0, J_215_13, k_215_13, J_215_34, k_215_34, J_215_36, k_215_36, J_215_78, k_215_78, J_215_92, k_215_92, J_215_122, k_215_122, w0_r60_7, s1, hst, hcol, vh, hh, q3, ew]
  rw [if_neg q4]
  have ej := s_join (X := X) (M := M) w0_pl61 (i := s.2.2.2.1 c) (j := s.1)
  rw [if_pos ⟨hb.1.1, hb.1.2, by omega⟩] at ej
  generalize hMa : up (up M (61 + 1) (s.2.2.2.1 c) s.1) (61 + 2) s.1 (s.2.2.2.1 c) = Ma at ej
  have fa : ∀ b, b ≠ 62 → b ≠ 63 → Ma b = M b := fun b b0 b1 => by rw [← hMa, up_ne b1, up_ne b0]
  have ka : KV Ma A := kv_f k fun b b0 b1 => fa b (by omega) (by omega)
  have ep := k_price (X := X) ka (i := s.2.2.2.1 c) (j := s.1) (by unfold i32; omega) (by unfold i32; omega)
  have pr := prA_rng g (i := s.2.2.2.1 c) (j := s.1)
  have f60 := fa 60 (by omega) (by omega)
  have t1 : Ma 60 1 = s.1 := by rw [f60]; exact s1
  have t3 : Ma 60 3 = s.2.2.1 := by rw [f60]; exact s3
  refine ⟨up (up (up Ma 60 3 (s.2.2.1 + prA A (s.2.2.2.1 c) s.1)) 64 c s.1) 60 1 (s.1 + 1), ⟨up_eq, ?_, ?_, fun d d0 d1 => ?_, ?_, ?_⟩, fun b b0 b1 b2 b3 => ?_, fun i i1 i2 i3 => ?_, ?_⟩
  · simp (disch := omega) only [up_ne, up_eq, up_ne2]; rw [f60]; exact s2
  · simp (disch := omega) only [up_ne, up_eq, up_ne2]
  · show _ = upH s.2.2.2.1 c s.1 d
    unfold upH
    by_cases z : d = c
    · rw [if_pos z, z]; simp (disch := omega) only [up_ne, up_eq, up_ne2]
    · rw [if_neg z, up_ne (by omega), up_ne2 z, up_ne (by omega), fa 64 (by omega) (by omega)]
      exact s4 d d0 d1
  · rw [up_ne (by omega), up_ne (by omega), up_ne (by omega), ← hMa, up_ne (by omega)]
    exact up_fun s5
  · rw [up_ne (by omega), up_ne (by omega), up_ne (by omega), ← hMa]
    exact up_fun (by rw [up_ne (by omega)]; exact s6)
  · rw [up_ne b0, up_ne b3, up_ne b0, fa b b1 b2]
  · rw [up_ne2 i1, up_ne (by omega), up_ne2 i3, f60]
  · rw [E_215 k60]
    generalize hq : wyA A (s.2.2.2.1 c) s.1 = wq at ew q4
    generalize prA A (s.2.2.2.1 c) s.1 = pq at ep pr ⊢
    simp (disch := first | assumption | decide | omega | (simp only [List.length_cons, List.length_nil] <;> omega)) only [lgt_0, lgt_s, lset_0, lset_s, lst1_0, lst1_s, lst2_0, lst2_s, ev_iconst, ev_lconst, ev_ldc, ev_null, ev_iload, ev_lload, ev_aload, ev_istore, ev_lstore, ev_astore, ev_iinc, ev_iadd, ev_isub, ev_imul, ev_iand, ev_ior, ev_ishl, ev_ishr, ev_idiv, ev_irem, ev_ineg, ev_ladd, ev_lsub, ev_lmul, ev_land, ev_lor, ev_ldiv, ev_lrem, ev_lshl, ev_i2l, ev_l2i, ev_i2b, ev_i2s, ev_lcmp, ev_dupI, ev_dupR, ev_dup2, ev_popI, ev_popR, ev_alen, ev_xlen, ev_xald, ev_iald, ev_lald, ev_bald, ev_zald, ev_aald, ev_iast, ev_last, ev_bast, ev_zast, ev_aast, ev_gfI, ev_gfL, ev_gfR, ev_pfI, ev_pfZ, ev_pfL, ev_pfR, ev_new, ev_newa, ev_newq, ev_copy, ev_slen, ev_schr, ev_obj, ev_mmin, ev_mabs, ev_mmax, ev_goto, ev_jsr, ev_icmp_eq, ev_if_eq, ev_icmp_ne, ev_if_ne, ev_icmp_lt, ev_if_lt, ev_icmp_ge, ev_if_ge, ev_icmp_gt, ev_if_gt, ev_icmp_le, ev_if_le, ev_ifnull0, ev_ifnull1, ev_ifnn0, ev_ifnn1, ev_tsw, ev_lsw, ev_iret, ev_zret, ev_lret, ev_aret, ev_ret, ev_call0, ev_call1, ev_call2, ev_call3, ev_call4, ev_call5, ev_call6, Option.toList_some, Option.toList_none, List.cons_append, List.nil_append, List.length_cons, List.length_nil, Nat.reduceMod, Nat.reduceDiv, Nat.reduceLeDiff, nc, ↓reduceIte, Nat.zero_le, reduceCtorEq, w32_id, Int.reduceEq, Int.reduceNe, Int.reduceLT, Int.reduceLE, Int.reduceGT, Int.reduceGE, Int.reduceAdd, Int.reduceSub, Int.reduceMul, Int.reduceNeg, ne_eq, not_true_eq_false, not_false_eq_true, eq_self, ↓if_pos, ↓if_neg, w0_r0_3, w0_r0_4, w0_r0_5, w0_r0_6, w0_r0_7, w0_r0_8, w0_r0_10, w0_r0_11, w0_r0_12, w0_r0_13, w0_r0_14, w0_r0_15, w0_r0_16, w0_r0_17, w0_r0_18, cr0, cr1, cr2, cr3, cr4, cr5, cr6, cr7, J_215_0, k_215_0, J_215_13, k_215_13, J_215_34, k_215_34, J_215_36, k_215_36, J_215_78, k_215_78, J_215_92, k_215_92, J_215_122, k_215_122, w0_r60_0, w0_r60_7, s1, hst, hcol, vh, hh, q3, ew, q4, ej, t1, t3, ep, up_ne, up_eq, up_ne2]
theorem c_knitN (k : KV M A) {s : KS} (hs : ksI A s) (ks : KSc M s) {c : Int} (hc : 0 ≤ c ∧ c < A 2) {m : Int} (m0 : 0 ≤ m) (m1 : m ≤ 48) : ∃ M', KSc M' (knN A c m.toNat s).2 ∧ (∀ b, b ≠ 60 → b ≠ 62 → b ≠ 63 → b ≠ 64 → M' b = M b) ∧ (∀ i, i ≠ 1 → i ≠ 2 → i ≠ 3 → M' 60 i = M 60 i) ∧ evc X 214 [vR (some 60), vR (some 4), vI c, vI m] SH0 M = some (some (vI (knN A c m.toNat s).1), SH0, M') := by
  have k60 := w0_k60
  have g := k_gWY k
  have key := ev_while (X := X) (y := 214) (Sh := SH0) (fun n ls M' => ∃ j s' w, ls = [some (vR (some 60)), some (vR (some 4)), some (vI c), some (vI m), some (vI j), w] ∧ (0 ≤ j ∧ j ≤ m) ∧ n = (m - j).toNat ∧ KSc M' s' ∧ ksI A s' ∧ (∀ b, b ≠ 60 → b ≠ 62 → b ≠ 63 → b ≠ 64 → M' b = M b) ∧ (∀ i, i ≠ 1 → i ≠ 2 → i ≠ 3 → M' 60 i = M 60 i) ∧ knN A c (m - j).toNat s' = knN A c m.toNat s) (fun r => ∃ M', KSc M' (knN A c m.toNat s).2 ∧ (∀ b, b ≠ 60 → b ≠ 62 → b ≠ 63 → b ≠ 64 → M' b = M b) ∧ (∀ i, i ≠ 1 → i ≠ 2 → i ≠ 3 → M' 60 i = M 60 i) ∧ r = some (some (vI (knN A c m.toNat s).1), SH0, M')) J_214_3 (fun n ls M' hI => by
    obtain ⟨j, s', w, hls, hj, hn, ks', hs', fr, f60, hk⟩ := hI
    subst hls
    by_cases q : j < m
    · have kv' : KV M' A := kv_f k fun b b0 b1 => fr b (by omega) (by omega) (by omega) (by omega)
      obtain ⟨M2, k2, f2, g2, e2⟩ := c_knit1 (X := X) kv' hs' ks' hc
      have ej : (m - j).toNat = (m - (j + 1)).toNat + 1 := by omega
      rw [ej, knN_s] at hk
      by_cases z : (kn1 A c s').1 = -1
      · left
        rw [if_pos z] at hk
        rw [z] at e2
        refine ⟨(m - (j + 1)).toNat, _, M2, by omega, ⟨j + 1, (kn1 A c s').2, some (vI (-1)), rfl, by omega, rfl, k2, kn1_I g hc hs', fun b b0 b1 b2 b3 => by rw [f2 b b0 b1 b2 b3, fr b b0 b1 b2 b3], fun i i1 i2 i3 => by rw [g2 i i1 i2 i3, f60 i i1 i2 i3], hk⟩, ?_⟩
        simp (disch := first | assumption | decide | omega | (simp only [List.length_cons, List.length_nil] <;> omega)) only [lgt_0, lgt_s, lset_0, lset_s, lst1_0, lst1_s, lst2_0, lst2_s, ev_iconst, ev_lconst, ev_ldc, ev_null, ev_iload, ev_lload, ev_aload, ev_istore, ev_lstore, ev_astore, ev_iinc, ev_iadd, ev_isub, ev_imul, ev_iand, ev_ior, ev_ishl, ev_ishr, ev_idiv, ev_irem, ev_ineg, ev_ladd, ev_lsub, ev_lmul, ev_land, ev_lor, ev_ldiv, ev_lrem, ev_lshl, ev_i2l, ev_l2i, ev_i2b, ev_i2s, ev_lcmp, ev_dupI, ev_dupR, ev_dup2, ev_popI, ev_popR, ev_alen, ev_xlen, ev_xald, ev_iald, ev_lald, ev_bald, ev_zald, ev_aald, ev_iast, ev_last, ev_bast, ev_zast, ev_aast, ev_gfI, ev_gfL, ev_gfR, ev_pfI, ev_pfZ, ev_pfL, ev_pfR, ev_new, ev_newa, ev_newq, ev_copy, ev_slen, ev_schr, ev_obj, ev_mmin, ev_mabs, ev_mmax, ev_goto, ev_jsr, ev_icmp_eq, ev_if_eq, ev_icmp_ne, ev_if_ne, ev_icmp_lt, ev_if_lt, ev_icmp_ge, ev_if_ge, ev_icmp_gt, ev_if_gt, ev_icmp_le, ev_if_le, ev_ifnull0, ev_ifnull1, ev_ifnn0, ev_ifnn1, ev_tsw, ev_lsw, ev_iret, ev_zret, ev_lret, ev_aret, ev_ret, ev_call0, ev_call1, ev_call2, ev_call3, ev_call4, ev_call5, ev_call6, Option.toList_some, Option.toList_none, List.cons_append, List.nil_append, List.length_cons, List.length_nil, Nat.reduceMod, Nat.reduceDiv, Nat.reduceLeDiff, nc, ↓reduceIte, Nat.zero_le, reduceCtorEq, w32_id, Int.reduceEq, Int.reduceNe, Int.reduceLT, Int.reduceLE, Int.reduceGT, Int.reduceGE, Int.reduceAdd, Int.reduceSub, Int.reduceMul, Int.reduceNeg, ne_eq, not_true_eq_false, not_false_eq_true, eq_self, ↓if_pos, ↓if_neg, J_214_0, k_214_0, J_214_26, k_214_26, J_214_32, k_214_32, k_214_3, q, e2]
      · right
        rw [if_neg z] at hk
        rw [← hk]
        refine ⟨M2, k2, fun b b0 b1 b2 b3 => by rw [f2 b b0 b1 b2 b3, fr b b0 b1 b2 b3], fun i i1 i2 i3 => by rw [g2 i i1 i2 i3, f60 i i1 i2 i3], ?_⟩
        generalize (kn1 A c s').1 = o at e2 z ⊢
        simp (disch := first | assumption | decide | omega | (simp only [List.length_cons, List.length_nil] <;> omega)) only [lgt_0, lgt_s, lset_0, lset_s, lst1_0, lst1_s, lst2_0, lst2_s, ev_iconst, ev_lconst, ev_ldc, ev_null, ev_iload, ev_lload, ev_aload, ev_istore, ev_lstore, ev_astore, ev_iinc, ev_iadd, ev_isub, ev_imul, ev_iand, ev_ior, ev_ishl, ev_ishr, ev_idiv, ev_irem, ev_ineg, ev_ladd, ev_lsub, ev_lmul, ev_land, ev_lor, ev_ldiv, ev_lrem, ev_lshl, ev_i2l, ev_l2i, ev_i2b, ev_i2s, ev_lcmp, ev_dupI, ev_dupR, ev_dup2, ev_popI, ev_popR, ev_alen, ev_xlen, ev_xald, ev_iald, ev_lald, ev_bald, ev_zald, ev_aald, ev_iast, ev_last, ev_bast, ev_zast, ev_aast, ev_gfI, ev_gfL, ev_gfR, ev_pfI, ev_pfZ, ev_pfL, ev_pfR, ev_new, ev_newa, ev_newq, ev_copy, ev_slen, ev_schr, ev_obj, ev_mmin, ev_mabs, ev_mmax, ev_goto, ev_jsr, ev_icmp_eq, ev_if_eq, ev_icmp_ne, ev_if_ne, ev_icmp_lt, ev_if_lt, ev_icmp_ge, ev_if_ge, ev_icmp_gt, ev_if_gt, ev_icmp_le, ev_if_le, ev_ifnull0, ev_ifnull1, ev_ifnn0, ev_ifnn1, ev_tsw, ev_lsw, ev_iret, ev_zret, ev_lret, ev_aret, ev_ret, ev_call0, ev_call1, ev_call2, ev_call3, ev_call4, ev_call5, ev_call6, Option.toList_some, Option.toList_none, List.cons_append, List.nil_append, List.length_cons, List.length_nil, Nat.reduceMod, Nat.reduceDiv, Nat.reduceLeDiff, nc, ↓reduceIte, Nat.zero_le, reduceCtorEq, w32_id, Int.reduceEq, Int.reduceNe, Int.reduceLT, Int.reduceLE, Int.reduceGT, Int.reduceGE, Int.reduceAdd, Int.reduceSub, Int.reduceMul, Int.reduceNeg, ne_eq, not_true_eq_false, not_false_eq_true, eq_self, ↓if_pos, ↓if_neg, J_214_0, k_214_0, J_214_26, k_214_26, J_214_32, k_214_32, k_214_3, q, e2, z]
    · right
      have ej : (m - j).toNat = 0 := by omega
      rw [ej] at hk
      rw [← hk]
      refine ⟨M', ks', fr, f60, ?_⟩
      show _ = some (some (vI (-1)), SH0, M')
      simp (disch := first | assumption | decide | omega | (simp only [List.length_cons, List.length_nil] <;> omega)) only [lgt_0, lgt_s, lset_0, lset_s, lst1_0, lst1_s, lst2_0, lst2_s, ev_iconst, ev_lconst, ev_ldc, ev_null, ev_iload, ev_lload, ev_aload, ev_istore, ev_lstore, ev_astore, ev_iinc, ev_iadd, ev_isub, ev_imul, ev_iand, ev_ior, ev_ishl, ev_ishr, ev_idiv, ev_irem, ev_ineg, ev_ladd, ev_lsub, ev_lmul, ev_land, ev_lor, ev_ldiv, ev_lrem, ev_lshl, ev_i2l, ev_l2i, ev_i2b, ev_i2s, ev_lcmp, ev_dupI, ev_dupR, ev_dup2, ev_popI, ev_popR, ev_alen, ev_xlen, ev_xald, ev_iald, ev_lald, ev_bald, ev_zald, ev_aald, ev_iast, ev_last, ev_bast, ev_zast, ev_aast, ev_gfI, ev_gfL, ev_gfR, ev_pfI, ev_pfZ, ev_pfL, ev_pfR, ev_new, ev_newa, ev_newq, ev_copy, ev_slen, ev_schr, ev_obj, ev_mmin, ev_mabs, ev_mmax, ev_goto, ev_jsr, ev_icmp_eq, ev_if_eq, ev_icmp_ne, ev_if_ne, ev_icmp_lt, ev_if_lt, ev_icmp_ge, ev_if_ge, ev_icmp_gt, ev_if_gt, ev_icmp_le, ev_if_le, ev_ifnull0, ev_ifnull1, ev_ifnn0, ev_ifnn1, ev_tsw, ev_lsw, ev_iret, ev_zret, ev_lret, ev_aret, ev_ret, ev_call0, ev_call1, ev_call2, ev_call3, ev_call4, ev_call5, ev_call6, Option.toList_some, Option.toList_none, List.cons_append, List.nil_append, List.length_cons, List.length_nil, Nat.reduceMod, Nat.reduceDiv, Nat.reduceLeDiff, nc, ↓reduceIte, Nat.zero_le, reduceCtorEq, w32_id, Int.reduceEq, Int.reduceNe, Int.reduceLT, Int.reduceLE, Int.reduceGT, Int.reduceGE, Int.reduceAdd, Int.reduceSub, Int.reduceMul, Int.reduceNeg, ne_eq, not_true_eq_false, not_false_eq_true, eq_self, ↓if_pos, ↓if_neg, J_214_0, k_214_0, J_214_26, k_214_26, J_214_32, k_214_32, k_214_3, q]) m.toNat [some (vR (some 60)), some (vR (some 4)), some (vI c), some (vI m), some (vI 0), none] M ⟨0, s, none, rfl, by omega, by omega, ks, hs, fun _ _ _ _ _ => rfl, fun _ _ _ _ => rfl, by rw [Int.sub_zero]⟩
  obtain ⟨M', k1, f1, f2, e⟩ := key
  refine ⟨M', k1, f1, f2, ?_⟩
  rw [E_214 k60]
  simp (disch := first | assumption | decide | omega | (simp only [List.length_cons, List.length_nil] <;> omega)) only [lgt_0, lgt_s, lset_0, lset_s, lst1_0, lst1_s, lst2_0, lst2_s, ev_iconst, ev_lconst, ev_ldc, ev_null, ev_iload, ev_lload, ev_aload, ev_istore, ev_lstore, ev_astore, ev_iinc, ev_iadd, ev_isub, ev_imul, ev_iand, ev_ior, ev_ishl, ev_ishr, ev_idiv, ev_irem, ev_ineg, ev_ladd, ev_lsub, ev_lmul, ev_land, ev_lor, ev_ldiv, ev_lrem, ev_lshl, ev_i2l, ev_l2i, ev_i2b, ev_i2s, ev_lcmp, ev_dupI, ev_dupR, ev_dup2, ev_popI, ev_popR, ev_alen, ev_xlen, ev_xald, ev_iald, ev_lald, ev_bald, ev_zald, ev_aald, ev_iast, ev_last, ev_bast, ev_zast, ev_aast, ev_gfI, ev_gfL, ev_gfR, ev_pfI, ev_pfZ, ev_pfL, ev_pfR, ev_new, ev_newa, ev_newq, ev_copy, ev_slen, ev_schr, ev_obj, ev_mmin, ev_mabs, ev_mmax, ev_goto, ev_jsr, ev_icmp_eq, ev_if_eq, ev_icmp_ne, ev_if_ne, ev_icmp_lt, ev_if_lt, ev_icmp_ge, ev_if_ge, ev_icmp_gt, ev_if_gt, ev_icmp_le, ev_if_le, ev_ifnull0, ev_ifnull1, ev_ifnn0, ev_ifnn1, ev_tsw, ev_lsw, ev_iret, ev_zret, ev_lret, ev_aret, ev_ret, ev_call0, ev_call1, ev_call2, ev_call3, ev_call4, ev_call5, ev_call6, Option.toList_some, Option.toList_none, List.cons_append, List.nil_append, List.length_cons, List.length_nil, Nat.reduceMod, Nat.reduceDiv, Nat.reduceLeDiff, nc, ↓reduceIte, Nat.zero_le, reduceCtorEq, w32_id, Int.reduceEq, Int.reduceNe, Int.reduceLT, Int.reduceLE, Int.reduceGT, Int.reduceGE, Int.reduceAdd, Int.reduceSub, Int.reduceMul, Int.reduceNeg, ne_eq, not_true_eq_false, not_false_eq_true, eq_self, ↓if_pos, ↓if_neg, J_214_0, k_214_0, J_214_26, k_214_26, J_214_32, k_214_32, e]
end FOC
