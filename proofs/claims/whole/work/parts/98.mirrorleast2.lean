section MIR6
variable {X : Int → Int} {M N : Mem}
theorem op_mirrorLeast (h : RR' M) : OP X 191 [] 346 [] M := by
  have k0 := w0_k0; have hc4 := w0_ch4; have hmd := w0_md140; have mk0 := hmd.1; have hc4' := w0_ch4; obtain ⟨ck0, cr0, cr1, cr2, cr3, cr4, cr5, cr6, cr7, ck1, ck2, ck3, ck4, ck5, ck6, ck7, ck8, cl1, cl2, cl3, cl4, cl5, cl6, cl7, cl8⟩ := hc4'
  have gA := rr_gA h
  have g0 := gA.1.1
  have g1 := gA.1.2.1
  have g2' := gA.1.2.2.1
  have cm : AA M 1 * AA M 0 = AA M 0 * AA M 1 := Int.mul_comm _ _
  have n48 : AA M 0 * AA M 1 ≤ 48 := gA.2.1.2
  obtain ⟨Ma, fa, ra, wa, ea⟩ := c_trial (X := X) h
  obtain ⟨Mb, fb, cb, eb⟩ := k_mirrorLoop (X := X) (M := Ma) (w := AA M 0) (hh := AA M 1) (C := fun p => AA M (28 + p)) g0 g1 (ra.1 0 (by omega) (by omega)) (ra.1 1 (by omega) (by omega)) (fun p a b => (ra.2.2.2.2.2.2.1 p a (by omega)).1)
  have hC := mr2_rng (w := AA M 0) (hh := AA M 1) (u := AA M 2) (s := (fun p => AA M (28 + p), 0)) g0 g1.2 (fun p a b => rr_hH h p a (by omega)) (r := (AA M 1).toNat) (by omega)
  have gsb : goodS (Mb (67 + 1)) := by
    have g := gA.1
    unfold goodS at g ⊢
    rw [fb (67 + 1) (by omega), ra.1 0 (by omega) (by omega), ra.1 1 (by omega) (by omega), ra.1 2 (by omega) (by omega), ra.1 3 (by omega) (by omega), ra.1 4 (by omega) (by omega), ra.1 5 (by omega) (by omega), ra.1 6 (by omega) (by omega), ra.1 7 (by omega) (by omega), ra.1 8 (by omega) (by omega), ra.1 9 (by omega) (by omega), ra.1 10 (by omega) (by omega), ra.1 11 (by omega) (by omega), ra.1 12 (by omega) (by omega), ra.1 13 (by omega) (by omega), ra.1 14 (by omega) (by omega)]
    exact g
  obtain ⟨Mc, fc, fc2, hc8, hci, ec⟩ := s_arrange (X := X) (M := Mb) w0_ch67 gsb
  have em := eb Mc ec
  -- the model's loop, with the same fold
  have mm : ∀ N0 : Mem, N0 (140 + 1) 0 = AA M 0 → N0 (140 + 1) 1 = AA M 1 → (∀ p, 0 ≤ p → p < AA M 1 * AA M 0 → N0 (140 + 1) (28 + p) = (fun p => AA M (28 + p)) p) → _ := fun N0 => m_mirror (X := X) (M := N0) (w := AA M 0) (hh := AA M 1) (C := fun p => AA M (28 + p)) g0 g1
  generalize mr2 (AA M 0) (fun p => AA M (28 + p), 0) (AA M 1).toNat = T at cb hC em mm
  generalize hB : plB (AA M) T.1 = B
  have bS : ∀ k, k < 28 → B k = AA M k := fun k hk => by rw [← hB]; exact plB_s hk
  have bP : ∀ p, 0 ≤ p → p < 48 → B (28 + p) = T.1 p := fun p a b => by rw [← hB]; exact plB_p a b
  have gB : goodS B := by rw [← hB]; exact plB_good gA.1
  have xB : B 0 * B 1 = AA M 0 * AA M 1 := by rw [bS 0 (by omega), bS 1 (by omega)]
  have gO := good_A gB (fun p a b => by rw [bP p a (by omega), bS 2 (by omega)]; exact hC p a (by omega))
  have ve : VE (Mc (67 + 1)) (Mc (67 + 6)) (Mc (67 + 7)) (Mc (67 + 8)) (Mc (67 + 3)) (Mc 67 8) B (xH B) (xP B) (xR B) (xW B) (xn B) := by
    have c1 := fc2 (67 + 1) (by omega) (by omega)
    refine arr_ve (fun k a b => by rw [c1, fb (67 + 1) (by omega), bS k (by omega)]; exact ra.1 k a b) gB (fun p a b => ?_) (fun k a b => ?_) (by rw [c1]; exact hc8) (fun i a b => ?_)
    · have b' : p < B 0 * B 1 := b
      rw [fc2 (67 + 5) (by omega) (by omega), bP p a (by omega)]
      exact cb p a (by omega)
    · rw [bS 2 (by omega)] at b
      rw [fc2 (67 + 3) (by omega) (by omega), fb (67 + 3) (by omega), bS _ (by omega)]
      exact (ra.2.2.2.2.2.1 k a b).1
    · rw [c1] at b ⊢
      rw [fc2 (67 + 5) (by omega) (by omega)]
      exact hci i a b
  have wc : goodW Mc 67 := fun k a b => by rw [fc2 (67 + 3) (by omega) (by omega), fb (67 + 3) (by omega)]; exact wa k a b
  obtain ⟨Md, fd, ed, l0, l1⟩ := c_lA (X := X) w0_ch67 (by omega) wc ve gO
  have r1 : RO M (up Md 0 0 0) 0 := RO_s fun b x y => by rw [fd b (by omega), fc b (by omega), fb b (by omega), fa b (by omega)]
  have hm := mds_up r1
  generalize hM1 : up Md 0 0 0 = M1 at r1 hm
  obtain ⟨N0, f0, k0', e0⟩ := m_keepP (X := X) (M := M1)
  have t0 := q_at hm (k := 0) (by omega) (by omega)
  have t1 := q_at hm (k := 1) (by omega) (by omega)
  obtain ⟨N1, f1, g1', c1, e1⟩ := mm N0 (by rw [f0 (140 + 1) (by omega)]; exact t0) (by rw [f0 (140 + 1) (by omega)]; exact t1) (fun p a b => by rw [f0 (140 + 1) (by omega)]; exact q_at hm (by omega) (by omega))
  obtain ⟨N2, N3, e224, e309, f3, f3', o3⟩ := m_least_pl (X := X) (N := N1) h hC (fun k a b => by rw [g1' k (by omega), f0 (140 + 1) (by omega)]; exact q_at hm a (by omega)) c1
  obtain ⟨N4, f4, g4, c4, e4⟩ := m_bringP (X := X) (M := N3)
  have n3 : N3 (140 + 1) = N1 (140 + 1) := f3 _ (by omega) (by omega) (by omega) (by omega)
  have n4 : N4 (140 + 1) = M (140 + 1) := by
    funext k
    by_cases z : k < 28 ∨ 76 ≤ k
    · rw [g4 k z, n3, g1' k z, f0 (140 + 1) (by omega), hm (140 + 1) (by omega)]
    · have e := c4 (k - 28) (by omega) (by omega)
      rw [show 28 + (k - 28) = k from by omega] at e
      have e' := k0' (k - 28) (by omega) (by omega)
      rw [show 28 + (k - 28) = k from by omega] at e'
      rw [e, f3 163 (by omega) (by omega) (by omega) (by omega), f1 163 (by omega), e', hm (140 + 1) (by omega)]
  obtain ⟨N5, f5, c9, c10, e5⟩ := num_back (X := X) h n4 (fun i hi => ⟨by rw [f4 (140 + 9) (by omega), (o3 i hi).1, f1 (140 + 9) (by omega), f0 (140 + 9) (by omega), hm (140 + 9) (by omega)], by rw [f4 (140 + 10) (by omega), (o3 i hi).2, f1 (140 + 10) (by omega), f0 (140 + 10) (by omega), hm (140 + 10) (by omega)]⟩)
  have e6 := e4 N5 e5
  rw [hB] at e309
  have ed' : evc X 141 [vR (some 36), vR (some 67)] SH0 Mc = some (some (vI (lsA B (xH B))), SH0, Md) := ed
  refine op_ro (v := vI (lsA B (xH B))) (M2 := up N5 140 2 0) (st := 0) h ?_ r1 ?_ (rom_up (fun b b1 b2 => ?_) (fun i hi h2 => ?_))
  · rw [E_191 k0]
    simp (disch := first | assumption | decide | omega | (simp only [List.length_cons, List.length_nil] <;> omega)) only [lgt_0, lgt_s, lset_0, lset_s, lst1_0, lst1_s, lst2_0, lst2_s, ev_iconst, ev_lconst, ev_ldc, ev_null, ev_iload, ev_lload, ev_aload, ev_istore, ev_lstore, ev_astore, ev_iinc, ev_iadd, ev_isub, ev_imul, ev_iand, ev_ior, ev_ishl, ev_ishr, ev_idiv, ev_irem, ev_ineg, ev_ladd, ev_lsub, ev_lmul, ev_land, ev_lor, ev_ldiv, ev_lrem, ev_lshl, ev_i2l, ev_l2i, ev_i2b, ev_i2s, ev_lcmp, ev_dupI, ev_dupR, ev_dup2, ev_popI, ev_popR, ev_alen, ev_xlen, ev_xald, ev_iald, ev_lald, ev_bald, ev_zald, ev_aald, ev_iast, ev_last, ev_bast, ev_zast, ev_aast, ev_gfI, ev_gfL, ev_gfR, ev_pfI, ev_pfZ, ev_pfL, ev_pfR, ev_new, ev_newa, ev_newq, ev_copy, ev_slen, ev_schr, ev_obj, ev_mmin, ev_mabs, ev_mmax, ev_goto, ev_jsr, ev_icmp_eq, ev_if_eq, ev_icmp_ne, ev_if_ne, ev_icmp_lt, ev_if_lt, ev_icmp_ge, ev_if_ge, ev_icmp_gt, ev_if_gt, ev_icmp_le, ev_if_le, ev_ifnull0, ev_ifnull1, ev_ifnn0, ev_ifnn1, ev_tsw, ev_lsw, ev_iret, ev_zret, ev_lret, ev_aret, ev_ret, ev_call0, ev_call1, ev_call2, ev_call3, ev_call4, ev_call5, ev_call6, Option.toList_some, Option.toList_none, List.cons_append, List.nil_append, List.length_cons, List.length_nil, Nat.reduceMod, Nat.reduceDiv, Nat.reduceLeDiff, nc, ↓reduceIte, Nat.zero_le, reduceCtorEq, w32_id, Int.reduceEq, Int.reduceNe, Int.reduceLT, Int.reduceLE, Int.reduceGT, Int.reduceGE, Int.reduceAdd, Int.reduceSub, Int.reduceMul, Int.reduceNeg, ne_eq, not_true_eq_false, not_false_eq_true, eq_self, ↓if_pos, ↓if_neg, w0_r0_3, w0_r0_4, w0_r0_5, w0_r0_6, w0_r0_7, w0_r0_8, w0_r0_10, w0_r0_11, w0_r0_12, w0_r0_13, w0_r0_14, w0_r0_15, w0_r0_16, w0_r0_17, w0_r0_18, J_191_0, k_191_0, ea, em, ed', s_answer, hM1]
  · rw [E_346 mk0]
    simp (disch := first | assumption | decide | omega | (simp only [List.length_cons, List.length_nil] <;> omega)) only [lgt_0, lgt_s, lset_0, lset_s, lst1_0, lst1_s, lst2_0, lst2_s, ev_iconst, ev_lconst, ev_ldc, ev_null, ev_iload, ev_lload, ev_aload, ev_istore, ev_lstore, ev_astore, ev_iinc, ev_iadd, ev_isub, ev_imul, ev_iand, ev_ior, ev_ishl, ev_ishr, ev_idiv, ev_irem, ev_ineg, ev_ladd, ev_lsub, ev_lmul, ev_land, ev_lor, ev_ldiv, ev_lrem, ev_lshl, ev_i2l, ev_l2i, ev_i2b, ev_i2s, ev_lcmp, ev_dupI, ev_dupR, ev_dup2, ev_popI, ev_popR, ev_alen, ev_xlen, ev_xald, ev_iald, ev_lald, ev_bald, ev_zald, ev_aald, ev_iast, ev_last, ev_bast, ev_zast, ev_aast, ev_gfI, ev_gfL, ev_gfR, ev_pfI, ev_pfZ, ev_pfL, ev_pfR, ev_new, ev_newa, ev_newq, ev_copy, ev_slen, ev_schr, ev_obj, ev_mmin, ev_mabs, ev_mmax, ev_goto, ev_jsr, ev_icmp_eq, ev_if_eq, ev_icmp_ne, ev_if_ne, ev_icmp_lt, ev_if_lt, ev_icmp_ge, ev_if_ge, ev_icmp_gt, ev_if_gt, ev_icmp_le, ev_if_le, ev_ifnull0, ev_ifnull1, ev_ifnn0, ev_ifnn1, ev_tsw, ev_lsw, ev_iret, ev_zret, ev_lret, ev_aret, ev_ret, ev_call0, ev_call1, ev_call2, ev_call3, ev_call4, ev_call5, ev_call6, Option.toList_some, Option.toList_none, List.cons_append, List.nil_append, List.length_cons, List.length_nil, Nat.reduceMod, Nat.reduceDiv, Nat.reduceLeDiff, nc, ↓reduceIte, Nat.zero_le, reduceCtorEq, w32_id, Int.reduceEq, Int.reduceNe, Int.reduceLT, Int.reduceLE, Int.reduceGT, Int.reduceGE, Int.reduceAdd, Int.reduceSub, Int.reduceMul, Int.reduceNeg, ne_eq, not_true_eq_false, not_false_eq_true, eq_self, ↓if_pos, ↓if_neg, J_346_0, k_346_0, e0, e1, e224, e309, e6, m_gives hmd]
  · by_cases z1 : b = 140 + 1
    · rw [z1, f5 _ (by omega) (by omega), n4, hm _ (by omega)]
    · by_cases z9 : b = 140 + 9
      · rw [z9, c9, hm _ (by omega)]
      · by_cases z10 : b = 140 + 10
        · rw [z10, c10, hm _ (by omega)]
        · rw [f5 b z9 z10, f4 b z1, f3 b b1 z9 z10 (by omega), f1 b z1, f0 b (by omega)]
  · rw [f5 140 (by omega) (by omega), f4 140 (by omega), f3' i (by omega), f1 140 (by omega), f0 140 (by omega)]
end MIR6
