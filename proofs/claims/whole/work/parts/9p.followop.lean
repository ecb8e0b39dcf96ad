/-! OPERATIONS: follow. -/
theorem dA_0 {a : Int → Int} {k : Int} (h : k = 15 ∨ (130 ≤ k ∧ k < 480)) : dA a 0 k = a k := by
  unfold dA
  rw [if_pos h, Int.zero_add]
section FOP
variable {X : Int → Int} {M : Mem}
theorem RR_fo {M M' : Mem} (h0 : ∀ i, i ≠ 0 → M' 0 i = M 0 i) (h1 : ∀ b, 0 < b → (b < 60 ∨ 66 < b) → b ≠ 140 → (b < 164 ∨ 167 < b) → M' b = M b) (h2 : ∀ i, i ≠ 2 → i ≠ 21 → i ≠ 51 → i ≠ 52 → i ≠ 53 → i ≠ 54 → M' 140 i = M 140 i) (hf : RF M') (hs : M' 0 0 = M' 140 2) (r : RR' M) : RR M' := by
  obtain ⟨r1, r2, r3, r4, r5, r6, r7, r8, r9, r10⟩ := r
  have ha : M' (140 + 1) = M (140 + 1) := h1 _ (by omega) (by omega) (by omega) (by omega)
  have hn : M' (140 + 2) = M (140 + 2) := h1 _ (by omega) (by omega) (by omega) (by omega)
  have hh : ∀ i, i = 3 ∨ i = 4 ∨ i = 10 ∨ i = 16 ∨ i = 17 ∨ i = 55 ∨ i = 41 → M' 140 i = M 140 i := fun i hi => h2 i (by omega) (by omega) (by omega) (by omega) (by omega) (by omega)
  exact ⟨⟨RTb_c (h0 1 (by omega)) (h0 2 (by omega)) (hh 3 (by omega)) (hh 4 (by omega)) r1, RTr_c (fun c hc => h1 c (by omega) (by omega) (by omega) (by omega)) r2, RTp_c (fun c hc => h1 c (by omega) (by omega) (by omega) (by omega)) (fun i hi => hh i (by omega)) r3, RC_c (fun c hc => h1 c (by omega) (by omega) (by omega) (by omega)) (fun k _ _ => by rw [ha]) (fun k _ _ => by rw [hn]) r4, RN_c (fun c hc => h1 c (by omega) (by omega) (by omega) (by omega)) (fun k _ _ => by rw [ha]) r5, RP_c (fun c hc => h1 c (by omega) (by omega) (by omega) (by omega)) (fun k _ _ => by rw [ha]) r6, RD_c (fun c hc => h1 c (by omega) (by omega) (by omega) (by omega)) (fun k _ _ _ => by rw [ha]) r7, RM_c (h0 9 (by omega)) (hh 55 (by omega)) (fun c hc => h1 c (by omega) (by omega) (by omega) (by omega)) (fun k _ _ => by rw [ha]) (fun k _ _ => by rw [hn]) r8, hf, RA_c (fun c hc => h1 c (by omega) (by omega) (by omega) (by omega)) (hh 41 (by omega)) (fun k _ _ => by rw [ha]) r10⟩, hs⟩
theorem c_begin : ∃ M', (∀ b, b < 60 ∨ 66 < b → M' b = M b) ∧ (M' 60 1 = 0 ∧ M' 60 2 = 0 ∧ M' 60 3 = 0 ∧ M' 60 4 = 0 ∧ M' 60 10 = 0 ∧ M' 60 5 = 1 ∧ M' 60 6 = 1) ∧ (∀ c, 0 ≤ c → c < 5 → M' 64 c = -1) ∧ (∀ i, 0 ≤ i → i < 48 → M' 62 i = -1 ∧ M' 63 i = -1) ∧ evc X 211 [vR (some 60)] SH0 M = some (none, SH0, M') := by
  have k60 := w0_k60
  have ep := s_pempty (X := X) (M := M) w0_pl61
  generalize hMx : mfill (mfill M (61 + 1) 48 (-1)) (61 + 2) 48 (-1) = Mx at ep
  generalize hMy : up (up (up (up (up (up (up Mx 60 1 0) 60 2 0) 60 3 0) 60 4 0) 60 10 0) 60 5 1) 60 6 1 = My
  have ef := s_fill (X := X) (M := My) (a := 64) (n := 5) (v := -1) w0_k64 w0_l64 (by omega)
  have ef' : evc X 5 [vR (some 64), vI (-1)] SH0 My = some (none, SH0, mfill My 64 5 (-1)) := ef
  have y60 : ∀ b, b ≠ 60 → My b = Mx b := fun b hb => by rw [← hMy, up_ne hb, up_ne hb, up_ne hb, up_ne hb, up_ne hb, up_ne hb, up_ne hb]
  refine ⟨mfill My 64 5 (-1), fun b hb => ?_, ?_, fun c c0 c1 => mfill_in ⟨c0, c1⟩, fun i i0 i1 => ⟨?_, ?_⟩, ?_⟩
  · rw [mfill_ne (by omega), y60 b (by omega), ← hMx, mfill_ne (by omega), mfill_ne (by omega)]
  · rw [mfill_ne (by omega), ← hMy]
    refine ⟨?_, ?_, ?_, ?_, ?_, ?_, ?_⟩ <;> simp (disch := omega) only [up_ne, up_eq, up_ne2]
  · rw [mfill_ne (by omega), y60 62 (by omega), ← hMx, mfill_ne (by omega)]
    exact mfill_in ⟨i0, i1⟩
  · rw [mfill_ne (by omega), y60 63 (by omega), ← hMx]
    exact mfill_in ⟨i0, i1⟩
  · rw [E_211 k60]
    simp (disch := first | assumption | decide | omega | (simp only [List.length_cons, List.length_nil] <;> omega)) only [lgt_0, lgt_s, lset_0, lset_s, lst1_0, lst1_s, lst2_0, lst2_s, ev_iconst, ev_lconst, ev_ldc, ev_null, ev_iload, ev_lload, ev_aload, ev_istore, ev_lstore, ev_astore, ev_iinc, ev_iadd, ev_isub, ev_imul, ev_iand, ev_ior, ev_ishl, ev_ishr, ev_idiv, ev_irem, ev_ineg, ev_ladd, ev_lsub, ev_lmul, ev_land, ev_lor, ev_ldiv, ev_lrem, ev_lshl, ev_i2l, ev_l2i, ev_i2b, ev_i2s, ev_lcmp, ev_dupI, ev_dupR, ev_dup2, ev_popI, ev_popR, ev_alen, ev_xlen, ev_xald, ev_iald, ev_lald, ev_bald, ev_zald, ev_aald, ev_iast, ev_last, ev_bast, ev_zast, ev_aast, ev_gfI, ev_gfL, ev_gfR, ev_pfI, ev_pfZ, ev_pfL, ev_pfR, ev_new, ev_newa, ev_newq, ev_copy, ev_slen, ev_schr, ev_obj, ev_mmin, ev_mabs, ev_mmax, ev_goto, ev_jsr, ev_icmp_eq, ev_if_eq, ev_icmp_ne, ev_if_ne, ev_icmp_lt, ev_if_lt, ev_icmp_ge, ev_if_ge, ev_icmp_gt, ev_if_gt, ev_icmp_le, ev_if_le, ev_ifnull0, ev_ifnull1, ev_ifnn0, ev_ifnn1, ev_tsw, ev_lsw, ev_iret, ev_zret, ev_lret, ev_aret, ev_ret, ev_call0, ev_call1, ev_call2, ev_call3, ev_call4, ev_call5, ev_call6, Option.toList_some, Option.toList_none, List.cons_append, List.nil_append, List.length_cons, List.length_nil, Nat.reduceMod, Nat.reduceDiv, Nat.reduceLeDiff, nc, ↓reduceIte, Nat.zero_le, reduceCtorEq, w32_id, Int.reduceEq, Int.reduceNe, Int.reduceLT, Int.reduceLE, Int.reduceGT, Int.reduceGE, Int.reduceAdd, Int.reduceSub, Int.reduceMul, Int.reduceNeg, ne_eq, not_true_eq_false, not_false_eq_true, eq_self, ↓if_pos, ↓if_neg, J_211_0, k_211_0, w0_r60_0, w0_r60_7, ep, hMy, ef']
theorem op_follow (h : RR' M) : OP X 209 [] 357 [] M := by
  have k0 := w0_k0; have hc4 := w0_ch4; have hmd := w0_md140; have mk0 := hmd.1; have hc4' := w0_ch4; obtain ⟨ck0, cr0, cr1, cr2, cr3, cr4, cr5, cr6, cr7, ck1, ck2, ck3, ck4, ck5, ck6, ck7, ck8, cl1, cl2, cl3, cl4, cl5, cl6, cl7, cl8⟩ := hc4'
  have k16 := w0_k16
  have k60 := w0_k60
  have k7 : rfs SH0 0 7 = some 16 := w0_r0_7
  obtain ⟨r_at, k_at, l_at⟩ := md_at w0_md140; obtain ⟨r_ballAt, k_ballAt, l_ballAt⟩ := md_ballAt w0_md140; obtain ⟨r_laidGoes, k_laidGoes, l_laidGoes⟩ := md_laidGoes w0_md140; obtain ⟨r_told, k_told, l_told⟩ := md_told w0_md140
  have rd := h.2.2.2.2.2.2.1
  rcases rd with ⟨d15, th⟩ | ⟨th, d15, li0, li80, dl, d3, ds, dn⟩
  · rw [dA_0 (by omega)] at d15
    refine op_ro3 (v := vI (-1)) (st := 6) h ?_ ?_
    · rw [E_209 k0]
      simp (disch := first | assumption | decide | omega | (simp only [List.length_cons, List.length_nil] <;> omega)) only [lgt_0, lgt_s, lset_0, lset_s, lst1_0, lst1_s, lst2_0, lst2_s, ev_iconst, ev_lconst, ev_ldc, ev_null, ev_iload, ev_lload, ev_aload, ev_istore, ev_lstore, ev_astore, ev_iinc, ev_iadd, ev_isub, ev_imul, ev_iand, ev_ior, ev_ishl, ev_ishr, ev_idiv, ev_irem, ev_ineg, ev_ladd, ev_lsub, ev_lmul, ev_land, ev_lor, ev_ldiv, ev_lrem, ev_lshl, ev_i2l, ev_l2i, ev_i2b, ev_i2s, ev_lcmp, ev_dupI, ev_dupR, ev_dup2, ev_popI, ev_popR, ev_alen, ev_xlen, ev_xald, ev_iald, ev_lald, ev_bald, ev_zald, ev_aald, ev_iast, ev_last, ev_bast, ev_zast, ev_aast, ev_gfI, ev_gfL, ev_gfR, ev_pfI, ev_pfZ, ev_pfL, ev_pfR, ev_new, ev_newa, ev_newq, ev_copy, ev_slen, ev_schr, ev_obj, ev_mmin, ev_mabs, ev_mmax, ev_goto, ev_jsr, ev_icmp_eq, ev_if_eq, ev_icmp_ne, ev_if_ne, ev_icmp_lt, ev_if_lt, ev_icmp_ge, ev_if_ge, ev_icmp_gt, ev_if_gt, ev_icmp_le, ev_if_le, ev_ifnull0, ev_ifnull1, ev_ifnn0, ev_ifnn1, ev_tsw, ev_lsw, ev_iret, ev_zret, ev_lret, ev_aret, ev_ret, ev_call0, ev_call1, ev_call2, ev_call3, ev_call4, ev_call5, ev_call6, Option.toList_some, Option.toList_none, List.cons_append, List.nil_append, List.length_cons, List.length_nil, Nat.reduceMod, Nat.reduceDiv, Nat.reduceLeDiff, nc, ↓reduceIte, Nat.zero_le, reduceCtorEq, w32_id, Int.reduceEq, Int.reduceNe, Int.reduceLT, Int.reduceLE, Int.reduceGT, Int.reduceGE, Int.reduceAdd, Int.reduceSub, Int.reduceMul, Int.reduceNeg, ne_eq, not_true_eq_false, not_false_eq_true, eq_self, ↓if_pos, ↓if_neg, w0_r0_3, w0_r0_4, w0_r0_5, w0_r0_6, w0_r0_7, w0_r0_8, w0_r0_10, w0_r0_11, w0_r0_12, w0_r0_13, w0_r0_14, w0_r0_15, w0_r0_16, w0_r0_17, w0_r0_18, J_209_0, k_209_0, J_209_17, k_209_17, th, s_none]
    · intro M1 h1 hm
      have e15 := congrFun (hm (140 + 1) (by omega)) 15
      rw [d15] at e15
      rw [E_357 mk0]
      simp (disch := first | assumption | decide | omega | (simp only [List.length_cons, List.length_nil] <;> omega)) only [lgt_0, lgt_s, lset_0, lset_s, lst1_0, lst1_s, lst2_0, lst2_s, ev_iconst, ev_lconst, ev_ldc, ev_null, ev_iload, ev_lload, ev_aload, ev_istore, ev_lstore, ev_astore, ev_iinc, ev_iadd, ev_isub, ev_imul, ev_iand, ev_ior, ev_ishl, ev_ishr, ev_idiv, ev_irem, ev_ineg, ev_ladd, ev_lsub, ev_lmul, ev_land, ev_lor, ev_ldiv, ev_lrem, ev_lshl, ev_i2l, ev_l2i, ev_i2b, ev_i2s, ev_lcmp, ev_dupI, ev_dupR, ev_dup2, ev_popI, ev_popR, ev_alen, ev_xlen, ev_xald, ev_iald, ev_lald, ev_bald, ev_zald, ev_aald, ev_iast, ev_last, ev_bast, ev_zast, ev_aast, ev_gfI, ev_gfL, ev_gfR, ev_pfI, ev_pfZ, ev_pfL, ev_pfR, ev_new, ev_newa, ev_newq, ev_copy, ev_slen, ev_schr, ev_obj, ev_mmin, ev_mabs, ev_mmax, ev_goto, ev_jsr, ev_icmp_eq, ev_if_eq, ev_icmp_ne, ev_if_ne, ev_icmp_lt, ev_if_lt, ev_icmp_ge, ev_if_ge, ev_icmp_gt, ev_if_gt, ev_icmp_le, ev_if_le, ev_ifnull0, ev_ifnull1, ev_ifnn0, ev_ifnn1, ev_tsw, ev_lsw, ev_iret, ev_zret, ev_lret, ev_aret, ev_ret, ev_call0, ev_call1, ev_call2, ev_call3, ev_call4, ev_call5, ev_call6, Option.toList_some, Option.toList_none, List.cons_append, List.nil_append, List.length_cons, List.length_nil, Nat.reduceMod, Nat.reduceDiv, Nat.reduceLeDiff, nc, ↓reduceIte, Nat.zero_le, reduceCtorEq, w32_id, Int.reduceEq, Int.reduceNe, Int.reduceLT, Int.reduceLE, Int.reduceGT, Int.reduceGE, Int.reduceAdd, Int.reduceSub, Int.reduceMul, Int.reduceNeg, ne_eq, not_true_eq_false, not_false_eq_true, eq_self, ↓if_pos, ↓if_neg, J_357_0, k_357_0, J_357_18, k_357_18, J_357_39, k_357_39, J_357_59, k_357_59, J_357_164, k_357_164, J_357_190, k_357_190, J_357_218, k_357_218, J_357_232, k_357_232, J_357_252, k_357_252, J_357_267, k_357_267, J_357_268, k_357_268, J_357_269, k_357_269, r_at, e15, m_refuse hmd]
  · have kv := rr_kv h
    have g := k_gWY kv
    have lno : lnO (M 17) (M 18) (M 19) (M 16 3) (AA M 2) := ⟨fun l l0 l1 => by
      have e := dl l l0 l1
      exact ⟨e.2.1, fun z => (e.2.2.1 z).2, fun z => (e.2.2.2 z).2⟩, fun l l1 l3 => by
      obtain ⟨o, r, e, _⟩ := d3 l l1 l3
      exact ⟨o, r, e⟩⟩
    have lnm : lnM (M (140 + 1)) (M 17) (M 18) (M 19) (M 16 3) := ⟨by rw [← d15, dA_0 (by omega)], fun l l0 l1 => by
      have e := dl l l0 l1
      refine ⟨by rw [e.1, dA_0 (by omega)], fun z => ?_, fun z => ?_⟩
      · rw [(e.2.2.1 z).1, dA_0 (by omega), show 131 + 4 * l = 130 + 4 * l + 1 by omega]
      · rw [(e.2.2.2 z).1, dA_0 (by omega), show 132 + 4 * l = 130 + 4 * l + 2 by omega], fun l l1 l3 o r e => by
      obtain ⟨o', r', e', e2⟩ := d3 l l1 l3
      rw [e] at e'
      injection e' with e3 e4
      rw [dA_0 (by omega), show 133 + 4 * (l : Int) = 130 + 4 * (l : Int) + 3 by omega] at e2
      rw [e2, e3]⟩
    -- the class
    obtain ⟨Ma, fa, ⟨a1, a2, a3, a4, a10, a5, a6⟩, ah, ap, ea⟩ := c_begin (X := X) (M := M)
    have kva : KV Ma (AA M) := kv_f kv fun b b0 b1 => fa b (by omega)
    have hs0 : ksI (AA M) ((0, 0, 0, Ma 64, (Ma 62, Ma 63)) : KS) := ⟨⟨Int.le_refl _, g.1.2.1.1⟩, ⟨Int.le_refl _, Int.le_refl _⟩, ⟨Int.le_refl _, by show (0 : Int) ≤ 1000 * 0; omega⟩, fun c c0 c1 => Or.inl (ah c c0 c1), fun j j0 j1 => ap j j0 j1, pl_empty (fun k k0 k1 => (ap k k0 k1).1) (fun k k0 k1 => (ap k k0 k1).2)⟩
    have hk0 : KSc Ma ((0, 0, 0, Ma 64, (Ma 62, Ma 63)) : KS) := ⟨a1, a2, a3, fun _ _ _ => rfl, rfl, rfl⟩
    have fi0 : fI (M 17) (M 16 3) 0 [] 0 := ⟨rfl, fun t ht => absurd ht (by simp), li0, Int.le_refl _, by omega⟩
    obtain ⟨r, hr⟩ := folF_ex (A := AA M) lno 14701 0 [] 0 ((0, 0, 0, Ma 64, (Ma 62, Ma 63)) : KS) fi0 (by
      have s0 : sL [] = 0 := rfl
      omega)
    have e17 : Ma 17 = M 17 := fa 17 (by omega)
    have e18 : Ma 18 = M 18 := fa 18 (by omega)
    have e19 : Ma 19 = M 19 := fa 19 (by omega)
    have e16 : Ma 16 = M 16 := fa 16 (by omega)
    obtain ⟨Mb, fb, gb, kb, ib, b4, eb⟩ := c_runF (X := X) (M := Ma) kva (by rw [e17, e18, e19, e16]; exact lno) (by rw [e16]; exact li80) (fun l hl => by rw [e17]; rw [e16] at hl; exact ds l hl) 14701 0 [] 0 _ 0 none none Ma r (fun _ _ => rfl) hk0 hs0 (by rw [e17, e16]; exact fi0) a4 (by rw [a10]; rfl) trivial (by rw [e17, e18, e19, e16]; exact hr) (by omega) (by omega)
    have eb' : ev X 210 (jmp 210 9) [some (vR (some 60)), some (vR (some 4)), some (vR (some 16)), some (vI 0), some (vI 0), none, none] [] SH0 Ma = some (some (vI r.1), SH0, Mb) := eb
    have e210 : evc X 210 [vR (some 60), vR (some 4), vR (some 16)] SH0 M = some (some (vI r.1), SH0, Mb) := by
      rw [E_210 k60]
      simp (disch := first | assumption | decide | omega | (simp only [List.length_cons, List.length_nil] <;> omega)) only [lgt_0, lgt_s, lset_0, lset_s, lst1_0, lst1_s, lst2_0, lst2_s, ev_iconst, ev_lconst, ev_ldc, ev_null, ev_iload, ev_lload, ev_aload, ev_istore, ev_lstore, ev_astore, ev_iinc, ev_iadd, ev_isub, ev_imul, ev_iand, ev_ior, ev_ishl, ev_ishr, ev_idiv, ev_irem, ev_ineg, ev_ladd, ev_lsub, ev_lmul, ev_land, ev_lor, ev_ldiv, ev_lrem, ev_lshl, ev_i2l, ev_l2i, ev_i2b, ev_i2s, ev_lcmp, ev_dupI, ev_dupR, ev_dup2, ev_popI, ev_popR, ev_alen, ev_xlen, ev_xald, ev_iald, ev_lald, ev_bald, ev_zald, ev_aald, ev_iast, ev_last, ev_bast, ev_zast, ev_aast, ev_gfI, ev_gfL, ev_gfR, ev_pfI, ev_pfZ, ev_pfL, ev_pfR, ev_new, ev_newa, ev_newq, ev_copy, ev_slen, ev_schr, ev_obj, ev_mmin, ev_mabs, ev_mmax, ev_goto, ev_jsr, ev_icmp_eq, ev_if_eq, ev_icmp_ne, ev_if_ne, ev_icmp_lt, ev_if_lt, ev_icmp_ge, ev_if_ge, ev_icmp_gt, ev_if_gt, ev_icmp_le, ev_if_le, ev_ifnull0, ev_ifnull1, ev_ifnn0, ev_ifnn1, ev_tsw, ev_lsw, ev_iret, ev_zret, ev_lret, ev_aret, ev_ret, ev_call0, ev_call1, ev_call2, ev_call3, ev_call4, ev_call5, ev_call6, Option.toList_some, Option.toList_none, List.cons_append, List.nil_append, List.length_cons, List.length_nil, Nat.reduceMod, Nat.reduceDiv, Nat.reduceLeDiff, nc, ↓reduceIte, Nat.zero_le, reduceCtorEq, w32_id, Int.reduceEq, Int.reduceNe, Int.reduceLT, Int.reduceLE, Int.reduceGT, Int.reduceGE, Int.reduceAdd, Int.reduceSub, Int.reduceMul, Int.reduceNeg, ne_eq, not_true_eq_false, not_false_eq_true, eq_self, ↓if_pos, ↓if_neg, J_210_0, k_210_0, J_210_40, k_210_40, J_210_41, k_210_41, J_210_42, k_210_42, J_210_65, k_210_65, J_210_77, k_210_77, J_210_105, k_210_105, J_210_108, k_210_108, J_210_114, k_210_114, ea, eb']
    generalize hM1 : up Mb 0 0 0 = M1
    have f1 : ∀ b, b ≠ 0 → (b < 60 ∨ 66 < b) → M1 b = M b := fun b b0 b1 => by rw [← hM1, up_ne b0, fb b b1, fa b b1]
    have hm : mds M M1 := fun b hb => f1 b (by omega) (by omega)
    have qv := rr_qv h hm
    -- the model begins
    have m15 : M1 (140 + 1) 15 = M 16 3 := by rw [f1 (140 + 1) (by omega) (by omega)]; exact lnm.1
    have m15n : ¬ M 16 3 = -1 := by omega
    obtain ⟨ls1, N1, ⟨hls1, g1, p1⟩, he1⟩ := ev_for (X := X) (y := 357) (Sh := SH0) (fun i ls M' => ls = [some (vR (some 140)), some (vI (i : Int)), none, none, none, none] ∧ (∀ b, b ≠ 166 → M' b = M1 b) ∧ (∀ j : Int, 0 ≤ j → j < i → M' 166 j = -1)) J_357_20 48 (fun i hi ls M' hI => by
      obtain ⟨hls, fr, i2⟩ := hI
      subst hls
      refine ⟨_, up M' 166 (i : Int) (-1), ⟨rfl, fun b hb => by rw [up_ne hb]; exact fr b hb, fun j j0 j1 => ?_⟩, ?_⟩
      · by_cases z : j = i
        · subst z; simp (disch := omega) only [up_ne, up_eq, up_ne2]
        · simp (disch := omega) only [up_ne, up_eq, up_ne2]; exact i2 j j0 (by omega)
      · simp (disch := first | assumption | decide | omega | (simp only [List.length_cons, List.length_nil] <;> omega)) only [lgt_0, lgt_s, lset_0, lset_s, lst1_0, lst1_s, lst2_0, lst2_s, ev_iconst, ev_lconst, ev_ldc, ev_null, ev_iload, ev_lload, ev_aload, ev_istore, ev_lstore, ev_astore, ev_iinc, ev_iadd, ev_isub, ev_imul, ev_iand, ev_ior, ev_ishl, ev_ishr, ev_idiv, ev_irem, ev_ineg, ev_ladd, ev_lsub, ev_lmul, ev_land, ev_lor, ev_ldiv, ev_lrem, ev_lshl, ev_i2l, ev_l2i, ev_i2b, ev_i2s, ev_lcmp, ev_dupI, ev_dupR, ev_dup2, ev_popI, ev_popR, ev_alen, ev_xlen, ev_xald, ev_iald, ev_lald, ev_bald, ev_zald, ev_aald, ev_iast, ev_last, ev_bast, ev_zast, ev_aast, ev_gfI, ev_gfL, ev_gfR, ev_pfI, ev_pfZ, ev_pfL, ev_pfR, ev_new, ev_newa, ev_newq, ev_copy, ev_slen, ev_schr, ev_obj, ev_mmin, ev_mabs, ev_mmax, ev_goto, ev_jsr, ev_icmp_eq, ev_if_eq, ev_icmp_ne, ev_if_ne, ev_icmp_lt, ev_if_lt, ev_icmp_ge, ev_if_ge, ev_icmp_gt, ev_if_gt, ev_icmp_le, ev_if_le, ev_ifnull0, ev_ifnull1, ev_ifnn0, ev_ifnn1, ev_tsw, ev_lsw, ev_iret, ev_zret, ev_lret, ev_aret, ev_ret, ev_call0, ev_call1, ev_call2, ev_call3, ev_call4, ev_call5, ev_call6, Option.toList_some, Option.toList_none, List.cons_append, List.nil_append, List.length_cons, List.length_nil, Nat.reduceMod, Nat.reduceDiv, Nat.reduceLeDiff, nc, ↓reduceIte, Nat.zero_le, reduceCtorEq, w32_id, Int.reduceEq, Int.reduceNe, Int.reduceLT, Int.reduceLE, Int.reduceGT, Int.reduceGE, Int.reduceAdd, Int.reduceSub, Int.reduceMul, Int.reduceNeg, ne_eq, not_true_eq_false, not_false_eq_true, eq_self, ↓if_pos, ↓if_neg, J_357_0, k_357_0, J_357_18, k_357_18, J_357_39, k_357_39, J_357_59, k_357_59, J_357_164, k_357_164, J_357_190, k_357_190, J_357_218, k_357_218, J_357_232, k_357_232, J_357_252, k_357_252, J_357_267, k_357_267, J_357_268, k_357_268, J_357_269, k_357_269, k_357_20, r_laidGoes, nc_s]) [some (vR (some 140)), some (vI 0), none, none, none, none] M1 ⟨rfl, fun _ _ => rfl, fun j a b => by omega⟩
    subst hls1
    obtain ⟨ls2, N2, ⟨hls2, g2, p2⟩, he2⟩ := ev_for (X := X) (y := 357) (Sh := SH0) (fun i ls M' => ls = [some (vR (some 140)), some (vI (i : Int)), none, none, none, none] ∧ (∀ b, b ≠ 165 → M' b = N1 b) ∧ (∀ j : Int, 0 ≤ j → j < i → M' 165 j = -1)) J_357_41 5 (fun i hi ls M' hI => by
      obtain ⟨hls, fr, i2⟩ := hI
      subst hls
      refine ⟨_, up M' 165 (i : Int) (-1), ⟨rfl, fun b hb => by rw [up_ne hb]; exact fr b hb, fun j j0 j1 => ?_⟩, ?_⟩
      · by_cases z : j = i
        · subst z; simp (disch := omega) only [up_ne, up_eq, up_ne2]
        · simp (disch := omega) only [up_ne, up_eq, up_ne2]; exact i2 j j0 (by omega)
      · simp (disch := first | assumption | decide | omega | (simp only [List.length_cons, List.length_nil] <;> omega)) only [lgt_0, lgt_s, lset_0, lset_s, lst1_0, lst1_s, lst2_0, lst2_s, ev_iconst, ev_lconst, ev_ldc, ev_null, ev_iload, ev_lload, ev_aload, ev_istore, ev_lstore, ev_astore, ev_iinc, ev_iadd, ev_isub, ev_imul, ev_iand, ev_ior, ev_ishl, ev_ishr, ev_idiv, ev_irem, ev_ineg, ev_ladd, ev_lsub, ev_lmul, ev_land, ev_lor, ev_ldiv, ev_lrem, ev_lshl, ev_i2l, ev_l2i, ev_i2b, ev_i2s, ev_lcmp, ev_dupI, ev_dupR, ev_dup2, ev_popI, ev_popR, ev_alen, ev_xlen, ev_xald, ev_iald, ev_lald, ev_bald, ev_zald, ev_aald, ev_iast, ev_last, ev_bast, ev_zast, ev_aast, ev_gfI, ev_gfL, ev_gfR, ev_pfI, ev_pfZ, ev_pfL, ev_pfR, ev_new, ev_newa, ev_newq, ev_copy, ev_slen, ev_schr, ev_obj, ev_mmin, ev_mabs, ev_mmax, ev_goto, ev_jsr, ev_icmp_eq, ev_if_eq, ev_icmp_ne, ev_if_ne, ev_icmp_lt, ev_if_lt, ev_icmp_ge, ev_if_ge, ev_icmp_gt, ev_if_gt, ev_icmp_le, ev_if_le, ev_ifnull0, ev_ifnull1, ev_ifnn0, ev_ifnn1, ev_tsw, ev_lsw, ev_iret, ev_zret, ev_lret, ev_aret, ev_ret, ev_call0, ev_call1, ev_call2, ev_call3, ev_call4, ev_call5, ev_call6, Option.toList_some, Option.toList_none, List.cons_append, List.nil_append, List.length_cons, List.length_nil, Nat.reduceMod, Nat.reduceDiv, Nat.reduceLeDiff, nc, ↓reduceIte, Nat.zero_le, reduceCtorEq, w32_id, Int.reduceEq, Int.reduceNe, Int.reduceLT, Int.reduceLE, Int.reduceGT, Int.reduceGE, Int.reduceAdd, Int.reduceSub, Int.reduceMul, Int.reduceNeg, ne_eq, not_true_eq_false, not_false_eq_true, eq_self, ↓if_pos, ↓if_neg, J_357_0, k_357_0, J_357_18, k_357_18, J_357_39, k_357_39, J_357_59, k_357_59, J_357_164, k_357_164, J_357_190, k_357_190, J_357_218, k_357_218, J_357_232, k_357_232, J_357_252, k_357_252, J_357_267, k_357_267, J_357_268, k_357_268, J_357_269, k_357_269, k_357_41, r_ballAt, nc_s]) [some (vR (some 140)), some (vI 0), none, none, none, none] N1 ⟨rfl, fun _ _ => rfl, fun j a b => by omega⟩
    subst hls2
    generalize hN3 : up (up (up N2 140 51 0) 140 52 0) 140 53 0 = N3
    have g3 : ∀ b, b ≠ 140 → b ≠ 165 → b ≠ 166 → N3 b = M1 b := fun b b0 b1 b2 => by rw [← hN3, up_ne b0, up_ne b0, up_ne b0, g2 b b1, g1 b b2]
    have n51 : N3 140 51 = 0 ∧ N3 140 52 = 0 ∧ N3 140 53 = 0 := by
      rw [← hN3]
      refine ⟨?_, ?_, ?_⟩ <;> simp (disch := omega) only [up_ne, up_eq, up_ne2]
    have g140 : ∀ i, i ≠ 51 → i ≠ 52 → i ≠ 53 → N3 140 i = M 140 i := fun i i1 i2 i3 => by
      rw [← hN3, up_ne2 i3, up_ne2 i2, up_ne2 i1, g2 140 (by omega), g1 140 (by omega), f1 140 (by omega) (by omega)]
    have ms3 : mSt N3 ((0, 0, 0, Ma 64, (Ma 62, Ma 63)) : KS) := ⟨n51.1, n51.2.1, n51.2.2, fun c c0 c1 => by
      show N3 165 c = Ma 64 c
      rw [ah c c0 c1, ← hN3, up_ne (by omega), up_ne (by omega), up_ne (by omega)]
      exact p2 c c0 (by omega), fun i i0 i1 => by
      show N3 166 i = Ma 62 i
      rw [(ap i i0 i1).1, ← hN3, up_ne (by omega), up_ne (by omega), up_ne (by omega), g2 166 (by omega)]
      exact p1 i i0 (by omega)⟩
    have a3' : N3 (140 + 1) = M (140 + 1) := by rw [g3 _ (by omega) (by omega) (by omega), hm _ (by omega)]
    obtain ⟨N4, k4, w4, w5, c1, c2, c3, c4, c5⟩ := d_runF (X := X) (a := M (140 + 1)) lno li80 lnm 14701 14701 0 [] 0 _ none none N3 r (Nat.le_refl _) a3' (qv_c qv fun b hb => g3 b (by omega) (by omega) (by omega)) ms3 hs0 fi0 trivial (fun z z3 => by
      obtain ⟨o, r', e, _⟩ := d3 0 z z3
      have e' : ([] : List Nat) = o :: r' := e
      exact absurd e' (by simp)) hr
    have c5' : ev X 357 (jmp 357 80) [some (vR (some 140)), some (vI 0), some (vI (-1)), some (vI 0), none, none] [] SH0 N3 = ev X 357 (jmp 357 269) [some (vR (some 140)), some (vI r.2.1), some (vI r.1), k4, w4, w5] [] SH0 N4 := c5
    obtain ⟨t1, t2, t3, t4, t5⟩ := c1
    generalize hN5 : up (up (up (up (up (up N4 167 0 r.2.2.1) 167 1 r.2.2.2.1) 167 2 r.2.2.2.2.1) 167 3 r.2.1) 140 54 1) 140 21 1 = N5
    have g5 : ∀ b, b ≠ 140 → b ≠ 167 → N5 b = N4 b := fun b b0 b1 => by rw [← hN5, up_ne b0, up_ne b0, up_ne b1, up_ne b1, up_ne b1, up_ne b1]
    refine ⟨vI r.1, M1, up N5 140 2 0, ?_, ?_, ?_⟩
    · rw [E_209 k0]
      simp (disch := first | assumption | decide | omega | (simp only [List.length_cons, List.length_nil] <;> omega)) only [lgt_0, lgt_s, lset_0, lset_s, lst1_0, lst1_s, lst2_0, lst2_s, ev_iconst, ev_lconst, ev_ldc, ev_null, ev_iload, ev_lload, ev_aload, ev_istore, ev_lstore, ev_astore, ev_iinc, ev_iadd, ev_isub, ev_imul, ev_iand, ev_ior, ev_ishl, ev_ishr, ev_idiv, ev_irem, ev_ineg, ev_ladd, ev_lsub, ev_lmul, ev_land, ev_lor, ev_ldiv, ev_lrem, ev_lshl, ev_i2l, ev_l2i, ev_i2b, ev_i2s, ev_lcmp, ev_dupI, ev_dupR, ev_dup2, ev_popI, ev_popR, ev_alen, ev_xlen, ev_xald, ev_iald, ev_lald, ev_bald, ev_zald, ev_aald, ev_iast, ev_last, ev_bast, ev_zast, ev_aast, ev_gfI, ev_gfL, ev_gfR, ev_pfI, ev_pfZ, ev_pfL, ev_pfR, ev_new, ev_newa, ev_newq, ev_copy, ev_slen, ev_schr, ev_obj, ev_mmin, ev_mabs, ev_mmax, ev_goto, ev_jsr, ev_icmp_eq, ev_if_eq, ev_icmp_ne, ev_if_ne, ev_icmp_lt, ev_if_lt, ev_icmp_ge, ev_if_ge, ev_icmp_gt, ev_if_gt, ev_icmp_le, ev_if_le, ev_ifnull0, ev_ifnull1, ev_ifnn0, ev_ifnn1, ev_tsw, ev_lsw, ev_iret, ev_zret, ev_lret, ev_aret, ev_ret, ev_call0, ev_call1, ev_call2, ev_call3, ev_call4, ev_call5, ev_call6, Option.toList_some, Option.toList_none, List.cons_append, List.nil_append, List.length_cons, List.length_nil, Nat.reduceMod, Nat.reduceDiv, Nat.reduceLeDiff, nc, ↓reduceIte, Nat.zero_le, reduceCtorEq, w32_id, Int.reduceEq, Int.reduceNe, Int.reduceLT, Int.reduceLE, Int.reduceGT, Int.reduceGE, Int.reduceAdd, Int.reduceSub, Int.reduceMul, Int.reduceNeg, ne_eq, not_true_eq_false, not_false_eq_true, eq_self, ↓if_pos, ↓if_neg, w0_r0_3, w0_r0_4, w0_r0_5, w0_r0_6, w0_r0_7, w0_r0_8, w0_r0_10, w0_r0_11, w0_r0_12, w0_r0_13, w0_r0_14, w0_r0_15, w0_r0_16, w0_r0_17, w0_r0_18, J_209_0, k_209_0, J_209_17, k_209_17, th, k7, e210, s_answer, hM1]
    · rw [E_357 mk0]
      simp (disch := first | assumption | decide | omega | (simp only [List.length_cons, List.length_nil] <;> omega)) only [lgt_0, lgt_s, lset_0, lset_s, lst1_0, lst1_s, lst2_0, lst2_s, ev_iconst, ev_lconst, ev_ldc, ev_null, ev_iload, ev_lload, ev_aload, ev_istore, ev_lstore, ev_astore, ev_iinc, ev_iadd, ev_isub, ev_imul, ev_iand, ev_ior, ev_ishl, ev_ishr, ev_idiv, ev_irem, ev_ineg, ev_ladd, ev_lsub, ev_lmul, ev_land, ev_lor, ev_ldiv, ev_lrem, ev_lshl, ev_i2l, ev_l2i, ev_i2b, ev_i2s, ev_lcmp, ev_dupI, ev_dupR, ev_dup2, ev_popI, ev_popR, ev_alen, ev_xlen, ev_xald, ev_iald, ev_lald, ev_bald, ev_zald, ev_aald, ev_iast, ev_last, ev_bast, ev_zast, ev_aast, ev_gfI, ev_gfL, ev_gfR, ev_pfI, ev_pfZ, ev_pfL, ev_pfR, ev_new, ev_newa, ev_newq, ev_copy, ev_slen, ev_schr, ev_obj, ev_mmin, ev_mabs, ev_mmax, ev_goto, ev_jsr, ev_icmp_eq, ev_if_eq, ev_icmp_ne, ev_if_ne, ev_icmp_lt, ev_if_lt, ev_icmp_ge, ev_if_ge, ev_icmp_gt, ev_if_gt, ev_icmp_le, ev_if_le, ev_ifnull0, ev_ifnull1, ev_ifnn0, ev_ifnn1, ev_tsw, ev_lsw, ev_iret, ev_zret, ev_lret, ev_aret, ev_ret, ev_call0, ev_call1, ev_call2, ev_call3, ev_call4, ev_call5, ev_call6, Option.toList_some, Option.toList_none, List.cons_append, List.nil_append, List.length_cons, List.length_nil, Nat.reduceMod, Nat.reduceDiv, Nat.reduceLeDiff, nc, ↓reduceIte, Nat.zero_le, reduceCtorEq, w32_id, Int.reduceEq, Int.reduceNe, Int.reduceLT, Int.reduceLE, Int.reduceGT, Int.reduceGE, Int.reduceAdd, Int.reduceSub, Int.reduceMul, Int.reduceNeg, ne_eq, not_true_eq_false, not_false_eq_true, eq_self, ↓if_pos, ↓if_neg, J_357_0, k_357_0, J_357_18, k_357_18, J_357_39, k_357_39, J_357_59, k_357_59, J_357_164, k_357_164, J_357_190, k_357_190, J_357_218, k_357_218, J_357_232, k_357_232, J_357_252, k_357_252, J_357_267, k_357_267, J_357_268, k_357_268, J_357_269, k_357_269, r_at, m15, m15n]
      rw [he1]
      simp (disch := first | assumption | decide | omega | (simp only [List.length_cons, List.length_nil] <;> omega)) only [lgt_0, lgt_s, lset_0, lset_s, lst1_0, lst1_s, lst2_0, lst2_s, ev_iconst, ev_lconst, ev_ldc, ev_null, ev_iload, ev_lload, ev_aload, ev_istore, ev_lstore, ev_astore, ev_iinc, ev_iadd, ev_isub, ev_imul, ev_iand, ev_ior, ev_ishl, ev_ishr, ev_idiv, ev_irem, ev_ineg, ev_ladd, ev_lsub, ev_lmul, ev_land, ev_lor, ev_ldiv, ev_lrem, ev_lshl, ev_i2l, ev_l2i, ev_i2b, ev_i2s, ev_lcmp, ev_dupI, ev_dupR, ev_dup2, ev_popI, ev_popR, ev_alen, ev_xlen, ev_xald, ev_iald, ev_lald, ev_bald, ev_zald, ev_aald, ev_iast, ev_last, ev_bast, ev_zast, ev_aast, ev_gfI, ev_gfL, ev_gfR, ev_pfI, ev_pfZ, ev_pfL, ev_pfR, ev_new, ev_newa, ev_newq, ev_copy, ev_slen, ev_schr, ev_obj, ev_mmin, ev_mabs, ev_mmax, ev_goto, ev_jsr, ev_icmp_eq, ev_if_eq, ev_icmp_ne, ev_if_ne, ev_icmp_lt, ev_if_lt, ev_icmp_ge, ev_if_ge, ev_icmp_gt, ev_if_gt, ev_icmp_le, ev_if_le, ev_ifnull0, ev_ifnull1, ev_ifnn0, ev_ifnn1, ev_tsw, ev_lsw, ev_iret, ev_zret, ev_lret, ev_aret, ev_ret, ev_call0, ev_call1, ev_call2, ev_call3, ev_call4, ev_call5, ev_call6, Option.toList_some, Option.toList_none, List.cons_append, List.nil_append, List.length_cons, List.length_nil, Nat.reduceMod, Nat.reduceDiv, Nat.reduceLeDiff, nc, ↓reduceIte, Nat.zero_le, reduceCtorEq, w32_id, Int.reduceEq, Int.reduceNe, Int.reduceLT, Int.reduceLE, Int.reduceGT, Int.reduceGE, Int.reduceAdd, Int.reduceSub, Int.reduceMul, Int.reduceNeg, ne_eq, not_true_eq_false, not_false_eq_true, eq_self, ↓if_pos, ↓if_neg, J_357_0, k_357_0, J_357_18, k_357_18, J_357_39, k_357_39, J_357_59, k_357_59, J_357_164, k_357_164, J_357_190, k_357_190, J_357_218, k_357_218, J_357_232, k_357_232, J_357_252, k_357_252, J_357_267, k_357_267, J_357_268, k_357_268, J_357_269, k_357_269, k_357_20]
      rw [he2]
      simp (disch := first | assumption | decide | omega | (simp only [List.length_cons, List.length_nil] <;> omega)) only [lgt_0, lgt_s, lset_0, lset_s, lst1_0, lst1_s, lst2_0, lst2_s, ev_iconst, ev_lconst, ev_ldc, ev_null, ev_iload, ev_lload, ev_aload, ev_istore, ev_lstore, ev_astore, ev_iinc, ev_iadd, ev_isub, ev_imul, ev_iand, ev_ior, ev_ishl, ev_ishr, ev_idiv, ev_irem, ev_ineg, ev_ladd, ev_lsub, ev_lmul, ev_land, ev_lor, ev_ldiv, ev_lrem, ev_lshl, ev_i2l, ev_l2i, ev_i2b, ev_i2s, ev_lcmp, ev_dupI, ev_dupR, ev_dup2, ev_popI, ev_popR, ev_alen, ev_xlen, ev_xald, ev_iald, ev_lald, ev_bald, ev_zald, ev_aald, ev_iast, ev_last, ev_bast, ev_zast, ev_aast, ev_gfI, ev_gfL, ev_gfR, ev_pfI, ev_pfZ, ev_pfL, ev_pfR, ev_new, ev_newa, ev_newq, ev_copy, ev_slen, ev_schr, ev_obj, ev_mmin, ev_mabs, ev_mmax, ev_goto, ev_jsr, ev_icmp_eq, ev_if_eq, ev_icmp_ne, ev_if_ne, ev_icmp_lt, ev_if_lt, ev_icmp_ge, ev_if_ge, ev_icmp_gt, ev_if_gt, ev_icmp_le, ev_if_le, ev_ifnull0, ev_ifnull1, ev_ifnn0, ev_ifnn1, ev_tsw, ev_lsw, ev_iret, ev_zret, ev_lret, ev_aret, ev_ret, ev_call0, ev_call1, ev_call2, ev_call3, ev_call4, ev_call5, ev_call6, Option.toList_some, Option.toList_none, List.cons_append, List.nil_append, List.length_cons, List.length_nil, Nat.reduceMod, Nat.reduceDiv, Nat.reduceLeDiff, nc, ↓reduceIte, Nat.zero_le, reduceCtorEq, w32_id, Int.reduceEq, Int.reduceNe, Int.reduceLT, Int.reduceLE, Int.reduceGT, Int.reduceGE, Int.reduceAdd, Int.reduceSub, Int.reduceMul, Int.reduceNeg, ne_eq, not_true_eq_false, not_false_eq_true, eq_self, ↓if_pos, ↓if_neg, J_357_0, k_357_0, J_357_18, k_357_18, J_357_39, k_357_39, J_357_59, k_357_59, J_357_164, k_357_164, J_357_190, k_357_190, J_357_218, k_357_218, J_357_232, k_357_232, J_357_252, k_357_252, J_357_267, k_357_267, J_357_268, k_357_268, J_357_269, k_357_269, k_357_41, hN3, c5', r_told, up_ne, t1, t2, t3, hN5, m_gives hmd]
    · have all : ∀ b, b ≠ 0 → b ≠ 140 → (b < 60 ∨ 66 < b) → (b < 164 ∨ 167 < b) → up N5 140 2 0 b = M b := fun b b0 b1 b2 b3 => by
        rw [up_ne b1, g5 b b1 (by omega), c3 b b1 (by omega) (by omega) (by omega), g3 b b1 (by omega) (by omega), f1 b b0 b2]
      have low : ∀ b, b < 140 → up N5 140 2 0 b = M1 b := fun b hb => by
        rw [up_ne (by omega), g5 b (by omega) (by omega), c3 b (by omega) (by omega) (by omega) (by omega), g3 b (by omega) (by omega) (by omega)]
      have u60 : up N5 140 2 0 60 = Mb 60 := by rw [low 60 (by omega), ← hM1, up_ne (by omega)]
      have u62 : up N5 140 2 0 62 = Mb 62 := by rw [low 62 (by omega), ← hM1, up_ne (by omega)]
      have u63 : up N5 140 2 0 63 = Mb 63 := by rw [low 63 (by omega), ← hM1, up_ne (by omega)]
      have u166 : up N5 140 2 0 166 = N4 166 := by rw [up_ne (by omega), g5 166 (by omega) (by omega)]
      have u167 : up N5 140 2 0 167 0 = r.2.2.1 ∧ up N5 140 2 0 167 1 = r.2.2.2.1 ∧ up N5 140 2 0 167 2 = r.2.2.2.2.1 ∧ up N5 140 2 0 167 3 = r.2.1 := by
        rw [up_ne (by omega), ← hN5]
        refine ⟨?_, ?_, ?_, ?_⟩ <;> simp (disch := omega) only [up_ne, up_eq, up_ne2]
      have u54 : up N5 140 2 0 140 54 = 1 ∧ up N5 140 2 0 140 21 = 1 := by
        rw [← hN5]
        refine ⟨?_, ?_⟩ <;> simp (disch := omega) only [up_ne, up_eq, up_ne2]
      have uA : cA (up N5 140 2 0 (140 + 1)) 0 = AA M := by rw [all (140 + 1) (by omega) (by omega) (by omega) (by omega)]
      obtain ⟨x1, x2, x3, x4, x5, x6⟩ := kb
      refine RR_fo (M := M) (fun i hi => ?_) (fun b b0 b1 b2 b3 => all b (by omega) b2 b1 b3) (fun i i0 i1 i2 i3 i4 i5 => ?_) ?_ ?_ h
      · rw [low 0 (by omega), ← hM1, up_ne2 hi, fb 0 (by omega), fa 0 (by omega)]
      · rw [up_ne2 i0, ← hN5, up_ne2 i1, up_ne2 i5, up_ne (by omega), up_ne (by omega), up_ne (by omega), up_ne (by omega), c4 i i2 i3 i4, g140 i i2 i3 i4]
      · unfold RF
        rw [u60, u62, u63, u166, uA, u54.1, u54.2]
        refine ⟨⟨by rw [gb 5 (by omega) (by omega) (by omega) (by omega) (by omega)]; exact a5, Or.inr rfl, fun _ => ⟨by rw [u167.1]; exact x1, by rw [u167.2.1]; exact x2, by rw [u167.2.2.1]; exact x3, by rw [u167.2.2.2]; exact b4⟩⟩, by rw [gb 6 (by omega) (by omega) (by omega) (by omega) (by omega)]; exact a6, Or.inr rfl, fun _ => ⟨fun i i0 i1 => ?_, ?_⟩⟩
        · rw [x5]
          exact (t5 i i0 i1).symm
        · rw [x5, x6]
          exact ib.2.2.2.2.2
      · rw [up_eq, low 0 (by omega), ← hM1, up_eq]
end FOP
