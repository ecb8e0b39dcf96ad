/-! HUES altered: both sides' views; saves. -/
def upH (H : Int → Int) (i c : Int) : Int → Int := fun j => if j = i then c else H j
def okH (A H : Int → Int) : Prop := ∀ i, 0 ≤ i → i < xn A → 0 ≤ H i ∧ H i < A 2
theorem okH_up {A H : Int → Int} {i c : Int} (h : okH A H) (hc : 0 ≤ c ∧ c < A 2) : okH A (upH H i c) := fun j a b => by
  unfold upH
  split
  · exact hc
  · exact h j a b
theorem okH_good {A H : Int → Int} (g : gWY A) (h : okH A H) : goodN A H (xP A) (xR A) (xn A) := ⟨g.1.1, g.1.2.1, fun i a b => ⟨h i a b, (g.1.2.2 i a b).2⟩⟩
theorem okH_x {A : Int → Int} (g : gWY A) : okH A (xH A) := fun i a b => (g.1.2.2 i a b).1
/-- a class's chart with hues H -/
def HC (M : Mem) (c : Nat) (A H : Int → Int) : Prop := goodW M c ∧ VE (M (c + 1)) (M (c + 6)) (M (c + 7)) (M (c + 8)) (M (c + 3)) (M c 8) A H (xP A) (xR A) (xW A) (xn A) ∧ gWY A ∧ okH A H
/-- the model with hues H -/
def HV (M : Mem) (A H : Int → Int) : Prop := (∀ k, 0 ≤ k → k < 80 → M (140 + 1) k = A k) ∧ (∀ i, 0 ≤ i → i < xn A → M (140 + 9) i = plF A i ∧ M (140 + 10) i = H i) ∧ gWY A ∧ okH A H
theorem goodW_c' {M : Mem} {c : Nat} {i k : Int} (h : goodW M c) : goodW (up M (c + 6) i k) c := fun j a b => by
  rw [up_ne (by omega)]
  exact h j a b
section HUE
variable {X : Int → Int} {M M' : Mem} {A H : Int → Int} {c : Nat}
theorem hc_f (h : HC M c A H) (f : ∀ b, c ≤ b → b ≤ c + 8 → M' b = M b) : HC M' c A H := by
  obtain ⟨h1, h2, h3⟩ := h
  refine ⟨goodW_c f h1, ?_, h3⟩
  rw [f c (by omega) (by omega), f (c + 1) (by omega) (by omega), f (c + 3) (by omega) (by omega), f (c + 6) (by omega) (by omega), f (c + 7) (by omega) (by omega), f (c + 8) (by omega) (by omega)]
  exact h2
theorem hc_lA (hc : CH SH0 c) (hd : c + 8 < 36 ∨ 36 + 9 < c) (h : HC M c A H) : ∃ M', frm 36 45 M M' ∧ evc X 141 [vR (some 36), vR (some c)] SH0 M = some (some (vI (lsA A H)), SH0, M') ∧ 0 ≤ lsA A H ∧ lsA A H ≤ 47520 := c_lA hc hd h.1 h.2.1 (okH_good h.2.2.1 h.2.2.2)
theorem hc_up (hc : CH SH0 c) (h : HC M c A H) {i k : Int} (hi : 0 ≤ i ∧ i < xn A) (hk : 0 ≤ k ∧ k < A 2) : evc X 162 [vR (some c), vI i, vI k] SH0 M = some (none, SH0, up M (c + 6) i k) ∧ HC (up M (c + 6) i k) c A (upH H i k) := by
  obtain ⟨h1, h2, h3, h4⟩ := h
  have n8 := h2.1
  have s2 := h2.2.1 2 (by omega) (by omega)
  have gc : goodC M c := ve_goodN h2 (okH_good h3 h4)
  have e := s_recolour (X := X) hc gc (i := i) (k := k)
  rw [if_pos (by rw [n8, s2]; exact ⟨hi, hk⟩)] at e
  refine ⟨e, goodW_c' h1, ?_, h3, okH_up h4 hk⟩
  have un : ∀ b, b ≠ c + 6 → up M (c + 6) i k b = M b := fun b hb => up_ne hb
  rw [un c (by omega), un (c + 1) (by omega), un (c + 3) (by omega), un (c + 7) (by omega), un (c + 8) (by omega)]
  obtain ⟨v1, v2, v3, v4⟩ := h2
  refine ⟨v1, v2, fun j a b => ?_, v4⟩
  have e3 := v3 j a b
  refine ⟨?_, e3.2⟩
  unfold upH
  rw [up_at]
  by_cases z : j = i
  · rw [if_pos z, if_pos z]
  · rw [if_neg z, if_neg z]; exact e3.1
theorem hv_ve (h : HV M A H) : VE (M (140 + 1)) (M (140 + 10)) (fun i => M (140 + 9) i % M (140 + 1) 0) (fun i => i / M (140 + 1) 0) (fun k => M (140 + 1) (16 + 2 * k)) (M (140 + 1) 0 * M (140 + 1) 1) A H (xP A) (xR A) (xW A) (xn A) := by
  obtain ⟨q1, q2, q3, q4⟩ := h
  have e0 := q1 0 (by omega) (by omega)
  have e1 := q1 1 (by omega) (by omega)
  have e2 := q1 2 (by omega) (by omega)
  refine ⟨by rw [e0, e1], fun k a b => q1 k a (by omega), fun i a b => ?_, fun k a b => q1 _ (by omega) (by have := q3.1.1.2.2.1; omega)⟩
  rw [e0, e1] at b
  have e := q2 i a b
  rw [e0]
  refine ⟨e.2, ?_, rfl⟩
  show M (140 + 9) i % A 0 = _
  rw [e.1]
theorem hv_gm (h : HV M A H) : goodM M 140 := by
  refine ⟨ve_goodN (hv_ve h) (okH_good h.2.2.1 h.2.2.2), fun i a b => ?_⟩
  have e0 := h.1 0 (by omega) (by omega)
  have e1 := h.1 1 (by omega) (by omega)
  rw [e0, e1] at b
  have g := h.2.2.1.1
  have hw := xn_pos g.1 (show 0 < xn A from by have : xn A = A 0 * A 1 := rfl; omega)
  have e := plF_rng a b hw
  have gn : A 0 * A 1 ≤ 48 := g.2.1.2
  rw [(h.2.1 i a b).1]
  exact ⟨e.1, Int.lt_of_lt_of_le e.2.1 gn⟩
theorem hv_gv (h : HV M A H) : goodV M 140 := fun k a b => by
  rw [h.1 _ (by omega) (by omega)]
  exact (h.2.2.1.2 k a b).1
theorem hv_lA (h : HV M A H) : ∃ M', frmM 140 M M' ∧ evc X 309 [vR (some 140)] SH0 M = some (some (vI (lsA A H)), SH0, M') ∧ 0 ≤ lsA A H ∧ lsA A H ≤ 47520 := m_lA (hv_gm h) (hv_gv h) (hv_ve h)
theorem hv_f (h : HV M A H) (f : frmM 140 M M') : HV M' A H := by
  obtain ⟨q1, q2, q3⟩ := h
  refine ⟨fun k a b => ?_, fun i a b => ?_, q3⟩
  · rw [f.1 _ (by omega) (by omega)]; exact q1 k a b
  · rw [f.1 (140 + 9) (by omega) (by omega), f.1 (140 + 10) (by omega) (by omega)]; exact q2 i a b
theorem hv_up (h : HV M A H) {i k : Int} (hk : 0 ≤ k ∧ k < A 2) : HV (up M (140 + 10) i k) A (upH H i k) := by
  obtain ⟨q1, q2, q3, q4⟩ := h
  refine ⟨fun j a b => ?_, fun j a b => ?_, q3, okH_up q4 hk⟩
  · rw [up_ne (by omega)]; exact q1 j a b
  · rw [up_ne (by omega)]
    refine ⟨(q2 j a b).1, ?_⟩
    unfold upH
    rw [up_at]
    by_cases z : j = i
    · rw [if_pos z, if_pos z]
    · rw [if_neg z, if_neg z]; exact (q2 j a b).2
theorem rr_hc (h : RR' M) : HC M 4 (AA M) (xH (AA M)) := ⟨rr_gw h, rr_ve h, rr_gwy h, okH_x (rr_gwy h)⟩
theorem rr_hv (h : RR' M) (hm : mds M M') : HV M' (AA M) (xH (AA M)) := ⟨fun k a b => q_at hm a b, fun i a b => by
  rw [hm (140 + 9) (by omega), hm (140 + 10) (by omega)]
  exact ⟨PO_m h a b, CO_m h a b⟩, rr_gwy h, okH_x (rr_gwy h)⟩
/-- what altering one stitch saves, by the model; nothing else is left changed -/
theorem m_savesBy (h : HV M A H) {b i k : Int} (hb : 0 ≤ b ∧ b ≤ 47520) (hi : 0 ≤ i ∧ i < xn A) (hk : 0 ≤ k ∧ k < A 2) : ∃ M', frmM 140 M M' ∧ evc X 323 [vR (some 140), vI b, vI i, vI k] SH0 M = some (some (vI (b - lsA A (upH H i k) - A 13)), SH0, M') := by
  have mk0 := w0_k140
  obtain ⟨r_at, k_at, l_at⟩ := md_at w0_md140; obtain ⟨r_colourOf, k_colourOf, l_colourOf⟩ := md_colourOf w0_md140
  have n := h.2.2.1.1.2.1
  have g13 := h.2.2.1.1.1.2.2.2.2.2.2.2.2.2.2.2.2.2.1
  obtain ⟨N1, f1, e1, l0, l1⟩ := hv_lA (X := X) (hv_up h (i := i) hk)
  have a13 : N1 (140 + 1) 13 = A 13 := by rw [f1.1 _ (by omega) (by omega), up_ne (by omega)]; exact h.1 13 (by omega) (by omega)
  refine ⟨up N1 (140 + 10) i (M (140 + 10) i), ⟨fun c b1 b2 => ?_, fun j hj => ?_⟩, ?_⟩
  · by_cases z : c = 140 + 10
    · subst z
      funext j
      rw [up_at, f1.1 _ (by omega) (by omega), up_at]
      by_cases y : j = i
      · rw [if_pos y, y]
      · rw [if_neg y, if_neg y]
    · rw [up_ne z, f1.1 c b1 b2, up_ne z]
  · rw [up_ne (by omega), f1.2 j hj, up_ne (by omega)]
  · rw [E_323 mk0]
    generalize lsA A (upH H i k) = lv at e1 l0 l1 ⊢
    simp (disch := first | assumption | decide | omega | (simp only [List.length_cons, List.length_nil] <;> omega)) only [lgt_0, lgt_s, lset_0, lset_s, lst1_0, lst1_s, lst2_0, lst2_s, ev_iconst, ev_lconst, ev_ldc, ev_null, ev_iload, ev_lload, ev_aload, ev_istore, ev_lstore, ev_astore, ev_iinc, ev_iadd, ev_isub, ev_imul, ev_iand, ev_ior, ev_ishl, ev_ishr, ev_idiv, ev_irem, ev_ineg, ev_ladd, ev_lsub, ev_lmul, ev_land, ev_lor, ev_ldiv, ev_lrem, ev_lshl, ev_i2l, ev_l2i, ev_i2b, ev_i2s, ev_lcmp, ev_dupI, ev_dupR, ev_dup2, ev_popI, ev_popR, ev_alen, ev_xlen, ev_xald, ev_iald, ev_lald, ev_bald, ev_zald, ev_aald, ev_iast, ev_last, ev_bast, ev_zast, ev_aast, ev_gfI, ev_gfL, ev_gfR, ev_pfI, ev_pfZ, ev_pfL, ev_pfR, ev_new, ev_newa, ev_newq, ev_copy, ev_slen, ev_schr, ev_obj, ev_mmin, ev_mabs, ev_mmax, ev_goto, ev_jsr, ev_icmp_eq, ev_if_eq, ev_icmp_ne, ev_if_ne, ev_icmp_lt, ev_if_lt, ev_icmp_ge, ev_if_ge, ev_icmp_gt, ev_if_gt, ev_icmp_le, ev_if_le, ev_ifnull0, ev_ifnull1, ev_ifnn0, ev_ifnn1, ev_tsw, ev_lsw, ev_iret, ev_zret, ev_lret, ev_aret, ev_ret, ev_call0, ev_call1, ev_call2, ev_call3, ev_call4, ev_call5, ev_call6, Option.toList_some, Option.toList_none, List.cons_append, List.nil_append, List.length_cons, List.length_nil, Nat.reduceMod, Nat.reduceDiv, Nat.reduceLeDiff, nc, ↓reduceIte, Nat.zero_le, reduceCtorEq, w32_id, Int.reduceEq, Int.reduceNe, Int.reduceLT, Int.reduceLE, Int.reduceGT, Int.reduceGE, Int.reduceAdd, Int.reduceSub, Int.reduceMul, Int.reduceNeg, ne_eq, not_true_eq_false, not_false_eq_true, eq_self, ↓if_pos, ↓if_neg, J_323_0, k_323_0, r_at, r_colourOf, e1, a13]
theorem op_saves (h : RR' M) {a b : Int} : OP X 161 [vI a, vI b] 322 [vI a, vI b] M := by
  have k0 := w0_k0; have hc4 := w0_ch4; have hmd := w0_md140; have mk0 := hmd.1; have hc4' := w0_ch4; obtain ⟨ck0, cr0, cr1, cr2, cr3, cr4, cr5, cr6, cr7, ck1, ck2, ck3, ck4, ck5, ck6, ck7, ck8, cl1, cl2, cl3, cl4, cl5, cl6, cl7, cl8⟩ := hc4'
  have hst := c_hasStitch (X := X) h (i := a)
  have hcol := c_hasColour (X := X) h (i := b)
  have n := xn_rng h
  by_cases q : 0 ≤ a ∧ a < xn (AA M)
  · rw [if1 q] at hst
    have hH := ((rr_ve h).2.2.1 a q.1 (by rw [n_c h]; exact q.2)).1
    by_cases q1 : 0 ≤ b ∧ b < AA M 2
    · rw [if1 q1] at hcol
      by_cases q2 : xH (AA M) a = b
      · refine op_ro3 (v := vI (-1)) (st := 1) h ?_ ?_
        · rw [E_161 k0]
          rw [q2] at hH
          simp (disch := first | assumption | decide | omega | (simp only [List.length_cons, List.length_nil] <;> omega)) only [lgt_0, lgt_s, lset_0, lset_s, lst1_0, lst1_s, lst2_0, lst2_s, ev_iconst, ev_lconst, ev_ldc, ev_null, ev_iload, ev_lload, ev_aload, ev_istore, ev_lstore, ev_astore, ev_iinc, ev_iadd, ev_isub, ev_imul, ev_iand, ev_ior, ev_ishl, ev_ishr, ev_idiv, ev_irem, ev_ineg, ev_ladd, ev_lsub, ev_lmul, ev_land, ev_lor, ev_ldiv, ev_lrem, ev_lshl, ev_i2l, ev_l2i, ev_i2b, ev_i2s, ev_lcmp, ev_dupI, ev_dupR, ev_dup2, ev_popI, ev_popR, ev_alen, ev_xlen, ev_xald, ev_iald, ev_lald, ev_bald, ev_zald, ev_aald, ev_iast, ev_last, ev_bast, ev_zast, ev_aast, ev_gfI, ev_gfL, ev_gfR, ev_pfI, ev_pfZ, ev_pfL, ev_pfR, ev_new, ev_newa, ev_newq, ev_copy, ev_slen, ev_schr, ev_obj, ev_mmin, ev_mabs, ev_mmax, ev_goto, ev_jsr, ev_icmp_eq, ev_if_eq, ev_icmp_ne, ev_if_ne, ev_icmp_lt, ev_if_lt, ev_icmp_ge, ev_if_ge, ev_icmp_gt, ev_if_gt, ev_icmp_le, ev_if_le, ev_ifnull0, ev_ifnull1, ev_ifnn0, ev_ifnn1, ev_tsw, ev_lsw, ev_iret, ev_zret, ev_lret, ev_aret, ev_ret, ev_call0, ev_call1, ev_call2, ev_call3, ev_call4, ev_call5, ev_call6, Option.toList_some, Option.toList_none, List.cons_append, List.nil_append, List.length_cons, List.length_nil, Nat.reduceMod, Nat.reduceDiv, Nat.reduceLeDiff, nc, ↓reduceIte, Nat.zero_le, reduceCtorEq, w32_id, Int.reduceEq, Int.reduceNe, Int.reduceLT, Int.reduceLE, Int.reduceGT, Int.reduceGE, Int.reduceAdd, Int.reduceSub, Int.reduceMul, Int.reduceNeg, ne_eq, not_true_eq_false, not_false_eq_true, eq_self, ↓if_pos, ↓if_neg, w0_r0_3, w0_r0_4, w0_r0_5, w0_r0_6, w0_r0_7, w0_r0_8, w0_r0_10, w0_r0_11, w0_r0_12, w0_r0_13, w0_r0_14, w0_r0_15, w0_r0_16, w0_r0_17, w0_r0_18, cr0, cr1, cr2, cr3, cr4, cr5, cr6, cr7, J_161_0, k_161_0, J_161_35, k_161_35, J_161_41, k_161_41, hst, hcol, hH, s_none]
        · intro M1 h1 hm
          obtain ⟨r_colourOf, k_colourOf, l_colourOf⟩ := md_colourOf w0_md140
          have d1 := q_isStitch (X := X) h (mds_of hm) (i := a)
          have d2 := q_isColour (X := X) (mds_of hm) (i := b)
          rw [if1 q] at d1
          rw [if1 q1] at d2
          have d3 := ((rr_hv h (mds_of hm)).2.1 a q.1 q.2).2
          rw [q2] at d3
          rw [E_322 mk0]
          simp (disch := first | assumption | decide | omega | (simp only [List.length_cons, List.length_nil] <;> omega)) only [lgt_0, lgt_s, lset_0, lset_s, lst1_0, lst1_s, lst2_0, lst2_s, ev_iconst, ev_lconst, ev_ldc, ev_null, ev_iload, ev_lload, ev_aload, ev_istore, ev_lstore, ev_astore, ev_iinc, ev_iadd, ev_isub, ev_imul, ev_iand, ev_ior, ev_ishl, ev_ishr, ev_idiv, ev_irem, ev_ineg, ev_ladd, ev_lsub, ev_lmul, ev_land, ev_lor, ev_ldiv, ev_lrem, ev_lshl, ev_i2l, ev_l2i, ev_i2b, ev_i2s, ev_lcmp, ev_dupI, ev_dupR, ev_dup2, ev_popI, ev_popR, ev_alen, ev_xlen, ev_xald, ev_iald, ev_lald, ev_bald, ev_zald, ev_aald, ev_iast, ev_last, ev_bast, ev_zast, ev_aast, ev_gfI, ev_gfL, ev_gfR, ev_pfI, ev_pfZ, ev_pfL, ev_pfR, ev_new, ev_newa, ev_newq, ev_copy, ev_slen, ev_schr, ev_obj, ev_mmin, ev_mabs, ev_mmax, ev_goto, ev_jsr, ev_icmp_eq, ev_if_eq, ev_icmp_ne, ev_if_ne, ev_icmp_lt, ev_if_lt, ev_icmp_ge, ev_if_ge, ev_icmp_gt, ev_if_gt, ev_icmp_le, ev_if_le, ev_ifnull0, ev_ifnull1, ev_ifnn0, ev_ifnn1, ev_tsw, ev_lsw, ev_iret, ev_zret, ev_lret, ev_aret, ev_ret, ev_call0, ev_call1, ev_call2, ev_call3, ev_call4, ev_call5, ev_call6, Option.toList_some, Option.toList_none, List.cons_append, List.nil_append, List.length_cons, List.length_nil, Nat.reduceMod, Nat.reduceDiv, Nat.reduceLeDiff, nc, ↓reduceIte, Nat.zero_le, reduceCtorEq, w32_id, Int.reduceEq, Int.reduceNe, Int.reduceLT, Int.reduceLE, Int.reduceGT, Int.reduceGE, Int.reduceAdd, Int.reduceSub, Int.reduceMul, Int.reduceNeg, ne_eq, not_true_eq_false, not_false_eq_true, eq_self, ↓if_pos, ↓if_neg, J_322_0, k_322_0, J_322_27, k_322_27, J_322_33, k_322_33, d1, d2, r_colourOf, d3, m_refuse hmd]
      · obtain ⟨Ma, fa, ra, wa, ea⟩ := c_trial (X := X) h
        have hcT : HC Ma 67 (AA M) (xH (AA M)) := ⟨wa, rch_ve ra, rr_gwy h, okH_x (rr_gwy h)⟩
        obtain ⟨er, hcU⟩ := hc_up (X := X) w0_ch67 hcT q q1
        have hc4U : HC (up Ma (67 + 6) a b) 4 (AA M) (xH (AA M)) := hc_f (rr_hc h) (fun x x0 x1 => by rw [up_ne (by omega), fa x (by omega)])
        obtain ⟨Mb, fb, eb, b0, b1⟩ := hc_lA (X := X) w0_ch4 (by omega) hc4U
        have hcV : HC Mb 67 (AA M) (upH (xH (AA M)) a b) := hc_f hcU (fun x x0 x1 => fb x (by omega))
        obtain ⟨Mc, fc, ec, c0, c1⟩ := hc_lA (X := X) w0_ch67 (by omega) hcV
        have s13 : Mc (4 + 1) 13 = AA M 13 := by rw [fc _ (by omega), fb _ (by omega), up_ne (by omega), fa _ (by omega)]; exact S_c h (by omega) (by omega)
        have g13 := (rr_gA h).1.2.2.2.2.2.2.2.2.2.2.2.2.2.1
        have FR : ∀ x, (x < 36 ∨ 45 < x) → (x < 67 ∨ 80 < x) → Mc x = M x := fun x x0 x1 => by
          rw [fc x (by omega), fb x (by omega), up_ne (by omega), fa x (by omega)]
        have r1 : RO M (up Mc 0 0 0) 0 := RO_s FR
        have hm := mds_up r1
        generalize hM1 : up Mc 0 0 0 = M1 at r1 hm
        have hv := rr_hv h hm
        obtain ⟨N1, f1, e1, -⟩ := hv_lA (X := X) hv
        obtain ⟨N2, f2, e2⟩ := m_savesBy (X := X) (hv_f hv f1) (b := lsA (AA M) (xH (AA M))) ⟨b0, b1⟩ q q1
        refine op_ro (v := vI (lsA (AA M) (xH (AA M)) - lsA (AA M) (upH (xH (AA M)) a b) - AA M 13)) (M2 := up N2 140 2 0) (st := 0) h ?_ r1 ?_ (rom_f (frmM_t f1 f2))
        · rw [E_161 k0]
          generalize lsA (AA M) (xH (AA M)) = v1 at eb b0 b1 ⊢
          generalize lsA (AA M) (upH (xH (AA M)) a b) = v2 at ec c0 c1 ⊢
          generalize xH (AA M) a = hv at hH q2
          simp (disch := first | assumption | decide | omega | (simp only [List.length_cons, List.length_nil] <;> omega)) only [lgt_0, lgt_s, lset_0, lset_s, lst1_0, lst1_s, lst2_0, lst2_s, ev_iconst, ev_lconst, ev_ldc, ev_null, ev_iload, ev_lload, ev_aload, ev_istore, ev_lstore, ev_astore, ev_iinc, ev_iadd, ev_isub, ev_imul, ev_iand, ev_ior, ev_ishl, ev_ishr, ev_idiv, ev_irem, ev_ineg, ev_ladd, ev_lsub, ev_lmul, ev_land, ev_lor, ev_ldiv, ev_lrem, ev_lshl, ev_i2l, ev_l2i, ev_i2b, ev_i2s, ev_lcmp, ev_dupI, ev_dupR, ev_dup2, ev_popI, ev_popR, ev_alen, ev_xlen, ev_xald, ev_iald, ev_lald, ev_bald, ev_zald, ev_aald, ev_iast, ev_last, ev_bast, ev_zast, ev_aast, ev_gfI, ev_gfL, ev_gfR, ev_pfI, ev_pfZ, ev_pfL, ev_pfR, ev_new, ev_newa, ev_newq, ev_copy, ev_slen, ev_schr, ev_obj, ev_mmin, ev_mabs, ev_mmax, ev_goto, ev_jsr, ev_icmp_eq, ev_if_eq, ev_icmp_ne, ev_if_ne, ev_icmp_lt, ev_if_lt, ev_icmp_ge, ev_if_ge, ev_icmp_gt, ev_if_gt, ev_icmp_le, ev_if_le, ev_ifnull0, ev_ifnull1, ev_ifnn0, ev_ifnn1, ev_tsw, ev_lsw, ev_iret, ev_zret, ev_lret, ev_aret, ev_ret, ev_call0, ev_call1, ev_call2, ev_call3, ev_call4, ev_call5, ev_call6, Option.toList_some, Option.toList_none, List.cons_append, List.nil_append, List.length_cons, List.length_nil, Nat.reduceMod, Nat.reduceDiv, Nat.reduceLeDiff, nc, ↓reduceIte, Nat.zero_le, reduceCtorEq, w32_id, Int.reduceEq, Int.reduceNe, Int.reduceLT, Int.reduceLE, Int.reduceGT, Int.reduceGE, Int.reduceAdd, Int.reduceSub, Int.reduceMul, Int.reduceNeg, ne_eq, not_true_eq_false, not_false_eq_true, eq_self, ↓if_pos, ↓if_neg, w0_r0_3, w0_r0_4, w0_r0_5, w0_r0_6, w0_r0_7, w0_r0_8, w0_r0_10, w0_r0_11, w0_r0_12, w0_r0_13, w0_r0_14, w0_r0_15, w0_r0_16, w0_r0_17, w0_r0_18, cr0, cr1, cr2, cr3, cr4, cr5, cr6, cr7, J_161_0, k_161_0, J_161_35, k_161_35, J_161_41, k_161_41, hst, hcol, hH, q2, ea, er, eb, ec, s13, s_answer, hM1]
        · obtain ⟨r_colourOf, k_colourOf, l_colourOf⟩ := md_colourOf w0_md140
          have d1 := q_isStitch (X := X) h hm (i := a)
          have d2 := q_isColour (X := X) hm (i := b)
          rw [if1 q] at d1
          rw [if1 q1] at d2
          have d3 := (hv.2.1 a q.1 q.2).2
          rw [E_322 mk0]
          generalize xH (AA M) a = hv at d3 q2
          simp (disch := first | assumption | decide | omega | (simp only [List.length_cons, List.length_nil] <;> omega)) only [lgt_0, lgt_s, lset_0, lset_s, lst1_0, lst1_s, lst2_0, lst2_s, ev_iconst, ev_lconst, ev_ldc, ev_null, ev_iload, ev_lload, ev_aload, ev_istore, ev_lstore, ev_astore, ev_iinc, ev_iadd, ev_isub, ev_imul, ev_iand, ev_ior, ev_ishl, ev_ishr, ev_idiv, ev_irem, ev_ineg, ev_ladd, ev_lsub, ev_lmul, ev_land, ev_lor, ev_ldiv, ev_lrem, ev_lshl, ev_i2l, ev_l2i, ev_i2b, ev_i2s, ev_lcmp, ev_dupI, ev_dupR, ev_dup2, ev_popI, ev_popR, ev_alen, ev_xlen, ev_xald, ev_iald, ev_lald, ev_bald, ev_zald, ev_aald, ev_iast, ev_last, ev_bast, ev_zast, ev_aast, ev_gfI, ev_gfL, ev_gfR, ev_pfI, ev_pfZ, ev_pfL, ev_pfR, ev_new, ev_newa, ev_newq, ev_copy, ev_slen, ev_schr, ev_obj, ev_mmin, ev_mabs, ev_mmax, ev_goto, ev_jsr, ev_icmp_eq, ev_if_eq, ev_icmp_ne, ev_if_ne, ev_icmp_lt, ev_if_lt, ev_icmp_ge, ev_if_ge, ev_icmp_gt, ev_if_gt, ev_icmp_le, ev_if_le, ev_ifnull0, ev_ifnull1, ev_ifnn0, ev_ifnn1, ev_tsw, ev_lsw, ev_iret, ev_zret, ev_lret, ev_aret, ev_ret, ev_call0, ev_call1, ev_call2, ev_call3, ev_call4, ev_call5, ev_call6, Option.toList_some, Option.toList_none, List.cons_append, List.nil_append, List.length_cons, List.length_nil, Nat.reduceMod, Nat.reduceDiv, Nat.reduceLeDiff, nc, ↓reduceIte, Nat.zero_le, reduceCtorEq, w32_id, Int.reduceEq, Int.reduceNe, Int.reduceLT, Int.reduceLE, Int.reduceGT, Int.reduceGE, Int.reduceAdd, Int.reduceSub, Int.reduceMul, Int.reduceNeg, ne_eq, not_true_eq_false, not_false_eq_true, eq_self, ↓if_pos, ↓if_neg, J_322_0, k_322_0, J_322_27, k_322_27, J_322_33, k_322_33, d1, d2, r_colourOf, d3, q2, e1, e2, m_gives hmd]
    · rw [if0 q1] at hcol
      refine op_ro3 (v := vI (-1)) (st := 1) h ?_ ?_
      · rw [E_161 k0]
        simp (disch := first | assumption | decide | omega | (simp only [List.length_cons, List.length_nil] <;> omega)) only [lgt_0, lgt_s, lset_0, lset_s, lst1_0, lst1_s, lst2_0, lst2_s, ev_iconst, ev_lconst, ev_ldc, ev_null, ev_iload, ev_lload, ev_aload, ev_istore, ev_lstore, ev_astore, ev_iinc, ev_iadd, ev_isub, ev_imul, ev_iand, ev_ior, ev_ishl, ev_ishr, ev_idiv, ev_irem, ev_ineg, ev_ladd, ev_lsub, ev_lmul, ev_land, ev_lor, ev_ldiv, ev_lrem, ev_lshl, ev_i2l, ev_l2i, ev_i2b, ev_i2s, ev_lcmp, ev_dupI, ev_dupR, ev_dup2, ev_popI, ev_popR, ev_alen, ev_xlen, ev_xald, ev_iald, ev_lald, ev_bald, ev_zald, ev_aald, ev_iast, ev_last, ev_bast, ev_zast, ev_aast, ev_gfI, ev_gfL, ev_gfR, ev_pfI, ev_pfZ, ev_pfL, ev_pfR, ev_new, ev_newa, ev_newq, ev_copy, ev_slen, ev_schr, ev_obj, ev_mmin, ev_mabs, ev_mmax, ev_goto, ev_jsr, ev_icmp_eq, ev_if_eq, ev_icmp_ne, ev_if_ne, ev_icmp_lt, ev_if_lt, ev_icmp_ge, ev_if_ge, ev_icmp_gt, ev_if_gt, ev_icmp_le, ev_if_le, ev_ifnull0, ev_ifnull1, ev_ifnn0, ev_ifnn1, ev_tsw, ev_lsw, ev_iret, ev_zret, ev_lret, ev_aret, ev_ret, ev_call0, ev_call1, ev_call2, ev_call3, ev_call4, ev_call5, ev_call6, Option.toList_some, Option.toList_none, List.cons_append, List.nil_append, List.length_cons, List.length_nil, Nat.reduceMod, Nat.reduceDiv, Nat.reduceLeDiff, nc, ↓reduceIte, Nat.zero_le, reduceCtorEq, w32_id, Int.reduceEq, Int.reduceNe, Int.reduceLT, Int.reduceLE, Int.reduceGT, Int.reduceGE, Int.reduceAdd, Int.reduceSub, Int.reduceMul, Int.reduceNeg, ne_eq, not_true_eq_false, not_false_eq_true, eq_self, ↓if_pos, ↓if_neg, w0_r0_3, w0_r0_4, w0_r0_5, w0_r0_6, w0_r0_7, w0_r0_8, w0_r0_10, w0_r0_11, w0_r0_12, w0_r0_13, w0_r0_14, w0_r0_15, w0_r0_16, w0_r0_17, w0_r0_18, cr0, cr1, cr2, cr3, cr4, cr5, cr6, cr7, J_161_0, k_161_0, J_161_35, k_161_35, J_161_41, k_161_41, hst, hcol, s_none]
      · intro M1 h1 hm
        have d1 := q_isStitch (X := X) h (mds_of hm) (i := a)
        have d2 := q_isColour (X := X) (mds_of hm) (i := b)
        rw [if1 q] at d1
        rw [if0 q1] at d2
        rw [E_322 mk0]
        simp (disch := first | assumption | decide | omega | (simp only [List.length_cons, List.length_nil] <;> omega)) only [lgt_0, lgt_s, lset_0, lset_s, lst1_0, lst1_s, lst2_0, lst2_s, ev_iconst, ev_lconst, ev_ldc, ev_null, ev_iload, ev_lload, ev_aload, ev_istore, ev_lstore, ev_astore, ev_iinc, ev_iadd, ev_isub, ev_imul, ev_iand, ev_ior, ev_ishl, ev_ishr, ev_idiv, ev_irem, ev_ineg, ev_ladd, ev_lsub, ev_lmul, ev_land, ev_lor, ev_ldiv, ev_lrem, ev_lshl, ev_i2l, ev_l2i, ev_i2b, ev_i2s, ev_lcmp, ev_dupI, ev_dupR, ev_dup2, ev_popI, ev_popR, ev_alen, ev_xlen, ev_xald, ev_iald, ev_lald, ev_bald, ev_zald, ev_aald, ev_iast, ev_last, ev_bast, ev_zast, ev_aast, ev_gfI, ev_gfL, ev_gfR, ev_pfI, ev_pfZ, ev_pfL, ev_pfR, ev_new, ev_newa, ev_newq, ev_copy, ev_slen, ev_schr, ev_obj, ev_mmin, ev_mabs, ev_mmax, ev_goto, ev_jsr, ev_icmp_eq, ev_if_eq, ev_icmp_ne, ev_if_ne, ev_icmp_lt, ev_if_lt, ev_icmp_ge, ev_if_ge, ev_icmp_gt, ev_if_gt, ev_icmp_le, ev_if_le, ev_ifnull0, ev_ifnull1, ev_ifnn0, ev_ifnn1, ev_tsw, ev_lsw, ev_iret, ev_zret, ev_lret, ev_aret, ev_ret, ev_call0, ev_call1, ev_call2, ev_call3, ev_call4, ev_call5, ev_call6, Option.toList_some, Option.toList_none, List.cons_append, List.nil_append, List.length_cons, List.length_nil, Nat.reduceMod, Nat.reduceDiv, Nat.reduceLeDiff, nc, ↓reduceIte, Nat.zero_le, reduceCtorEq, w32_id, Int.reduceEq, Int.reduceNe, Int.reduceLT, Int.reduceLE, Int.reduceGT, Int.reduceGE, Int.reduceAdd, Int.reduceSub, Int.reduceMul, Int.reduceNeg, ne_eq, not_true_eq_false, not_false_eq_true, eq_self, ↓if_pos, ↓if_neg, J_322_0, k_322_0, J_322_27, k_322_27, J_322_33, k_322_33, d1, d2, m_refuse hmd]
  · rw [if0 q] at hst
    refine op_ro3 (v := vI (-1)) (st := 1) h ?_ ?_
    · rw [E_161 k0]
      simp (disch := first | assumption | decide | omega | (simp only [List.length_cons, List.length_nil] <;> omega)) only [lgt_0, lgt_s, lset_0, lset_s, lst1_0, lst1_s, lst2_0, lst2_s, ev_iconst, ev_lconst, ev_ldc, ev_null, ev_iload, ev_lload, ev_aload, ev_istore, ev_lstore, ev_astore, ev_iinc, ev_iadd, ev_isub, ev_imul, ev_iand, ev_ior, ev_ishl, ev_ishr, ev_idiv, ev_irem, ev_ineg, ev_ladd, ev_lsub, ev_lmul, ev_land, ev_lor, ev_ldiv, ev_lrem, ev_lshl, ev_i2l, ev_l2i, ev_i2b, ev_i2s, ev_lcmp, ev_dupI, ev_dupR, ev_dup2, ev_popI, ev_popR, ev_alen, ev_xlen, ev_xald, ev_iald, ev_lald, ev_bald, ev_zald, ev_aald, ev_iast, ev_last, ev_bast, ev_zast, ev_aast, ev_gfI, ev_gfL, ev_gfR, ev_pfI, ev_pfZ, ev_pfL, ev_pfR, ev_new, ev_newa, ev_newq, ev_copy, ev_slen, ev_schr, ev_obj, ev_mmin, ev_mabs, ev_mmax, ev_goto, ev_jsr, ev_icmp_eq, ev_if_eq, ev_icmp_ne, ev_if_ne, ev_icmp_lt, ev_if_lt, ev_icmp_ge, ev_if_ge, ev_icmp_gt, ev_if_gt, ev_icmp_le, ev_if_le, ev_ifnull0, ev_ifnull1, ev_ifnn0, ev_ifnn1, ev_tsw, ev_lsw, ev_iret, ev_zret, ev_lret, ev_aret, ev_ret, ev_call0, ev_call1, ev_call2, ev_call3, ev_call4, ev_call5, ev_call6, Option.toList_some, Option.toList_none, List.cons_append, List.nil_append, List.length_cons, List.length_nil, Nat.reduceMod, Nat.reduceDiv, Nat.reduceLeDiff, nc, ↓reduceIte, Nat.zero_le, reduceCtorEq, w32_id, Int.reduceEq, Int.reduceNe, Int.reduceLT, Int.reduceLE, Int.reduceGT, Int.reduceGE, Int.reduceAdd, Int.reduceSub, Int.reduceMul, Int.reduceNeg, ne_eq, not_true_eq_false, not_false_eq_true, eq_self, ↓if_pos, ↓if_neg, w0_r0_3, w0_r0_4, w0_r0_5, w0_r0_6, w0_r0_7, w0_r0_8, w0_r0_10, w0_r0_11, w0_r0_12, w0_r0_13, w0_r0_14, w0_r0_15, w0_r0_16, w0_r0_17, w0_r0_18, cr0, cr1, cr2, cr3, cr4, cr5, cr6, cr7, J_161_0, k_161_0, J_161_35, k_161_35, J_161_41, k_161_41, hst, s_none]
    · intro M1 h1 hm
      have d1 := q_isStitch (X := X) h (mds_of hm) (i := a)
      rw [if0 q] at d1
      rw [E_322 mk0]
      simp (disch := first | assumption | decide | omega | (simp only [List.length_cons, List.length_nil] <;> omega)) only [lgt_0, lgt_s, lset_0, lset_s, lst1_0, lst1_s, lst2_0, lst2_s, ev_iconst, ev_lconst, ev_ldc, ev_null, ev_iload, ev_lload, ev_aload, ev_istore, ev_lstore, ev_astore, ev_iinc, ev_iadd, ev_isub, ev_imul, ev_iand, ev_ior, ev_ishl, ev_ishr, ev_idiv, ev_irem, ev_ineg, ev_ladd, ev_lsub, ev_lmul, ev_land, ev_lor, ev_ldiv, ev_lrem, ev_lshl, ev_i2l, ev_l2i, ev_i2b, ev_i2s, ev_lcmp, ev_dupI, ev_dupR, ev_dup2, ev_popI, ev_popR, ev_alen, ev_xlen, ev_xald, ev_iald, ev_lald, ev_bald, ev_zald, ev_aald, ev_iast, ev_last, ev_bast, ev_zast, ev_aast, ev_gfI, ev_gfL, ev_gfR, ev_pfI, ev_pfZ, ev_pfL, ev_pfR, ev_new, ev_newa, ev_newq, ev_copy, ev_slen, ev_schr, ev_obj, ev_mmin, ev_mabs, ev_mmax, ev_goto, ev_jsr, ev_icmp_eq, ev_if_eq, ev_icmp_ne, ev_if_ne, ev_icmp_lt, ev_if_lt, ev_icmp_ge, ev_if_ge, ev_icmp_gt, ev_if_gt, ev_icmp_le, ev_if_le, ev_ifnull0, ev_ifnull1, ev_ifnn0, ev_ifnn1, ev_tsw, ev_lsw, ev_iret, ev_zret, ev_lret, ev_aret, ev_ret, ev_call0, ev_call1, ev_call2, ev_call3, ev_call4, ev_call5, ev_call6, Option.toList_some, Option.toList_none, List.cons_append, List.nil_append, List.length_cons, List.length_nil, Nat.reduceMod, Nat.reduceDiv, Nat.reduceLeDiff, nc, ↓reduceIte, Nat.zero_le, reduceCtorEq, w32_id, Int.reduceEq, Int.reduceNe, Int.reduceLT, Int.reduceLE, Int.reduceGT, Int.reduceGE, Int.reduceAdd, Int.reduceSub, Int.reduceMul, Int.reduceNeg, ne_eq, not_true_eq_false, not_false_eq_true, eq_self, ↓if_pos, ↓if_neg, J_322_0, k_322_0, J_322_27, k_322_27, J_322_33, k_322_33, d1, m_refuse hmd]
end HUE
