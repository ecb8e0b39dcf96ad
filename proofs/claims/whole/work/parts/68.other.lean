/-! OPERATIONS: other, saves. -/
section OTH
variable {X : Int → Int} {M M1 : Mem}
/-- the trial chart holds what the chart holds -/
theorem c_trial (h : RR' M) : ∃ M', frm 67 75 M M' ∧ RC1 M' 67 (AA M) (nA (M (140 + 2)) 0) ∧ goodW M' 67 ∧ evc X 74 [vR (some 67), vR (some 4)] SH0 M = some (none, SH0, M') := by
  obtain ⟨M', f, h1, h2, h3, h4, e⟩ := s_chcopy (X := X) (M := M) w0_ch67 w0_ch4 (by omega)
  exact ⟨M', fun b hb => f b (by omega), RC1_copy (rr_c h) h1 h2 h3 h4, fun k a b => by rw [(h2 k a b).2.1]; exact rr_gw h k a b, e⟩
theorem RO_s {M' : Mem} {st : Int} (f : ∀ b, (b < 36 ∨ 45 < b) → (b < 67 ∨ 80 < b) → M' b = M b) : RO M (up M' 0 0 st) st := ro_up (fun b b0 b1 b2 => f b b1 b2) (fun i hi => by rw [f 0 (by omega) (by omega)])
def othA (A : Int → Int) : Int → Int := fun k => if k = 14 then 1 - A 14 else A k
theorem oth_good {A : Int → Int} (gs : goodS A) : goodS (othA A) := by
  unfold goodS at gs ⊢
  unfold othA
  obtain ⟨g0, g1, g2, g3, g4, g5, g6, g7, g8, g9, g10, g11, g12, g13, g14⟩ := gs
  simp only [Int.reduceEq, ↓reduceIte]
  exact ⟨g0, g1, g2, g3, g4, g5, g6, g7, g8, g9, g10, g11, g12, g13, by omega⟩
theorem oth_at {A : Int → Int} {k : Int} (h : k ≠ 14) : othA A k = A k := if_neg h
theorem op_other (h : RR' M) : OP X 160 [] 321 [] M := by
  have k0 := w0_k0; have hc4 := w0_ch4; have hmd := w0_md140; have mk0 := hmd.1; have hc4' := w0_ch4; obtain ⟨ck0, cr0, cr1, cr2, cr3, cr4, cr5, cr6, cr7, ck1, ck2, ck3, ck4, ck5, ck6, ck7, ck8, cl1, cl2, cl3, cl4, cl5, cl6, cl7, cl8⟩ := hc4'
  have ct := w0_ch67
  obtain ⟨tk0, tr0, tr1, tr2, tr3, tr4, tr5, tr6, tr7, tk1, tk2, tk3, tk4, tk5, tk6, tk7, tk8, tl1, tl2, tl3, tl4, tl5, tl6, tl7, tl8⟩ := ct
  obtain ⟨Ma, fa, ra, wa, ea⟩ := c_trial (X := X) h
  have gA := rr_gA h
  have s14 : Ma (4 + 1) 14 = AA M 14 := by rw [fa _ (by omega)]; exact S_c h (by omega) (by omega)
  have g14 := gA.1.2.2.2.2.2.2.2.2.2.2.2.2.2.2
  -- class
  generalize hMb : up Ma (67 + 1) 14 (1 - AA M 14) = Mb
  have hb1 : ∀ k, 0 ≤ k → k < 15 → Mb (67 + 1) k = othA (AA M) k := fun k a b => by
    rw [← hMb]
    by_cases z : k = 14
    · subst z
      rw [up_eq]; rfl
    · rw [up_ne2 z, oth_at z]; exact ra.1 k a b
  have gsb : goodS (Mb (67 + 1)) := by
    have g := oth_good gA.1
    unfold goodS at g ⊢
    rw [hb1 0 (by omega) (by omega), hb1 1 (by omega) (by omega), hb1 2 (by omega) (by omega), hb1 3 (by omega) (by omega), hb1 4 (by omega) (by omega), hb1 5 (by omega) (by omega), hb1 6 (by omega) (by omega), hb1 7 (by omega) (by omega), hb1 8 (by omega) (by omega), hb1 9 (by omega) (by omega), hb1 10 (by omega) (by omega), hb1 11 (by omega) (by omega), hb1 12 (by omega) (by omega), hb1 13 (by omega) (by omega), hb1 14 (by omega) (by omega)]
    exact g
  obtain ⟨Mc, fc, fc2, hc8, hci, ec⟩ := s_arrange (X := X) (M := Mb) w0_ch67 gsb
  have b5 : Mb (67 + 5) = Ma (67 + 5) := by rw [← hMb, up_ne (by omega)]
  have b3 : Mb (67 + 3) = Ma (67 + 3) := by rw [← hMb, up_ne (by omega)]
  have oc : ∀ p, 0 ≤ p → p < othA (AA M) 0 * othA (AA M) 1 → 0 ≤ othA (AA M) (28 + p) ∧ othA (AA M) (28 + p) < othA (AA M) 2 := fun p a b => by
    rw [oth_at (by omega), oth_at (by omega)] at *
    exact ((rr_c h).2.2.2.2.2.2.1 p a b).2
  have gO := good_A (oth_good gA.1) oc
  have ve : VE (Mc (67 + 1)) (Mc (67 + 6)) (Mc (67 + 7)) (Mc (67 + 8)) (Mc (67 + 3)) (Mc 67 8) (othA (AA M)) (xH (othA (AA M))) (xP (othA (AA M))) (xR (othA (AA M))) (xW (othA (AA M))) (xn (othA (AA M))) := by
    have c1 := fc2 (67 + 1) (by omega) (by omega)
    refine arr_ve (fun k a b => by rw [c1]; exact hb1 k a b) (oth_good gA.1) (fun p a b => ?_) (fun k a b => ?_) (by rw [c1]; exact hc8) (fun i a b => ?_)
    · rw [fc2 (67 + 5) (by omega) (by omega), b5, oth_at (by omega)]
      exact (ra.2.2.2.2.2.2.1 p a b).1
    · rw [fc2 (67 + 3) (by omega) (by omega), b3, oth_at (by omega)]
      rw [oth_at (by omega)] at b
      exact (ra.2.2.2.2.2.1 k a b).1
    · rw [c1] at b ⊢
      rw [fc2 (67 + 5) (by omega) (by omega)]
      exact hci i a b
  have wc : goodW Mc 67 := fun k a b => by rw [fc2 (67 + 3) (by omega) (by omega), b3]; exact wa k a b
  obtain ⟨Md, fd, ed, l0, l1⟩ := c_lA (X := X) w0_ch67 (by omega) wc ve gO
  have FR : ∀ b, (b < 36 ∨ 45 < b) → (b < 67 ∨ 80 < b) → Md b = M b := fun b x y => by
    rw [fd b (by omega), fc b (by omega), ← hMb, up_ne (by omega), fa b (by omega)]
  have r1 : RO M (up Md 0 0 0) 0 := RO_s FR
  have hm := mds_up r1
  -- the model
  generalize hM1 : up Md 0 0 0 = M1 at r1 hm
  have q14 := q_at hm (k := 14) (by omega) (by omega)
  generalize hN1 : up M1 (140 + 1) 14 (1 - AA M 14) = N1
  have n1 : ∀ k, 0 ≤ k → k < 80 → N1 (140 + 1) k = othA (AA M) k := fun k a b => by
    rw [← hN1]
    by_cases z : k = 14
    · subst z
      rw [up_eq]; rfl
    · rw [up_ne2 z, oth_at z]; exact q_at hm a b
  have gsn : goodS (N1 (140 + 1)) := by
    have g := oth_good gA.1
    unfold goodS at g ⊢
    rw [n1 0 (by omega) (by omega), n1 1 (by omega) (by omega), n1 2 (by omega) (by omega), n1 3 (by omega) (by omega), n1 4 (by omega) (by omega), n1 5 (by omega) (by omega), n1 6 (by omega) (by omega), n1 7 (by omega) (by omega), n1 8 (by omega) (by omega), n1 9 (by omega) (by omega), n1 10 (by omega) (by omega), n1 11 (by omega) (by omega), n1 12 (by omega) (by omega), n1 13 (by omega) (by omega), n1 14 (by omega) (by omega)]
    exact g
  have xnN : xn (N1 (140 + 1)) = xn (AA M) := by
    unfold xn
    rw [n1 0 (by omega) (by omega), n1 1 (by omega) (by omega), oth_at (by omega), oth_at (by omega)]
  have plN : ∀ i, plF (N1 (140 + 1)) i = plF (othA (AA M)) i := fun i => by
    unfold plF
    rw [n1 0 (by omega) (by omega), n1 14 (by omega) (by omega)]
  obtain ⟨N2, f2, i2, o2, e2⟩ := m_numbers (X := X) (M := N1) gsn
  have xnO : xn (othA (AA M)) = xn (AA M) := by
    unfold xn
    rw [oth_at (by omega), oth_at (by omega)]
  have n2 : N2 (140 + 1) = N1 (140 + 1) := f2 _ (by omega) (by omega)
  have rnu2 : RNu (othA (AA M)) (N2 (140 + 9)) (N2 (140 + 10)) := fun i a b => by
    have hx : i < xn (AA M) := by rw [← xnO]; exact b
    have e := i2 i a (by rw [xnN]; exact hx)
    rw [plN] at e
    have hw := xn_pos (oth_good gA.1) (show 0 < xn (othA (AA M)) by rw [xnO]; omega)
    have p := plF_rng a b hw
    refine ⟨e.1, ?_⟩
    rw [e.2]
    have p2 : plF (othA (AA M)) i < 48 := by
      have := (xn_rng h).2
      have e3 : othA (AA M) 0 * othA (AA M) 1 = xn (AA M) := xnO
      omega
    exact n1 _ (by omega) (by omega)
  have qv : QV N2 (othA (AA M)) (fun _ => -1) (fun _ => -1) → True := fun _ => trivial
  have veM : VE (N2 (140 + 1)) (N2 (140 + 10)) (fun i => N2 (140 + 9) i % N2 (140 + 1) 0) (fun i => i / N2 (140 + 1) 0) (fun k => N2 (140 + 1) (16 + 2 * k)) (N2 (140 + 1) 0 * N2 (140 + 1) 1) (othA (AA M)) (xH (othA (AA M))) (xP (othA (AA M))) (xR (othA (AA M))) (xW (othA (AA M))) (xn (othA (AA M))) := by
    obtain ⟨v1, v2, v3, v4⟩ := rnu_ve rnu2
    rw [n2]
    have e0 := n1 0 (by omega) (by omega)
    have e1 := n1 1 (by omega) (by omega)
    have e2' := n1 2 (by omega) (by omega)
    refine ⟨by rw [e0, e1], fun k a b => n1 k a (by omega), fun i a b => ?_, fun k a b => n1 _ (by omega) (by have := gO.1.2.2.1; omega)⟩
    rw [e0, e1] at b
    have e := v3 i a b
    rw [e0]
    exact e
  have gmN : goodM N2 140 := by
    refine ⟨ve_goodN veM gO, fun i a b => ?_⟩
    rw [n2, n1 0 (by omega) (by omega), n1 1 (by omega) (by omega)] at b
    have hx : i < xn (othA (AA M)) := b
    have hw := xn_pos (oth_good gA.1) (show 0 < xn (othA (AA M)) by omega)
    have p := plF_rng a b hw
    have e := (rnu2 i a b).1
    have := gO.2.1.2
    rw [e]
    exact ⟨p.1, Int.lt_of_lt_of_le p.2.1 this⟩
  have gvN : goodV N2 140 := fun k a b => by
    rw [n2, n1 _ (by omega) (by omega), oth_at (by omega)]
    exact ((rr_c h).2.2.2.2.1 k a b).2.1
  obtain ⟨N3, f3, e3, -⟩ := m_lA (X := X) gmN gvN veM
  have n3 : N3 (140 + 1) = N1 (140 + 1) := by rw [f3.1 _ (by omega) (by omega), n2]
  generalize hN4 : up N3 (140 + 1) 14 (AA M 14) = N4
  have n4 : N4 (140 + 1) = M (140 + 1) := by
    rw [← hN4]
    funext k
    by_cases z : k = 14
    · subst z
      rw [up_eq]
      exact (rr_at (by omega) (by omega)).symm
    · rw [up_ne2 z, n3, ← hN1, up_ne2 z, hm _ (by omega)]
  obtain ⟨N5, f5, i5, o5, e5⟩ := m_numbers (X := X) (M := N4) (by rw [n4]; exact (rr_gm h).1.1)
  rw [n4] at i5 o5
  have xn4 : xn (M (140 + 1)) = xn (AA M) := n_m h
  have cells : ∀ b, b ≠ 140 + 1 → b ≠ 140 + 9 → b ≠ 140 + 10 → (b < 140 ∨ (140 < b ∧ b < 152) ∨ 159 < b) → N5 b = M1 b := fun b h1 h9 h10 hb => by
    rw [f5 b h9 h10, ← hN4, up_ne h1, f3.1 b (by omega) (by omega), f2 b h9 h10, ← hN1, up_ne h1]
  have c9 : N5 (140 + 9) = M (140 + 9) ∧ N5 (140 + 10) = M (140 + 10) := by
    constructor
    · funext i
      by_cases z : 0 ≤ i ∧ i < xn (AA M)
      · rw [(i5 i z.1 (by rw [xn4]; exact z.2)).1, PO_m h z.1 z.2]
        unfold plF
        rw [rr_at (M := M) (k := 0) (by omega) (by omega), rr_at (M := M) (k := 14) (by omega) (by omega)]
      · rw [(o5 i (by rw [xn4]; omega)).1, ← hN4, up_ne (by omega), f3.1 _ (by omega) (by omega), (o2 i (by rw [xnN]; omega)).1, ← hN1, up_ne (by omega), hm _ (by omega)]
    · funext i
      by_cases z : 0 ≤ i ∧ i < xn (AA M)
      · rw [(i5 i z.1 (by rw [xn4]; exact z.2)).2, CO_m h z.1 z.2]
        have ep : plF (M (140 + 1)) i = plF (AA M) i := by
          unfold plF
          rw [rr_at (M := M) (k := 0) (by omega) (by omega), rr_at (M := M) (k := 14) (by omega) (by omega)]
        have hw := xn_pos gA.1 (show 0 < xn (AA M) by omega)
        have p := plF_rng (A := AA M) z.1 z.2 hw
        rw [ep]
        have n48 := (xn_rng h).2
        have p2 : plF (AA M) i < 48 := Int.lt_of_lt_of_le p.2.1 n48
        exact rr_at (by omega) (by omega)
      · rw [(o5 i (by rw [xn4]; omega)).2, ← hN4, up_ne (by omega), f3.1 _ (by omega) (by omega), (o2 i (by rw [xnN]; omega)).2, ← hN1, up_ne (by omega), hm _ (by omega)]
  refine op_ro (v := vI (lstA (othA (AA M)) (xH (othA (AA M))) (xP (othA (AA M))) (xR (othA (AA M))) (xW (othA (AA M))) (xn (othA (AA M))))) (M2 := up N5 140 2 0) (st := 0) h ?_ r1 ?_ (rom_up (fun b b1 b2 => ?_) (fun i hi h2 => ?_))
  · rw [E_160 k0]
    simp (disch := first | assumption | decide | omega | (simp only [List.length_cons, List.length_nil] <;> omega)) only [lgt_0, lgt_s, lset_0, lset_s, lst1_0, lst1_s, lst2_0, lst2_s, ev_iconst, ev_lconst, ev_ldc, ev_null, ev_iload, ev_lload, ev_aload, ev_istore, ev_lstore, ev_astore, ev_iinc, ev_iadd, ev_isub, ev_imul, ev_iand, ev_ior, ev_ishl, ev_ishr, ev_idiv, ev_irem, ev_ineg, ev_ladd, ev_lsub, ev_lmul, ev_land, ev_lor, ev_ldiv, ev_lrem, ev_lshl, ev_i2l, ev_l2i, ev_i2b, ev_i2s, ev_lcmp, ev_dupI, ev_dupR, ev_dup2, ev_popI, ev_popR, ev_alen, ev_xlen, ev_xald, ev_iald, ev_lald, ev_bald, ev_zald, ev_aald, ev_iast, ev_last, ev_bast, ev_zast, ev_aast, ev_gfI, ev_gfL, ev_gfR, ev_pfI, ev_pfZ, ev_pfL, ev_pfR, ev_new, ev_newa, ev_newq, ev_copy, ev_slen, ev_schr, ev_obj, ev_mmin, ev_mabs, ev_mmax, ev_goto, ev_jsr, ev_icmp_eq, ev_if_eq, ev_icmp_ne, ev_if_ne, ev_icmp_lt, ev_if_lt, ev_icmp_ge, ev_if_ge, ev_icmp_gt, ev_if_gt, ev_icmp_le, ev_if_le, ev_ifnull0, ev_ifnull1, ev_ifnn0, ev_ifnn1, ev_tsw, ev_lsw, ev_iret, ev_zret, ev_lret, ev_aret, ev_ret, ev_call0, ev_call1, ev_call2, ev_call3, ev_call4, ev_call5, ev_call6, Option.toList_some, Option.toList_none, List.cons_append, List.nil_append, List.length_cons, List.length_nil, Nat.reduceMod, Nat.reduceDiv, Nat.reduceLeDiff, nc, ↓reduceIte, Nat.zero_le, reduceCtorEq, w32_id, Int.reduceEq, Int.reduceNe, Int.reduceLT, Int.reduceLE, Int.reduceGT, Int.reduceGE, Int.reduceAdd, Int.reduceSub, Int.reduceMul, Int.reduceNeg, ne_eq, not_true_eq_false, not_false_eq_true, eq_self, ↓if_pos, ↓if_neg, w0_r0_3, w0_r0_4, w0_r0_5, w0_r0_6, w0_r0_7, w0_r0_8, w0_r0_10, w0_r0_11, w0_r0_12, w0_r0_13, w0_r0_14, w0_r0_15, w0_r0_16, w0_r0_17, w0_r0_18, cr0, cr1, cr2, cr3, cr4, cr5, cr6, cr7, J_160_0, k_160_0, ea, tr0, tr1, tr2, tr3, tr4, tr5, tr6, tr7, s14, hMb, ec, ed, s_answer, hM1]
  · obtain ⟨r_at, k_at, l_at⟩ := md_at w0_md140
    have m14 : N3 (140 + 1) 14 = 1 - AA M 14 := by rw [n3, ← hN1, up_eq]
    have e14 : 1 - (1 - AA M 14) = AA M 14 := by omega
    rw [E_321 mk0]
    simp (disch := first | assumption | decide | omega | (simp only [List.length_cons, List.length_nil] <;> omega)) only [lgt_0, lgt_s, lset_0, lset_s, lst1_0, lst1_s, lst2_0, lst2_s, ev_iconst, ev_lconst, ev_ldc, ev_null, ev_iload, ev_lload, ev_aload, ev_istore, ev_lstore, ev_astore, ev_iinc, ev_iadd, ev_isub, ev_imul, ev_iand, ev_ior, ev_ishl, ev_ishr, ev_idiv, ev_irem, ev_ineg, ev_ladd, ev_lsub, ev_lmul, ev_land, ev_lor, ev_ldiv, ev_lrem, ev_lshl, ev_i2l, ev_l2i, ev_i2b, ev_i2s, ev_lcmp, ev_dupI, ev_dupR, ev_dup2, ev_popI, ev_popR, ev_alen, ev_xlen, ev_xald, ev_iald, ev_lald, ev_bald, ev_zald, ev_aald, ev_iast, ev_last, ev_bast, ev_zast, ev_aast, ev_gfI, ev_gfL, ev_gfR, ev_pfI, ev_pfZ, ev_pfL, ev_pfR, ev_new, ev_newa, ev_newq, ev_copy, ev_slen, ev_schr, ev_obj, ev_mmin, ev_mabs, ev_mmax, ev_goto, ev_jsr, ev_icmp_eq, ev_if_eq, ev_icmp_ne, ev_if_ne, ev_icmp_lt, ev_if_lt, ev_icmp_ge, ev_if_ge, ev_icmp_gt, ev_if_gt, ev_icmp_le, ev_if_le, ev_ifnull0, ev_ifnull1, ev_ifnn0, ev_ifnn1, ev_tsw, ev_lsw, ev_iret, ev_zret, ev_lret, ev_aret, ev_ret, ev_call0, ev_call1, ev_call2, ev_call3, ev_call4, ev_call5, ev_call6, Option.toList_some, Option.toList_none, List.cons_append, List.nil_append, List.length_cons, List.length_nil, Nat.reduceMod, Nat.reduceDiv, Nat.reduceLeDiff, nc, ↓reduceIte, Nat.zero_le, reduceCtorEq, w32_id, Int.reduceEq, Int.reduceNe, Int.reduceLT, Int.reduceLE, Int.reduceGT, Int.reduceGE, Int.reduceAdd, Int.reduceSub, Int.reduceMul, Int.reduceNeg, ne_eq, not_true_eq_false, not_false_eq_true, eq_self, ↓if_pos, ↓if_neg, J_321_0, k_321_0, r_at, q14, hN1, e2, e3, m14, e14, hN4, e5, m_gives hmd]
  · by_cases z1 : b = 140 + 1
    · rw [z1, f5 _ (by omega) (by omega), n4, hm _ (by omega)]
    · by_cases z9 : b = 140 + 9
      · rw [z9, c9.1, hm _ (by omega)]
      · by_cases z10 : b = 140 + 10
        · rw [z10, c9.2, hm _ (by omega)]
        · exact cells b z1 z9 z10 (by omega)
  · rw [f5 140 (by omega) (by omega), ← hN4, up_ne (by omega), f3.2 i (by omega), f2 140 (by omega) (by omega), ← hN1, up_ne (by omega)]
end OTH
