/-! CHARTS: the class's reader, parts told. -/
section RDC
variable {X : Int → Int} {M : Mem} {b : Int → Int} {n p : Int} {d : DS}
theorem cD_goodS (hd : cDr M d) (gs : goodS d.1) : goodS (M 23) := by
  have h := hd.2.2.1
  unfold goodS at gs ⊢
  rw [h 0 (by omega) (by omega), h 1 (by omega) (by omega), h 2 (by omega) (by omega), h 3 (by omega) (by omega), h 4 (by omega) (by omega), h 5 (by omega) (by omega), h 6 (by omega) (by omega), h 7 (by omega) (by omega), h 8 (by omega) (by omega), h 9 (by omega) (by omega), h 10 (by omega) (by omega), h 11 (by omega) (by omega), h 12 (by omega) (by omega), h 13 (by omega) (by omega), h 14 (by omega) (by omega)]
  exact gs
/-- the word's index among the names -/
theorem c_named (hd : cDr M d) (hJ : dI d) {w : List Int} (lw : lts w) : evc X 66 [vR (some 22), vL (c32 w)] SH0 M = some (some (vI (fnF d.2.1 (d.1 2) w)), SH0, M) := by
  have gs := cD_goodS hd hJ.1
  have e := s_named (X := X) (M := M) w0_ch22 gs (z := c32 w)
  have e2 : M (22 + 1) 2 = d.1 2 := hd.2.2.1 2 (by omega) (by omega)
  rw [e2] at e
  have g2 := hJ.1.2.2.1
  have ec : firstN (fun k => decide (M (22 + 2) k = c32 w)) (d.1 2).toNat = fnF d.2.1 (d.1 2) w := firstN_congr fun i hi => by
    have h4 := hd.2.2.2.1 i (by omega) (by omega)
    have h5 := hJ.2.2.2.2.1 i (by omega) (by omega)
    have iff : (M (22 + 2) i = c32 w) ↔ (d.2.1 i = w) := by
      show M 24 i = c32 w ↔ _
      rw [h4]
      exact ⟨fun z => c32_inj (d.2.1 i).length (Nat.le_refl _) h5.1 lw z, fun z => by rw [z]⟩
    by_cases z : d.2.1 i = w
    · rw [decide_eq_true z, decide_eq_true (iff.mpr z)]
    · rw [decide_eq_false z, decide_eq_false (fun y => z (iff.mp y))]
  rw [ec] at e
  exact e
theorem cD_nm {M' : Mem} (hd : cDr M d) {i : Int} {w : List Int} (hi : d.1 2 ≤ i) (fr : ∀ c, c ≠ 24 → M' c = M c) (f24 : ∀ k, k ≠ i → M' 24 k = M 24 k) : cDr M' (setN d i w) := by
  obtain ⟨h1, h2, h3, h4, h5, h6⟩ := hd
  refine ⟨by rw [fr 21 (by omega)]; exact h1, fun r hr => by rw [fr 21 (by omega)]; exact h2 r hr, fun k k0 k1 => by rw [fr 23 (by omega)]; exact h3 k k0 k1, fun k k0 k1 => ?_, fun k k0 k1 => by rw [fr 25 (by omega), fr 26 (by omega)]; exact h5 k k0 k1, fun k k0 k1 => by rw [fr 27 (by omega)]; exact h6 k k0 k1⟩
  have k1' : k < d.1 2 := k1
  show M' 24 k = c32 (upL d.2.1 i w k)
  unfold upL
  rw [if_neg (by omega), f24 k (by omega)]
  exact h4 k k0 k1'
theorem cD_w (hd : cDr M d) {i v : Int} : cDr (up M 25 i v) (setW d i v) := by
  obtain ⟨h1, h2, h3, h4, h5, h6⟩ := hd
  refine ⟨by rw [up_ne (by omega)]; exact h1, fun r hr => by rw [up_ne (by omega)]; exact h2 r hr, fun k k0 k1 => by rw [up_ne (by omega)]; exact h3 k k0 k1, fun k k0 k1 => by rw [up_ne (by omega)]; exact h4 k k0 k1, fun k k0 k1 => ⟨?_, by rw [up_ne (by omega)]; exact (h5 k k0 k1).2⟩, fun k k0 k1 => by rw [up_ne (by omega)]; exact h6 k k0 k1⟩
  show up M 25 i v 25 k = upH d.2.2.1 i v k
  unfold upH
  by_cases z : k = i
  · rw [if_pos z, z, up_eq]
  · rw [if_neg z, up_ne2 z]
    exact (h5 k k0 k1).1
theorem cD_y (hd : cDr M d) {i v : Int} : cDr (up M 26 i v) (setY d i v) := by
  obtain ⟨h1, h2, h3, h4, h5, h6⟩ := hd
  refine ⟨by rw [up_ne (by omega)]; exact h1, fun r hr => by rw [up_ne (by omega)]; exact h2 r hr, fun k k0 k1 => by rw [up_ne (by omega)]; exact h3 k k0 k1, fun k k0 k1 => by rw [up_ne (by omega)]; exact h4 k k0 k1, fun k k0 k1 => ⟨by rw [up_ne (by omega)]; exact (h5 k k0 k1).1, ?_⟩, fun k k0 k1 => by rw [up_ne (by omega)]; exact h6 k k0 k1⟩
  show up M 26 i v 26 k = upH d.2.2.2.1 i v k
  unfold upH
  by_cases z : k = i
  · rw [if_pos z, z, up_eq]
  · rw [if_neg z, up_ne2 z]
    exact (h5 k k0 k1).2
theorem cD_c (hd : cDr M d) {i v : Int} : cDr (up M 27 i v) (setC d i v) := by
  obtain ⟨h1, h2, h3, h4, h5, h6⟩ := hd
  refine ⟨by rw [up_ne (by omega)]; exact h1, fun r hr => by rw [up_ne (by omega)]; exact h2 r hr, fun k k0 k1 => by rw [up_ne (by omega)]; exact h3 k k0 k1, fun k k0 k1 => by rw [up_ne (by omega)]; exact h4 k k0 k1, fun k k0 k1 => by rw [up_ne (by omega), up_ne (by omega)]; exact h5 k k0 k1, fun k k0 k1 => ?_⟩
  show up M 27 i v 27 k = upH d.2.2.2.2.1 i v k
  unfold upH
  by_cases z : k = i
  · rw [if_pos z, z, up_eq]
  · rw [if_neg z, up_ne2 z]
    exact h6 k k0 k1
theorem cD_r (hd : cDr M d) : cDr (up M 21 3 (d.2.2.2.2.2.1 + 1)) (setR d) := by
  obtain ⟨h1, h2, h3, h4, h5, h6⟩ := hd
  exact ⟨by rw [up_eq]; rfl, fun r hr => by rw [up_ne2 (by omega)]; exact h2 r hr, fun k k0 k1 => by rw [up_ne (by omega)]; exact h3 k k0 k1, fun k k0 k1 => by rw [up_ne (by omega)]; exact h4 k k0 k1, fun k k0 k1 => by rw [up_ne (by omega), up_ne (by omega)]; exact h5 k k0 k1, fun k k0 k1 => by rw [up_ne (by omega)]; exact h6 k k0 k1⟩
/-- one colour more -/
theorem cD_col (hd : cDr M d) (g2 : 0 ≤ d.1 2) (hN : M 24 (d.1 2) = c32 (d.2.1 (d.1 2))) : cDr (up M 23 2 (d.1 2 + 1)) (setS d 2 (d.1 2 + 1)) := by
  obtain ⟨h1, h2, h3, h4, h5, h6⟩ := hd
  refine ⟨by rw [up_ne (by omega)]; exact h1, fun r hr => by rw [up_ne (by omega)]; exact h2 r hr, fun k k0 k1 => ?_, fun k k0 k1 => ?_, fun k k0 k1 => by rw [up_ne (by omega), up_ne (by omega)]; exact h5 k k0 k1, fun k k0 k1 => by rw [up_ne (by omega)]; exact h6 k k0 k1⟩
  · show up M 23 2 (d.1 2 + 1) 23 k = upH d.1 2 (d.1 2 + 1) k
    unfold upH
    by_cases z : k = 2
    · rw [if_pos z, z, up_eq]
    · rw [if_neg z, up_ne2 z]
      exact h3 k k0 k1
  · have k1' : k < upH d.1 2 (d.1 2 + 1) 2 := k1
    unfold upH at k1'
    rw [if_pos rfl] at k1'
    rw [up_ne (by omega)]
    by_cases z : k = d.1 2
    · rw [z]; exact hN
    · exact h4 k k0 (by omega)
theorem fR_w5 {M M' : Mem} {i v : Int} (h : fR M M') (hv : 0 ≤ v ∧ v ≤ 9) : fR M (up M' 25 i v) := ⟨fun c a x y => by rw [up_ne (by omega)]; exact h.1 c a x y, by rw [up_ne (by omega)]; exact h.2.1, fun z => by
  have r := h.2.2 z
  unfold RX at r ⊢
  intro k k0 k1
  rw [up_ne (show (26 : Nat) ≠ 25 by omega)]
  by_cases y : k = i
  · rw [y, up_eq]
    exact ⟨hv, by rw [← y]; exact (r k k0 k1).2⟩
  · rw [up_ne2 y]
    exact r k k0 k1⟩
theorem fR_y6 {M M' : Mem} {i v : Int} (h : fR M M') (hv : 0 ≤ v ∧ v ≤ 99) : fR M (up M' 26 i v) := ⟨fun c a x y => by rw [up_ne (by omega)]; exact h.1 c a x y, by rw [up_ne (by omega)]; exact h.2.1, fun z => by
  have r := h.2.2 z
  unfold RX at r ⊢
  intro k k0 k1
  rw [up_ne (show (25 : Nat) ≠ 26 by omega)]
  by_cases y : k = i
  · rw [y, up_eq]
    exact ⟨by rw [← y]; exact (r k k0 k1).1, hv⟩
  · rw [up_ne2 y]
    exact r k k0 k1⟩
theorem c_col (g : gT b n) (h : cAt M b n p) (p0 : 0 ≤ p) (p1 : p ≤ n) (hk : tK b n p ≠ 0) (hd : cDr M d) (hJ : dI d) : ∃ v M', fR M M' ∧ cRes b n (pCol b n d p) v M' ∧ evc X 64 [vR (some 21)] SH0 M = some (some (vI v), SH0, M') := by
  have k21 := w0_k21
  have r0 := w0_r21_0
  have r1 := w0_r21_1
  have ct := w0_ch22
  obtain ⟨tk0, tr0, tr1, tr2, tr3, tr4, tr5, tr6, tr7, tk1, tk2, tk3, tk4, tk5, tk6, tk7, tk8, tl1, tl2, tl3, tl4, tl5, tl6, tl7, tl8⟩ := ct
  have g2 := hJ.1.2.2.1
  have s2 : M 23 2 = d.1 2 := hd.2.2.1 2 (by omega) (by omega)
  rw [E_64 k21]
  unfold pCol
  by_cases z5 : 5 ≤ d.1 2
  · have w := c_wrong (X := X) (M := M) (w := 6)
    rw [h.2.1] at w
    refine ⟨0, _, fR_w fR_0, cRes_e (e := (6, tQ b n p)) (if_pos z5) (by rw [up_ne2 (by omega), up_eq]) up_eq, ?_⟩
    simp (disch := first | assumption | decide | omega | (simp only [List.length_cons, List.length_nil] <;> omega)) only [lgt_0, lgt_s, lset_0, lset_s, lst1_0, lst1_s, lst2_0, lst2_s, ev_iconst, ev_lconst, ev_ldc, ev_null, ev_iload, ev_lload, ev_aload, ev_istore, ev_lstore, ev_astore, ev_iinc, ev_iadd, ev_isub, ev_imul, ev_iand, ev_ior, ev_ishl, ev_ishr, ev_idiv, ev_irem, ev_ineg, ev_ladd, ev_lsub, ev_lmul, ev_land, ev_lor, ev_ldiv, ev_lrem, ev_lshl, ev_i2l, ev_l2i, ev_i2b, ev_i2s, ev_lcmp, ev_dupI, ev_dupR, ev_dup2, ev_popI, ev_popR, ev_alen, ev_xlen, ev_xald, ev_iald, ev_lald, ev_bald, ev_zald, ev_aald, ev_iast, ev_last, ev_bast, ev_zast, ev_aast, ev_gfI, ev_gfL, ev_gfR, ev_pfI, ev_pfZ, ev_pfL, ev_pfR, ev_new, ev_newa, ev_newq, ev_copy, ev_slen, ev_schr, ev_obj, ev_mmin, ev_mabs, ev_mmax, ev_goto, ev_jsr, ev_icmp_eq, ev_if_eq, ev_icmp_ne, ev_if_ne, ev_icmp_lt, ev_if_lt, ev_icmp_ge, ev_if_ge, ev_icmp_gt, ev_if_gt, ev_icmp_le, ev_if_le, ev_ifnull0, ev_ifnull1, ev_ifnn0, ev_ifnn1, ev_tsw, ev_lsw, ev_iret, ev_zret, ev_lret, ev_aret, ev_ret, ev_call0, ev_call1, ev_call2, ev_call3, ev_call4, ev_call5, ev_call6, Option.toList_some, Option.toList_none, List.cons_append, List.nil_append, List.length_cons, List.length_nil, Nat.reduceMod, Nat.reduceDiv, Nat.reduceLeDiff, nc, ↓reduceIte, Nat.zero_le, reduceCtorEq, w32_id, Int.reduceEq, Int.reduceNe, Int.reduceLT, Int.reduceLE, Int.reduceGT, Int.reduceGE, Int.reduceAdd, Int.reduceSub, Int.reduceMul, Int.reduceNeg, ne_eq, not_true_eq_false, not_false_eq_true, eq_self, ↓if_pos, ↓if_neg, J_64_0, k_64_0, J_64_25, k_64_25, J_64_37, k_64_37, J_64_53, k_64_53, J_64_80, k_64_80, J_64_121, k_64_121, J_64_123, k_64_123, J_64_164, k_64_164, J_64_166, k_64_166, r0, r1, tr0, tr1, tr2, tr3, tr4, tr5, tr6, tr7, s2, z5, w]
  rw [if_neg z5]
  unfold pCol1
  have t1 := tE_on (b := b) p1 hk p0
  obtain ⟨v, Ma, fa, hv, e1⟩ := c_go (X := X) g h.1 t1.1 t1.2.1
  rcases hv with ⟨zk, hv, y2, y3⟩ | ⟨zk, hv, ca⟩
  · subst hv
    refine ⟨0, Ma, fR_f fa, cRes_e (e := (1, tQ b n (tE b n p))) (if_pos zk) y2 y3, ?_⟩
    simp (disch := first | assumption | decide | omega | (simp only [List.length_cons, List.length_nil] <;> omega)) only [lgt_0, lgt_s, lset_0, lset_s, lst1_0, lst1_s, lst2_0, lst2_s, ev_iconst, ev_lconst, ev_ldc, ev_null, ev_iload, ev_lload, ev_aload, ev_istore, ev_lstore, ev_astore, ev_iinc, ev_iadd, ev_isub, ev_imul, ev_iand, ev_ior, ev_ishl, ev_ishr, ev_idiv, ev_irem, ev_ineg, ev_ladd, ev_lsub, ev_lmul, ev_land, ev_lor, ev_ldiv, ev_lrem, ev_lshl, ev_i2l, ev_l2i, ev_i2b, ev_i2s, ev_lcmp, ev_dupI, ev_dupR, ev_dup2, ev_popI, ev_popR, ev_alen, ev_xlen, ev_xald, ev_iald, ev_lald, ev_bald, ev_zald, ev_aald, ev_iast, ev_last, ev_bast, ev_zast, ev_aast, ev_gfI, ev_gfL, ev_gfR, ev_pfI, ev_pfZ, ev_pfL, ev_pfR, ev_new, ev_newa, ev_newq, ev_copy, ev_slen, ev_schr, ev_obj, ev_mmin, ev_mabs, ev_mmax, ev_goto, ev_jsr, ev_icmp_eq, ev_if_eq, ev_icmp_ne, ev_if_ne, ev_icmp_lt, ev_if_lt, ev_icmp_ge, ev_if_ge, ev_icmp_gt, ev_if_gt, ev_icmp_le, ev_if_le, ev_ifnull0, ev_ifnull1, ev_ifnn0, ev_ifnn1, ev_tsw, ev_lsw, ev_iret, ev_zret, ev_lret, ev_aret, ev_ret, ev_call0, ev_call1, ev_call2, ev_call3, ev_call4, ev_call5, ev_call6, Option.toList_some, Option.toList_none, List.cons_append, List.nil_append, List.length_cons, List.length_nil, Nat.reduceMod, Nat.reduceDiv, Nat.reduceLeDiff, nc, ↓reduceIte, Nat.zero_le, reduceCtorEq, w32_id, Int.reduceEq, Int.reduceNe, Int.reduceLT, Int.reduceLE, Int.reduceGT, Int.reduceGE, Int.reduceAdd, Int.reduceSub, Int.reduceMul, Int.reduceNeg, ne_eq, not_true_eq_false, not_false_eq_true, eq_self, ↓if_pos, ↓if_neg, J_64_0, k_64_0, J_64_25, k_64_25, J_64_37, k_64_37, J_64_53, k_64_53, J_64_80, k_64_80, J_64_121, k_64_121, J_64_123, k_64_123, J_64_164, k_64_164, J_64_166, k_64_166, r0, r1, tr0, tr1, tr2, tr3, tr4, tr5, tr6, tr7, s2, z5, e1]
  subst hv
  rw [if_neg zk]
  have hda : cDr Ma d := cD_f hd fun c c0 c1 => fa.1 c (by omega)
  have en := c_isName (X := X) ca t1.2.1
  by_cases zn : nmB b n CK (tE b n p) = false
  · rw [zn, if_neg (by decide)] at en
    have w := c_wrong (X := X) (M := Ma) (w := 2)
    rw [ca.2.1] at w
    refine ⟨0, _, fR_w (fR_f fa), cRes_e (e := (2, tQ b n (tE b n p))) (if_pos zn) (by rw [up_ne2 (by omega), up_eq]) up_eq, ?_⟩
    simp (disch := first | assumption | decide | omega | (simp only [List.length_cons, List.length_nil] <;> omega)) only [lgt_0, lgt_s, lset_0, lset_s, lst1_0, lst1_s, lst2_0, lst2_s, ev_iconst, ev_lconst, ev_ldc, ev_null, ev_iload, ev_lload, ev_aload, ev_istore, ev_lstore, ev_astore, ev_iinc, ev_iadd, ev_isub, ev_imul, ev_iand, ev_ior, ev_ishl, ev_ishr, ev_idiv, ev_irem, ev_ineg, ev_ladd, ev_lsub, ev_lmul, ev_land, ev_lor, ev_ldiv, ev_lrem, ev_lshl, ev_i2l, ev_l2i, ev_i2b, ev_i2s, ev_lcmp, ev_dupI, ev_dupR, ev_dup2, ev_popI, ev_popR, ev_alen, ev_xlen, ev_xald, ev_iald, ev_lald, ev_bald, ev_zald, ev_aald, ev_iast, ev_last, ev_bast, ev_zast, ev_aast, ev_gfI, ev_gfL, ev_gfR, ev_pfI, ev_pfZ, ev_pfL, ev_pfR, ev_new, ev_newa, ev_newq, ev_copy, ev_slen, ev_schr, ev_obj, ev_mmin, ev_mabs, ev_mmax, ev_goto, ev_jsr, ev_icmp_eq, ev_if_eq, ev_icmp_ne, ev_if_ne, ev_icmp_lt, ev_if_lt, ev_icmp_ge, ev_if_ge, ev_icmp_gt, ev_if_gt, ev_icmp_le, ev_if_le, ev_ifnull0, ev_ifnull1, ev_ifnn0, ev_ifnn1, ev_tsw, ev_lsw, ev_iret, ev_zret, ev_lret, ev_aret, ev_ret, ev_call0, ev_call1, ev_call2, ev_call3, ev_call4, ev_call5, ev_call6, Option.toList_some, Option.toList_none, List.cons_append, List.nil_append, List.length_cons, List.length_nil, Nat.reduceMod, Nat.reduceDiv, Nat.reduceLeDiff, nc, ↓reduceIte, Nat.zero_le, reduceCtorEq, w32_id, Int.reduceEq, Int.reduceNe, Int.reduceLT, Int.reduceLE, Int.reduceGT, Int.reduceGE, Int.reduceAdd, Int.reduceSub, Int.reduceMul, Int.reduceNeg, ne_eq, not_true_eq_false, not_false_eq_true, eq_self, ↓if_pos, ↓if_neg, J_64_0, k_64_0, J_64_25, k_64_25, J_64_37, k_64_37, J_64_53, k_64_53, J_64_80, k_64_80, J_64_121, k_64_121, J_64_123, k_64_123, J_64_164, k_64_164, J_64_166, k_64_166, r0, r1, tr0, tr1, tr2, tr3, tr4, tr5, tr6, tr7, s2, z5, e1, en, w]
  rw [if_neg zn]
  have zn' : nmB b n CK (tE b n p) = true := by simpa using zn
  rw [if_pos zn'] at en
  have nm := nmB_t zn'
  have lw := tW_lts nm.1
  have h6 : Ma 2 6 = c32 (tW b n (tE b n p)) := by
    rw [ca.2.2.2.2 nm.1]
    unfold wc
    rw [if_neg (by omega)]
  have ef := c_named (X := X) hda hJ (w := tW b n (tE b n p)) lw
  have t2 := tE_on (b := b) t1.2.1 (by rw [nm.1]; omega) t1.1
  generalize hw : tW b n (tE b n p) = w at h6 ef lw nm ⊢
  have fr := fnF_rng (NW := d.2.1) (w := w) g2.1
  by_cases zf : fnF d.2.1 (d.1 2) w ≠ -1
  · have w1 := c_wrong (X := X) (M := Ma) (w := 3)
    rw [ca.2.1] at w1
    refine ⟨0, _, fR_w (fR_f fa), cRes_e (e := (3, tQ b n (tE b n p))) (if_pos zf) (by rw [up_ne2 (by omega), up_eq]) up_eq, ?_⟩
    generalize fnF d.2.1 (d.1 2) w = fv at ef zf
    simp (disch := first | assumption | decide | omega | (simp only [List.length_cons, List.length_nil] <;> omega)) only [lgt_0, lgt_s, lset_0, lset_s, lst1_0, lst1_s, lst2_0, lst2_s, ev_iconst, ev_lconst, ev_ldc, ev_null, ev_iload, ev_lload, ev_aload, ev_istore, ev_lstore, ev_astore, ev_iinc, ev_iadd, ev_isub, ev_imul, ev_iand, ev_ior, ev_ishl, ev_ishr, ev_idiv, ev_irem, ev_ineg, ev_ladd, ev_lsub, ev_lmul, ev_land, ev_lor, ev_ldiv, ev_lrem, ev_lshl, ev_i2l, ev_l2i, ev_i2b, ev_i2s, ev_lcmp, ev_dupI, ev_dupR, ev_dup2, ev_popI, ev_popR, ev_alen, ev_xlen, ev_xald, ev_iald, ev_lald, ev_bald, ev_zald, ev_aald, ev_iast, ev_last, ev_bast, ev_zast, ev_aast, ev_gfI, ev_gfL, ev_gfR, ev_pfI, ev_pfZ, ev_pfL, ev_pfR, ev_new, ev_newa, ev_newq, ev_copy, ev_slen, ev_schr, ev_obj, ev_mmin, ev_mabs, ev_mmax, ev_goto, ev_jsr, ev_icmp_eq, ev_if_eq, ev_icmp_ne, ev_if_ne, ev_icmp_lt, ev_if_lt, ev_icmp_ge, ev_if_ge, ev_icmp_gt, ev_if_gt, ev_icmp_le, ev_if_le, ev_ifnull0, ev_ifnull1, ev_ifnn0, ev_ifnn1, ev_tsw, ev_lsw, ev_iret, ev_zret, ev_lret, ev_aret, ev_ret, ev_call0, ev_call1, ev_call2, ev_call3, ev_call4, ev_call5, ev_call6, Option.toList_some, Option.toList_none, List.cons_append, List.nil_append, List.length_cons, List.length_nil, Nat.reduceMod, Nat.reduceDiv, Nat.reduceLeDiff, nc, ↓reduceIte, Nat.zero_le, reduceCtorEq, w32_id, Int.reduceEq, Int.reduceNe, Int.reduceLT, Int.reduceLE, Int.reduceGT, Int.reduceGE, Int.reduceAdd, Int.reduceSub, Int.reduceMul, Int.reduceNeg, ne_eq, not_true_eq_false, not_false_eq_true, eq_self, ↓if_pos, ↓if_neg, J_64_0, k_64_0, J_64_25, k_64_25, J_64_37, k_64_37, J_64_53, k_64_53, J_64_80, k_64_80, J_64_121, k_64_121, J_64_123, k_64_123, J_64_164, k_64_164, J_64_166, k_64_166, r0, r1, tr0, tr1, tr2, tr3, tr4, tr5, tr6, tr7, s2, z5, e1, en, h6, ef, zf, w1]
  rw [if_neg zf]
  have zf' : fnF d.2.1 (d.1 2) w = -1 := Classical.not_not.mp zf
  rw [zf'] at ef
  -- the name
  have hdb := cD_nm (M' := up Ma 24 (d.1 2) (c32 w)) (w := w) hda (Int.le_refl _) (fun c hc => up_ne hc) (fun k hk => up_ne2 hk)
  have bN : up Ma 24 (d.1 2) (c32 w) 24 (d.1 2) = c32 w := up_eq
  have cb : cTc (up Ma 24 (d.1 2) (c32 w)) b n (tE b n (tE b n p)) := cTc_f ca.1 (up_ne (by omega)) (up_ne (by omega))
  have fb : fR M (up Ma 24 (d.1 2) (c32 w)) := fR_up (fR_f fa) (by omega)
  generalize hMb : up Ma 24 (d.1 2) (c32 w) = Mb at hdb bN cb fb
  unfold pCol2
  obtain ⟨v, Mc, fc, ⟨we, wo⟩, e2⟩ := c_goWord (X := X) g cb t2.1 t2.2.1 (k := 2) (by omega)
  cases hr2 : pWord b n (kl 2) (tE b n (tE b n p)) with
  | error er =>
    obtain ⟨hv, q2, q3⟩ := we er hr2
    subst hv
    refine ⟨0, Mc, fR_t fb (fR_f fc), cRes_e rfl q2 q3, ?_⟩
    simp (disch := first | assumption | decide | omega | (simp only [List.length_cons, List.length_nil] <;> omega)) only [lgt_0, lgt_s, lset_0, lset_s, lst1_0, lst1_s, lst2_0, lst2_s, ev_iconst, ev_lconst, ev_ldc, ev_null, ev_iload, ev_lload, ev_aload, ev_istore, ev_lstore, ev_astore, ev_iinc, ev_iadd, ev_isub, ev_imul, ev_iand, ev_ior, ev_ishl, ev_ishr, ev_idiv, ev_irem, ev_ineg, ev_ladd, ev_lsub, ev_lmul, ev_land, ev_lor, ev_ldiv, ev_lrem, ev_lshl, ev_i2l, ev_l2i, ev_i2b, ev_i2s, ev_lcmp, ev_dupI, ev_dupR, ev_dup2, ev_popI, ev_popR, ev_alen, ev_xlen, ev_xald, ev_iald, ev_lald, ev_bald, ev_zald, ev_aald, ev_iast, ev_last, ev_bast, ev_zast, ev_aast, ev_gfI, ev_gfL, ev_gfR, ev_pfI, ev_pfZ, ev_pfL, ev_pfR, ev_new, ev_newa, ev_newq, ev_copy, ev_slen, ev_schr, ev_obj, ev_mmin, ev_mabs, ev_mmax, ev_goto, ev_jsr, ev_icmp_eq, ev_if_eq, ev_icmp_ne, ev_if_ne, ev_icmp_lt, ev_if_lt, ev_icmp_ge, ev_if_ge, ev_icmp_gt, ev_if_gt, ev_icmp_le, ev_if_le, ev_ifnull0, ev_ifnull1, ev_ifnn0, ev_ifnn1, ev_tsw, ev_lsw, ev_iret, ev_zret, ev_lret, ev_aret, ev_ret, ev_call0, ev_call1, ev_call2, ev_call3, ev_call4, ev_call5, ev_call6, Option.toList_some, Option.toList_none, List.cons_append, List.nil_append, List.length_cons, List.length_nil, Nat.reduceMod, Nat.reduceDiv, Nat.reduceLeDiff, nc, ↓reduceIte, Nat.zero_le, reduceCtorEq, w32_id, Int.reduceEq, Int.reduceNe, Int.reduceLT, Int.reduceLE, Int.reduceGT, Int.reduceGE, Int.reduceAdd, Int.reduceSub, Int.reduceMul, Int.reduceNeg, ne_eq, not_true_eq_false, not_false_eq_true, eq_self, ↓if_pos, ↓if_neg, J_64_0, k_64_0, J_64_25, k_64_25, J_64_37, k_64_37, J_64_53, k_64_53, J_64_80, k_64_80, J_64_121, k_64_121, J_64_123, k_64_123, J_64_164, k_64_164, J_64_166, k_64_166, r0, r1, tr0, tr1, tr2, tr3, tr4, tr5, tr6, tr7, s2, z5, e1, en, h6, ef, hMb, e2]
  | ok p2 =>
  obtain ⟨hv, cc⟩ := wo p2 hr2
  subst hv
  have a1 := pWord_ok hr2
  have t3 := tE_on (b := b) t2.2.1 (by rw [a1.1]; omega) t2.1
  rw [← a1.2.2] at t3
  rw [bnd_o]
  have hdc : cDr Mc (setN d (d.1 2) w) := cD_f hdb fun c c0 c1 => fc.1 c (by omega)
  have cN : Mc 24 (d.1 2) = c32 w := by rw [fc.1 24 (by omega)]; exact bN
  obtain ⟨v, Md, fd, ne, no, e3⟩ := c_goNumber (X := X) g cc t3.1 t3.2.1 (lo := 0) (hi := 9)
  cases hr3 : pNum b n 0 9 p2 with
  | error er =>
    obtain ⟨hv, q2, q3⟩ := ne er hr3
    subst hv
    refine ⟨0, Md, fR_t (fR_t fb (fR_f fc)) (fR_f fd), cRes_e rfl q2 q3, ?_⟩
    simp (disch := first | assumption | decide | omega | (simp only [List.length_cons, List.length_nil] <;> omega)) only [lgt_0, lgt_s, lset_0, lset_s, lst1_0, lst1_s, lst2_0, lst2_s, ev_iconst, ev_lconst, ev_ldc, ev_null, ev_iload, ev_lload, ev_aload, ev_istore, ev_lstore, ev_astore, ev_iinc, ev_iadd, ev_isub, ev_imul, ev_iand, ev_ior, ev_ishl, ev_ishr, ev_idiv, ev_irem, ev_ineg, ev_ladd, ev_lsub, ev_lmul, ev_land, ev_lor, ev_ldiv, ev_lrem, ev_lshl, ev_i2l, ev_l2i, ev_i2b, ev_i2s, ev_lcmp, ev_dupI, ev_dupR, ev_dup2, ev_popI, ev_popR, ev_alen, ev_xlen, ev_xald, ev_iald, ev_lald, ev_bald, ev_zald, ev_aald, ev_iast, ev_last, ev_bast, ev_zast, ev_aast, ev_gfI, ev_gfL, ev_gfR, ev_pfI, ev_pfZ, ev_pfL, ev_pfR, ev_new, ev_newa, ev_newq, ev_copy, ev_slen, ev_schr, ev_obj, ev_mmin, ev_mabs, ev_mmax, ev_goto, ev_jsr, ev_icmp_eq, ev_if_eq, ev_icmp_ne, ev_if_ne, ev_icmp_lt, ev_if_lt, ev_icmp_ge, ev_if_ge, ev_icmp_gt, ev_if_gt, ev_icmp_le, ev_if_le, ev_ifnull0, ev_ifnull1, ev_ifnn0, ev_ifnn1, ev_tsw, ev_lsw, ev_iret, ev_zret, ev_lret, ev_aret, ev_ret, ev_call0, ev_call1, ev_call2, ev_call3, ev_call4, ev_call5, ev_call6, Option.toList_some, Option.toList_none, List.cons_append, List.nil_append, List.length_cons, List.length_nil, Nat.reduceMod, Nat.reduceDiv, Nat.reduceLeDiff, nc, ↓reduceIte, Nat.zero_le, reduceCtorEq, w32_id, Int.reduceEq, Int.reduceNe, Int.reduceLT, Int.reduceLE, Int.reduceGT, Int.reduceGE, Int.reduceAdd, Int.reduceSub, Int.reduceMul, Int.reduceNeg, ne_eq, not_true_eq_false, not_false_eq_true, eq_self, ↓if_pos, ↓if_neg, J_64_0, k_64_0, J_64_25, k_64_25, J_64_37, k_64_37, J_64_53, k_64_53, J_64_80, k_64_80, J_64_121, k_64_121, J_64_123, k_64_123, J_64_164, k_64_164, J_64_166, k_64_166, r0, r1, tr0, tr1, tr2, tr3, tr4, tr5, tr6, tr7, s2, z5, e1, en, h6, ef, hMb, e2, e3]
  | ok r3 =>
  obtain ⟨hv, cd', d5⟩ := no r3 hr3
  subst hv
  have a2 := pNum_ok hr3
  have t4 := tE_on (b := b) t3.2.1 (by rw [a2.1]; omega) t3.1
  have er3 : r3.1 = tE b n p2 := by rw [a2.2.1]
  rw [← er3] at t4
  rw [bnd_o]
  have hdd := cD_w (i := d.1 2) (v := r3.2) (cD_f hdc (M' := Md) fun c c0 c1 => fd.1 c (by omega))
  have dN : up Md 25 (d.1 2) r3.2 24 (d.1 2) = c32 w := by rw [up_ne (by omega), fd.1 24 (by omega)]; exact cN
  have ce : cTc (up Md 25 (d.1 2) r3.2) b n r3.1 := cTc_f cd' (up_ne (by omega)) (up_ne (by omega))
  have fe : fR M (up Md 25 (d.1 2) r3.2) := fR_w5 (fR_t (fR_t fb (fR_f fc)) (fR_f fd)) a2.2.2
  generalize hMe : up Md 25 (d.1 2) r3.2 = Me at hdd dN ce fe
  obtain ⟨v, Mf, ff, ⟨we2, wo2⟩, e4⟩ := c_goWord (X := X) g ce t4.1 t4.2.1 (k := 3) (by omega)
  cases hr4 : pWord b n (kl 3) r3.1 with
  | error er =>
    obtain ⟨hv, q2, q3⟩ := we2 er hr4
    subst hv
    refine ⟨0, Mf, fR_t fe (fR_f ff), cRes_e rfl q2 q3, ?_⟩
    simp (disch := first | assumption | decide | omega | (simp only [List.length_cons, List.length_nil] <;> omega)) only [lgt_0, lgt_s, lset_0, lset_s, lst1_0, lst1_s, lst2_0, lst2_s, ev_iconst, ev_lconst, ev_ldc, ev_null, ev_iload, ev_lload, ev_aload, ev_istore, ev_lstore, ev_astore, ev_iinc, ev_iadd, ev_isub, ev_imul, ev_iand, ev_ior, ev_ishl, ev_ishr, ev_idiv, ev_irem, ev_ineg, ev_ladd, ev_lsub, ev_lmul, ev_land, ev_lor, ev_ldiv, ev_lrem, ev_lshl, ev_i2l, ev_l2i, ev_i2b, ev_i2s, ev_lcmp, ev_dupI, ev_dupR, ev_dup2, ev_popI, ev_popR, ev_alen, ev_xlen, ev_xald, ev_iald, ev_lald, ev_bald, ev_zald, ev_aald, ev_iast, ev_last, ev_bast, ev_zast, ev_aast, ev_gfI, ev_gfL, ev_gfR, ev_pfI, ev_pfZ, ev_pfL, ev_pfR, ev_new, ev_newa, ev_newq, ev_copy, ev_slen, ev_schr, ev_obj, ev_mmin, ev_mabs, ev_mmax, ev_goto, ev_jsr, ev_icmp_eq, ev_if_eq, ev_icmp_ne, ev_if_ne, ev_icmp_lt, ev_if_lt, ev_icmp_ge, ev_if_ge, ev_icmp_gt, ev_if_gt, ev_icmp_le, ev_if_le, ev_ifnull0, ev_ifnull1, ev_ifnn0, ev_ifnn1, ev_tsw, ev_lsw, ev_iret, ev_zret, ev_lret, ev_aret, ev_ret, ev_call0, ev_call1, ev_call2, ev_call3, ev_call4, ev_call5, ev_call6, Option.toList_some, Option.toList_none, List.cons_append, List.nil_append, List.length_cons, List.length_nil, Nat.reduceMod, Nat.reduceDiv, Nat.reduceLeDiff, nc, ↓reduceIte, Nat.zero_le, reduceCtorEq, w32_id, Int.reduceEq, Int.reduceNe, Int.reduceLT, Int.reduceLE, Int.reduceGT, Int.reduceGE, Int.reduceAdd, Int.reduceSub, Int.reduceMul, Int.reduceNeg, ne_eq, not_true_eq_false, not_false_eq_true, eq_self, ↓if_pos, ↓if_neg, J_64_0, k_64_0, J_64_25, k_64_25, J_64_37, k_64_37, J_64_53, k_64_53, J_64_80, k_64_80, J_64_121, k_64_121, J_64_123, k_64_123, J_64_164, k_64_164, J_64_166, k_64_166, r0, r1, tr0, tr1, tr2, tr3, tr4, tr5, tr6, tr7, s2, z5, e1, en, h6, ef, hMb, e2, e3, d5, hMe, e4]
  | ok p3 =>
  obtain ⟨hv, cf⟩ := wo2 p3 hr4
  subst hv
  have a3 := pWord_ok hr4
  have t5 := tE_on (b := b) t4.2.1 (by rw [a3.1]; omega) t4.1
  rw [← a3.2.2] at t5
  rw [bnd_o]
  have hdf := cD_f hdd (M' := Mf) fun c c0 c1 => ff.1 c (by omega)
  have fN : Mf 24 (d.1 2) = c32 w := by rw [ff.1 24 (by omega)]; exact dN
  obtain ⟨v, Mg, fg, ne2, no2, e5⟩ := c_goNumber (X := X) g cf t5.1 t5.2.1 (lo := 1) (hi := 99)
  cases hr5 : pNum b n 1 99 p3 with
  | error er =>
    obtain ⟨hv, q2, q3⟩ := ne2 er hr5
    subst hv
    refine ⟨0, Mg, fR_t (fR_t fe (fR_f ff)) (fR_f fg), cRes_e rfl q2 q3, ?_⟩
    simp (disch := first | assumption | decide | omega | (simp only [List.length_cons, List.length_nil] <;> omega)) only [lgt_0, lgt_s, lset_0, lset_s, lst1_0, lst1_s, lst2_0, lst2_s, ev_iconst, ev_lconst, ev_ldc, ev_null, ev_iload, ev_lload, ev_aload, ev_istore, ev_lstore, ev_astore, ev_iinc, ev_iadd, ev_isub, ev_imul, ev_iand, ev_ior, ev_ishl, ev_ishr, ev_idiv, ev_irem, ev_ineg, ev_ladd, ev_lsub, ev_lmul, ev_land, ev_lor, ev_ldiv, ev_lrem, ev_lshl, ev_i2l, ev_l2i, ev_i2b, ev_i2s, ev_lcmp, ev_dupI, ev_dupR, ev_dup2, ev_popI, ev_popR, ev_alen, ev_xlen, ev_xald, ev_iald, ev_lald, ev_bald, ev_zald, ev_aald, ev_iast, ev_last, ev_bast, ev_zast, ev_aast, ev_gfI, ev_gfL, ev_gfR, ev_pfI, ev_pfZ, ev_pfL, ev_pfR, ev_new, ev_newa, ev_newq, ev_copy, ev_slen, ev_schr, ev_obj, ev_mmin, ev_mabs, ev_mmax, ev_goto, ev_jsr, ev_icmp_eq, ev_if_eq, ev_icmp_ne, ev_if_ne, ev_icmp_lt, ev_if_lt, ev_icmp_ge, ev_if_ge, ev_icmp_gt, ev_if_gt, ev_icmp_le, ev_if_le, ev_ifnull0, ev_ifnull1, ev_ifnn0, ev_ifnn1, ev_tsw, ev_lsw, ev_iret, ev_zret, ev_lret, ev_aret, ev_ret, ev_call0, ev_call1, ev_call2, ev_call3, ev_call4, ev_call5, ev_call6, Option.toList_some, Option.toList_none, List.cons_append, List.nil_append, List.length_cons, List.length_nil, Nat.reduceMod, Nat.reduceDiv, Nat.reduceLeDiff, nc, ↓reduceIte, Nat.zero_le, reduceCtorEq, w32_id, Int.reduceEq, Int.reduceNe, Int.reduceLT, Int.reduceLE, Int.reduceGT, Int.reduceGE, Int.reduceAdd, Int.reduceSub, Int.reduceMul, Int.reduceNeg, ne_eq, not_true_eq_false, not_false_eq_true, eq_self, ↓if_pos, ↓if_neg, J_64_0, k_64_0, J_64_25, k_64_25, J_64_37, k_64_37, J_64_53, k_64_53, J_64_80, k_64_80, J_64_121, k_64_121, J_64_123, k_64_123, J_64_164, k_64_164, J_64_166, k_64_166, r0, r1, tr0, tr1, tr2, tr3, tr4, tr5, tr6, tr7, s2, z5, e1, en, h6, ef, hMb, e2, e3, d5, hMe, e4, e5]
  | ok r5 =>
  obtain ⟨hv, cg, g5⟩ := no2 r5 hr5
  subst hv
  have a4 := pNum_ok hr5
  have t6 := tE_on (b := b) t5.2.1 (by rw [a4.1]; omega) t5.1
  have er5 : r5.1 = tE b n p3 := by rw [a4.2.1]
  rw [← er5] at t6
  rw [bnd_o]
  have hdg := cD_y (i := d.1 2) (v := r5.2) (cD_f hdf (M' := Mg) fun c c0 c1 => fg.1 c (by omega))
  have gN : up Mg 26 (d.1 2) r5.2 24 (d.1 2) = c32 w := by rw [up_ne (by omega), fg.1 24 (by omega)]; exact fN
  have ch : cTc (up Mg 26 (d.1 2) r5.2) b n r5.1 := cTc_f cg (up_ne (by omega)) (up_ne (by omega))
  have fh : fR M (up Mg 26 (d.1 2) r5.2) := fR_y6 (fR_t (fR_t fe (fR_f ff)) (fR_f fg)) (by have := a4.2.2; omega)
  generalize hMh : up Mg 26 (d.1 2) r5.2 = Mh at hdg gN ch fh
  have hN : Mh 24 (d.1 2) = c32 (upL d.2.1 (d.1 2) w (d.1 2)) := by
    unfold upL
    rw [if_pos rfl]
    exact gN
  have hdi := cD_col hdg g2.1 hN
  have ci : cTc (up Mh 23 2 (d.1 2 + 1)) b n r5.1 := cTc_f ch (up_ne (by omega)) (up_ne (by omega))
  have fi : fR M (up Mh 23 2 (d.1 2 + 1)) := fR_up fh (by omega)
  have hdi' : cDr (up Mh 23 2 (d.1 2 + 1)) (setS (setY (setW (setN d (d.1 2) w) (d.1 2) r3.2) (d.1 2) r5.2) 2 (d.1 2 + 1)) := hdi
  generalize hMi : up Mh 23 2 (d.1 2 + 1) = Mi at hdi' ci fi
  obtain ⟨v, Mj, fj, ⟨se, so⟩, e6⟩ := c_goSign (X := X) g ci t6.1 t6.2.1
  cases hr6 : pSign b n r5.1 with
  | error er =>
    obtain ⟨hv, q2, q3⟩ := se er hr6
    subst hv
    refine ⟨0, Mj, fR_t fi (fR_f fj), cRes_e rfl q2 q3, ?_⟩
    simp (disch := first | assumption | decide | omega | (simp only [List.length_cons, List.length_nil] <;> omega)) only [lgt_0, lgt_s, lset_0, lset_s, lst1_0, lst1_s, lst2_0, lst2_s, ev_iconst, ev_lconst, ev_ldc, ev_null, ev_iload, ev_lload, ev_aload, ev_istore, ev_lstore, ev_astore, ev_iinc, ev_iadd, ev_isub, ev_imul, ev_iand, ev_ior, ev_ishl, ev_ishr, ev_idiv, ev_irem, ev_ineg, ev_ladd, ev_lsub, ev_lmul, ev_land, ev_lor, ev_ldiv, ev_lrem, ev_lshl, ev_i2l, ev_l2i, ev_i2b, ev_i2s, ev_lcmp, ev_dupI, ev_dupR, ev_dup2, ev_popI, ev_popR, ev_alen, ev_xlen, ev_xald, ev_iald, ev_lald, ev_bald, ev_zald, ev_aald, ev_iast, ev_last, ev_bast, ev_zast, ev_aast, ev_gfI, ev_gfL, ev_gfR, ev_pfI, ev_pfZ, ev_pfL, ev_pfR, ev_new, ev_newa, ev_newq, ev_copy, ev_slen, ev_schr, ev_obj, ev_mmin, ev_mabs, ev_mmax, ev_goto, ev_jsr, ev_icmp_eq, ev_if_eq, ev_icmp_ne, ev_if_ne, ev_icmp_lt, ev_if_lt, ev_icmp_ge, ev_if_ge, ev_icmp_gt, ev_if_gt, ev_icmp_le, ev_if_le, ev_ifnull0, ev_ifnull1, ev_ifnn0, ev_ifnn1, ev_tsw, ev_lsw, ev_iret, ev_zret, ev_lret, ev_aret, ev_ret, ev_call0, ev_call1, ev_call2, ev_call3, ev_call4, ev_call5, ev_call6, Option.toList_some, Option.toList_none, List.cons_append, List.nil_append, List.length_cons, List.length_nil, Nat.reduceMod, Nat.reduceDiv, Nat.reduceLeDiff, nc, ↓reduceIte, Nat.zero_le, reduceCtorEq, w32_id, Int.reduceEq, Int.reduceNe, Int.reduceLT, Int.reduceLE, Int.reduceGT, Int.reduceGE, Int.reduceAdd, Int.reduceSub, Int.reduceMul, Int.reduceNeg, ne_eq, not_true_eq_false, not_false_eq_true, eq_self, ↓if_pos, ↓if_neg, J_64_0, k_64_0, J_64_25, k_64_25, J_64_37, k_64_37, J_64_53, k_64_53, J_64_80, k_64_80, J_64_121, k_64_121, J_64_123, k_64_123, J_64_164, k_64_164, J_64_166, k_64_166, r0, r1, tr0, tr1, tr2, tr3, tr4, tr5, tr6, tr7, s2, z5, e1, en, h6, ef, hMb, e2, e3, d5, hMe, e4, e5, g5, hMh, hMi, e6]
  | ok q =>
  obtain ⟨hv, cj⟩ := so q hr6
  subst hv
  refine ⟨1, Mj, fR_t fi (fR_f fj), cRes_o rfl cj (cD_f hdi' fun c c0 c1 => fj.1 c (by omega)), ?_⟩
  simp (disch := first | assumption | decide | omega | (simp only [List.length_cons, List.length_nil] <;> omega)) only [lgt_0, lgt_s, lset_0, lset_s, lst1_0, lst1_s, lst2_0, lst2_s, ev_iconst, ev_lconst, ev_ldc, ev_null, ev_iload, ev_lload, ev_aload, ev_istore, ev_lstore, ev_astore, ev_iinc, ev_iadd, ev_isub, ev_imul, ev_iand, ev_ior, ev_ishl, ev_ishr, ev_idiv, ev_irem, ev_ineg, ev_ladd, ev_lsub, ev_lmul, ev_land, ev_lor, ev_ldiv, ev_lrem, ev_lshl, ev_i2l, ev_l2i, ev_i2b, ev_i2s, ev_lcmp, ev_dupI, ev_dupR, ev_dup2, ev_popI, ev_popR, ev_alen, ev_xlen, ev_xald, ev_iald, ev_lald, ev_bald, ev_zald, ev_aald, ev_iast, ev_last, ev_bast, ev_zast, ev_aast, ev_gfI, ev_gfL, ev_gfR, ev_pfI, ev_pfZ, ev_pfL, ev_pfR, ev_new, ev_newa, ev_newq, ev_copy, ev_slen, ev_schr, ev_obj, ev_mmin, ev_mabs, ev_mmax, ev_goto, ev_jsr, ev_icmp_eq, ev_if_eq, ev_icmp_ne, ev_if_ne, ev_icmp_lt, ev_if_lt, ev_icmp_ge, ev_if_ge, ev_icmp_gt, ev_if_gt, ev_icmp_le, ev_if_le, ev_ifnull0, ev_ifnull1, ev_ifnn0, ev_ifnn1, ev_tsw, ev_lsw, ev_iret, ev_zret, ev_lret, ev_aret, ev_ret, ev_call0, ev_call1, ev_call2, ev_call3, ev_call4, ev_call5, ev_call6, Option.toList_some, Option.toList_none, List.cons_append, List.nil_append, List.length_cons, List.length_nil, Nat.reduceMod, Nat.reduceDiv, Nat.reduceLeDiff, nc, ↓reduceIte, Nat.zero_le, reduceCtorEq, w32_id, Int.reduceEq, Int.reduceNe, Int.reduceLT, Int.reduceLE, Int.reduceGT, Int.reduceGE, Int.reduceAdd, Int.reduceSub, Int.reduceMul, Int.reduceNeg, ne_eq, not_true_eq_false, not_false_eq_true, eq_self, ↓if_pos, ↓if_neg, J_64_0, k_64_0, J_64_25, k_64_25, J_64_37, k_64_37, J_64_53, k_64_53, J_64_80, k_64_80, J_64_121, k_64_121, J_64_123, k_64_123, J_64_164, k_64_164, J_64_166, k_64_166, r0, r1, tr0, tr1, tr2, tr3, tr4, tr5, tr6, tr7, s2, z5, e1, en, h6, ef, hMb, e2, e3, d5, hMe, e4, e5, g5, hMh, hMi, e6]
/-- a row's stitches from x on -/
theorem c_stsF (g : gT b n) : ∀ (f : Nat) (x : Int) (d : DS) (p : Int) (M : Mem), x + f = d.1 0 + 1 → 0 ≤ x → x ≤ d.1 0 → 0 ≤ p → p ≤ n → dI d → d.2.2.2.2.2.1 < d.1 1 → cTc M b n p → cDr M d → ∃ v M', fR M M' ∧ cRes b n (pSts b n f x d p) v M' ∧ ev X 67 (jmp 67 38) [some (vR (some 21)), some (vI (d.1 0)), some (vI x)] [] SH0 M = some (some (vI v), SH0, M')
  | 0, x, d, p, M, hx, x0, x1, _, _, _, _, _, _ => by omega
  | f + 1, x, d, p, M, hx, x0, x1, p0, p1, hI, hr, hc, hd => by
    have k21 := w0_k21
    have r0 := w0_r21_0
    have r1 := w0_r21_1
    have ct := w0_ch22
    obtain ⟨tk0, tr0, tr1, tr2, tr3, tr4, tr5, tr6, tr7, tk1, tk2, tk3, tk4, tk5, tk6, tk7, tk8, tl1, tl2, tl3, tl4, tl5, tl6, tl7, tl8⟩ := ct
    have gs := hI.1
    have g0 := gs.1
    have g1 := gs.2.1
    have g2 := gs.2.2.1
    have rr := hI.2.2.1
    have rin := row_in (r := d.2.2.2.2.2.1) (w := d.1 0) (h := d.1 1) rr.1 hr g0.1 g0.2 g1.2
    have qx : ¬ d.1 0 < x := by omega
    unfold pSts
    rw [J_67_38]
    obtain ⟨v, Ma, fa, hv, e1⟩ := c_go (X := X) g hc p0 p1
    rcases hv with ⟨zk, hv, y2, y3⟩ | ⟨zk, hv, ca⟩
    · subst hv
      refine ⟨0, Ma, fR_f fa, cRes_e (e := (1, tQ b n p)) (if_pos zk) y2 y3, ?_⟩
      simp (disch := first | assumption | decide | omega | (simp only [List.length_cons, List.length_nil] <;> omega)) only [lgt_0, lgt_s, lset_0, lset_s, lst1_0, lst1_s, lst2_0, lst2_s, ev_iconst, ev_lconst, ev_ldc, ev_null, ev_iload, ev_lload, ev_aload, ev_istore, ev_lstore, ev_astore, ev_iinc, ev_iadd, ev_isub, ev_imul, ev_iand, ev_ior, ev_ishl, ev_ishr, ev_idiv, ev_irem, ev_ineg, ev_ladd, ev_lsub, ev_lmul, ev_land, ev_lor, ev_ldiv, ev_lrem, ev_lshl, ev_i2l, ev_l2i, ev_i2b, ev_i2s, ev_lcmp, ev_dupI, ev_dupR, ev_dup2, ev_popI, ev_popR, ev_alen, ev_xlen, ev_xald, ev_iald, ev_lald, ev_bald, ev_zald, ev_aald, ev_iast, ev_last, ev_bast, ev_zast, ev_aast, ev_gfI, ev_gfL, ev_gfR, ev_pfI, ev_pfZ, ev_pfL, ev_pfR, ev_new, ev_newa, ev_newq, ev_copy, ev_slen, ev_schr, ev_obj, ev_mmin, ev_mabs, ev_mmax, ev_goto, ev_jsr, ev_icmp_eq, ev_if_eq, ev_icmp_ne, ev_if_ne, ev_icmp_lt, ev_if_lt, ev_icmp_ge, ev_if_ge, ev_icmp_gt, ev_if_gt, ev_icmp_le, ev_if_le, ev_ifnull0, ev_ifnull1, ev_ifnn0, ev_ifnn1, ev_tsw, ev_lsw, ev_iret, ev_zret, ev_lret, ev_aret, ev_ret, ev_call0, ev_call1, ev_call2, ev_call3, ev_call4, ev_call5, ev_call6, Option.toList_some, Option.toList_none, List.cons_append, List.nil_append, List.length_cons, List.length_nil, Nat.reduceMod, Nat.reduceDiv, Nat.reduceLeDiff, nc, ↓reduceIte, Nat.zero_le, reduceCtorEq, w32_id, Int.reduceEq, Int.reduceNe, Int.reduceLT, Int.reduceLE, Int.reduceGT, Int.reduceGE, Int.reduceAdd, Int.reduceSub, Int.reduceMul, Int.reduceNeg, ne_eq, not_true_eq_false, not_false_eq_true, eq_self, ↓if_pos, ↓if_neg, J_67_0, k_67_0, J_67_26, k_67_26, J_67_55, k_67_55, J_67_97, k_67_97, J_67_101, k_67_101, J_67_102, k_67_102, J_67_103, k_67_103, J_67_114, k_67_114, J_67_120, k_67_120, k_67_38, r0, qx, e1]
    subst hv
    rw [if_neg zk]
    have hda : cDr Ma d := cD_f hd fun c c0 c1 => fa.1 c (by omega)
    have tr := tK_rng (b := b) (n := n) (p := p)
    have i := ck_id tr.1 tr.2
    have h4 := ca.2.2.1
    have a3 : Ma 21 3 = d.2.2.2.2.2.1 := hda.1
    by_cases z4 : tK b n p = 4 ∧ 0 < x
    · rw [if_pos z4]
      rw [i.2.1.mpr z4.1] at h4
      have z4x := z4.2
      have hdr := cD_r hda
      have fr : fR M (up Ma 21 3 (d.2.2.2.2.2.1 + 1)) := fR_up (fR_f fa) (by omega)
      have m8 : up Ma 21 3 (d.2.2.2.2.2.1 + 1) 2 = Ma 2 := up_ne (by omega)
      have cr : cTc (up Ma 21 3 (d.2.2.2.2.2.1 + 1)) b n (tE b n p) := cTc_f ca.1 m8 (up_ne (by omega))
      have w := c_wrong (X := X) (M := up Ma 21 3 (d.2.2.2.2.2.1 + 1)) (w := 7)
      rw [m8, ca.2.1] at w
      by_cases zx : x = d.1 0
      · rw [if_pos zx]
        refine ⟨1, _, fr, cRes_o rfl cr hdr, ?_⟩
        simp (disch := first | assumption | decide | omega | (simp only [List.length_cons, List.length_nil] <;> omega)) only [lgt_0, lgt_s, lset_0, lset_s, lst1_0, lst1_s, lst2_0, lst2_s, ev_iconst, ev_lconst, ev_ldc, ev_null, ev_iload, ev_lload, ev_aload, ev_istore, ev_lstore, ev_astore, ev_iinc, ev_iadd, ev_isub, ev_imul, ev_iand, ev_ior, ev_ishl, ev_ishr, ev_idiv, ev_irem, ev_ineg, ev_ladd, ev_lsub, ev_lmul, ev_land, ev_lor, ev_ldiv, ev_lrem, ev_lshl, ev_i2l, ev_l2i, ev_i2b, ev_i2s, ev_lcmp, ev_dupI, ev_dupR, ev_dup2, ev_popI, ev_popR, ev_alen, ev_xlen, ev_xald, ev_iald, ev_lald, ev_bald, ev_zald, ev_aald, ev_iast, ev_last, ev_bast, ev_zast, ev_aast, ev_gfI, ev_gfL, ev_gfR, ev_pfI, ev_pfZ, ev_pfL, ev_pfR, ev_new, ev_newa, ev_newq, ev_copy, ev_slen, ev_schr, ev_obj, ev_mmin, ev_mabs, ev_mmax, ev_goto, ev_jsr, ev_icmp_eq, ev_if_eq, ev_icmp_ne, ev_if_ne, ev_icmp_lt, ev_if_lt, ev_icmp_ge, ev_if_ge, ev_icmp_gt, ev_if_gt, ev_icmp_le, ev_if_le, ev_ifnull0, ev_ifnull1, ev_ifnn0, ev_ifnn1, ev_tsw, ev_lsw, ev_iret, ev_zret, ev_lret, ev_aret, ev_ret, ev_call0, ev_call1, ev_call2, ev_call3, ev_call4, ev_call5, ev_call6, Option.toList_some, Option.toList_none, List.cons_append, List.nil_append, List.length_cons, List.length_nil, Nat.reduceMod, Nat.reduceDiv, Nat.reduceLeDiff, nc, ↓reduceIte, Nat.zero_le, reduceCtorEq, w32_id, Int.reduceEq, Int.reduceNe, Int.reduceLT, Int.reduceLE, Int.reduceGT, Int.reduceGE, Int.reduceAdd, Int.reduceSub, Int.reduceMul, Int.reduceNeg, ne_eq, not_true_eq_false, not_false_eq_true, eq_self, ↓if_pos, ↓if_neg, J_67_0, k_67_0, J_67_26, k_67_26, J_67_55, k_67_55, J_67_97, k_67_97, J_67_101, k_67_101, J_67_102, k_67_102, J_67_103, k_67_103, J_67_114, k_67_114, J_67_120, k_67_120, k_67_38, r0, qx, e1, h4, z4x, a3, zx]
      · rw [if_neg zx]
        refine ⟨0, _, fR_w fr, cRes_e (e := (7, tQ b n p)) rfl (by rw [up_ne2 (by omega), up_eq]) up_eq, ?_⟩
        simp (disch := first | assumption | decide | omega | (simp only [List.length_cons, List.length_nil] <;> omega)) only [lgt_0, lgt_s, lset_0, lset_s, lst1_0, lst1_s, lst2_0, lst2_s, ev_iconst, ev_lconst, ev_ldc, ev_null, ev_iload, ev_lload, ev_aload, ev_istore, ev_lstore, ev_astore, ev_iinc, ev_iadd, ev_isub, ev_imul, ev_iand, ev_ior, ev_ishl, ev_ishr, ev_idiv, ev_irem, ev_ineg, ev_ladd, ev_lsub, ev_lmul, ev_land, ev_lor, ev_ldiv, ev_lrem, ev_lshl, ev_i2l, ev_l2i, ev_i2b, ev_i2s, ev_lcmp, ev_dupI, ev_dupR, ev_dup2, ev_popI, ev_popR, ev_alen, ev_xlen, ev_xald, ev_iald, ev_lald, ev_bald, ev_zald, ev_aald, ev_iast, ev_last, ev_bast, ev_zast, ev_aast, ev_gfI, ev_gfL, ev_gfR, ev_pfI, ev_pfZ, ev_pfL, ev_pfR, ev_new, ev_newa, ev_newq, ev_copy, ev_slen, ev_schr, ev_obj, ev_mmin, ev_mabs, ev_mmax, ev_goto, ev_jsr, ev_icmp_eq, ev_if_eq, ev_icmp_ne, ev_if_ne, ev_icmp_lt, ev_if_lt, ev_icmp_ge, ev_if_ge, ev_icmp_gt, ev_if_gt, ev_icmp_le, ev_if_le, ev_ifnull0, ev_ifnull1, ev_ifnn0, ev_ifnn1, ev_tsw, ev_lsw, ev_iret, ev_zret, ev_lret, ev_aret, ev_ret, ev_call0, ev_call1, ev_call2, ev_call3, ev_call4, ev_call5, ev_call6, Option.toList_some, Option.toList_none, List.cons_append, List.nil_append, List.length_cons, List.length_nil, Nat.reduceMod, Nat.reduceDiv, Nat.reduceLeDiff, nc, ↓reduceIte, Nat.zero_le, reduceCtorEq, w32_id, Int.reduceEq, Int.reduceNe, Int.reduceLT, Int.reduceLE, Int.reduceGT, Int.reduceGE, Int.reduceAdd, Int.reduceSub, Int.reduceMul, Int.reduceNeg, ne_eq, not_true_eq_false, not_false_eq_true, eq_self, ↓if_pos, ↓if_neg, J_67_0, k_67_0, J_67_26, k_67_26, J_67_55, k_67_55, J_67_97, k_67_97, J_67_101, k_67_101, J_67_102, k_67_102, J_67_103, k_67_103, J_67_114, k_67_114, J_67_120, k_67_120, k_67_38, r0, qx, e1, h4, z4x, a3, zx, w]
    rw [if_neg z4]
    -- not a sign behind a stitch: readStitch
    have toSt : ∀ v M2, evc X 68 [vR (some 21), vI x, vI (d.1 0)] SH0 Ma = some (some (vI v), SH0, M2) → ev X 67 k_67_38 [some (vR (some 21)), some (vI (d.1 0)), some (vI x)] [] SH0 M = if v = 0 then some (some (vI 0), SH0, M2) else ev X 67 (jmp 67 38) [some (vR (some 21)), some (vI (d.1 0)), some (vI (x + 1))] [] SH0 M2 := fun v M2 es => by
      by_cases y4 : tK b n p = 4
      · rw [i.2.1.mpr y4] at h4
        have yx : ¬ 0 < x := fun y => z4 ⟨y4, y⟩
        by_cases vz : v = 0
        · rw [if_pos vz]
          subst vz
          simp (disch := first | assumption | decide | omega | (simp only [List.length_cons, List.length_nil] <;> omega)) only [lgt_0, lgt_s, lset_0, lset_s, lst1_0, lst1_s, lst2_0, lst2_s, ev_iconst, ev_lconst, ev_ldc, ev_null, ev_iload, ev_lload, ev_aload, ev_istore, ev_lstore, ev_astore, ev_iinc, ev_iadd, ev_isub, ev_imul, ev_iand, ev_ior, ev_ishl, ev_ishr, ev_idiv, ev_irem, ev_ineg, ev_ladd, ev_lsub, ev_lmul, ev_land, ev_lor, ev_ldiv, ev_lrem, ev_lshl, ev_i2l, ev_l2i, ev_i2b, ev_i2s, ev_lcmp, ev_dupI, ev_dupR, ev_dup2, ev_popI, ev_popR, ev_alen, ev_xlen, ev_xald, ev_iald, ev_lald, ev_bald, ev_zald, ev_aald, ev_iast, ev_last, ev_bast, ev_zast, ev_aast, ev_gfI, ev_gfL, ev_gfR, ev_pfI, ev_pfZ, ev_pfL, ev_pfR, ev_new, ev_newa, ev_newq, ev_copy, ev_slen, ev_schr, ev_obj, ev_mmin, ev_mabs, ev_mmax, ev_goto, ev_jsr, ev_icmp_eq, ev_if_eq, ev_icmp_ne, ev_if_ne, ev_icmp_lt, ev_if_lt, ev_icmp_ge, ev_if_ge, ev_icmp_gt, ev_if_gt, ev_icmp_le, ev_if_le, ev_ifnull0, ev_ifnull1, ev_ifnn0, ev_ifnn1, ev_tsw, ev_lsw, ev_iret, ev_zret, ev_lret, ev_aret, ev_ret, ev_call0, ev_call1, ev_call2, ev_call3, ev_call4, ev_call5, ev_call6, Option.toList_some, Option.toList_none, List.cons_append, List.nil_append, List.length_cons, List.length_nil, Nat.reduceMod, Nat.reduceDiv, Nat.reduceLeDiff, nc, ↓reduceIte, Nat.zero_le, reduceCtorEq, w32_id, Int.reduceEq, Int.reduceNe, Int.reduceLT, Int.reduceLE, Int.reduceGT, Int.reduceGE, Int.reduceAdd, Int.reduceSub, Int.reduceMul, Int.reduceNeg, ne_eq, not_true_eq_false, not_false_eq_true, eq_self, ↓if_pos, ↓if_neg, J_67_0, k_67_0, J_67_26, k_67_26, J_67_55, k_67_55, J_67_97, k_67_97, J_67_101, k_67_101, J_67_102, k_67_102, J_67_103, k_67_103, J_67_114, k_67_114, J_67_120, k_67_120, k_67_38, r0, qx, e1, h4, yx, es]
        · rw [if_neg vz]
          simp (disch := first | assumption | decide | omega | (simp only [List.length_cons, List.length_nil] <;> omega)) only [lgt_0, lgt_s, lset_0, lset_s, lst1_0, lst1_s, lst2_0, lst2_s, ev_iconst, ev_lconst, ev_ldc, ev_null, ev_iload, ev_lload, ev_aload, ev_istore, ev_lstore, ev_astore, ev_iinc, ev_iadd, ev_isub, ev_imul, ev_iand, ev_ior, ev_ishl, ev_ishr, ev_idiv, ev_irem, ev_ineg, ev_ladd, ev_lsub, ev_lmul, ev_land, ev_lor, ev_ldiv, ev_lrem, ev_lshl, ev_i2l, ev_l2i, ev_i2b, ev_i2s, ev_lcmp, ev_dupI, ev_dupR, ev_dup2, ev_popI, ev_popR, ev_alen, ev_xlen, ev_xald, ev_iald, ev_lald, ev_bald, ev_zald, ev_aald, ev_iast, ev_last, ev_bast, ev_zast, ev_aast, ev_gfI, ev_gfL, ev_gfR, ev_pfI, ev_pfZ, ev_pfL, ev_pfR, ev_new, ev_newa, ev_newq, ev_copy, ev_slen, ev_schr, ev_obj, ev_mmin, ev_mabs, ev_mmax, ev_goto, ev_jsr, ev_icmp_eq, ev_if_eq, ev_icmp_ne, ev_if_ne, ev_icmp_lt, ev_if_lt, ev_icmp_ge, ev_if_ge, ev_icmp_gt, ev_if_gt, ev_icmp_le, ev_if_le, ev_ifnull0, ev_ifnull1, ev_ifnn0, ev_ifnn1, ev_tsw, ev_lsw, ev_iret, ev_zret, ev_lret, ev_aret, ev_ret, ev_call0, ev_call1, ev_call2, ev_call3, ev_call4, ev_call5, ev_call6, Option.toList_some, Option.toList_none, List.cons_append, List.nil_append, List.length_cons, List.length_nil, Nat.reduceMod, Nat.reduceDiv, Nat.reduceLeDiff, nc, ↓reduceIte, Nat.zero_le, reduceCtorEq, w32_id, Int.reduceEq, Int.reduceNe, Int.reduceLT, Int.reduceLE, Int.reduceGT, Int.reduceGE, Int.reduceAdd, Int.reduceSub, Int.reduceMul, Int.reduceNeg, ne_eq, not_true_eq_false, not_false_eq_true, eq_self, ↓if_pos, ↓if_neg, J_67_0, k_67_0, J_67_26, k_67_26, J_67_55, k_67_55, J_67_97, k_67_97, J_67_101, k_67_101, J_67_102, k_67_102, J_67_103, k_67_103, J_67_114, k_67_114, J_67_120, k_67_120, k_67_38, r0, qx, e1, h4, yx, es, vz]
      · have h4' : ¬ Ma 2 4 = 2 := by rw [h4, i.2.1]; exact y4
        by_cases vz : v = 0
        · rw [if_pos vz]
          subst vz
          simp (disch := first | assumption | decide | omega | (simp only [List.length_cons, List.length_nil] <;> omega)) only [lgt_0, lgt_s, lset_0, lset_s, lst1_0, lst1_s, lst2_0, lst2_s, ev_iconst, ev_lconst, ev_ldc, ev_null, ev_iload, ev_lload, ev_aload, ev_istore, ev_lstore, ev_astore, ev_iinc, ev_iadd, ev_isub, ev_imul, ev_iand, ev_ior, ev_ishl, ev_ishr, ev_idiv, ev_irem, ev_ineg, ev_ladd, ev_lsub, ev_lmul, ev_land, ev_lor, ev_ldiv, ev_lrem, ev_lshl, ev_i2l, ev_l2i, ev_i2b, ev_i2s, ev_lcmp, ev_dupI, ev_dupR, ev_dup2, ev_popI, ev_popR, ev_alen, ev_xlen, ev_xald, ev_iald, ev_lald, ev_bald, ev_zald, ev_aald, ev_iast, ev_last, ev_bast, ev_zast, ev_aast, ev_gfI, ev_gfL, ev_gfR, ev_pfI, ev_pfZ, ev_pfL, ev_pfR, ev_new, ev_newa, ev_newq, ev_copy, ev_slen, ev_schr, ev_obj, ev_mmin, ev_mabs, ev_mmax, ev_goto, ev_jsr, ev_icmp_eq, ev_if_eq, ev_icmp_ne, ev_if_ne, ev_icmp_lt, ev_if_lt, ev_icmp_ge, ev_if_ge, ev_icmp_gt, ev_if_gt, ev_icmp_le, ev_if_le, ev_ifnull0, ev_ifnull1, ev_ifnn0, ev_ifnn1, ev_tsw, ev_lsw, ev_iret, ev_zret, ev_lret, ev_aret, ev_ret, ev_call0, ev_call1, ev_call2, ev_call3, ev_call4, ev_call5, ev_call6, Option.toList_some, Option.toList_none, List.cons_append, List.nil_append, List.length_cons, List.length_nil, Nat.reduceMod, Nat.reduceDiv, Nat.reduceLeDiff, nc, ↓reduceIte, Nat.zero_le, reduceCtorEq, w32_id, Int.reduceEq, Int.reduceNe, Int.reduceLT, Int.reduceLE, Int.reduceGT, Int.reduceGE, Int.reduceAdd, Int.reduceSub, Int.reduceMul, Int.reduceNeg, ne_eq, not_true_eq_false, not_false_eq_true, eq_self, ↓if_pos, ↓if_neg, J_67_0, k_67_0, J_67_26, k_67_26, J_67_55, k_67_55, J_67_97, k_67_97, J_67_101, k_67_101, J_67_102, k_67_102, J_67_103, k_67_103, J_67_114, k_67_114, J_67_120, k_67_120, k_67_38, r0, qx, e1, h4', es]
        · rw [if_neg vz]
          simp (disch := first | assumption | decide | omega | (simp only [List.length_cons, List.length_nil] <;> omega)) only [lgt_0, lgt_s, lset_0, lset_s, lst1_0, lst1_s, lst2_0, lst2_s, ev_iconst, ev_lconst, ev_ldc, ev_null, ev_iload, ev_lload, ev_aload, ev_istore, ev_lstore, ev_astore, ev_iinc, ev_iadd, ev_isub, ev_imul, ev_iand, ev_ior, ev_ishl, ev_ishr, ev_idiv, ev_irem, ev_ineg, ev_ladd, ev_lsub, ev_lmul, ev_land, ev_lor, ev_ldiv, ev_lrem, ev_lshl, ev_i2l, ev_l2i, ev_i2b, ev_i2s, ev_lcmp, ev_dupI, ev_dupR, ev_dup2, ev_popI, ev_popR, ev_alen, ev_xlen, ev_xald, ev_iald, ev_lald, ev_bald, ev_zald, ev_aald, ev_iast, ev_last, ev_bast, ev_zast, ev_aast, ev_gfI, ev_gfL, ev_gfR, ev_pfI, ev_pfZ, ev_pfL, ev_pfR, ev_new, ev_newa, ev_newq, ev_copy, ev_slen, ev_schr, ev_obj, ev_mmin, ev_mabs, ev_mmax, ev_goto, ev_jsr, ev_icmp_eq, ev_if_eq, ev_icmp_ne, ev_if_ne, ev_icmp_lt, ev_if_lt, ev_icmp_ge, ev_if_ge, ev_icmp_gt, ev_if_gt, ev_icmp_le, ev_if_le, ev_ifnull0, ev_ifnull1, ev_ifnn0, ev_ifnn1, ev_tsw, ev_lsw, ev_iret, ev_zret, ev_lret, ev_aret, ev_ret, ev_call0, ev_call1, ev_call2, ev_call3, ev_call4, ev_call5, ev_call6, Option.toList_some, Option.toList_none, List.cons_append, List.nil_append, List.length_cons, List.length_nil, Nat.reduceMod, Nat.reduceDiv, Nat.reduceLeDiff, nc, ↓reduceIte, Nat.zero_le, reduceCtorEq, w32_id, Int.reduceEq, Int.reduceNe, Int.reduceLT, Int.reduceLE, Int.reduceGT, Int.reduceGE, Int.reduceAdd, Int.reduceSub, Int.reduceMul, Int.reduceNeg, ne_eq, not_true_eq_false, not_false_eq_true, eq_self, ↓if_pos, ↓if_neg, J_67_0, k_67_0, J_67_26, k_67_26, J_67_55, k_67_55, J_67_97, k_67_97, J_67_101, k_67_101, J_67_102, k_67_102, J_67_103, k_67_103, J_67_114, k_67_114, J_67_120, k_67_120, k_67_38, r0, qx, e1, h4', es, vz]
    have en := c_isName (X := X) ca p1
    by_cases zn : nmB b n CK p = false
    · rw [zn, if_neg (by decide)] at en
      have w := c_wrong (X := X) (M := Ma) (w := 2)
      rw [ca.2.1] at w
      refine ⟨0, _, fR_w (fR_f fa), cRes_e (e := (2, tQ b n p)) (if_pos zn) (by rw [up_ne2 (by omega), up_eq]) up_eq, ?_⟩
      rw [toSt 0 (up (up Ma 2 2 2) 2 3 (tQ b n p)) (by
        rw [E_68 k21]
        simp (disch := first | assumption | decide | omega | (simp only [List.length_cons, List.length_nil] <;> omega)) only [lgt_0, lgt_s, lset_0, lset_s, lst1_0, lst1_s, lst2_0, lst2_s, ev_iconst, ev_lconst, ev_ldc, ev_null, ev_iload, ev_lload, ev_aload, ev_istore, ev_lstore, ev_astore, ev_iinc, ev_iadd, ev_isub, ev_imul, ev_iand, ev_ior, ev_ishl, ev_ishr, ev_idiv, ev_irem, ev_ineg, ev_ladd, ev_lsub, ev_lmul, ev_land, ev_lor, ev_ldiv, ev_lrem, ev_lshl, ev_i2l, ev_l2i, ev_i2b, ev_i2s, ev_lcmp, ev_dupI, ev_dupR, ev_dup2, ev_popI, ev_popR, ev_alen, ev_xlen, ev_xald, ev_iald, ev_lald, ev_bald, ev_zald, ev_aald, ev_iast, ev_last, ev_bast, ev_zast, ev_aast, ev_gfI, ev_gfL, ev_gfR, ev_pfI, ev_pfZ, ev_pfL, ev_pfR, ev_new, ev_newa, ev_newq, ev_copy, ev_slen, ev_schr, ev_obj, ev_mmin, ev_mabs, ev_mmax, ev_goto, ev_jsr, ev_icmp_eq, ev_if_eq, ev_icmp_ne, ev_if_ne, ev_icmp_lt, ev_if_lt, ev_icmp_ge, ev_if_ge, ev_icmp_gt, ev_if_gt, ev_icmp_le, ev_if_le, ev_ifnull0, ev_ifnull1, ev_ifnn0, ev_ifnn1, ev_tsw, ev_lsw, ev_iret, ev_zret, ev_lret, ev_aret, ev_ret, ev_call0, ev_call1, ev_call2, ev_call3, ev_call4, ev_call5, ev_call6, Option.toList_some, Option.toList_none, List.cons_append, List.nil_append, List.length_cons, List.length_nil, Nat.reduceMod, Nat.reduceDiv, Nat.reduceLeDiff, nc, ↓reduceIte, Nat.zero_le, reduceCtorEq, w32_id, Int.reduceEq, Int.reduceNe, Int.reduceLT, Int.reduceLE, Int.reduceGT, Int.reduceGE, Int.reduceAdd, Int.reduceSub, Int.reduceMul, Int.reduceNeg, ne_eq, not_true_eq_false, not_false_eq_true, eq_self, ↓if_pos, ↓if_neg, J_68_0, k_68_0, J_68_16, k_68_16, J_68_45, k_68_45, J_68_60, k_68_60, r0, en, w]), if_pos rfl]
    rw [if_neg zn]
    have zn' : nmB b n CK p = true := by simpa using zn
    rw [if_pos zn'] at en
    have nm := nmB_t zn'
    have lw := tW_lts nm.1
    have h6 : Ma 2 6 = c32 (tW b n p) := by
      rw [ca.2.2.2.2 nm.1]
      unfold wc
      rw [if_neg (by omega)]
    have ef := c_named (X := X) hda hI (w := tW b n p) lw
    have t2 := tE_on (b := b) p1 (by rw [nm.1]; omega) p0
    have fr := fnF_rng (NW := d.2.1) (w := tW b n p) g2.1
    by_cases zf : fnF d.2.1 (d.1 2) (tW b n p) = -1
    · have w1 := c_wrong (X := X) (M := Ma) (w := 3)
      rw [ca.2.1] at w1
      rw [zf] at ef
      refine ⟨0, _, fR_w (fR_f fa), cRes_e (e := (3, tQ b n p)) (if_pos zf) (by rw [up_ne2 (by omega), up_eq]) up_eq, ?_⟩
      rw [toSt 0 (up (up Ma 2 2 3) 2 3 (tQ b n p)) (by
        rw [E_68 k21]
        simp (disch := first | assumption | decide | omega | (simp only [List.length_cons, List.length_nil] <;> omega)) only [lgt_0, lgt_s, lset_0, lset_s, lst1_0, lst1_s, lst2_0, lst2_s, ev_iconst, ev_lconst, ev_ldc, ev_null, ev_iload, ev_lload, ev_aload, ev_istore, ev_lstore, ev_astore, ev_iinc, ev_iadd, ev_isub, ev_imul, ev_iand, ev_ior, ev_ishl, ev_ishr, ev_idiv, ev_irem, ev_ineg, ev_ladd, ev_lsub, ev_lmul, ev_land, ev_lor, ev_ldiv, ev_lrem, ev_lshl, ev_i2l, ev_l2i, ev_i2b, ev_i2s, ev_lcmp, ev_dupI, ev_dupR, ev_dup2, ev_popI, ev_popR, ev_alen, ev_xlen, ev_xald, ev_iald, ev_lald, ev_bald, ev_zald, ev_aald, ev_iast, ev_last, ev_bast, ev_zast, ev_aast, ev_gfI, ev_gfL, ev_gfR, ev_pfI, ev_pfZ, ev_pfL, ev_pfR, ev_new, ev_newa, ev_newq, ev_copy, ev_slen, ev_schr, ev_obj, ev_mmin, ev_mabs, ev_mmax, ev_goto, ev_jsr, ev_icmp_eq, ev_if_eq, ev_icmp_ne, ev_if_ne, ev_icmp_lt, ev_if_lt, ev_icmp_ge, ev_if_ge, ev_icmp_gt, ev_if_gt, ev_icmp_le, ev_if_le, ev_ifnull0, ev_ifnull1, ev_ifnn0, ev_ifnn1, ev_tsw, ev_lsw, ev_iret, ev_zret, ev_lret, ev_aret, ev_ret, ev_call0, ev_call1, ev_call2, ev_call3, ev_call4, ev_call5, ev_call6, Option.toList_some, Option.toList_none, List.cons_append, List.nil_append, List.length_cons, List.length_nil, Nat.reduceMod, Nat.reduceDiv, Nat.reduceLeDiff, nc, ↓reduceIte, Nat.zero_le, reduceCtorEq, w32_id, Int.reduceEq, Int.reduceNe, Int.reduceLT, Int.reduceLE, Int.reduceGT, Int.reduceGE, Int.reduceAdd, Int.reduceSub, Int.reduceMul, Int.reduceNeg, ne_eq, not_true_eq_false, not_false_eq_true, eq_self, ↓if_pos, ↓if_neg, J_68_0, k_68_0, J_68_16, k_68_16, J_68_45, k_68_45, J_68_60, k_68_60, r0, r1, en, h6, ef, w1]), if_pos rfl]
    rw [if_neg zf]
    by_cases zw : d.1 0 ≤ x
    · have w1 := c_wrong (X := X) (M := Ma) (w := 6)
      rw [ca.2.1] at w1
      refine ⟨0, _, fR_w (fR_f fa), cRes_e (e := (6, tQ b n p)) (if_pos zw) (by rw [up_ne2 (by omega), up_eq]) up_eq, ?_⟩
      rw [toSt 0 (up (up Ma 2 2 6) 2 3 (tQ b n p)) (by
        rw [E_68 k21]
        generalize fnF d.2.1 (d.1 2) (tW b n p) = fv at ef zf
        simp (disch := first | assumption | decide | omega | (simp only [List.length_cons, List.length_nil] <;> omega)) only [lgt_0, lgt_s, lset_0, lset_s, lst1_0, lst1_s, lst2_0, lst2_s, ev_iconst, ev_lconst, ev_ldc, ev_null, ev_iload, ev_lload, ev_aload, ev_istore, ev_lstore, ev_astore, ev_iinc, ev_iadd, ev_isub, ev_imul, ev_iand, ev_ior, ev_ishl, ev_ishr, ev_idiv, ev_irem, ev_ineg, ev_ladd, ev_lsub, ev_lmul, ev_land, ev_lor, ev_ldiv, ev_lrem, ev_lshl, ev_i2l, ev_l2i, ev_i2b, ev_i2s, ev_lcmp, ev_dupI, ev_dupR, ev_dup2, ev_popI, ev_popR, ev_alen, ev_xlen, ev_xald, ev_iald, ev_lald, ev_bald, ev_zald, ev_aald, ev_iast, ev_last, ev_bast, ev_zast, ev_aast, ev_gfI, ev_gfL, ev_gfR, ev_pfI, ev_pfZ, ev_pfL, ev_pfR, ev_new, ev_newa, ev_newq, ev_copy, ev_slen, ev_schr, ev_obj, ev_mmin, ev_mabs, ev_mmax, ev_goto, ev_jsr, ev_icmp_eq, ev_if_eq, ev_icmp_ne, ev_if_ne, ev_icmp_lt, ev_if_lt, ev_icmp_ge, ev_if_ge, ev_icmp_gt, ev_if_gt, ev_icmp_le, ev_if_le, ev_ifnull0, ev_ifnull1, ev_ifnn0, ev_ifnn1, ev_tsw, ev_lsw, ev_iret, ev_zret, ev_lret, ev_aret, ev_ret, ev_call0, ev_call1, ev_call2, ev_call3, ev_call4, ev_call5, ev_call6, Option.toList_some, Option.toList_none, List.cons_append, List.nil_append, List.length_cons, List.length_nil, Nat.reduceMod, Nat.reduceDiv, Nat.reduceLeDiff, nc, ↓reduceIte, Nat.zero_le, reduceCtorEq, w32_id, Int.reduceEq, Int.reduceNe, Int.reduceLT, Int.reduceLE, Int.reduceGT, Int.reduceGE, Int.reduceAdd, Int.reduceSub, Int.reduceMul, Int.reduceNeg, ne_eq, not_true_eq_false, not_false_eq_true, eq_self, ↓if_pos, ↓if_neg, J_68_0, k_68_0, J_68_16, k_68_16, J_68_45, k_68_45, J_68_60, k_68_60, r0, r1, en, h6, ef, zf, zw, w1]), if_pos rfl]
    rw [if_neg zw]
    have hdc := cD_c hda (i := d.2.2.2.2.2.1 * d.1 0 + x) (v := fnF d.2.1 (d.1 2) (tW b n p))
    have fc : fR M (up Ma 27 (d.2.2.2.2.2.1 * d.1 0 + x) (fnF d.2.1 (d.1 2) (tW b n p))) := fR_up (fR_f fa) (by omega)
    have cc : cTc (up Ma 27 (d.2.2.2.2.2.1 * d.1 0 + x) (fnF d.2.1 (d.1 2) (tW b n p))) b n (tE b n p) := cTc_f ca.1 (up_ne (by omega)) (up_ne (by omega))
    obtain ⟨v, M2, f2, res, e2⟩ := c_stsF g f (x + 1) (setC d (d.2.2.2.2.2.1 * d.1 0 + x) (fnF d.2.1 (d.1 2) (tW b n p))) (tE b n p) _ (by show x + 1 + (f : Int) = d.1 0 + 1; omega) (by omega) (by show x + 1 ≤ d.1 0; omega) t2.1 t2.2.1 hI hr cc hdc
    have e2' : ev X 67 (jmp 67 38) [some (vR (some 21)), some (vI (d.1 0)), some (vI (x + 1))] [] SH0 (up Ma 27 (d.2.2.2.2.2.1 * d.1 0 + x) (fnF d.2.1 (d.1 2) (tW b n p))) = some (some (vI v), SH0, M2) := e2
    refine ⟨v, M2, fR_t fc f2, res, ?_⟩
    rw [toSt 1 (up Ma 27 (d.2.2.2.2.2.1 * d.1 0 + x) (fnF d.2.1 (d.1 2) (tW b n p))) (by
      rw [E_68 k21]
      generalize fnF d.2.1 (d.1 2) (tW b n p) = fv at ef zf
      simp (disch := first | assumption | decide | omega | (simp only [List.length_cons, List.length_nil] <;> omega)) only [lgt_0, lgt_s, lset_0, lset_s, lst1_0, lst1_s, lst2_0, lst2_s, ev_iconst, ev_lconst, ev_ldc, ev_null, ev_iload, ev_lload, ev_aload, ev_istore, ev_lstore, ev_astore, ev_iinc, ev_iadd, ev_isub, ev_imul, ev_iand, ev_ior, ev_ishl, ev_ishr, ev_idiv, ev_irem, ev_ineg, ev_ladd, ev_lsub, ev_lmul, ev_land, ev_lor, ev_ldiv, ev_lrem, ev_lshl, ev_i2l, ev_l2i, ev_i2b, ev_i2s, ev_lcmp, ev_dupI, ev_dupR, ev_dup2, ev_popI, ev_popR, ev_alen, ev_xlen, ev_xald, ev_iald, ev_lald, ev_bald, ev_zald, ev_aald, ev_iast, ev_last, ev_bast, ev_zast, ev_aast, ev_gfI, ev_gfL, ev_gfR, ev_pfI, ev_pfZ, ev_pfL, ev_pfR, ev_new, ev_newa, ev_newq, ev_copy, ev_slen, ev_schr, ev_obj, ev_mmin, ev_mabs, ev_mmax, ev_goto, ev_jsr, ev_icmp_eq, ev_if_eq, ev_icmp_ne, ev_if_ne, ev_icmp_lt, ev_if_lt, ev_icmp_ge, ev_if_ge, ev_icmp_gt, ev_if_gt, ev_icmp_le, ev_if_le, ev_ifnull0, ev_ifnull1, ev_ifnn0, ev_ifnn1, ev_tsw, ev_lsw, ev_iret, ev_zret, ev_lret, ev_aret, ev_ret, ev_call0, ev_call1, ev_call2, ev_call3, ev_call4, ev_call5, ev_call6, Option.toList_some, Option.toList_none, List.cons_append, List.nil_append, List.length_cons, List.length_nil, Nat.reduceMod, Nat.reduceDiv, Nat.reduceLeDiff, nc, ↓reduceIte, Nat.zero_le, reduceCtorEq, w32_id, Int.reduceEq, Int.reduceNe, Int.reduceLT, Int.reduceLE, Int.reduceGT, Int.reduceGE, Int.reduceAdd, Int.reduceSub, Int.reduceMul, Int.reduceNeg, ne_eq, not_true_eq_false, not_false_eq_true, eq_self, ↓if_pos, ↓if_neg, J_68_0, k_68_0, J_68_16, k_68_16, J_68_45, k_68_45, J_68_60, k_68_60, r0, r1, tr0, tr1, tr2, tr3, tr4, tr5, tr6, tr7, en, h6, ef, zf, zw, a3]), if_neg (by omega)]
    exact e2'
theorem c_row (g : gT b n) (h : cAt M b n p) (p0 : 0 ≤ p) (p1 : p ≤ n) (hk : tK b n p ≠ 0) (hd : cDr M d) (hI : dI d) : ∃ v M', fR M M' ∧ cRes b n (pRow b n d p) v M' ∧ evc X 67 [vR (some 21)] SH0 M = some (some (vI v), SH0, M') := by
  have k21 := w0_k21
  have r0 := w0_r21_0
  have r1 := w0_r21_1
  have ct := w0_ch22
  obtain ⟨tk0, tr0, tr1, tr2, tr3, tr4, tr5, tr6, tr7, tk1, tk2, tk3, tk4, tk5, tk6, tk7, tk8, tl1, tl2, tl3, tl4, tl5, tl6, tl7, tl8⟩ := ct
  have s0 : M 23 0 = d.1 0 := hd.2.2.1 0 (by omega) (by omega)
  have s1 : M 23 1 = d.1 1 := hd.2.2.1 1 (by omega) (by omega)
  have a3 := hd.1
  have g0 := hI.1.1
  rw [E_67 k21]
  unfold pRow
  by_cases z : d.1 1 ≤ d.2.2.2.2.2.1
  · have w := c_wrong (X := X) (M := M) (w := 6)
    rw [h.2.1] at w
    refine ⟨0, _, fR_w fR_0, cRes_e (e := (6, tQ b n p)) (if_pos z) (by rw [up_ne2 (by omega), up_eq]) up_eq, ?_⟩
    simp (disch := first | assumption | decide | omega | (simp only [List.length_cons, List.length_nil] <;> omega)) only [lgt_0, lgt_s, lset_0, lset_s, lst1_0, lst1_s, lst2_0, lst2_s, ev_iconst, ev_lconst, ev_ldc, ev_null, ev_iload, ev_lload, ev_aload, ev_istore, ev_lstore, ev_astore, ev_iinc, ev_iadd, ev_isub, ev_imul, ev_iand, ev_ior, ev_ishl, ev_ishr, ev_idiv, ev_irem, ev_ineg, ev_ladd, ev_lsub, ev_lmul, ev_land, ev_lor, ev_ldiv, ev_lrem, ev_lshl, ev_i2l, ev_l2i, ev_i2b, ev_i2s, ev_lcmp, ev_dupI, ev_dupR, ev_dup2, ev_popI, ev_popR, ev_alen, ev_xlen, ev_xald, ev_iald, ev_lald, ev_bald, ev_zald, ev_aald, ev_iast, ev_last, ev_bast, ev_zast, ev_aast, ev_gfI, ev_gfL, ev_gfR, ev_pfI, ev_pfZ, ev_pfL, ev_pfR, ev_new, ev_newa, ev_newq, ev_copy, ev_slen, ev_schr, ev_obj, ev_mmin, ev_mabs, ev_mmax, ev_goto, ev_jsr, ev_icmp_eq, ev_if_eq, ev_icmp_ne, ev_if_ne, ev_icmp_lt, ev_if_lt, ev_icmp_ge, ev_if_ge, ev_icmp_gt, ev_if_gt, ev_icmp_le, ev_if_le, ev_ifnull0, ev_ifnull1, ev_ifnn0, ev_ifnn1, ev_tsw, ev_lsw, ev_iret, ev_zret, ev_lret, ev_aret, ev_ret, ev_call0, ev_call1, ev_call2, ev_call3, ev_call4, ev_call5, ev_call6, Option.toList_some, Option.toList_none, List.cons_append, List.nil_append, List.length_cons, List.length_nil, Nat.reduceMod, Nat.reduceDiv, Nat.reduceLeDiff, nc, ↓reduceIte, Nat.zero_le, reduceCtorEq, w32_id, Int.reduceEq, Int.reduceNe, Int.reduceLT, Int.reduceLE, Int.reduceGT, Int.reduceGE, Int.reduceAdd, Int.reduceSub, Int.reduceMul, Int.reduceNeg, ne_eq, not_true_eq_false, not_false_eq_true, eq_self, ↓if_pos, ↓if_neg, J_67_0, k_67_0, J_67_26, k_67_26, J_67_55, k_67_55, J_67_97, k_67_97, J_67_101, k_67_101, J_67_102, k_67_102, J_67_103, k_67_103, J_67_114, k_67_114, J_67_120, k_67_120, r0, r1, tr0, tr1, tr2, tr3, tr4, tr5, tr6, tr7, s1, a3, z, w]
  rw [if_neg z]
  have t1 := tE_on (b := b) p1 hk p0
  obtain ⟨v, M2, f2, res, e2⟩ := c_stsF (X := X) g (d.1 0 + 1).toNat 0 d (tE b n p) M (by omega) (Int.le_refl _) g0.1 t1.1 t1.2.1 hI (by omega) h.1 hd
  refine ⟨v, M2, f2, res, ?_⟩
  simp (disch := first | assumption | decide | omega | (simp only [List.length_cons, List.length_nil] <;> omega)) only [lgt_0, lgt_s, lset_0, lset_s, lst1_0, lst1_s, lst2_0, lst2_s, ev_iconst, ev_lconst, ev_ldc, ev_null, ev_iload, ev_lload, ev_aload, ev_istore, ev_lstore, ev_astore, ev_iinc, ev_iadd, ev_isub, ev_imul, ev_iand, ev_ior, ev_ishl, ev_ishr, ev_idiv, ev_irem, ev_ineg, ev_ladd, ev_lsub, ev_lmul, ev_land, ev_lor, ev_ldiv, ev_lrem, ev_lshl, ev_i2l, ev_l2i, ev_i2b, ev_i2s, ev_lcmp, ev_dupI, ev_dupR, ev_dup2, ev_popI, ev_popR, ev_alen, ev_xlen, ev_xald, ev_iald, ev_lald, ev_bald, ev_zald, ev_aald, ev_iast, ev_last, ev_bast, ev_zast, ev_aast, ev_gfI, ev_gfL, ev_gfR, ev_pfI, ev_pfZ, ev_pfL, ev_pfR, ev_new, ev_newa, ev_newq, ev_copy, ev_slen, ev_schr, ev_obj, ev_mmin, ev_mabs, ev_mmax, ev_goto, ev_jsr, ev_icmp_eq, ev_if_eq, ev_icmp_ne, ev_if_ne, ev_icmp_lt, ev_if_lt, ev_icmp_ge, ev_if_ge, ev_icmp_gt, ev_if_gt, ev_icmp_le, ev_if_le, ev_ifnull0, ev_ifnull1, ev_ifnn0, ev_ifnn1, ev_tsw, ev_lsw, ev_iret, ev_zret, ev_lret, ev_aret, ev_ret, ev_call0, ev_call1, ev_call2, ev_call3, ev_call4, ev_call5, ev_call6, Option.toList_some, Option.toList_none, List.cons_append, List.nil_append, List.length_cons, List.length_nil, Nat.reduceMod, Nat.reduceDiv, Nat.reduceLeDiff, nc, ↓reduceIte, Nat.zero_le, reduceCtorEq, w32_id, Int.reduceEq, Int.reduceNe, Int.reduceLT, Int.reduceLE, Int.reduceGT, Int.reduceGE, Int.reduceAdd, Int.reduceSub, Int.reduceMul, Int.reduceNeg, ne_eq, not_true_eq_false, not_false_eq_true, eq_self, ↓if_pos, ↓if_neg, J_67_0, k_67_0, J_67_26, k_67_26, J_67_55, k_67_55, J_67_97, k_67_97, J_67_101, k_67_101, J_67_102, k_67_102, J_67_103, k_67_103, J_67_114, k_67_114, J_67_120, k_67_120, r0, r1, tr0, tr1, tr2, tr3, tr4, tr5, tr6, tr7, s0, s1, a3, z, e2]
theorem key_iff {j k : Nat} (hj : j < 15) (hk : kl k = CK.getD j []) : (tK b n p = 2 ∧ tW b n p = kl k) ↔ pKey b n p = (j : Int) := by
  unfold pKey
  rw [hk]
  constructor
  · rintro ⟨z, y⟩
    rw [if_pos z]
    exact (ck_iff hj).mpr y
  · intro h
    by_cases z : tK b n p = 2
    · rw [if_pos z] at h
      exact ⟨z, (ck_iff hj).mp h⟩
    · rw [if_neg z] at h
      omega
theorem cRes_01 {r : PE (Int × DS)} {v : Int} (h : cRes b n r v M) : 0 ≤ v ∧ v < 2 := by
  cases hr : r with
  | error e => have := (h.1 e hr).1; omega
  | ok x => have := (h.2 x hr).1; omega
theorem c_part (g : gT b n) (h : cAt M b n p) (p0 : 0 ≤ p) (p1 : p ≤ n) (hk : tK b n p ≠ 0) (hd : cDr M d) (hI : dI d) : ∃ v M', fR M M' ∧ cRes b n (pPart b n d p) v M' ∧ evc X 63 [vR (some 21)] SH0 M = some (some (vI v), SH0, M') := by
  have k21 := w0_k21
  have r0 := w0_r21_0
  rw [E_63 k21]
  unfold pPart
  have i1 := key_iff (b := b) (n := n) (p := p) (j := 1) (k := 1) (by omega) rfl
  have e1 := c_isWord (X := X) (k := 1) (by omega) h
  by_cases z1 : pKey b n p = 1
  · rw [if_pos (i1.mpr z1)] at e1
    rw [if_pos z1]
    obtain ⟨v, M2, f2, res, e⟩ := c_col (X := X) g h p0 p1 hk hd hI
    have v01 := cRes_01 res
    refine ⟨v, M2, f2, res, ?_⟩
    simp (disch := first | assumption | decide | omega | (simp only [List.length_cons, List.length_nil] <;> omega)) only [lgt_0, lgt_s, lset_0, lset_s, lst1_0, lst1_s, lst2_0, lst2_s, ev_iconst, ev_lconst, ev_ldc, ev_null, ev_iload, ev_lload, ev_aload, ev_istore, ev_lstore, ev_astore, ev_iinc, ev_iadd, ev_isub, ev_imul, ev_iand, ev_ior, ev_ishl, ev_ishr, ev_idiv, ev_irem, ev_ineg, ev_ladd, ev_lsub, ev_lmul, ev_land, ev_lor, ev_ldiv, ev_lrem, ev_lshl, ev_i2l, ev_l2i, ev_i2b, ev_i2s, ev_lcmp, ev_dupI, ev_dupR, ev_dup2, ev_popI, ev_popR, ev_alen, ev_xlen, ev_xald, ev_iald, ev_lald, ev_bald, ev_zald, ev_aald, ev_iast, ev_last, ev_bast, ev_zast, ev_aast, ev_gfI, ev_gfL, ev_gfR, ev_pfI, ev_pfZ, ev_pfL, ev_pfR, ev_new, ev_newa, ev_newq, ev_copy, ev_slen, ev_schr, ev_obj, ev_mmin, ev_mabs, ev_mmax, ev_goto, ev_jsr, ev_icmp_eq, ev_if_eq, ev_icmp_ne, ev_if_ne, ev_icmp_lt, ev_if_lt, ev_icmp_ge, ev_if_ge, ev_icmp_gt, ev_if_gt, ev_icmp_le, ev_if_le, ev_ifnull0, ev_ifnull1, ev_ifnn0, ev_ifnn1, ev_tsw, ev_lsw, ev_iret, ev_zret, ev_lret, ev_aret, ev_ret, ev_call0, ev_call1, ev_call2, ev_call3, ev_call4, ev_call5, ev_call6, Option.toList_some, Option.toList_none, List.cons_append, List.nil_append, List.length_cons, List.length_nil, Nat.reduceMod, Nat.reduceDiv, Nat.reduceLeDiff, nc, ↓reduceIte, Nat.zero_le, reduceCtorEq, w32_id, Int.reduceEq, Int.reduceNe, Int.reduceLT, Int.reduceLE, Int.reduceGT, Int.reduceGE, Int.reduceAdd, Int.reduceSub, Int.reduceMul, Int.reduceNeg, ne_eq, not_true_eq_false, not_false_eq_true, eq_self, ↓if_pos, ↓if_neg, J_63_0, k_63_0, J_63_17, k_63_17, J_63_34, k_63_34, J_63_55, k_63_55, J_63_78, k_63_78, J_63_100, k_63_100, J_63_124, k_63_124, J_63_148, k_63_148, J_63_170, k_63_170, J_63_193, k_63_193, J_63_216, k_63_216, J_63_233, k_63_233, r0, e1, e]
  rw [if_neg (fun y => z1 (i1.mp y))] at e1
  rw [if_neg z1]
  have i2 := key_iff (b := b) (n := n) (p := p) (j := 2) (k := 4) (by omega) rfl
  have e2 := c_isWord (X := X) (k := 4) (by omega) h
  by_cases z2 : pKey b n p = 2
  · rw [if_pos (i2.mpr z2)] at e2
    rw [if_pos z2]
    obtain ⟨v, M2, f2, res, e⟩ := c_row (X := X) g h p0 p1 hk hd hI
    have v01 := cRes_01 res
    refine ⟨v, M2, f2, res, ?_⟩
    simp (disch := first | assumption | decide | omega | (simp only [List.length_cons, List.length_nil] <;> omega)) only [lgt_0, lgt_s, lset_0, lset_s, lst1_0, lst1_s, lst2_0, lst2_s, ev_iconst, ev_lconst, ev_ldc, ev_null, ev_iload, ev_lload, ev_aload, ev_istore, ev_lstore, ev_astore, ev_iinc, ev_iadd, ev_isub, ev_imul, ev_iand, ev_ior, ev_ishl, ev_ishr, ev_idiv, ev_irem, ev_ineg, ev_ladd, ev_lsub, ev_lmul, ev_land, ev_lor, ev_ldiv, ev_lrem, ev_lshl, ev_i2l, ev_l2i, ev_i2b, ev_i2s, ev_lcmp, ev_dupI, ev_dupR, ev_dup2, ev_popI, ev_popR, ev_alen, ev_xlen, ev_xald, ev_iald, ev_lald, ev_bald, ev_zald, ev_aald, ev_iast, ev_last, ev_bast, ev_zast, ev_aast, ev_gfI, ev_gfL, ev_gfR, ev_pfI, ev_pfZ, ev_pfL, ev_pfR, ev_new, ev_newa, ev_newq, ev_copy, ev_slen, ev_schr, ev_obj, ev_mmin, ev_mabs, ev_mmax, ev_goto, ev_jsr, ev_icmp_eq, ev_if_eq, ev_icmp_ne, ev_if_ne, ev_icmp_lt, ev_if_lt, ev_icmp_ge, ev_if_ge, ev_icmp_gt, ev_if_gt, ev_icmp_le, ev_if_le, ev_ifnull0, ev_ifnull1, ev_ifnn0, ev_ifnn1, ev_tsw, ev_lsw, ev_iret, ev_zret, ev_lret, ev_aret, ev_ret, ev_call0, ev_call1, ev_call2, ev_call3, ev_call4, ev_call5, ev_call6, Option.toList_some, Option.toList_none, List.cons_append, List.nil_append, List.length_cons, List.length_nil, Nat.reduceMod, Nat.reduceDiv, Nat.reduceLeDiff, nc, ↓reduceIte, Nat.zero_le, reduceCtorEq, w32_id, Int.reduceEq, Int.reduceNe, Int.reduceLT, Int.reduceLE, Int.reduceGT, Int.reduceGE, Int.reduceAdd, Int.reduceSub, Int.reduceMul, Int.reduceNeg, ne_eq, not_true_eq_false, not_false_eq_true, eq_self, ↓if_pos, ↓if_neg, J_63_0, k_63_0, J_63_17, k_63_17, J_63_34, k_63_34, J_63_55, k_63_55, J_63_78, k_63_78, J_63_100, k_63_100, J_63_124, k_63_124, J_63_148, k_63_148, J_63_170, k_63_170, J_63_193, k_63_193, J_63_216, k_63_216, J_63_233, k_63_233, r0, e1, e2, e]
  rw [if_neg (fun y => z2 (i2.mp y))] at e2
  rw [if_neg z2]
  have i3 := key_iff (b := b) (n := n) (p := p) (j := 3) (k := 5) (by omega) rfl
  have e3 := c_isWord (X := X) (k := 5) (by omega) h
  by_cases z3 : pKey b n p = 3
  · rw [if_pos (i3.mpr z3)] at e3
    rw [if_pos z3]
    obtain ⟨v, M2, f2, res, e⟩ := c_set (X := X) g h p0 p1 hk hd (s := 3) (lo := 0) (hi := 99) (by omega)
    have v01 := cRes_01 res
    refine ⟨v, M2, f2, res, ?_⟩
    rw [show ((3 : Nat) : Int) = 3 from rfl] at e
    simp (disch := first | assumption | decide | omega | (simp only [List.length_cons, List.length_nil] <;> omega)) only [lgt_0, lgt_s, lset_0, lset_s, lst1_0, lst1_s, lst2_0, lst2_s, ev_iconst, ev_lconst, ev_ldc, ev_null, ev_iload, ev_lload, ev_aload, ev_istore, ev_lstore, ev_astore, ev_iinc, ev_iadd, ev_isub, ev_imul, ev_iand, ev_ior, ev_ishl, ev_ishr, ev_idiv, ev_irem, ev_ineg, ev_ladd, ev_lsub, ev_lmul, ev_land, ev_lor, ev_ldiv, ev_lrem, ev_lshl, ev_i2l, ev_l2i, ev_i2b, ev_i2s, ev_lcmp, ev_dupI, ev_dupR, ev_dup2, ev_popI, ev_popR, ev_alen, ev_xlen, ev_xald, ev_iald, ev_lald, ev_bald, ev_zald, ev_aald, ev_iast, ev_last, ev_bast, ev_zast, ev_aast, ev_gfI, ev_gfL, ev_gfR, ev_pfI, ev_pfZ, ev_pfL, ev_pfR, ev_new, ev_newa, ev_newq, ev_copy, ev_slen, ev_schr, ev_obj, ev_mmin, ev_mabs, ev_mmax, ev_goto, ev_jsr, ev_icmp_eq, ev_if_eq, ev_icmp_ne, ev_if_ne, ev_icmp_lt, ev_if_lt, ev_icmp_ge, ev_if_ge, ev_icmp_gt, ev_if_gt, ev_icmp_le, ev_if_le, ev_ifnull0, ev_ifnull1, ev_ifnn0, ev_ifnn1, ev_tsw, ev_lsw, ev_iret, ev_zret, ev_lret, ev_aret, ev_ret, ev_call0, ev_call1, ev_call2, ev_call3, ev_call4, ev_call5, ev_call6, Option.toList_some, Option.toList_none, List.cons_append, List.nil_append, List.length_cons, List.length_nil, Nat.reduceMod, Nat.reduceDiv, Nat.reduceLeDiff, nc, ↓reduceIte, Nat.zero_le, reduceCtorEq, w32_id, Int.reduceEq, Int.reduceNe, Int.reduceLT, Int.reduceLE, Int.reduceGT, Int.reduceGE, Int.reduceAdd, Int.reduceSub, Int.reduceMul, Int.reduceNeg, ne_eq, not_true_eq_false, not_false_eq_true, eq_self, ↓if_pos, ↓if_neg, J_63_0, k_63_0, J_63_17, k_63_17, J_63_34, k_63_34, J_63_55, k_63_55, J_63_78, k_63_78, J_63_100, k_63_100, J_63_124, k_63_124, J_63_148, k_63_148, J_63_170, k_63_170, J_63_193, k_63_193, J_63_216, k_63_216, J_63_233, k_63_233, r0, e1, e2, e3, e]
  rw [if_neg (fun y => z3 (i3.mp y))] at e3
  rw [if_neg z3]
  have i4 := key_iff (b := b) (n := n) (p := p) (j := 4) (k := 6) (by omega) rfl
  have e4 := c_isWord (X := X) (k := 6) (by omega) h
  by_cases z4 : pKey b n p = 4
  · rw [if_pos (i4.mpr z4)] at e4
    rw [if_pos z4]
    obtain ⟨v, M2, f2, res, e⟩ := c_pri (X := X) g h p0 p1 hk hd (s := 4) (lo := 0) (hi := 47) (mc := 9) (by omega)
    have v01 := cRes_01 res
    refine ⟨v, M2, f2, res, ?_⟩
    rw [show ((4 : Nat) : Int) = 4 from rfl] at e
    simp (disch := first | assumption | decide | omega | (simp only [List.length_cons, List.length_nil] <;> omega)) only [lgt_0, lgt_s, lset_0, lset_s, lst1_0, lst1_s, lst2_0, lst2_s, ev_iconst, ev_lconst, ev_ldc, ev_null, ev_iload, ev_lload, ev_aload, ev_istore, ev_lstore, ev_astore, ev_iinc, ev_iadd, ev_isub, ev_imul, ev_iand, ev_ior, ev_ishl, ev_ishr, ev_idiv, ev_irem, ev_ineg, ev_ladd, ev_lsub, ev_lmul, ev_land, ev_lor, ev_ldiv, ev_lrem, ev_lshl, ev_i2l, ev_l2i, ev_i2b, ev_i2s, ev_lcmp, ev_dupI, ev_dupR, ev_dup2, ev_popI, ev_popR, ev_alen, ev_xlen, ev_xald, ev_iald, ev_lald, ev_bald, ev_zald, ev_aald, ev_iast, ev_last, ev_bast, ev_zast, ev_aast, ev_gfI, ev_gfL, ev_gfR, ev_pfI, ev_pfZ, ev_pfL, ev_pfR, ev_new, ev_newa, ev_newq, ev_copy, ev_slen, ev_schr, ev_obj, ev_mmin, ev_mabs, ev_mmax, ev_goto, ev_jsr, ev_icmp_eq, ev_if_eq, ev_icmp_ne, ev_if_ne, ev_icmp_lt, ev_if_lt, ev_icmp_ge, ev_if_ge, ev_icmp_gt, ev_if_gt, ev_icmp_le, ev_if_le, ev_ifnull0, ev_ifnull1, ev_ifnn0, ev_ifnn1, ev_tsw, ev_lsw, ev_iret, ev_zret, ev_lret, ev_aret, ev_ret, ev_call0, ev_call1, ev_call2, ev_call3, ev_call4, ev_call5, ev_call6, Option.toList_some, Option.toList_none, List.cons_append, List.nil_append, List.length_cons, List.length_nil, Nat.reduceMod, Nat.reduceDiv, Nat.reduceLeDiff, nc, ↓reduceIte, Nat.zero_le, reduceCtorEq, w32_id, Int.reduceEq, Int.reduceNe, Int.reduceLT, Int.reduceLE, Int.reduceGT, Int.reduceGE, Int.reduceAdd, Int.reduceSub, Int.reduceMul, Int.reduceNeg, ne_eq, not_true_eq_false, not_false_eq_true, eq_self, ↓if_pos, ↓if_neg, J_63_0, k_63_0, J_63_17, k_63_17, J_63_34, k_63_34, J_63_55, k_63_55, J_63_78, k_63_78, J_63_100, k_63_100, J_63_124, k_63_124, J_63_148, k_63_148, J_63_170, k_63_170, J_63_193, k_63_193, J_63_216, k_63_216, J_63_233, k_63_233, r0, e1, e2, e3, e4, e]
  rw [if_neg (fun y => z4 (i4.mp y))] at e4
  rw [if_neg z4]
  have i5 := key_iff (b := b) (n := n) (p := p) (j := 5) (k := 8) (by omega) rfl
  have e5 := c_isWord (X := X) (k := 8) (by omega) h
  by_cases z5 : pKey b n p = 5
  · rw [if_pos (i5.mpr z5)] at e5
    rw [if_pos z5]
    obtain ⟨v, M2, f2, res, e⟩ := c_set (X := X) g h p0 p1 hk hd (s := 6) (lo := 0) (hi := 9) (by omega)
    have v01 := cRes_01 res
    refine ⟨v, M2, f2, res, ?_⟩
    rw [show ((6 : Nat) : Int) = 6 from rfl] at e
    simp (disch := first | assumption | decide | omega | (simp only [List.length_cons, List.length_nil] <;> omega)) only [lgt_0, lgt_s, lset_0, lset_s, lst1_0, lst1_s, lst2_0, lst2_s, ev_iconst, ev_lconst, ev_ldc, ev_null, ev_iload, ev_lload, ev_aload, ev_istore, ev_lstore, ev_astore, ev_iinc, ev_iadd, ev_isub, ev_imul, ev_iand, ev_ior, ev_ishl, ev_ishr, ev_idiv, ev_irem, ev_ineg, ev_ladd, ev_lsub, ev_lmul, ev_land, ev_lor, ev_ldiv, ev_lrem, ev_lshl, ev_i2l, ev_l2i, ev_i2b, ev_i2s, ev_lcmp, ev_dupI, ev_dupR, ev_dup2, ev_popI, ev_popR, ev_alen, ev_xlen, ev_xald, ev_iald, ev_lald, ev_bald, ev_zald, ev_aald, ev_iast, ev_last, ev_bast, ev_zast, ev_aast, ev_gfI, ev_gfL, ev_gfR, ev_pfI, ev_pfZ, ev_pfL, ev_pfR, ev_new, ev_newa, ev_newq, ev_copy, ev_slen, ev_schr, ev_obj, ev_mmin, ev_mabs, ev_mmax, ev_goto, ev_jsr, ev_icmp_eq, ev_if_eq, ev_icmp_ne, ev_if_ne, ev_icmp_lt, ev_if_lt, ev_icmp_ge, ev_if_ge, ev_icmp_gt, ev_if_gt, ev_icmp_le, ev_if_le, ev_ifnull0, ev_ifnull1, ev_ifnn0, ev_ifnn1, ev_tsw, ev_lsw, ev_iret, ev_zret, ev_lret, ev_aret, ev_ret, ev_call0, ev_call1, ev_call2, ev_call3, ev_call4, ev_call5, ev_call6, Option.toList_some, Option.toList_none, List.cons_append, List.nil_append, List.length_cons, List.length_nil, Nat.reduceMod, Nat.reduceDiv, Nat.reduceLeDiff, nc, ↓reduceIte, Nat.zero_le, reduceCtorEq, w32_id, Int.reduceEq, Int.reduceNe, Int.reduceLT, Int.reduceLE, Int.reduceGT, Int.reduceGE, Int.reduceAdd, Int.reduceSub, Int.reduceMul, Int.reduceNeg, ne_eq, not_true_eq_false, not_false_eq_true, eq_self, ↓if_pos, ↓if_neg, J_63_0, k_63_0, J_63_17, k_63_17, J_63_34, k_63_34, J_63_55, k_63_55, J_63_78, k_63_78, J_63_100, k_63_100, J_63_124, k_63_124, J_63_148, k_63_148, J_63_170, k_63_170, J_63_193, k_63_193, J_63_216, k_63_216, J_63_233, k_63_233, r0, e1, e2, e3, e4, e5, e]
  rw [if_neg (fun y => z5 (i5.mp y))] at e5
  rw [if_neg z5]
  have i6 := key_iff (b := b) (n := n) (p := p) (j := 6) (k := 9) (by omega) rfl
  have e6 := c_isWord (X := X) (k := 9) (by omega) h
  by_cases z6 : pKey b n p = 6
  · rw [if_pos (i6.mpr z6)] at e6
    rw [if_pos z6]
    obtain ⟨v, M2, f2, res, e⟩ := c_pri (X := X) g h p0 p1 hk hd (s := 7) (lo := 0) (hi := 7) (mc := 99) (by omega)
    have v01 := cRes_01 res
    refine ⟨v, M2, f2, res, ?_⟩
    rw [show ((7 : Nat) : Int) = 7 from rfl] at e
    simp (disch := first | assumption | decide | omega | (simp only [List.length_cons, List.length_nil] <;> omega)) only [lgt_0, lgt_s, lset_0, lset_s, lst1_0, lst1_s, lst2_0, lst2_s, ev_iconst, ev_lconst, ev_ldc, ev_null, ev_iload, ev_lload, ev_aload, ev_istore, ev_lstore, ev_astore, ev_iinc, ev_iadd, ev_isub, ev_imul, ev_iand, ev_ior, ev_ishl, ev_ishr, ev_idiv, ev_irem, ev_ineg, ev_ladd, ev_lsub, ev_lmul, ev_land, ev_lor, ev_ldiv, ev_lrem, ev_lshl, ev_i2l, ev_l2i, ev_i2b, ev_i2s, ev_lcmp, ev_dupI, ev_dupR, ev_dup2, ev_popI, ev_popR, ev_alen, ev_xlen, ev_xald, ev_iald, ev_lald, ev_bald, ev_zald, ev_aald, ev_iast, ev_last, ev_bast, ev_zast, ev_aast, ev_gfI, ev_gfL, ev_gfR, ev_pfI, ev_pfZ, ev_pfL, ev_pfR, ev_new, ev_newa, ev_newq, ev_copy, ev_slen, ev_schr, ev_obj, ev_mmin, ev_mabs, ev_mmax, ev_goto, ev_jsr, ev_icmp_eq, ev_if_eq, ev_icmp_ne, ev_if_ne, ev_icmp_lt, ev_if_lt, ev_icmp_ge, ev_if_ge, ev_icmp_gt, ev_if_gt, ev_icmp_le, ev_if_le, ev_ifnull0, ev_ifnull1, ev_ifnn0, ev_ifnn1, ev_tsw, ev_lsw, ev_iret, ev_zret, ev_lret, ev_aret, ev_ret, ev_call0, ev_call1, ev_call2, ev_call3, ev_call4, ev_call5, ev_call6, Option.toList_some, Option.toList_none, List.cons_append, List.nil_append, List.length_cons, List.length_nil, Nat.reduceMod, Nat.reduceDiv, Nat.reduceLeDiff, nc, ↓reduceIte, Nat.zero_le, reduceCtorEq, w32_id, Int.reduceEq, Int.reduceNe, Int.reduceLT, Int.reduceLE, Int.reduceGT, Int.reduceGE, Int.reduceAdd, Int.reduceSub, Int.reduceMul, Int.reduceNeg, ne_eq, not_true_eq_false, not_false_eq_true, eq_self, ↓if_pos, ↓if_neg, J_63_0, k_63_0, J_63_17, k_63_17, J_63_34, k_63_34, J_63_55, k_63_55, J_63_78, k_63_78, J_63_100, k_63_100, J_63_124, k_63_124, J_63_148, k_63_148, J_63_170, k_63_170, J_63_193, k_63_193, J_63_216, k_63_216, J_63_233, k_63_233, r0, e1, e2, e3, e4, e5, e6, e]
  rw [if_neg (fun y => z6 (i6.mp y))] at e6
  rw [if_neg z6]
  have i7 := key_iff (b := b) (n := n) (p := p) (j := 7) (k := 10) (by omega) rfl
  have e7 := c_isWord (X := X) (k := 10) (by omega) h
  by_cases z7 : pKey b n p = 7
  · rw [if_pos (i7.mpr z7)] at e7
    rw [if_pos z7]
    obtain ⟨v, M2, f2, res, e⟩ := c_pri (X := X) g h p0 p1 hk hd (s := 9) (lo := 1) (hi := 48) (mc := 99) (by omega)
    have v01 := cRes_01 res
    refine ⟨v, M2, f2, res, ?_⟩
    rw [show ((9 : Nat) : Int) = 9 from rfl] at e
    simp (disch := first | assumption | decide | omega | (simp only [List.length_cons, List.length_nil] <;> omega)) only [lgt_0, lgt_s, lset_0, lset_s, lst1_0, lst1_s, lst2_0, lst2_s, ev_iconst, ev_lconst, ev_ldc, ev_null, ev_iload, ev_lload, ev_aload, ev_istore, ev_lstore, ev_astore, ev_iinc, ev_iadd, ev_isub, ev_imul, ev_iand, ev_ior, ev_ishl, ev_ishr, ev_idiv, ev_irem, ev_ineg, ev_ladd, ev_lsub, ev_lmul, ev_land, ev_lor, ev_ldiv, ev_lrem, ev_lshl, ev_i2l, ev_l2i, ev_i2b, ev_i2s, ev_lcmp, ev_dupI, ev_dupR, ev_dup2, ev_popI, ev_popR, ev_alen, ev_xlen, ev_xald, ev_iald, ev_lald, ev_bald, ev_zald, ev_aald, ev_iast, ev_last, ev_bast, ev_zast, ev_aast, ev_gfI, ev_gfL, ev_gfR, ev_pfI, ev_pfZ, ev_pfL, ev_pfR, ev_new, ev_newa, ev_newq, ev_copy, ev_slen, ev_schr, ev_obj, ev_mmin, ev_mabs, ev_mmax, ev_goto, ev_jsr, ev_icmp_eq, ev_if_eq, ev_icmp_ne, ev_if_ne, ev_icmp_lt, ev_if_lt, ev_icmp_ge, ev_if_ge, ev_icmp_gt, ev_if_gt, ev_icmp_le, ev_if_le, ev_ifnull0, ev_ifnull1, ev_ifnn0, ev_ifnn1, ev_tsw, ev_lsw, ev_iret, ev_zret, ev_lret, ev_aret, ev_ret, ev_call0, ev_call1, ev_call2, ev_call3, ev_call4, ev_call5, ev_call6, Option.toList_some, Option.toList_none, List.cons_append, List.nil_append, List.length_cons, List.length_nil, Nat.reduceMod, Nat.reduceDiv, Nat.reduceLeDiff, nc, ↓reduceIte, Nat.zero_le, reduceCtorEq, w32_id, Int.reduceEq, Int.reduceNe, Int.reduceLT, Int.reduceLE, Int.reduceGT, Int.reduceGE, Int.reduceAdd, Int.reduceSub, Int.reduceMul, Int.reduceNeg, ne_eq, not_true_eq_false, not_false_eq_true, eq_self, ↓if_pos, ↓if_neg, J_63_0, k_63_0, J_63_17, k_63_17, J_63_34, k_63_34, J_63_55, k_63_55, J_63_78, k_63_78, J_63_100, k_63_100, J_63_124, k_63_124, J_63_148, k_63_148, J_63_170, k_63_170, J_63_193, k_63_193, J_63_216, k_63_216, J_63_233, k_63_233, r0, e1, e2, e3, e4, e5, e6, e7, e]
  rw [if_neg (fun y => z7 (i7.mp y))] at e7
  rw [if_neg z7]
  have i8 := key_iff (b := b) (n := n) (p := p) (j := 8) (k := 11) (by omega) rfl
  have e8 := c_isWord (X := X) (k := 11) (by omega) h
  by_cases z8 : pKey b n p = 8
  · rw [if_pos (i8.mpr z8)] at e8
    rw [if_pos z8]
    obtain ⟨v, M2, f2, res, e⟩ := c_set (X := X) g h p0 p1 hk hd (s := 11) (lo := 0) (hi := 99) (by omega)
    have v01 := cRes_01 res
    refine ⟨v, M2, f2, res, ?_⟩
    rw [show ((11 : Nat) : Int) = 11 from rfl] at e
    simp (disch := first | assumption | decide | omega | (simp only [List.length_cons, List.length_nil] <;> omega)) only [lgt_0, lgt_s, lset_0, lset_s, lst1_0, lst1_s, lst2_0, lst2_s, ev_iconst, ev_lconst, ev_ldc, ev_null, ev_iload, ev_lload, ev_aload, ev_istore, ev_lstore, ev_astore, ev_iinc, ev_iadd, ev_isub, ev_imul, ev_iand, ev_ior, ev_ishl, ev_ishr, ev_idiv, ev_irem, ev_ineg, ev_ladd, ev_lsub, ev_lmul, ev_land, ev_lor, ev_ldiv, ev_lrem, ev_lshl, ev_i2l, ev_l2i, ev_i2b, ev_i2s, ev_lcmp, ev_dupI, ev_dupR, ev_dup2, ev_popI, ev_popR, ev_alen, ev_xlen, ev_xald, ev_iald, ev_lald, ev_bald, ev_zald, ev_aald, ev_iast, ev_last, ev_bast, ev_zast, ev_aast, ev_gfI, ev_gfL, ev_gfR, ev_pfI, ev_pfZ, ev_pfL, ev_pfR, ev_new, ev_newa, ev_newq, ev_copy, ev_slen, ev_schr, ev_obj, ev_mmin, ev_mabs, ev_mmax, ev_goto, ev_jsr, ev_icmp_eq, ev_if_eq, ev_icmp_ne, ev_if_ne, ev_icmp_lt, ev_if_lt, ev_icmp_ge, ev_if_ge, ev_icmp_gt, ev_if_gt, ev_icmp_le, ev_if_le, ev_ifnull0, ev_ifnull1, ev_ifnn0, ev_ifnn1, ev_tsw, ev_lsw, ev_iret, ev_zret, ev_lret, ev_aret, ev_ret, ev_call0, ev_call1, ev_call2, ev_call3, ev_call4, ev_call5, ev_call6, Option.toList_some, Option.toList_none, List.cons_append, List.nil_append, List.length_cons, List.length_nil, Nat.reduceMod, Nat.reduceDiv, Nat.reduceLeDiff, nc, ↓reduceIte, Nat.zero_le, reduceCtorEq, w32_id, Int.reduceEq, Int.reduceNe, Int.reduceLT, Int.reduceLE, Int.reduceGT, Int.reduceGE, Int.reduceAdd, Int.reduceSub, Int.reduceMul, Int.reduceNeg, ne_eq, not_true_eq_false, not_false_eq_true, eq_self, ↓if_pos, ↓if_neg, J_63_0, k_63_0, J_63_17, k_63_17, J_63_34, k_63_34, J_63_55, k_63_55, J_63_78, k_63_78, J_63_100, k_63_100, J_63_124, k_63_124, J_63_148, k_63_148, J_63_170, k_63_170, J_63_193, k_63_193, J_63_216, k_63_216, J_63_233, k_63_233, r0, e1, e2, e3, e4, e5, e6, e7, e8, e]
  rw [if_neg (fun y => z8 (i8.mp y))] at e8
  rw [if_neg z8]
  have i9 := key_iff (b := b) (n := n) (p := p) (j := 9) (k := 12) (by omega) rfl
  have e9 := c_isWord (X := X) (k := 12) (by omega) h
  by_cases z9 : pKey b n p = 9
  · rw [if_pos (i9.mpr z9)] at e9
    rw [if_pos z9]
    obtain ⟨v, M2, f2, res, e⟩ := c_set (X := X) g h p0 p1 hk hd (s := 12) (lo := 0) (hi := 999) (by omega)
    have v01 := cRes_01 res
    refine ⟨v, M2, f2, res, ?_⟩
    rw [show ((12 : Nat) : Int) = 12 from rfl] at e
    simp (disch := first | assumption | decide | omega | (simp only [List.length_cons, List.length_nil] <;> omega)) only [lgt_0, lgt_s, lset_0, lset_s, lst1_0, lst1_s, lst2_0, lst2_s, ev_iconst, ev_lconst, ev_ldc, ev_null, ev_iload, ev_lload, ev_aload, ev_istore, ev_lstore, ev_astore, ev_iinc, ev_iadd, ev_isub, ev_imul, ev_iand, ev_ior, ev_ishl, ev_ishr, ev_idiv, ev_irem, ev_ineg, ev_ladd, ev_lsub, ev_lmul, ev_land, ev_lor, ev_ldiv, ev_lrem, ev_lshl, ev_i2l, ev_l2i, ev_i2b, ev_i2s, ev_lcmp, ev_dupI, ev_dupR, ev_dup2, ev_popI, ev_popR, ev_alen, ev_xlen, ev_xald, ev_iald, ev_lald, ev_bald, ev_zald, ev_aald, ev_iast, ev_last, ev_bast, ev_zast, ev_aast, ev_gfI, ev_gfL, ev_gfR, ev_pfI, ev_pfZ, ev_pfL, ev_pfR, ev_new, ev_newa, ev_newq, ev_copy, ev_slen, ev_schr, ev_obj, ev_mmin, ev_mabs, ev_mmax, ev_goto, ev_jsr, ev_icmp_eq, ev_if_eq, ev_icmp_ne, ev_if_ne, ev_icmp_lt, ev_if_lt, ev_icmp_ge, ev_if_ge, ev_icmp_gt, ev_if_gt, ev_icmp_le, ev_if_le, ev_ifnull0, ev_ifnull1, ev_ifnn0, ev_ifnn1, ev_tsw, ev_lsw, ev_iret, ev_zret, ev_lret, ev_aret, ev_ret, ev_call0, ev_call1, ev_call2, ev_call3, ev_call4, ev_call5, ev_call6, Option.toList_some, Option.toList_none, List.cons_append, List.nil_append, List.length_cons, List.length_nil, Nat.reduceMod, Nat.reduceDiv, Nat.reduceLeDiff, nc, ↓reduceIte, Nat.zero_le, reduceCtorEq, w32_id, Int.reduceEq, Int.reduceNe, Int.reduceLT, Int.reduceLE, Int.reduceGT, Int.reduceGE, Int.reduceAdd, Int.reduceSub, Int.reduceMul, Int.reduceNeg, ne_eq, not_true_eq_false, not_false_eq_true, eq_self, ↓if_pos, ↓if_neg, J_63_0, k_63_0, J_63_17, k_63_17, J_63_34, k_63_34, J_63_55, k_63_55, J_63_78, k_63_78, J_63_100, k_63_100, J_63_124, k_63_124, J_63_148, k_63_148, J_63_170, k_63_170, J_63_193, k_63_193, J_63_216, k_63_216, J_63_233, k_63_233, r0, e1, e2, e3, e4, e5, e6, e7, e8, e9, e]
  rw [if_neg (fun y => z9 (i9.mp y))] at e9
  rw [if_neg z9]
  have i10 := key_iff (b := b) (n := n) (p := p) (j := 10) (k := 13) (by omega) rfl
  have e10 := c_isWord (X := X) (k := 13) (by omega) h
  by_cases z10 : pKey b n p = 10
  · rw [if_pos (i10.mpr z10)] at e10
    rw [if_pos z10]
    obtain ⟨v, M2, f2, res, e⟩ := c_set (X := X) g h p0 p1 hk hd (s := 13) (lo := 0) (hi := 999) (by omega)
    have v01 := cRes_01 res
    refine ⟨v, M2, f2, res, ?_⟩
    rw [show ((13 : Nat) : Int) = 13 from rfl] at e
    simp (disch := first | assumption | decide | omega | (simp only [List.length_cons, List.length_nil] <;> omega)) only [lgt_0, lgt_s, lset_0, lset_s, lst1_0, lst1_s, lst2_0, lst2_s, ev_iconst, ev_lconst, ev_ldc, ev_null, ev_iload, ev_lload, ev_aload, ev_istore, ev_lstore, ev_astore, ev_iinc, ev_iadd, ev_isub, ev_imul, ev_iand, ev_ior, ev_ishl, ev_ishr, ev_idiv, ev_irem, ev_ineg, ev_ladd, ev_lsub, ev_lmul, ev_land, ev_lor, ev_ldiv, ev_lrem, ev_lshl, ev_i2l, ev_l2i, ev_i2b, ev_i2s, ev_lcmp, ev_dupI, ev_dupR, ev_dup2, ev_popI, ev_popR, ev_alen, ev_xlen, ev_xald, ev_iald, ev_lald, ev_bald, ev_zald, ev_aald, ev_iast, ev_last, ev_bast, ev_zast, ev_aast, ev_gfI, ev_gfL, ev_gfR, ev_pfI, ev_pfZ, ev_pfL, ev_pfR, ev_new, ev_newa, ev_newq, ev_copy, ev_slen, ev_schr, ev_obj, ev_mmin, ev_mabs, ev_mmax, ev_goto, ev_jsr, ev_icmp_eq, ev_if_eq, ev_icmp_ne, ev_if_ne, ev_icmp_lt, ev_if_lt, ev_icmp_ge, ev_if_ge, ev_icmp_gt, ev_if_gt, ev_icmp_le, ev_if_le, ev_ifnull0, ev_ifnull1, ev_ifnn0, ev_ifnn1, ev_tsw, ev_lsw, ev_iret, ev_zret, ev_lret, ev_aret, ev_ret, ev_call0, ev_call1, ev_call2, ev_call3, ev_call4, ev_call5, ev_call6, Option.toList_some, Option.toList_none, List.cons_append, List.nil_append, List.length_cons, List.length_nil, Nat.reduceMod, Nat.reduceDiv, Nat.reduceLeDiff, nc, ↓reduceIte, Nat.zero_le, reduceCtorEq, w32_id, Int.reduceEq, Int.reduceNe, Int.reduceLT, Int.reduceLE, Int.reduceGT, Int.reduceGE, Int.reduceAdd, Int.reduceSub, Int.reduceMul, Int.reduceNeg, ne_eq, not_true_eq_false, not_false_eq_true, eq_self, ↓if_pos, ↓if_neg, J_63_0, k_63_0, J_63_17, k_63_17, J_63_34, k_63_34, J_63_55, k_63_55, J_63_78, k_63_78, J_63_100, k_63_100, J_63_124, k_63_124, J_63_148, k_63_148, J_63_170, k_63_170, J_63_193, k_63_193, J_63_216, k_63_216, J_63_233, k_63_233, r0, e1, e2, e3, e4, e5, e6, e7, e8, e9, e10, e]
  rw [if_neg (fun y => z10 (i10.mp y))] at e10
  rw [if_neg z10]
  have i11 := key_iff (b := b) (n := n) (p := p) (j := 11) (k := 14) (by omega) rfl
  have e11 := c_isWord (X := X) (k := 14) (by omega) h
  by_cases z11 : pKey b n p = 11
  · rw [if_pos (i11.mpr z11)] at e11
    rw [if_pos z11]
    obtain ⟨v, M2, f2, res, e⟩ := c_rnd (X := X) g h p0 p1 hk hd
    have v01 := cRes_01 res
    refine ⟨v, M2, f2, res, ?_⟩
    simp (disch := first | assumption | decide | omega | (simp only [List.length_cons, List.length_nil] <;> omega)) only [lgt_0, lgt_s, lset_0, lset_s, lst1_0, lst1_s, lst2_0, lst2_s, ev_iconst, ev_lconst, ev_ldc, ev_null, ev_iload, ev_lload, ev_aload, ev_istore, ev_lstore, ev_astore, ev_iinc, ev_iadd, ev_isub, ev_imul, ev_iand, ev_ior, ev_ishl, ev_ishr, ev_idiv, ev_irem, ev_ineg, ev_ladd, ev_lsub, ev_lmul, ev_land, ev_lor, ev_ldiv, ev_lrem, ev_lshl, ev_i2l, ev_l2i, ev_i2b, ev_i2s, ev_lcmp, ev_dupI, ev_dupR, ev_dup2, ev_popI, ev_popR, ev_alen, ev_xlen, ev_xald, ev_iald, ev_lald, ev_bald, ev_zald, ev_aald, ev_iast, ev_last, ev_bast, ev_zast, ev_aast, ev_gfI, ev_gfL, ev_gfR, ev_pfI, ev_pfZ, ev_pfL, ev_pfR, ev_new, ev_newa, ev_newq, ev_copy, ev_slen, ev_schr, ev_obj, ev_mmin, ev_mabs, ev_mmax, ev_goto, ev_jsr, ev_icmp_eq, ev_if_eq, ev_icmp_ne, ev_if_ne, ev_icmp_lt, ev_if_lt, ev_icmp_ge, ev_if_ge, ev_icmp_gt, ev_if_gt, ev_icmp_le, ev_if_le, ev_ifnull0, ev_ifnull1, ev_ifnn0, ev_ifnn1, ev_tsw, ev_lsw, ev_iret, ev_zret, ev_lret, ev_aret, ev_ret, ev_call0, ev_call1, ev_call2, ev_call3, ev_call4, ev_call5, ev_call6, Option.toList_some, Option.toList_none, List.cons_append, List.nil_append, List.length_cons, List.length_nil, Nat.reduceMod, Nat.reduceDiv, Nat.reduceLeDiff, nc, ↓reduceIte, Nat.zero_le, reduceCtorEq, w32_id, Int.reduceEq, Int.reduceNe, Int.reduceLT, Int.reduceLE, Int.reduceGT, Int.reduceGE, Int.reduceAdd, Int.reduceSub, Int.reduceMul, Int.reduceNeg, ne_eq, not_true_eq_false, not_false_eq_true, eq_self, ↓if_pos, ↓if_neg, J_63_0, k_63_0, J_63_17, k_63_17, J_63_34, k_63_34, J_63_55, k_63_55, J_63_78, k_63_78, J_63_100, k_63_100, J_63_124, k_63_124, J_63_148, k_63_148, J_63_170, k_63_170, J_63_193, k_63_193, J_63_216, k_63_216, J_63_233, k_63_233, r0, e1, e2, e3, e4, e5, e6, e7, e8, e9, e10, e11, e]
  rw [if_neg (fun y => z11 (i11.mp y))] at e11
  rw [if_neg z11]
  have w := c_wrong (X := X) (M := M) (w := 2)
  rw [h.2.1] at w
  refine ⟨0, _, fR_w fR_0, cRes_e (e := (2, tQ b n p)) rfl (by rw [up_ne2 (by omega), up_eq]) up_eq, ?_⟩
  simp (disch := first | assumption | decide | omega | (simp only [List.length_cons, List.length_nil] <;> omega)) only [lgt_0, lgt_s, lset_0, lset_s, lst1_0, lst1_s, lst2_0, lst2_s, ev_iconst, ev_lconst, ev_ldc, ev_null, ev_iload, ev_lload, ev_aload, ev_istore, ev_lstore, ev_astore, ev_iinc, ev_iadd, ev_isub, ev_imul, ev_iand, ev_ior, ev_ishl, ev_ishr, ev_idiv, ev_irem, ev_ineg, ev_ladd, ev_lsub, ev_lmul, ev_land, ev_lor, ev_ldiv, ev_lrem, ev_lshl, ev_i2l, ev_l2i, ev_i2b, ev_i2s, ev_lcmp, ev_dupI, ev_dupR, ev_dup2, ev_popI, ev_popR, ev_alen, ev_xlen, ev_xald, ev_iald, ev_lald, ev_bald, ev_zald, ev_aald, ev_iast, ev_last, ev_bast, ev_zast, ev_aast, ev_gfI, ev_gfL, ev_gfR, ev_pfI, ev_pfZ, ev_pfL, ev_pfR, ev_new, ev_newa, ev_newq, ev_copy, ev_slen, ev_schr, ev_obj, ev_mmin, ev_mabs, ev_mmax, ev_goto, ev_jsr, ev_icmp_eq, ev_if_eq, ev_icmp_ne, ev_if_ne, ev_icmp_lt, ev_if_lt, ev_icmp_ge, ev_if_ge, ev_icmp_gt, ev_if_gt, ev_icmp_le, ev_if_le, ev_ifnull0, ev_ifnull1, ev_ifnn0, ev_ifnn1, ev_tsw, ev_lsw, ev_iret, ev_zret, ev_lret, ev_aret, ev_ret, ev_call0, ev_call1, ev_call2, ev_call3, ev_call4, ev_call5, ev_call6, Option.toList_some, Option.toList_none, List.cons_append, List.nil_append, List.length_cons, List.length_nil, Nat.reduceMod, Nat.reduceDiv, Nat.reduceLeDiff, nc, ↓reduceIte, Nat.zero_le, reduceCtorEq, w32_id, Int.reduceEq, Int.reduceNe, Int.reduceLT, Int.reduceLE, Int.reduceGT, Int.reduceGE, Int.reduceAdd, Int.reduceSub, Int.reduceMul, Int.reduceNeg, ne_eq, not_true_eq_false, not_false_eq_true, eq_self, ↓if_pos, ↓if_neg, J_63_0, k_63_0, J_63_17, k_63_17, J_63_34, k_63_34, J_63_55, k_63_55, J_63_78, k_63_78, J_63_100, k_63_100, J_63_124, k_63_124, J_63_148, k_63_148, J_63_170, k_63_170, J_63_193, k_63_193, J_63_216, k_63_216, J_63_233, k_63_233, r0, e1, e2, e3, e4, e5, e6, e7, e8, e9, e10, e11, w]
end RDC
