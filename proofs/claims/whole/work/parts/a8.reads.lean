/-! CHARTS: the class reads. -/
section RDS
variable {X : Int → Int} {M : Mem} {b : Int → Int} {n p : Int} {d : DS}
theorem c_open (g : gT b n) (hb : ∀ k, 0 ≤ k → k < n → M 3 k = b k) : ∃ M', (∀ c, c ≠ 2 → M' c = M c) ∧ cTc M' b n 0 ∧ M' 2 1 = 0 ∧ evc X 38 [vR (some 2), vI n] SH0 M = some (none, SH0, M') := by
  have k2 := w0_k2
  have n8 := g.1
  have q : ¬ 800 < n := by omega
  refine ⟨up (up (up (up (up M 2 7 n) 2 1 0) 2 2 0) 2 3 (-1)) 2 9 0, fun c hc => by rw [up_ne hc, up_ne hc, up_ne hc, up_ne hc, up_ne hc], ⟨⟨?_, up_eq, fun k k0 k1 => ?_⟩, ?_, ?_⟩, ?_, ?_⟩
  · simp (disch := omega) only [up_ne, up_eq, up_ne2]
  · rw [up_ne (by omega), up_ne (by omega), up_ne (by omega), up_ne (by omega), up_ne (by omega)]
    exact hb k k0 k1
  · simp (disch := omega) only [up_ne, up_eq, up_ne2]
  · simp (disch := omega) only [up_ne, up_eq, up_ne2]
  · simp (disch := omega) only [up_ne, up_eq, up_ne2]
  · rw [E_38 k2]
    simp (disch := first | assumption | decide | omega | (simp only [List.length_cons, List.length_nil] <;> omega)) only [lgt_0, lgt_s, lset_0, lset_s, lst1_0, lst1_s, lst2_0, lst2_s, ev_iconst, ev_lconst, ev_ldc, ev_null, ev_iload, ev_lload, ev_aload, ev_istore, ev_lstore, ev_astore, ev_iinc, ev_iadd, ev_isub, ev_imul, ev_iand, ev_ior, ev_ishl, ev_ishr, ev_idiv, ev_irem, ev_ineg, ev_ladd, ev_lsub, ev_lmul, ev_land, ev_lor, ev_ldiv, ev_lrem, ev_lshl, ev_i2l, ev_l2i, ev_i2b, ev_i2s, ev_lcmp, ev_dupI, ev_dupR, ev_dup2, ev_popI, ev_popR, ev_alen, ev_xlen, ev_xald, ev_iald, ev_lald, ev_bald, ev_zald, ev_aald, ev_iast, ev_last, ev_bast, ev_zast, ev_aast, ev_gfI, ev_gfL, ev_gfR, ev_pfI, ev_pfZ, ev_pfL, ev_pfR, ev_new, ev_newa, ev_newq, ev_copy, ev_slen, ev_schr, ev_obj, ev_mmin, ev_mabs, ev_mmax, ev_goto, ev_jsr, ev_icmp_eq, ev_if_eq, ev_icmp_ne, ev_if_ne, ev_icmp_lt, ev_if_lt, ev_icmp_ge, ev_if_ge, ev_icmp_gt, ev_if_gt, ev_icmp_le, ev_if_le, ev_ifnull0, ev_ifnull1, ev_ifnn0, ev_ifnn1, ev_tsw, ev_lsw, ev_iret, ev_zret, ev_lret, ev_aret, ev_ret, ev_call0, ev_call1, ev_call2, ev_call3, ev_call4, ev_call5, ev_call6, Option.toList_some, Option.toList_none, List.cons_append, List.nil_append, List.length_cons, List.length_nil, Nat.reduceMod, Nat.reduceDiv, Nat.reduceLeDiff, nc, ↓reduceIte, Nat.zero_le, reduceCtorEq, w32_id, Int.reduceEq, Int.reduceNe, Int.reduceLT, Int.reduceLE, Int.reduceGT, Int.reduceGE, Int.reduceAdd, Int.reduceSub, Int.reduceMul, Int.reduceNeg, ne_eq, not_true_eq_false, not_false_eq_true, eq_self, ↓if_pos, ↓if_neg, J_38_0, k_38_0, q]
/-- an empty chart's settings -/
theorem c_empty : ∃ M', (∀ c, c ≠ 22 → c ≠ 23 → M' c = M c) ∧ (∀ k, 0 ≤ k → k < 15 → M' 23 k = dS0 k) ∧ evc X 4 [vR (some 22)] SH0 M = some (none, SH0, M') := by
  have ct := w0_ch22
  obtain ⟨tk0, tr0, tr1, tr2, tr3, tr4, tr5, tr6, tr7, tk1, tk2, tk3, tk4, tk5, tk6, tk7, tk8, tl1, tl2, tl3, tl4, tl5, tl6, tl7, tl8⟩ := ct
  have ef := s_fill (X := X) (M := up M 22 8 0) (a := 23) (n := 15) (v := 0) tk1 tl1 (by omega)
  have ef' : evc X 5 [vR (some (22 + 1)), vI 0] SH0 (up M 22 8 0) = some (none, SH0, mfill (up M 22 8 0) 23 15 0) := ef
  generalize hMa : mfill (up M 22 8 0) 23 15 0 = Ma at ef'
  have a23 : ∀ k, 0 ≤ k → k < 15 → Ma 23 k = 0 := fun k k0 k1 => by rw [← hMa]; exact mfill_in ⟨k0, k1⟩
  have fa : ∀ c, c ≠ 22 → c ≠ 23 → Ma c = M c := fun c h1 h2 => by rw [← hMa, mfill_ne h2, up_ne h1]
  refine ⟨up (up (up (up (up (up (up (up Ma 23 3 10) 23 4 5) 23 7 3) 23 8 1) 23 9 48) 23 11 1) 23 12 5) 23 13 5, fun c h1 h2 => ?_, fun k k0 k1 => ?_, ?_⟩
  · rw [up_ne h2, up_ne h2, up_ne h2, up_ne h2, up_ne h2, up_ne h2, up_ne h2, up_ne h2, fa c h1 h2]
  · unfold dS0
    have z : k = 0 ∨ k = 1 ∨ k = 2 ∨ k = 3 ∨ k = 4 ∨ k = 5 ∨ k = 6 ∨ k = 7 ∨ k = 8 ∨ k = 9 ∨ k = 10 ∨ k = 11 ∨ k = 12 ∨ k = 13 ∨ k = 14 := by omega
    rcases z with z | z | z | z | z | z | z | z | z | z | z | z | z | z | z <;> subst z <;> simp (disch := omega) only [up_eq, up_ne2, Int.reduceEq, ↓reduceIte, a23]
  · rw [E_4 tk0]
    simp (disch := first | assumption | decide | omega | (simp only [List.length_cons, List.length_nil] <;> omega)) only [lgt_0, lgt_s, lset_0, lset_s, lst1_0, lst1_s, lst2_0, lst2_s, ev_iconst, ev_lconst, ev_ldc, ev_null, ev_iload, ev_lload, ev_aload, ev_istore, ev_lstore, ev_astore, ev_iinc, ev_iadd, ev_isub, ev_imul, ev_iand, ev_ior, ev_ishl, ev_ishr, ev_idiv, ev_irem, ev_ineg, ev_ladd, ev_lsub, ev_lmul, ev_land, ev_lor, ev_ldiv, ev_lrem, ev_lshl, ev_i2l, ev_l2i, ev_i2b, ev_i2s, ev_lcmp, ev_dupI, ev_dupR, ev_dup2, ev_popI, ev_popR, ev_alen, ev_xlen, ev_xald, ev_iald, ev_lald, ev_bald, ev_zald, ev_aald, ev_iast, ev_last, ev_bast, ev_zast, ev_aast, ev_gfI, ev_gfL, ev_gfR, ev_pfI, ev_pfZ, ev_pfL, ev_pfR, ev_new, ev_newa, ev_newq, ev_copy, ev_slen, ev_schr, ev_obj, ev_mmin, ev_mabs, ev_mmax, ev_goto, ev_jsr, ev_icmp_eq, ev_if_eq, ev_icmp_ne, ev_if_ne, ev_icmp_lt, ev_if_lt, ev_icmp_ge, ev_if_ge, ev_icmp_gt, ev_if_gt, ev_icmp_le, ev_if_le, ev_ifnull0, ev_ifnull1, ev_ifnn0, ev_ifnn1, ev_tsw, ev_lsw, ev_iret, ev_zret, ev_lret, ev_aret, ev_ret, ev_call0, ev_call1, ev_call2, ev_call3, ev_call4, ev_call5, ev_call6, Option.toList_some, Option.toList_none, List.cons_append, List.nil_append, List.length_cons, List.length_nil, Nat.reduceMod, Nat.reduceDiv, Nat.reduceLeDiff, nc, ↓reduceIte, Nat.zero_le, reduceCtorEq, w32_id, Int.reduceEq, Int.reduceNe, Int.reduceLT, Int.reduceLE, Int.reduceGT, Int.reduceGE, Int.reduceAdd, Int.reduceSub, Int.reduceMul, Int.reduceNeg, ne_eq, not_true_eq_false, not_false_eq_true, eq_self, ↓if_pos, ↓if_neg, J_4_0, k_4_0, tr0, tr1, tr2, tr3, tr4, tr5, tr6, tr7, ef']
/-- what the reader may change, the arranging with it -/
def fR2 (M M' : Mem) : Prop := (∀ c, c ≠ 2 → c ≠ 21 → (c < 22 ∨ 30 < c) → M' c = M c) ∧ M' 2 1 = M 2 1 ∧ (RX M → RX M')
theorem fR2_t {M M' M'' : Mem} (h : fR2 M M') (h' : fR2 M' M'') : fR2 M M'' := ⟨fun c a x y => by rw [h'.1 c a x y, h.1 c a x y], by rw [h'.2.1, h.2.1], fun z => h'.2.2 (h.2.2 z)⟩
theorem fR2_f {M M' : Mem} (h : fR M M') : fR2 M M' := ⟨fun c a x y => h.1 c a x (by omega), h.2.1, h.2.2⟩
theorem fR2_w {M M' : Mem} {w q : Int} (h : fR2 M M') : fR2 M (up (up M' 2 2 w) 2 3 q) := ⟨fun c a x y => by rw [up_ne a, up_ne a]; exact h.1 c a x y, by rw [up_ne2 (by omega), up_ne2 (by omega)]; exact h.2.1, fun z => by
  have r := h.2.2 z
  unfold RX at r ⊢
  rw [up_ne (by omega), up_ne (by omega), up_ne (by omega), up_ne (by omega)]
  exact r⟩
/-- the end of a chart: read, and arranged -/
def cFin (r : PE DS) (v : Int) (M : Mem) : Prop := (∀ e, r = .error e → v = 0 ∧ M 2 2 = e.1 ∧ M 2 3 = e.2) ∧ ∀ d, r = .ok d → v = 1 ∧ M 2 2 = 0 ∧ M 2 3 = -1 ∧ cDr M d ∧ M 22 8 = xn d.1 ∧ ∀ i, 0 ≤ i → i < xn d.1 → M 28 i = d.2.2.2.2.1 (plF d.1 i) ∧ M 29 i = plF d.1 i % d.1 0 ∧ M 30 i = i / d.1 0
theorem cFin_e {M : Mem} {e : Int × Int} {r : PE DS} (hr : r = .error e) (h2 : M 2 2 = e.1) (h3 : M 2 3 = e.2) : cFin r 0 M := ⟨fun e' h => by
  rw [hr] at h
  injection h with h
  subst h
  exact ⟨rfl, h2, h3⟩, fun q h => by
  rw [hr] at h
  injection h⟩
theorem cFin_01 {M : Mem} {r : PE DS} {v : Int} (h : cFin r v M) : 0 ≤ v ∧ v < 2 := by
  cases hr : r with
  | error e => have := (h.1 e hr).1; omega
  | ok x => have := (h.2 x hr).1; omega
theorem c_ends (h : cAt M b n p) (hd : cDr M d) (hJ : dJ d) : ∃ v M', fR2 M M' ∧ cFin (if d.2.2.2.2.2.1 < d.1 1 then .error (8, tQ b n p) else .ok d) v M' ∧ evc X 60 [vR (some 21)] SH0 M = some (some (vI v), SH0, M') := by
  have k21 := w0_k21
  have r0 := w0_r21_0
  have r1 := w0_r21_1
  have ct := w0_ch22
  obtain ⟨tk0, tr0, tr1, tr2, tr3, tr4, tr5, tr6, tr7, tk1, tk2, tk3, tk4, tk5, tk6, tk7, tk8, tl1, tl2, tl3, tl4, tl5, tl6, tl7, tl8⟩ := ct
  have s1 : M 23 1 = d.1 1 := hd.2.2.1 1 (by omega) (by omega)
  have a3 := hd.1
  rw [E_60 k21]
  by_cases z : d.2.2.2.2.2.1 < d.1 1
  · have w := c_wrong (X := X) (M := M) (w := 8)
    rw [h.2.1] at w
    refine ⟨0, _, fR2_w ⟨fun _ _ _ _ => rfl, rfl, id⟩, cFin_e (e := (8, tQ b n p)) (if_pos z) (by rw [up_ne2 (by omega), up_eq]) up_eq, ?_⟩
    simp (disch := first | assumption | decide | omega | (simp only [List.length_cons, List.length_nil] <;> omega)) only [lgt_0, lgt_s, lset_0, lset_s, lst1_0, lst1_s, lst2_0, lst2_s, ev_iconst, ev_lconst, ev_ldc, ev_null, ev_iload, ev_lload, ev_aload, ev_istore, ev_lstore, ev_astore, ev_iinc, ev_iadd, ev_isub, ev_imul, ev_iand, ev_ior, ev_ishl, ev_ishr, ev_idiv, ev_irem, ev_ineg, ev_ladd, ev_lsub, ev_lmul, ev_land, ev_lor, ev_ldiv, ev_lrem, ev_lshl, ev_i2l, ev_l2i, ev_i2b, ev_i2s, ev_lcmp, ev_dupI, ev_dupR, ev_dup2, ev_popI, ev_popR, ev_alen, ev_xlen, ev_xald, ev_iald, ev_lald, ev_bald, ev_zald, ev_aald, ev_iast, ev_last, ev_bast, ev_zast, ev_aast, ev_gfI, ev_gfL, ev_gfR, ev_pfI, ev_pfZ, ev_pfL, ev_pfR, ev_new, ev_newa, ev_newq, ev_copy, ev_slen, ev_schr, ev_obj, ev_mmin, ev_mabs, ev_mmax, ev_goto, ev_jsr, ev_icmp_eq, ev_if_eq, ev_icmp_ne, ev_if_ne, ev_icmp_lt, ev_if_lt, ev_icmp_ge, ev_if_ge, ev_icmp_gt, ev_if_gt, ev_icmp_le, ev_if_le, ev_ifnull0, ev_ifnull1, ev_ifnn0, ev_ifnn1, ev_tsw, ev_lsw, ev_iret, ev_zret, ev_lret, ev_aret, ev_ret, ev_call0, ev_call1, ev_call2, ev_call3, ev_call4, ev_call5, ev_call6, Option.toList_some, Option.toList_none, List.cons_append, List.nil_append, List.length_cons, List.length_nil, Nat.reduceMod, Nat.reduceDiv, Nat.reduceLeDiff, nc, ↓reduceIte, Nat.zero_le, reduceCtorEq, w32_id, Int.reduceEq, Int.reduceNe, Int.reduceLT, Int.reduceLE, Int.reduceGT, Int.reduceGE, Int.reduceAdd, Int.reduceSub, Int.reduceMul, Int.reduceNeg, ne_eq, not_true_eq_false, not_false_eq_true, eq_self, ↓if_pos, ↓if_neg, J_60_0, k_60_0, J_60_26, k_60_26, r0, r1, tr0, tr1, tr2, tr3, tr4, tr5, tr6, tr7, s1, a3, z, w]
  · rw [if_neg z]
    have gs := cD_goodS hd hJ.1.1
    obtain ⟨M', f1, f2, h8, hi, e⟩ := s_arrange (X := X) (M := M) w0_ch22 gs
    have xe : xn (M (22 + 1)) = xn d.1 := by
      unfold xn
      rw [show M (22 + 1) 0 = d.1 0 from hd.2.2.1 0 (by omega) (by omega), show M (22 + 1) 1 = d.1 1 from s1]
    have pe : ∀ i, plF (M (22 + 1)) i = plF d.1 i := fun i => by
      unfold plF
      rw [show M (22 + 1) 0 = d.1 0 from hd.2.2.1 0 (by omega) (by omega), show M (22 + 1) 14 = d.1 14 from hd.2.2.1 14 (by omega) (by omega)]
    have w0 : M (22 + 1) 0 = d.1 0 := hd.2.2.1 0 (by omega) (by omega)
    have fe : ∀ c, 21 ≤ c → c ≤ 27 → c ≠ 22 → M' c = M c := fun c c0 c1 c2 => by
      by_cases y : c = 21
      · exact f1 c (by omega)
      · exact f2 c (by omega) (by omega)
    refine ⟨1, M', ⟨fun c a x y => f1 c (by omega), by rw [f1 2 (by omega)], fun y => by unfold RX at y ⊢; rw [fe 25 (by omega) (by omega) (by omega), fe 26 (by omega) (by omega) (by omega)]; exact y⟩, ⟨fun e h => by injection h, fun d' h' => ?_⟩, ?_⟩
    · injection h' with h'
      subst h'
      refine ⟨rfl, by rw [f1 2 (by omega)]; exact h.1.2.1, by rw [f1 2 (by omega)]; exact h.1.2.2, ?_, by rw [h8, xe], fun i i0 i1 => ?_⟩
      · unfold cDr at hd ⊢
        rw [fe 21 (by omega) (by omega) (by omega), fe 23 (by omega) (by omega) (by omega), fe 24 (by omega) (by omega) (by omega), fe 25 (by omega) (by omega) (by omega), fe 26 (by omega) (by omega) (by omega), fe 27 (by omega) (by omega) (by omega)]
        exact hd
      · have e3 := hi i i0 (by rw [xe]; exact i1)
        rw [pe, w0] at e3
        have gs' := hJ.1.1
        have n48 : xn d.1 ≤ 48 := by
          have a := Int.mul_le_mul gs'.1.2 gs'.2.1.2 gs'.2.1.1 (show (0 : Int) ≤ 8 by omega)
          have xe' : xn d.1 = d.1 0 * d.1 1 := rfl
          omega
        have pr := plF_rng (A := d.1) i0 i1 (by have := hJ.1.2.1; omega)
        have pr2 : plF d.1 i < xn d.1 := pr.2.1
        refine ⟨?_, e3.2⟩
        show M' (22 + 6) i = _
        rw [e3.1]
        exact hd.2.2.2.2.2 _ pr.1 (by omega)
    · simp (disch := first | assumption | decide | omega | (simp only [List.length_cons, List.length_nil] <;> omega)) only [lgt_0, lgt_s, lset_0, lset_s, lst1_0, lst1_s, lst2_0, lst2_s, ev_iconst, ev_lconst, ev_ldc, ev_null, ev_iload, ev_lload, ev_aload, ev_istore, ev_lstore, ev_astore, ev_iinc, ev_iadd, ev_isub, ev_imul, ev_iand, ev_ior, ev_ishl, ev_ishr, ev_idiv, ev_irem, ev_ineg, ev_ladd, ev_lsub, ev_lmul, ev_land, ev_lor, ev_ldiv, ev_lrem, ev_lshl, ev_i2l, ev_l2i, ev_i2b, ev_i2s, ev_lcmp, ev_dupI, ev_dupR, ev_dup2, ev_popI, ev_popR, ev_alen, ev_xlen, ev_xald, ev_iald, ev_lald, ev_bald, ev_zald, ev_aald, ev_iast, ev_last, ev_bast, ev_zast, ev_aast, ev_gfI, ev_gfL, ev_gfR, ev_pfI, ev_pfZ, ev_pfL, ev_pfR, ev_new, ev_newa, ev_newq, ev_copy, ev_slen, ev_schr, ev_obj, ev_mmin, ev_mabs, ev_mmax, ev_goto, ev_jsr, ev_icmp_eq, ev_if_eq, ev_icmp_ne, ev_if_ne, ev_icmp_lt, ev_if_lt, ev_icmp_ge, ev_if_ge, ev_icmp_gt, ev_if_gt, ev_icmp_le, ev_if_le, ev_ifnull0, ev_ifnull1, ev_ifnn0, ev_ifnn1, ev_tsw, ev_lsw, ev_iret, ev_zret, ev_lret, ev_aret, ev_ret, ev_call0, ev_call1, ev_call2, ev_call3, ev_call4, ev_call5, ev_call6, Option.toList_some, Option.toList_none, List.cons_append, List.nil_append, List.length_cons, List.length_nil, Nat.reduceMod, Nat.reduceDiv, Nat.reduceLeDiff, nc, ↓reduceIte, Nat.zero_le, reduceCtorEq, w32_id, Int.reduceEq, Int.reduceNe, Int.reduceLT, Int.reduceLE, Int.reduceGT, Int.reduceGE, Int.reduceAdd, Int.reduceSub, Int.reduceMul, Int.reduceNeg, ne_eq, not_true_eq_false, not_false_eq_true, eq_self, ↓if_pos, ↓if_neg, J_60_0, k_60_0, J_60_26, k_60_26, r0, r1, tr0, tr1, tr2, tr3, tr4, tr5, tr6, tr7, s1, a3, z, e]
theorem c_loopF (g : gT b n) {w : Int} : ∀ (f : Nat) (d : DS) (p gd : Int) (M : Mem), gd + f = 801 → 0 ≤ gd → gd ≤ p → p ≤ n → dJ d → cTc M b n p → cDr M d → ∃ v M', fR2 M M' ∧ cFin (pLoop b n f d p) v M' ∧ ev X 37 (jmp 37 36) [some (vR (some 21)), some (vI w), some (vI gd)] [] SH0 M = some (some (vI v), SH0, M')
  | 0, d, p, gd, M, hg, g0, g1, p1, _, _, _ => by
    have := g.1
    omega
  | f + 1, d, p, gd, M, hg, g0, g1, p1, hJ, hc, hd => by
    have k21 := w0_k21
    have r0 := w0_r21_0
    have gq : ¬ 800 < gd := by omega
    unfold pLoop
    rw [J_37_36]
    obtain ⟨v, Ma, fa, hv, e1⟩ := c_go (X := X) g hc (by omega) p1
    rcases hv with ⟨zk, hv, y2, y3⟩ | ⟨zk, hv, ca⟩
    · subst hv
      refine ⟨0, Ma, fR2_f (fR_f fa), cFin_e (e := (1, tQ b n p)) (if_pos zk) y2 y3, ?_⟩
      simp (disch := first | assumption | decide | omega | (simp only [List.length_cons, List.length_nil] <;> omega)) only [lgt_0, lgt_s, lset_0, lset_s, lst1_0, lst1_s, lst2_0, lst2_s, ev_iconst, ev_lconst, ev_ldc, ev_null, ev_iload, ev_lload, ev_aload, ev_istore, ev_lstore, ev_astore, ev_iinc, ev_iadd, ev_isub, ev_imul, ev_iand, ev_ior, ev_ishl, ev_ishr, ev_idiv, ev_irem, ev_ineg, ev_ladd, ev_lsub, ev_lmul, ev_land, ev_lor, ev_ldiv, ev_lrem, ev_lshl, ev_i2l, ev_l2i, ev_i2b, ev_i2s, ev_lcmp, ev_dupI, ev_dupR, ev_dup2, ev_popI, ev_popR, ev_alen, ev_xlen, ev_xald, ev_iald, ev_lald, ev_bald, ev_zald, ev_aald, ev_iast, ev_last, ev_bast, ev_zast, ev_aast, ev_gfI, ev_gfL, ev_gfR, ev_pfI, ev_pfZ, ev_pfL, ev_pfR, ev_new, ev_newa, ev_newq, ev_copy, ev_slen, ev_schr, ev_obj, ev_mmin, ev_mabs, ev_mmax, ev_goto, ev_jsr, ev_icmp_eq, ev_if_eq, ev_icmp_ne, ev_if_ne, ev_icmp_lt, ev_if_lt, ev_icmp_ge, ev_if_ge, ev_icmp_gt, ev_if_gt, ev_icmp_le, ev_if_le, ev_ifnull0, ev_ifnull1, ev_ifnn0, ev_ifnn1, ev_tsw, ev_lsw, ev_iret, ev_zret, ev_lret, ev_aret, ev_ret, ev_call0, ev_call1, ev_call2, ev_call3, ev_call4, ev_call5, ev_call6, Option.toList_some, Option.toList_none, List.cons_append, List.nil_append, List.length_cons, List.length_nil, Nat.reduceMod, Nat.reduceDiv, Nat.reduceLeDiff, nc, ↓reduceIte, Nat.zero_le, reduceCtorEq, w32_id, Int.reduceEq, Int.reduceNe, Int.reduceLT, Int.reduceLE, Int.reduceGT, Int.reduceGE, Int.reduceAdd, Int.reduceSub, Int.reduceMul, Int.reduceNeg, ne_eq, not_true_eq_false, not_false_eq_true, eq_self, ↓if_pos, ↓if_neg, J_37_0, k_37_0, J_37_34, k_37_34, J_37_55, k_37_55, J_37_70, k_37_70, J_37_79, k_37_79, J_37_85, k_37_85, k_37_36, r0, gq, e1]
    subst hv
    rw [if_neg zk]
    have hda : cDr Ma d := cD_f hd fun c c0 c1 => fa.1 c (by omega)
    have tr := tK_rng (b := b) (n := n) (p := p)
    have i := ck_id tr.1 tr.2
    have h4 := ca.2.2.1
    by_cases z0 : tK b n p = 0
    · rw [if_pos z0]
      rw [i.2.2.2.1.mpr z0] at h4
      obtain ⟨v, Mb, fb, fin, e2⟩ := c_ends (X := X) ca hda hJ
      have v01 := cFin_01 fin
      refine ⟨v, Mb, fR2_t (fR2_f (fR_f fa)) fb, fin, ?_⟩
      simp (disch := first | assumption | decide | omega | (simp only [List.length_cons, List.length_nil] <;> omega)) only [lgt_0, lgt_s, lset_0, lset_s, lst1_0, lst1_s, lst2_0, lst2_s, ev_iconst, ev_lconst, ev_ldc, ev_null, ev_iload, ev_lload, ev_aload, ev_istore, ev_lstore, ev_astore, ev_iinc, ev_iadd, ev_isub, ev_imul, ev_iand, ev_ior, ev_ishl, ev_ishr, ev_idiv, ev_irem, ev_ineg, ev_ladd, ev_lsub, ev_lmul, ev_land, ev_lor, ev_ldiv, ev_lrem, ev_lshl, ev_i2l, ev_l2i, ev_i2b, ev_i2s, ev_lcmp, ev_dupI, ev_dupR, ev_dup2, ev_popI, ev_popR, ev_alen, ev_xlen, ev_xald, ev_iald, ev_lald, ev_bald, ev_zald, ev_aald, ev_iast, ev_last, ev_bast, ev_zast, ev_aast, ev_gfI, ev_gfL, ev_gfR, ev_pfI, ev_pfZ, ev_pfL, ev_pfR, ev_new, ev_newa, ev_newq, ev_copy, ev_slen, ev_schr, ev_obj, ev_mmin, ev_mabs, ev_mmax, ev_goto, ev_jsr, ev_icmp_eq, ev_if_eq, ev_icmp_ne, ev_if_ne, ev_icmp_lt, ev_if_lt, ev_icmp_ge, ev_if_ge, ev_icmp_gt, ev_if_gt, ev_icmp_le, ev_if_le, ev_ifnull0, ev_ifnull1, ev_ifnn0, ev_ifnn1, ev_tsw, ev_lsw, ev_iret, ev_zret, ev_lret, ev_aret, ev_ret, ev_call0, ev_call1, ev_call2, ev_call3, ev_call4, ev_call5, ev_call6, Option.toList_some, Option.toList_none, List.cons_append, List.nil_append, List.length_cons, List.length_nil, Nat.reduceMod, Nat.reduceDiv, Nat.reduceLeDiff, nc, ↓reduceIte, Nat.zero_le, reduceCtorEq, w32_id, Int.reduceEq, Int.reduceNe, Int.reduceLT, Int.reduceLE, Int.reduceGT, Int.reduceGE, Int.reduceAdd, Int.reduceSub, Int.reduceMul, Int.reduceNeg, ne_eq, not_true_eq_false, not_false_eq_true, eq_self, ↓if_pos, ↓if_neg, J_37_0, k_37_0, J_37_34, k_37_34, J_37_55, k_37_55, J_37_70, k_37_70, J_37_79, k_37_79, J_37_85, k_37_85, k_37_36, r0, gq, e1, h4, e2]
    rw [if_neg z0]
    have h4' : ¬ Ma 2 4 = 0 := by rw [h4, i.2.2.2.1]; exact z0
    obtain ⟨v, Mb, fb, ⟨re, ro⟩, e2⟩ := c_part (X := X) g ca (by omega) p1 z0 hda hJ.1
    cases hr : pPart b n d p with
    | error er =>
      obtain ⟨hv, q2, q3⟩ := re er hr
      subst hv
      refine ⟨0, Mb, fR2_t (fR2_f (fR_f fa)) (fR2_f fb), cFin_e rfl q2 q3, ?_⟩
      simp (disch := first | assumption | decide | omega | (simp only [List.length_cons, List.length_nil] <;> omega)) only [lgt_0, lgt_s, lset_0, lset_s, lst1_0, lst1_s, lst2_0, lst2_s, ev_iconst, ev_lconst, ev_ldc, ev_null, ev_iload, ev_lload, ev_aload, ev_istore, ev_lstore, ev_astore, ev_iinc, ev_iadd, ev_isub, ev_imul, ev_iand, ev_ior, ev_ishl, ev_ishr, ev_idiv, ev_irem, ev_ineg, ev_ladd, ev_lsub, ev_lmul, ev_land, ev_lor, ev_ldiv, ev_lrem, ev_lshl, ev_i2l, ev_l2i, ev_i2b, ev_i2s, ev_lcmp, ev_dupI, ev_dupR, ev_dup2, ev_popI, ev_popR, ev_alen, ev_xlen, ev_xald, ev_iald, ev_lald, ev_bald, ev_zald, ev_aald, ev_iast, ev_last, ev_bast, ev_zast, ev_aast, ev_gfI, ev_gfL, ev_gfR, ev_pfI, ev_pfZ, ev_pfL, ev_pfR, ev_new, ev_newa, ev_newq, ev_copy, ev_slen, ev_schr, ev_obj, ev_mmin, ev_mabs, ev_mmax, ev_goto, ev_jsr, ev_icmp_eq, ev_if_eq, ev_icmp_ne, ev_if_ne, ev_icmp_lt, ev_if_lt, ev_icmp_ge, ev_if_ge, ev_icmp_gt, ev_if_gt, ev_icmp_le, ev_if_le, ev_ifnull0, ev_ifnull1, ev_ifnn0, ev_ifnn1, ev_tsw, ev_lsw, ev_iret, ev_zret, ev_lret, ev_aret, ev_ret, ev_call0, ev_call1, ev_call2, ev_call3, ev_call4, ev_call5, ev_call6, Option.toList_some, Option.toList_none, List.cons_append, List.nil_append, List.length_cons, List.length_nil, Nat.reduceMod, Nat.reduceDiv, Nat.reduceLeDiff, nc, ↓reduceIte, Nat.zero_le, reduceCtorEq, w32_id, Int.reduceEq, Int.reduceNe, Int.reduceLT, Int.reduceLE, Int.reduceGT, Int.reduceGE, Int.reduceAdd, Int.reduceSub, Int.reduceMul, Int.reduceNeg, ne_eq, not_true_eq_false, not_false_eq_true, eq_self, ↓if_pos, ↓if_neg, J_37_0, k_37_0, J_37_34, k_37_34, J_37_55, k_37_55, J_37_70, k_37_70, J_37_79, k_37_79, J_37_85, k_37_85, k_37_36, r0, gq, e1, h4', e2]
    | ok x =>
      obtain ⟨hv, cx, hx⟩ := ro x hr
      subst hv
      have ok := pPart_I (by omega) p1 z0 hJ hr
      rw [bnd_o]
      obtain ⟨v, Mc, fc, fin, e3⟩ := c_loopF g (w := w) f x.2 x.1 (gd + 1) Mb (by omega) (by omega) (by have := ok.1; omega) ok.1.2 ok.2 cx hx
      refine ⟨v, Mc, fR2_t (fR2_t (fR2_f (fR_f fa)) (fR2_f fb)) fc, fin, ?_⟩
      simp (disch := first | assumption | decide | omega | (simp only [List.length_cons, List.length_nil] <;> omega)) only [lgt_0, lgt_s, lset_0, lset_s, lst1_0, lst1_s, lst2_0, lst2_s, ev_iconst, ev_lconst, ev_ldc, ev_null, ev_iload, ev_lload, ev_aload, ev_istore, ev_lstore, ev_astore, ev_iinc, ev_iadd, ev_isub, ev_imul, ev_iand, ev_ior, ev_ishl, ev_ishr, ev_idiv, ev_irem, ev_ineg, ev_ladd, ev_lsub, ev_lmul, ev_land, ev_lor, ev_ldiv, ev_lrem, ev_lshl, ev_i2l, ev_l2i, ev_i2b, ev_i2s, ev_lcmp, ev_dupI, ev_dupR, ev_dup2, ev_popI, ev_popR, ev_alen, ev_xlen, ev_xald, ev_iald, ev_lald, ev_bald, ev_zald, ev_aald, ev_iast, ev_last, ev_bast, ev_zast, ev_aast, ev_gfI, ev_gfL, ev_gfR, ev_pfI, ev_pfZ, ev_pfL, ev_pfR, ev_new, ev_newa, ev_newq, ev_copy, ev_slen, ev_schr, ev_obj, ev_mmin, ev_mabs, ev_mmax, ev_goto, ev_jsr, ev_icmp_eq, ev_if_eq, ev_icmp_ne, ev_if_ne, ev_icmp_lt, ev_if_lt, ev_icmp_ge, ev_if_ge, ev_icmp_gt, ev_if_gt, ev_icmp_le, ev_if_le, ev_ifnull0, ev_ifnull1, ev_ifnn0, ev_ifnn1, ev_tsw, ev_lsw, ev_iret, ev_zret, ev_lret, ev_aret, ev_ret, ev_call0, ev_call1, ev_call2, ev_call3, ev_call4, ev_call5, ev_call6, Option.toList_some, Option.toList_none, List.cons_append, List.nil_append, List.length_cons, List.length_nil, Nat.reduceMod, Nat.reduceDiv, Nat.reduceLeDiff, nc, ↓reduceIte, Nat.zero_le, reduceCtorEq, w32_id, Int.reduceEq, Int.reduceNe, Int.reduceLT, Int.reduceLE, Int.reduceGT, Int.reduceGE, Int.reduceAdd, Int.reduceSub, Int.reduceMul, Int.reduceNeg, ne_eq, not_true_eq_false, not_false_eq_true, eq_self, ↓if_pos, ↓if_neg, J_37_0, k_37_0, J_37_34, k_37_34, J_37_55, k_37_55, J_37_70, k_37_70, J_37_79, k_37_79, J_37_85, k_37_85, k_37_36, r0, gq, e1, h4', e2, e3]
theorem c_reads (g : gT b n) (hb : ∀ k, 0 ≤ k → k < n → M 3 k = b k) (hX : RX M) {NW : Int → List Int} : ∃ v M', (∀ c, c ≠ 2 → c ≠ 21 → (c < 22 ∨ 30 < c) → M' c = M c) ∧ M' 2 1 = 0 ∧ RX M' ∧ cFin (pChart b n NW (M 25) (M 26) (M 27)) v M' ∧ evc X 37 [vR (some 21), vI n] SH0 M = some (some (vI v), SH0, M') := by
  have k21 := w0_k21
  have r0 := w0_r21_0
  have r1 := w0_r21_1
  have ct := w0_ch22
  obtain ⟨tk0, tr0, tr1, tr2, tr3, tr4, tr5, tr6, tr7, tk1, tk2, tk3, tk4, tk5, tk6, tk7, tk8, tl1, tl2, tl3, tl4, tl5, tl6, tl7, tl8⟩ := ct
  have n8 := g.1
  obtain ⟨Ma, fa, ca, a1, e1⟩ := c_open (X := X) g hb
  obtain ⟨Mb, fb, b23, e2⟩ := c_empty (X := X) (M := Ma)
  generalize hMc : up (up Mb 21 2 0) 21 3 0 = Mc
  have fc : ∀ c, c ≠ 21 → Mc c = Mb c := fun c hc => by rw [← hMc, up_ne hc, up_ne hc]
  have m2 : Mc 2 = Ma 2 := by rw [fc 2 (by omega), fb 2 (by omega) (by omega)]
  have m3 : Mc 3 = Ma 3 := by rw [fc 3 (by omega), fb 3 (by omega) (by omega)]
  have cc : cTc Mc b n 0 := cTc_f ca m2 m3
  have low : ∀ c, c ≠ 2 → c ≠ 21 → c ≠ 22 → c ≠ 23 → Mc c = M c := fun c h1 h2 h3 h4 => by rw [fc c h2, fb c h3 h4, fa c h1]
  have hXc : RX Mc := by
    unfold RX at hX ⊢
    rw [low 25 (by omega) (by omega) (by omega) (by omega), low 26 (by omega) (by omega) (by omega) (by omega)]
    exact hX
  have hdc : cDr Mc (dS0, NW, M 25, M 26, M 27, 0, fun _ => 0) := ⟨by rw [← hMc, up_eq], fun r hr => by rw [← hMc, up_ne2 (by omega), up_eq]; exact i_bit0 hr, fun k k0 k1 => by rw [fc 23 (by omega)]; exact b23 k k0 k1, fun k k0 k1 => by
    have k1' : k < dS0 2 := k1
    have e : dS0 2 = 0 := rfl
    omega, fun k k0 k1 => by rw [low 25 (by omega) (by omega) (by omega) (by omega), low 26 (by omega) (by omega) (by omega) (by omega)]; exact ⟨rfl, rfl⟩, fun k k0 k1 => by rw [low 27 (by omega) (by omega) (by omega) (by omega)]⟩
  have frc : ∀ M', fR Mc M' → (∀ c, c ≠ 2 → c ≠ 21 → (c < 22 ∨ 30 < c) → M' c = M c) ∧ M' 2 1 = 0 ∧ RX M' := fun M' h => ⟨fun c h1 h2 h3 => by rw [h.1 c h1 h2 (by omega), low c h1 h2 (by omega) (by omega)], by rw [h.2.1, m2]; exact a1, h.2.2 hXc⟩
  rw [E_37 k21]
  unfold pChart
  -- the size
  obtain ⟨v, Md, fd, ⟨we, wo⟩, e3⟩ := c_goWord (X := X) g cc (Int.le_refl _) n8.1 (k := 0) (by omega)
  cases h1 : pWord b n (kl 0) 0 with
  | error er =>
    obtain ⟨hv, q2, q3⟩ := we er h1
    subst hv
    have es : evc X 40 [vR (some 21)] SH0 Mc = some (some (vI 0), SH0, Md) := by
      rw [E_40 k21]
      simp (disch := first | assumption | decide | omega | (simp only [List.length_cons, List.length_nil] <;> omega)) only [lgt_0, lgt_s, lset_0, lset_s, lst1_0, lst1_s, lst2_0, lst2_s, ev_iconst, ev_lconst, ev_ldc, ev_null, ev_iload, ev_lload, ev_aload, ev_istore, ev_lstore, ev_astore, ev_iinc, ev_iadd, ev_isub, ev_imul, ev_iand, ev_ior, ev_ishl, ev_ishr, ev_idiv, ev_irem, ev_ineg, ev_ladd, ev_lsub, ev_lmul, ev_land, ev_lor, ev_ldiv, ev_lrem, ev_lshl, ev_i2l, ev_l2i, ev_i2b, ev_i2s, ev_lcmp, ev_dupI, ev_dupR, ev_dup2, ev_popI, ev_popR, ev_alen, ev_xlen, ev_xald, ev_iald, ev_lald, ev_bald, ev_zald, ev_aald, ev_iast, ev_last, ev_bast, ev_zast, ev_aast, ev_gfI, ev_gfL, ev_gfR, ev_pfI, ev_pfZ, ev_pfL, ev_pfR, ev_new, ev_newa, ev_newq, ev_copy, ev_slen, ev_schr, ev_obj, ev_mmin, ev_mabs, ev_mmax, ev_goto, ev_jsr, ev_icmp_eq, ev_if_eq, ev_icmp_ne, ev_if_ne, ev_icmp_lt, ev_if_lt, ev_icmp_ge, ev_if_ge, ev_icmp_gt, ev_if_gt, ev_icmp_le, ev_if_le, ev_ifnull0, ev_ifnull1, ev_ifnn0, ev_ifnn1, ev_tsw, ev_lsw, ev_iret, ev_zret, ev_lret, ev_aret, ev_ret, ev_call0, ev_call1, ev_call2, ev_call3, ev_call4, ev_call5, ev_call6, Option.toList_some, Option.toList_none, List.cons_append, List.nil_append, List.length_cons, List.length_nil, Nat.reduceMod, Nat.reduceDiv, Nat.reduceLeDiff, nc, ↓reduceIte, Nat.zero_le, reduceCtorEq, w32_id, Int.reduceEq, Int.reduceNe, Int.reduceLT, Int.reduceLE, Int.reduceGT, Int.reduceGE, Int.reduceAdd, Int.reduceSub, Int.reduceMul, Int.reduceNeg, ne_eq, not_true_eq_false, not_false_eq_true, eq_self, ↓if_pos, ↓if_neg, J_40_0, k_40_0, J_40_25, k_40_25, J_40_27, k_40_27, J_40_58, k_40_58, r0, e3]
    have fx := frc Md (fR_f fd)
    refine ⟨0, Md, fx.1, fx.2.1, fx.2.2, cFin_e rfl q2 q3, ?_⟩
    simp (disch := first | assumption | decide | omega | (simp only [List.length_cons, List.length_nil] <;> omega)) only [lgt_0, lgt_s, lset_0, lset_s, lst1_0, lst1_s, lst2_0, lst2_s, ev_iconst, ev_lconst, ev_ldc, ev_null, ev_iload, ev_lload, ev_aload, ev_istore, ev_lstore, ev_astore, ev_iinc, ev_iadd, ev_isub, ev_imul, ev_iand, ev_ior, ev_ishl, ev_ishr, ev_idiv, ev_irem, ev_ineg, ev_ladd, ev_lsub, ev_lmul, ev_land, ev_lor, ev_ldiv, ev_lrem, ev_lshl, ev_i2l, ev_l2i, ev_i2b, ev_i2s, ev_lcmp, ev_dupI, ev_dupR, ev_dup2, ev_popI, ev_popR, ev_alen, ev_xlen, ev_xald, ev_iald, ev_lald, ev_bald, ev_zald, ev_aald, ev_iast, ev_last, ev_bast, ev_zast, ev_aast, ev_gfI, ev_gfL, ev_gfR, ev_pfI, ev_pfZ, ev_pfL, ev_pfR, ev_new, ev_newa, ev_newq, ev_copy, ev_slen, ev_schr, ev_obj, ev_mmin, ev_mabs, ev_mmax, ev_goto, ev_jsr, ev_icmp_eq, ev_if_eq, ev_icmp_ne, ev_if_ne, ev_icmp_lt, ev_if_lt, ev_icmp_ge, ev_if_ge, ev_icmp_gt, ev_if_gt, ev_icmp_le, ev_if_le, ev_ifnull0, ev_ifnull1, ev_ifnn0, ev_ifnn1, ev_tsw, ev_lsw, ev_iret, ev_zret, ev_lret, ev_aret, ev_ret, ev_call0, ev_call1, ev_call2, ev_call3, ev_call4, ev_call5, ev_call6, Option.toList_some, Option.toList_none, List.cons_append, List.nil_append, List.length_cons, List.length_nil, Nat.reduceMod, Nat.reduceDiv, Nat.reduceLeDiff, nc, ↓reduceIte, Nat.zero_le, reduceCtorEq, w32_id, Int.reduceEq, Int.reduceNe, Int.reduceLT, Int.reduceLE, Int.reduceGT, Int.reduceGE, Int.reduceAdd, Int.reduceSub, Int.reduceMul, Int.reduceNeg, ne_eq, not_true_eq_false, not_false_eq_true, eq_self, ↓if_pos, ↓if_neg, J_37_0, k_37_0, J_37_34, k_37_34, J_37_55, k_37_55, J_37_70, k_37_70, J_37_79, k_37_79, J_37_85, k_37_85, r0, r1, e1, e2, hMc, es]
  | ok p1 =>
  obtain ⟨hv, cd'⟩ := wo p1 h1
  subst hv
  have a1' := pWord_ok h1
  have t1 := tE_on (b := b) n8.1 (by rw [a1'.1]; omega) (Int.le_refl _)
  rw [← a1'.2.2] at t1
  rw [bnd_o]
  have hdd := cD_f hdc (M' := Md) fun c c0 c1 => fd.1 c (by omega)
  obtain ⟨v, Me, fe, ne, no, e4⟩ := c_goNumber (X := X) g cd' t1.1 t1.2.1 (lo := 1) (hi := 8)
  cases h2 : pNum b n 1 8 p1 with
  | error er =>
    obtain ⟨hv, q2, q3⟩ := ne er h2
    subst hv
    have es : evc X 40 [vR (some 21)] SH0 Mc = some (some (vI 0), SH0, Me) := by
      rw [E_40 k21]
      simp (disch := first | assumption | decide | omega | (simp only [List.length_cons, List.length_nil] <;> omega)) only [lgt_0, lgt_s, lset_0, lset_s, lst1_0, lst1_s, lst2_0, lst2_s, ev_iconst, ev_lconst, ev_ldc, ev_null, ev_iload, ev_lload, ev_aload, ev_istore, ev_lstore, ev_astore, ev_iinc, ev_iadd, ev_isub, ev_imul, ev_iand, ev_ior, ev_ishl, ev_ishr, ev_idiv, ev_irem, ev_ineg, ev_ladd, ev_lsub, ev_lmul, ev_land, ev_lor, ev_ldiv, ev_lrem, ev_lshl, ev_i2l, ev_l2i, ev_i2b, ev_i2s, ev_lcmp, ev_dupI, ev_dupR, ev_dup2, ev_popI, ev_popR, ev_alen, ev_xlen, ev_xald, ev_iald, ev_lald, ev_bald, ev_zald, ev_aald, ev_iast, ev_last, ev_bast, ev_zast, ev_aast, ev_gfI, ev_gfL, ev_gfR, ev_pfI, ev_pfZ, ev_pfL, ev_pfR, ev_new, ev_newa, ev_newq, ev_copy, ev_slen, ev_schr, ev_obj, ev_mmin, ev_mabs, ev_mmax, ev_goto, ev_jsr, ev_icmp_eq, ev_if_eq, ev_icmp_ne, ev_if_ne, ev_icmp_lt, ev_if_lt, ev_icmp_ge, ev_if_ge, ev_icmp_gt, ev_if_gt, ev_icmp_le, ev_if_le, ev_ifnull0, ev_ifnull1, ev_ifnn0, ev_ifnn1, ev_tsw, ev_lsw, ev_iret, ev_zret, ev_lret, ev_aret, ev_ret, ev_call0, ev_call1, ev_call2, ev_call3, ev_call4, ev_call5, ev_call6, Option.toList_some, Option.toList_none, List.cons_append, List.nil_append, List.length_cons, List.length_nil, Nat.reduceMod, Nat.reduceDiv, Nat.reduceLeDiff, nc, ↓reduceIte, Nat.zero_le, reduceCtorEq, w32_id, Int.reduceEq, Int.reduceNe, Int.reduceLT, Int.reduceLE, Int.reduceGT, Int.reduceGE, Int.reduceAdd, Int.reduceSub, Int.reduceMul, Int.reduceNeg, ne_eq, not_true_eq_false, not_false_eq_true, eq_self, ↓if_pos, ↓if_neg, J_40_0, k_40_0, J_40_25, k_40_25, J_40_27, k_40_27, J_40_58, k_40_58, r0, e3, e4]
    have fx := frc Me (fR_f (fT_t fd fe))
    refine ⟨0, Me, fx.1, fx.2.1, fx.2.2, cFin_e rfl q2 q3, ?_⟩
    simp (disch := first | assumption | decide | omega | (simp only [List.length_cons, List.length_nil] <;> omega)) only [lgt_0, lgt_s, lset_0, lset_s, lst1_0, lst1_s, lst2_0, lst2_s, ev_iconst, ev_lconst, ev_ldc, ev_null, ev_iload, ev_lload, ev_aload, ev_istore, ev_lstore, ev_astore, ev_iinc, ev_iadd, ev_isub, ev_imul, ev_iand, ev_ior, ev_ishl, ev_ishr, ev_idiv, ev_irem, ev_ineg, ev_ladd, ev_lsub, ev_lmul, ev_land, ev_lor, ev_ldiv, ev_lrem, ev_lshl, ev_i2l, ev_l2i, ev_i2b, ev_i2s, ev_lcmp, ev_dupI, ev_dupR, ev_dup2, ev_popI, ev_popR, ev_alen, ev_xlen, ev_xald, ev_iald, ev_lald, ev_bald, ev_zald, ev_aald, ev_iast, ev_last, ev_bast, ev_zast, ev_aast, ev_gfI, ev_gfL, ev_gfR, ev_pfI, ev_pfZ, ev_pfL, ev_pfR, ev_new, ev_newa, ev_newq, ev_copy, ev_slen, ev_schr, ev_obj, ev_mmin, ev_mabs, ev_mmax, ev_goto, ev_jsr, ev_icmp_eq, ev_if_eq, ev_icmp_ne, ev_if_ne, ev_icmp_lt, ev_if_lt, ev_icmp_ge, ev_if_ge, ev_icmp_gt, ev_if_gt, ev_icmp_le, ev_if_le, ev_ifnull0, ev_ifnull1, ev_ifnn0, ev_ifnn1, ev_tsw, ev_lsw, ev_iret, ev_zret, ev_lret, ev_aret, ev_ret, ev_call0, ev_call1, ev_call2, ev_call3, ev_call4, ev_call5, ev_call6, Option.toList_some, Option.toList_none, List.cons_append, List.nil_append, List.length_cons, List.length_nil, Nat.reduceMod, Nat.reduceDiv, Nat.reduceLeDiff, nc, ↓reduceIte, Nat.zero_le, reduceCtorEq, w32_id, Int.reduceEq, Int.reduceNe, Int.reduceLT, Int.reduceLE, Int.reduceGT, Int.reduceGE, Int.reduceAdd, Int.reduceSub, Int.reduceMul, Int.reduceNeg, ne_eq, not_true_eq_false, not_false_eq_true, eq_self, ↓if_pos, ↓if_neg, J_37_0, k_37_0, J_37_34, k_37_34, J_37_55, k_37_55, J_37_70, k_37_70, J_37_79, k_37_79, J_37_85, k_37_85, r0, r1, e1, e2, hMc, es]
  | ok r2 =>
  obtain ⟨hv, ce, v5⟩ := no r2 h2
  subst hv
  have a2' := pNum_ok h2
  have t2 := tE_on (b := b) t1.2.1 (by rw [a2'.1]; omega) t1.1
  have er2 : r2.1 = tE b n p1 := by rw [a2'.2.1]
  rw [← er2] at t2
  rw [bnd_o]
  have hde := cD_set (s := 0) (v := r2.2) (cD_f hdd (M' := Me) fun c c0 c1 => fe.1 c (by omega)) (by omega)
  have ce' : cTc (up Me 23 0 r2.2) b n r2.1 := cTc_f ce (up_ne (by omega)) (up_ne (by omega))
  have fe' : fR Mc (up Me 23 0 r2.2) := fR_up (fR_f (fT_t fd fe)) (by omega)
  generalize hMf : up Me 23 0 r2.2 = Mf at hde ce' fe'
  obtain ⟨v, Mg, fg, ne3, no3, e5⟩ := c_goNumber (X := X) g ce' t2.1 t2.2.1 (lo := 1) (hi := 6)
  cases h3 : pNum b n 1 6 r2.1 with
  | error er =>
    obtain ⟨hv, q2, q3⟩ := ne3 er h3
    subst hv
    have es : evc X 40 [vR (some 21)] SH0 Mc = some (some (vI 0), SH0, Mg) := by
      rw [E_40 k21]
      simp (disch := first | assumption | decide | omega | (simp only [List.length_cons, List.length_nil] <;> omega)) only [lgt_0, lgt_s, lset_0, lset_s, lst1_0, lst1_s, lst2_0, lst2_s, ev_iconst, ev_lconst, ev_ldc, ev_null, ev_iload, ev_lload, ev_aload, ev_istore, ev_lstore, ev_astore, ev_iinc, ev_iadd, ev_isub, ev_imul, ev_iand, ev_ior, ev_ishl, ev_ishr, ev_idiv, ev_irem, ev_ineg, ev_ladd, ev_lsub, ev_lmul, ev_land, ev_lor, ev_ldiv, ev_lrem, ev_lshl, ev_i2l, ev_l2i, ev_i2b, ev_i2s, ev_lcmp, ev_dupI, ev_dupR, ev_dup2, ev_popI, ev_popR, ev_alen, ev_xlen, ev_xald, ev_iald, ev_lald, ev_bald, ev_zald, ev_aald, ev_iast, ev_last, ev_bast, ev_zast, ev_aast, ev_gfI, ev_gfL, ev_gfR, ev_pfI, ev_pfZ, ev_pfL, ev_pfR, ev_new, ev_newa, ev_newq, ev_copy, ev_slen, ev_schr, ev_obj, ev_mmin, ev_mabs, ev_mmax, ev_goto, ev_jsr, ev_icmp_eq, ev_if_eq, ev_icmp_ne, ev_if_ne, ev_icmp_lt, ev_if_lt, ev_icmp_ge, ev_if_ge, ev_icmp_gt, ev_if_gt, ev_icmp_le, ev_if_le, ev_ifnull0, ev_ifnull1, ev_ifnn0, ev_ifnn1, ev_tsw, ev_lsw, ev_iret, ev_zret, ev_lret, ev_aret, ev_ret, ev_call0, ev_call1, ev_call2, ev_call3, ev_call4, ev_call5, ev_call6, Option.toList_some, Option.toList_none, List.cons_append, List.nil_append, List.length_cons, List.length_nil, Nat.reduceMod, Nat.reduceDiv, Nat.reduceLeDiff, nc, ↓reduceIte, Nat.zero_le, reduceCtorEq, w32_id, Int.reduceEq, Int.reduceNe, Int.reduceLT, Int.reduceLE, Int.reduceGT, Int.reduceGE, Int.reduceAdd, Int.reduceSub, Int.reduceMul, Int.reduceNeg, ne_eq, not_true_eq_false, not_false_eq_true, eq_self, ↓if_pos, ↓if_neg, J_40_0, k_40_0, J_40_25, k_40_25, J_40_27, k_40_27, J_40_58, k_40_58, r0, r1, tr0, tr1, tr2, tr3, tr4, tr5, tr6, tr7, e3, e4, v5, hMf, e5]
    have fx := frc Mg (fR_t fe' (fR_f fg))
    refine ⟨0, Mg, fx.1, fx.2.1, fx.2.2, cFin_e rfl q2 q3, ?_⟩
    simp (disch := first | assumption | decide | omega | (simp only [List.length_cons, List.length_nil] <;> omega)) only [lgt_0, lgt_s, lset_0, lset_s, lst1_0, lst1_s, lst2_0, lst2_s, ev_iconst, ev_lconst, ev_ldc, ev_null, ev_iload, ev_lload, ev_aload, ev_istore, ev_lstore, ev_astore, ev_iinc, ev_iadd, ev_isub, ev_imul, ev_iand, ev_ior, ev_ishl, ev_ishr, ev_idiv, ev_irem, ev_ineg, ev_ladd, ev_lsub, ev_lmul, ev_land, ev_lor, ev_ldiv, ev_lrem, ev_lshl, ev_i2l, ev_l2i, ev_i2b, ev_i2s, ev_lcmp, ev_dupI, ev_dupR, ev_dup2, ev_popI, ev_popR, ev_alen, ev_xlen, ev_xald, ev_iald, ev_lald, ev_bald, ev_zald, ev_aald, ev_iast, ev_last, ev_bast, ev_zast, ev_aast, ev_gfI, ev_gfL, ev_gfR, ev_pfI, ev_pfZ, ev_pfL, ev_pfR, ev_new, ev_newa, ev_newq, ev_copy, ev_slen, ev_schr, ev_obj, ev_mmin, ev_mabs, ev_mmax, ev_goto, ev_jsr, ev_icmp_eq, ev_if_eq, ev_icmp_ne, ev_if_ne, ev_icmp_lt, ev_if_lt, ev_icmp_ge, ev_if_ge, ev_icmp_gt, ev_if_gt, ev_icmp_le, ev_if_le, ev_ifnull0, ev_ifnull1, ev_ifnn0, ev_ifnn1, ev_tsw, ev_lsw, ev_iret, ev_zret, ev_lret, ev_aret, ev_ret, ev_call0, ev_call1, ev_call2, ev_call3, ev_call4, ev_call5, ev_call6, Option.toList_some, Option.toList_none, List.cons_append, List.nil_append, List.length_cons, List.length_nil, Nat.reduceMod, Nat.reduceDiv, Nat.reduceLeDiff, nc, ↓reduceIte, Nat.zero_le, reduceCtorEq, w32_id, Int.reduceEq, Int.reduceNe, Int.reduceLT, Int.reduceLE, Int.reduceGT, Int.reduceGE, Int.reduceAdd, Int.reduceSub, Int.reduceMul, Int.reduceNeg, ne_eq, not_true_eq_false, not_false_eq_true, eq_self, ↓if_pos, ↓if_neg, J_37_0, k_37_0, J_37_34, k_37_34, J_37_55, k_37_55, J_37_70, k_37_70, J_37_79, k_37_79, J_37_85, k_37_85, r0, r1, e1, e2, hMc, es]
  | ok r3 =>
  obtain ⟨hv, cg, v6⟩ := no3 r3 h3
  subst hv
  have a3' := pNum_ok h3
  have t3 := tE_on (b := b) t2.2.1 (by rw [a3'.1]; omega) t2.1
  have er3 : r3.1 = tE b n r2.1 := by rw [a3'.2.1]
  rw [← er3] at t3
  rw [bnd_o]
  have hdg := cD_set (s := 1) (v := r3.2) (cD_f hde (M' := Mg) fun c c0 c1 => fg.1 c (by omega)) (by omega)
  have cg' : cTc (up Mg 23 1 r3.2) b n r3.1 := cTc_f cg (up_ne (by omega)) (up_ne (by omega))
  have fg' : fR Mc (up Mg 23 1 r3.2) := fR_up (fR_t fe' (fR_f fg)) (by omega)
  generalize hMh : up Mg 23 1 r3.2 = Mh at hdg cg' fg'
  obtain ⟨v, Mi, fi, ⟨se, so⟩, e6⟩ := c_goSign (X := X) g cg' t3.1 t3.2.1
  cases h4 : pSign b n r3.1 with
  | error er =>
    obtain ⟨hv, q2, q3⟩ := se er h4
    subst hv
    have es : evc X 40 [vR (some 21)] SH0 Mc = some (some (vI 0), SH0, Mi) := by
      rw [E_40 k21]
      simp (disch := first | assumption | decide | omega | (simp only [List.length_cons, List.length_nil] <;> omega)) only [lgt_0, lgt_s, lset_0, lset_s, lst1_0, lst1_s, lst2_0, lst2_s, ev_iconst, ev_lconst, ev_ldc, ev_null, ev_iload, ev_lload, ev_aload, ev_istore, ev_lstore, ev_astore, ev_iinc, ev_iadd, ev_isub, ev_imul, ev_iand, ev_ior, ev_ishl, ev_ishr, ev_idiv, ev_irem, ev_ineg, ev_ladd, ev_lsub, ev_lmul, ev_land, ev_lor, ev_ldiv, ev_lrem, ev_lshl, ev_i2l, ev_l2i, ev_i2b, ev_i2s, ev_lcmp, ev_dupI, ev_dupR, ev_dup2, ev_popI, ev_popR, ev_alen, ev_xlen, ev_xald, ev_iald, ev_lald, ev_bald, ev_zald, ev_aald, ev_iast, ev_last, ev_bast, ev_zast, ev_aast, ev_gfI, ev_gfL, ev_gfR, ev_pfI, ev_pfZ, ev_pfL, ev_pfR, ev_new, ev_newa, ev_newq, ev_copy, ev_slen, ev_schr, ev_obj, ev_mmin, ev_mabs, ev_mmax, ev_goto, ev_jsr, ev_icmp_eq, ev_if_eq, ev_icmp_ne, ev_if_ne, ev_icmp_lt, ev_if_lt, ev_icmp_ge, ev_if_ge, ev_icmp_gt, ev_if_gt, ev_icmp_le, ev_if_le, ev_ifnull0, ev_ifnull1, ev_ifnn0, ev_ifnn1, ev_tsw, ev_lsw, ev_iret, ev_zret, ev_lret, ev_aret, ev_ret, ev_call0, ev_call1, ev_call2, ev_call3, ev_call4, ev_call5, ev_call6, Option.toList_some, Option.toList_none, List.cons_append, List.nil_append, List.length_cons, List.length_nil, Nat.reduceMod, Nat.reduceDiv, Nat.reduceLeDiff, nc, ↓reduceIte, Nat.zero_le, reduceCtorEq, w32_id, Int.reduceEq, Int.reduceNe, Int.reduceLT, Int.reduceLE, Int.reduceGT, Int.reduceGE, Int.reduceAdd, Int.reduceSub, Int.reduceMul, Int.reduceNeg, ne_eq, not_true_eq_false, not_false_eq_true, eq_self, ↓if_pos, ↓if_neg, J_40_0, k_40_0, J_40_25, k_40_25, J_40_27, k_40_27, J_40_58, k_40_58, r0, r1, tr0, tr1, tr2, tr3, tr4, tr5, tr6, tr7, e3, e4, v5, hMf, e5, v6, hMh, e6]
    have fx := frc Mi (fR_t fg' (fR_f fi))
    refine ⟨0, Mi, fx.1, fx.2.1, fx.2.2, cFin_e rfl q2 q3, ?_⟩
    simp (disch := first | assumption | decide | omega | (simp only [List.length_cons, List.length_nil] <;> omega)) only [lgt_0, lgt_s, lset_0, lset_s, lst1_0, lst1_s, lst2_0, lst2_s, ev_iconst, ev_lconst, ev_ldc, ev_null, ev_iload, ev_lload, ev_aload, ev_istore, ev_lstore, ev_astore, ev_iinc, ev_iadd, ev_isub, ev_imul, ev_iand, ev_ior, ev_ishl, ev_ishr, ev_idiv, ev_irem, ev_ineg, ev_ladd, ev_lsub, ev_lmul, ev_land, ev_lor, ev_ldiv, ev_lrem, ev_lshl, ev_i2l, ev_l2i, ev_i2b, ev_i2s, ev_lcmp, ev_dupI, ev_dupR, ev_dup2, ev_popI, ev_popR, ev_alen, ev_xlen, ev_xald, ev_iald, ev_lald, ev_bald, ev_zald, ev_aald, ev_iast, ev_last, ev_bast, ev_zast, ev_aast, ev_gfI, ev_gfL, ev_gfR, ev_pfI, ev_pfZ, ev_pfL, ev_pfR, ev_new, ev_newa, ev_newq, ev_copy, ev_slen, ev_schr, ev_obj, ev_mmin, ev_mabs, ev_mmax, ev_goto, ev_jsr, ev_icmp_eq, ev_if_eq, ev_icmp_ne, ev_if_ne, ev_icmp_lt, ev_if_lt, ev_icmp_ge, ev_if_ge, ev_icmp_gt, ev_if_gt, ev_icmp_le, ev_if_le, ev_ifnull0, ev_ifnull1, ev_ifnn0, ev_ifnn1, ev_tsw, ev_lsw, ev_iret, ev_zret, ev_lret, ev_aret, ev_ret, ev_call0, ev_call1, ev_call2, ev_call3, ev_call4, ev_call5, ev_call6, Option.toList_some, Option.toList_none, List.cons_append, List.nil_append, List.length_cons, List.length_nil, Nat.reduceMod, Nat.reduceDiv, Nat.reduceLeDiff, nc, ↓reduceIte, Nat.zero_le, reduceCtorEq, w32_id, Int.reduceEq, Int.reduceNe, Int.reduceLT, Int.reduceLE, Int.reduceGT, Int.reduceGE, Int.reduceAdd, Int.reduceSub, Int.reduceMul, Int.reduceNeg, ne_eq, not_true_eq_false, not_false_eq_true, eq_self, ↓if_pos, ↓if_neg, J_37_0, k_37_0, J_37_34, k_37_34, J_37_55, k_37_55, J_37_70, k_37_70, J_37_79, k_37_79, J_37_85, k_37_85, r0, r1, e1, e2, hMc, es]
  | ok p4 =>
  obtain ⟨hv, ci⟩ := so p4 h4
  subst hv
  have a4' := pSign_ok h4
  have t4 := tE_on (b := b) t3.2.1 (by rw [a4'.1]; omega) t3.1
  rw [← a4'.2] at t4
  rw [bnd_o]
  have es : evc X 40 [vR (some 21)] SH0 Mc = some (some (vI 1), SH0, Mi) := by
    rw [E_40 k21]
    simp (disch := first | assumption | decide | omega | (simp only [List.length_cons, List.length_nil] <;> omega)) only [lgt_0, lgt_s, lset_0, lset_s, lst1_0, lst1_s, lst2_0, lst2_s, ev_iconst, ev_lconst, ev_ldc, ev_null, ev_iload, ev_lload, ev_aload, ev_istore, ev_lstore, ev_astore, ev_iinc, ev_iadd, ev_isub, ev_imul, ev_iand, ev_ior, ev_ishl, ev_ishr, ev_idiv, ev_irem, ev_ineg, ev_ladd, ev_lsub, ev_lmul, ev_land, ev_lor, ev_ldiv, ev_lrem, ev_lshl, ev_i2l, ev_l2i, ev_i2b, ev_i2s, ev_lcmp, ev_dupI, ev_dupR, ev_dup2, ev_popI, ev_popR, ev_alen, ev_xlen, ev_xald, ev_iald, ev_lald, ev_bald, ev_zald, ev_aald, ev_iast, ev_last, ev_bast, ev_zast, ev_aast, ev_gfI, ev_gfL, ev_gfR, ev_pfI, ev_pfZ, ev_pfL, ev_pfR, ev_new, ev_newa, ev_newq, ev_copy, ev_slen, ev_schr, ev_obj, ev_mmin, ev_mabs, ev_mmax, ev_goto, ev_jsr, ev_icmp_eq, ev_if_eq, ev_icmp_ne, ev_if_ne, ev_icmp_lt, ev_if_lt, ev_icmp_ge, ev_if_ge, ev_icmp_gt, ev_if_gt, ev_icmp_le, ev_if_le, ev_ifnull0, ev_ifnull1, ev_ifnn0, ev_ifnn1, ev_tsw, ev_lsw, ev_iret, ev_zret, ev_lret, ev_aret, ev_ret, ev_call0, ev_call1, ev_call2, ev_call3, ev_call4, ev_call5, ev_call6, Option.toList_some, Option.toList_none, List.cons_append, List.nil_append, List.length_cons, List.length_nil, Nat.reduceMod, Nat.reduceDiv, Nat.reduceLeDiff, nc, ↓reduceIte, Nat.zero_le, reduceCtorEq, w32_id, Int.reduceEq, Int.reduceNe, Int.reduceLT, Int.reduceLE, Int.reduceGT, Int.reduceGE, Int.reduceAdd, Int.reduceSub, Int.reduceMul, Int.reduceNeg, ne_eq, not_true_eq_false, not_false_eq_true, eq_self, ↓if_pos, ↓if_neg, J_40_0, k_40_0, J_40_25, k_40_25, J_40_27, k_40_27, J_40_58, k_40_58, r0, r1, tr0, tr1, tr2, tr3, tr4, tr5, tr6, tr7, e3, e4, v5, hMf, e5, v6, hMh, e6]
  have hdi : cDr Mi (upH (upH dS0 0 r2.2) 1 r3.2, NW, M 25, M 26, M 27, 0, fun _ => 0) := cD_f hdg (M' := Mi) fun c c0 c1 => fi.1 c (by omega)
  have hJ : dJ (upH (upH dS0 0 r2.2) 1 r3.2, NW, M 25, M 26, M 27, 0, fun _ => 0) := by
    have gd := dS0_good (v := r2.2) (u := r3.2) a2'.2.2 a3'.2.2
    have u0 : upH (upH dS0 0 r2.2) 1 r3.2 0 = r2.2 := rfl
    have u1 : upH (upH dS0 0 r2.2) 1 r3.2 1 = r3.2 := rfl
    have u2 : upH (upH dS0 0 r2.2) 1 r3.2 2 = 0 := rfl
    refine ⟨⟨gd, ?_, ?_, fun k => Or.inl rfl, fun k k0 k1 => ?_, hX⟩, fun k k0 k1 => ?_⟩
    · show 1 ≤ upH (upH dS0 0 r2.2) 1 r3.2 0 ∧ 1 ≤ upH (upH dS0 0 r2.2) 1 r3.2 1
      rw [u0, u1]
      exact ⟨a2'.2.2.1, a3'.2.2.1⟩
    · show (0 : Int) ≤ 0 ∧ (0 : Int) ≤ upH (upH dS0 0 r2.2) 1 r3.2 1
      rw [u1]
      have := a3'.2.2.1
      omega
    · have k1' : k < upH (upH dS0 0 r2.2) 1 r3.2 2 := k1
      omega
    · have k1' : k < 0 * upH (upH dS0 0 r2.2) 1 r3.2 0 := k1
      rw [Int.zero_mul] at k1'
      omega
  obtain ⟨v, Mj, fj, fin, e7⟩ := c_loopF (X := X) g (w := n) 801 _ p4 0 Mi (by omega) (Int.le_refl _) t4.1 t4.2.1 hJ ci hdi
  have fx := frc Mi (fR_t fg' (fR_f fi))
  refine ⟨v, Mj, fun c h1 h2 h3 => by rw [fj.1 c h1 h2 h3, fx.1 c h1 h2 h3], by rw [fj.2.1, fx.2.1], fj.2.2 fx.2.2, fin, ?_⟩
  simp (disch := first | assumption | decide | omega | (simp only [List.length_cons, List.length_nil] <;> omega)) only [lgt_0, lgt_s, lset_0, lset_s, lst1_0, lst1_s, lst2_0, lst2_s, ev_iconst, ev_lconst, ev_ldc, ev_null, ev_iload, ev_lload, ev_aload, ev_istore, ev_lstore, ev_astore, ev_iinc, ev_iadd, ev_isub, ev_imul, ev_iand, ev_ior, ev_ishl, ev_ishr, ev_idiv, ev_irem, ev_ineg, ev_ladd, ev_lsub, ev_lmul, ev_land, ev_lor, ev_ldiv, ev_lrem, ev_lshl, ev_i2l, ev_l2i, ev_i2b, ev_i2s, ev_lcmp, ev_dupI, ev_dupR, ev_dup2, ev_popI, ev_popR, ev_alen, ev_xlen, ev_xald, ev_iald, ev_lald, ev_bald, ev_zald, ev_aald, ev_iast, ev_last, ev_bast, ev_zast, ev_aast, ev_gfI, ev_gfL, ev_gfR, ev_pfI, ev_pfZ, ev_pfL, ev_pfR, ev_new, ev_newa, ev_newq, ev_copy, ev_slen, ev_schr, ev_obj, ev_mmin, ev_mabs, ev_mmax, ev_goto, ev_jsr, ev_icmp_eq, ev_if_eq, ev_icmp_ne, ev_if_ne, ev_icmp_lt, ev_if_lt, ev_icmp_ge, ev_if_ge, ev_icmp_gt, ev_if_gt, ev_icmp_le, ev_if_le, ev_ifnull0, ev_ifnull1, ev_ifnn0, ev_ifnn1, ev_tsw, ev_lsw, ev_iret, ev_zret, ev_lret, ev_aret, ev_ret, ev_call0, ev_call1, ev_call2, ev_call3, ev_call4, ev_call5, ev_call6, Option.toList_some, Option.toList_none, List.cons_append, List.nil_append, List.length_cons, List.length_nil, Nat.reduceMod, Nat.reduceDiv, Nat.reduceLeDiff, nc, ↓reduceIte, Nat.zero_le, reduceCtorEq, w32_id, Int.reduceEq, Int.reduceNe, Int.reduceLT, Int.reduceLE, Int.reduceGT, Int.reduceGE, Int.reduceAdd, Int.reduceSub, Int.reduceMul, Int.reduceNeg, ne_eq, not_true_eq_false, not_false_eq_true, eq_self, ↓if_pos, ↓if_neg, J_37_0, k_37_0, J_37_34, k_37_34, J_37_55, k_37_55, J_37_70, k_37_70, J_37_79, k_37_79, J_37_85, k_37_85, r0, r1, e1, e2, hMc, es, e7]
end RDS
