section MCR
variable {X : Int → Int} {M : Mem} {b : Int → Int} {n p : Int} {d : DS}
/-- the model's chart up to its outcome -/
def mFr (M M' : Mem) : Prop := (∀ c, c ≠ 140 → c ≠ 141 → c ≠ 142 → c ≠ 147 → M' c = M c) ∧ (∀ i, (i < 10 ∨ i = 16 ∨ 20 < i) → M' 140 i = M 140 i) ∧ M' 140 10 = 0 ∧ (∀ k, k < 1920 → M' 141 k = M 141 k) ∧ ∀ k, k < 20 → M' 142 k = M 142 k
theorem mFr_t {M M1 M' : Mem} (h : mFr M M1) (f : fM M1 M') : mFr M M' := ⟨fun c h1 h2 h3 h4 => by rw [f.1 c h1 h2 h3, h.1 c h1 h2 h3 h4], fun i hi => by rw [f.2.1 i (by omega), h.2.1 i hi], by rw [f.2.1 10 (by omega)]; exact h.2.2.1, fun k hk => by rw [f.2.2.1 k (by omega), h.2.2.2.1 k hk], fun k hk => by rw [f.2.2.2 k hk, h.2.2.2.2 k hk]⟩
def noPl (M : Mem) : Prop := M 141 1935 = -1 ∧ ∀ k, 0 ≤ k → k < 48 → M 141 (2000 + k) = -1
theorem noPl_t {M M' : Mem} (h : noPl M) (f : fM M M') : noPl M' := ⟨by rw [f.2.2.1 1935 (by omega)]; exact h.1, fun k k0 k1 => by rw [f.2.2.1 (2000 + k) (by omega)]; exact h.2 k k0 k1⟩
theorem d_chartRd (g : gT b n) (hb : ∀ k, 0 ≤ k → k < n → M 146 k = b k) (ht : n ≤ M 140 10) {NW : Int → List Int} {W Y C : Int → Int} (hX : ∀ k, 0 ≤ k → k < 5 → (0 ≤ W k ∧ W k ≤ 9) ∧ 0 ≤ Y k ∧ Y k ≤ 99) : ∃ g' M', mFr M M' ∧ noPl M' ∧ ((∃ e, pChart b n NW W Y C = .error e ∧ M' 140 18 = e.1 ∧ M' 140 17 = e.2 ∧ 0 < e.1) ∨ (∃ d, pChart b n NW W Y C = .ok d ∧ mCl M' ∧ mDr M' d (d.2.2.2.2.2.1 * d.1 0) ∧ dJ d ∧ d.2.2.2.2.2.1 = d.1 1)) ∧ evc X 240 [vR (some 140), vI n] SH0 M = ev X 240 (jmp 240 125) [some (vR (some 140)), some (vI n), some (vI g'), none] [] SH0 M' := by
  have mk0 := w0_k140
  have n8 := g.1
  obtain ⟨Ma, fa, fa2, a10, a19, aa, ca, ea⟩ := d_begins (X := X) g hb ht (mx := 800) n8.2
  obtain ⟨Mb, fb, fb2, bv, eb⟩ := d_asNew (X := X) (M := Ma) (s := 1920) (by omega)
  generalize hMc : up Mb 140 20 0 = Mc
  have c141 : Mc 141 = Mb 141 := by rw [← hMc, up_ne (by omega)]
  have ac : mAt Mc b n 0 := mAt_f aa (fun i i0 i1 => by rw [← hMc, up_ne2 (by omega), fb 140 (by omega)]) (by rw [← hMc, up_ne (by omega), fb 147 (by omega)])
  have cc : mCl Mc := ⟨by rw [← hMc, up_ne2 (by omega), fb 140 (by omega)]; exact ca.1, by rw [← hMc, up_ne2 (by omega), fb 140 (by omega)]; exact ca.2⟩
  have mf : mFr M Mc := ⟨fun c h1 h2 h3 h4 => by rw [← hMc, up_ne h1, fb c h2, fa c h1 h4], fun i hi => by rw [← hMc, up_ne2 (by omega), fb 140 (by omega), fa2 i (by omega)], by rw [← hMc, up_ne2 (by omega), fb 140 (by omega)]; exact a10, fun k hk => by rw [c141, fb2 k (by omega), fa 141 (by omega) (by omega)], fun k hk => by rw [← hMc, up_ne (by omega), fb 142 (by omega), fa 142 (by omega) (by omega)]⟩
  have np : noPl Mc := ⟨by
    have e := bv 15 (by omega) (by omega)
    rw [c141]
    exact e, fun k k0 k1 => by
    have e := bv (80 + k) (by omega) (by omega)
    rw [c141, show 2000 + k = 1920 + (80 + k) by omega, e]
    unfold nsF
    rw [if_pos (by omega)]⟩
  have dc : mDr Mc (dS0, NW, W, Y, C, 0, fun _ => 0) 0 := by
    refine ⟨by rw [← hMc, up_eq], fun k k0 k1 => ?_, fun k k0 k1 => ?_, fun k k0 k1 => ?_, fun k k0 k1 => ?_, fun k k0 k1 => by omega⟩
    · rw [← hMc, up_ne2 (by omega), fb 140 (by omega), a19]
      exact i_bit0 (by omega)
    · rw [c141, bv k k0 (by omega)]
      unfold nsF
      rw [if_neg (by omega)]
    · have k1' : k < dS0 2 := k1
      have e : dS0 2 = 0 := rfl
      omega
    · have e1 := bv (16 + 2 * k) (by omega) (by omega)
      have e2 := bv (17 + 2 * k) (by omega) (by omega)
      unfold nsF at e1 e2
      rw [if_neg (by omega), dS0_big (by omega)] at e1 e2
      rw [c141, show 1936 + 2 * k = 1920 + (16 + 2 * k) by omega, show 1937 + 2 * k = 1920 + (17 + 2 * k) by omega, e1, e2]
      omega
  unfold pChart
  rw [E_240 mk0]
  -- the size
  obtain ⟨v, Md, fd, ⟨we, wo⟩, e1⟩ := d_wantWord (X := X) g ac cc (Int.le_refl _) n8.1 kOK_C (j := 0) (w := kl 0) (fun v => ck_iff (by omega))
  rw [show ((0 : Nat) : Int) = 0 from rfl] at e1
  have fd' : fM Mc Md := by
    rcases fd with f | ⟨w, q, f⟩
    · exact fM_A f
    · rw [f]; exact fM_w fM_0
  have dd : mDr Md (dS0, NW, W, Y, C, 0, fun _ => 0) 0 := by
    rcases fd with f | ⟨w, q, f⟩
    · exact mDr_A dc f
    · rw [f]
      exact mDr_f dc (by rw [up_ne (by omega), up_ne (by omega)]) (by rw [up_ne (by omega), up_ne (by omega)]) (by rw [up_ne2 (by omega), up_ne2 (by omega)]) (by rw [up_ne2 (by omega), up_ne2 (by omega)])
  cases h1 : pWord b n (kl 0) 0 with
  | error er =>
    obtain ⟨hv, q2, q3⟩ := we er h1
    subst hv
    refine ⟨0, Md, mFr_t mf fd', noPl_t np fd', Or.inl ⟨er, rfl, q2, q3, pWord_er h1⟩, ?_⟩
    simp (disch := first | assumption | decide | omega | (simp only [List.length_cons, List.length_nil] <;> omega)) only [lgt_0, lgt_s, lset_0, lset_s, lst1_0, lst1_s, lst2_0, lst2_s, ev_iconst, ev_lconst, ev_ldc, ev_null, ev_iload, ev_lload, ev_aload, ev_istore, ev_lstore, ev_astore, ev_iinc, ev_iadd, ev_isub, ev_imul, ev_iand, ev_ior, ev_ishl, ev_ishr, ev_idiv, ev_irem, ev_ineg, ev_ladd, ev_lsub, ev_lmul, ev_land, ev_lor, ev_ldiv, ev_lrem, ev_lshl, ev_i2l, ev_l2i, ev_i2b, ev_i2s, ev_lcmp, ev_dupI, ev_dupR, ev_dup2, ev_popI, ev_popR, ev_alen, ev_xlen, ev_xald, ev_iald, ev_lald, ev_bald, ev_zald, ev_aald, ev_iast, ev_last, ev_bast, ev_zast, ev_aast, ev_gfI, ev_gfL, ev_gfR, ev_pfI, ev_pfZ, ev_pfL, ev_pfR, ev_new, ev_newa, ev_newq, ev_copy, ev_slen, ev_schr, ev_obj, ev_mmin, ev_mabs, ev_mmax, ev_goto, ev_jsr, ev_icmp_eq, ev_if_eq, ev_icmp_ne, ev_if_ne, ev_icmp_lt, ev_if_lt, ev_icmp_ge, ev_if_ge, ev_icmp_gt, ev_if_gt, ev_icmp_le, ev_if_le, ev_ifnull0, ev_ifnull1, ev_ifnn0, ev_ifnn1, ev_tsw, ev_lsw, ev_iret, ev_zret, ev_lret, ev_aret, ev_ret, ev_call0, ev_call1, ev_call2, ev_call3, ev_call4, ev_call5, ev_call6, Option.toList_some, Option.toList_none, List.cons_append, List.nil_append, List.length_cons, List.length_nil, Nat.reduceMod, Nat.reduceDiv, Nat.reduceLeDiff, nc, ↓reduceIte, Nat.zero_le, reduceCtorEq, w32_id, Int.reduceEq, Int.reduceNe, Int.reduceLT, Int.reduceLE, Int.reduceGT, Int.reduceGE, Int.reduceAdd, Int.reduceSub, Int.reduceMul, Int.reduceNeg, ne_eq, not_true_eq_false, not_false_eq_true, eq_self, ↓if_pos, ↓if_neg, J_240_0, k_240_0, J_240_17, k_240_17, J_240_78, k_240_78, J_240_79, k_240_79, J_240_80, k_240_80, J_240_99, k_240_99, J_240_163, k_240_163, J_240_191, k_240_191, J_240_200, k_240_200, ea, eb, hMc, e1]
  | ok p1 =>
  obtain ⟨hv, ad, cd'⟩ := wo p1 h1
  subst hv
  have a1 := pWord_ok h1
  have t1 := tE_on (b := b) n8.1 (by rw [a1.1]; omega) (Int.le_refl _)
  rw [← a1.2.2] at t1
  rw [bnd_o]
  obtain ⟨v, Me, fe, he, ho, e2⟩ := d_setN (X := X) g ad cd' t1.1 t1.2.1 dd (s := 0) (lo := 1) (hi := 8) (by omega)
  rw [show (1920 : Int) + 0 = 1920 from rfl] at e2
  cases h2 : pNum b n 1 8 p1 with
  | error er =>
    obtain ⟨hv, q2, q3⟩ := he er h2
    subst hv
    refine ⟨0, Me, mFr_t (mFr_t mf fd') fe, noPl_t (noPl_t np fd') fe, Or.inl ⟨er, rfl, q2, q3, pNum_er h2⟩, ?_⟩
    simp (disch := first | assumption | decide | omega | (simp only [List.length_cons, List.length_nil] <;> omega)) only [lgt_0, lgt_s, lset_0, lset_s, lst1_0, lst1_s, lst2_0, lst2_s, ev_iconst, ev_lconst, ev_ldc, ev_null, ev_iload, ev_lload, ev_aload, ev_istore, ev_lstore, ev_astore, ev_iinc, ev_iadd, ev_isub, ev_imul, ev_iand, ev_ior, ev_ishl, ev_ishr, ev_idiv, ev_irem, ev_ineg, ev_ladd, ev_lsub, ev_lmul, ev_land, ev_lor, ev_ldiv, ev_lrem, ev_lshl, ev_i2l, ev_l2i, ev_i2b, ev_i2s, ev_lcmp, ev_dupI, ev_dupR, ev_dup2, ev_popI, ev_popR, ev_alen, ev_xlen, ev_xald, ev_iald, ev_lald, ev_bald, ev_zald, ev_aald, ev_iast, ev_last, ev_bast, ev_zast, ev_aast, ev_gfI, ev_gfL, ev_gfR, ev_pfI, ev_pfZ, ev_pfL, ev_pfR, ev_new, ev_newa, ev_newq, ev_copy, ev_slen, ev_schr, ev_obj, ev_mmin, ev_mabs, ev_mmax, ev_goto, ev_jsr, ev_icmp_eq, ev_if_eq, ev_icmp_ne, ev_if_ne, ev_icmp_lt, ev_if_lt, ev_icmp_ge, ev_if_ge, ev_icmp_gt, ev_if_gt, ev_icmp_le, ev_if_le, ev_ifnull0, ev_ifnull1, ev_ifnn0, ev_ifnn1, ev_tsw, ev_lsw, ev_iret, ev_zret, ev_lret, ev_aret, ev_ret, ev_call0, ev_call1, ev_call2, ev_call3, ev_call4, ev_call5, ev_call6, Option.toList_some, Option.toList_none, List.cons_append, List.nil_append, List.length_cons, List.length_nil, Nat.reduceMod, Nat.reduceDiv, Nat.reduceLeDiff, nc, ↓reduceIte, Nat.zero_le, reduceCtorEq, w32_id, Int.reduceEq, Int.reduceNe, Int.reduceLT, Int.reduceLE, Int.reduceGT, Int.reduceGE, Int.reduceAdd, Int.reduceSub, Int.reduceMul, Int.reduceNeg, ne_eq, not_true_eq_false, not_false_eq_true, eq_self, ↓if_pos, ↓if_neg, J_240_0, k_240_0, J_240_17, k_240_17, J_240_78, k_240_78, J_240_79, k_240_79, J_240_80, k_240_80, J_240_99, k_240_99, J_240_163, k_240_163, J_240_191, k_240_191, J_240_200, k_240_200, ea, eb, hMc, e1, e2]
  | ok r2 =>
  obtain ⟨hv, ae, ce, de⟩ := ho r2 h2
  subst hv
  have a2 := pNum_ok h2
  have t2 := tE_on (b := b) t1.2.1 (by rw [a2.1]; omega) t1.1
  have er2 : r2.1 = tE b n p1 := by rw [a2.2.1]
  rw [← er2] at t2
  rw [bnd_o]
  obtain ⟨v, Mf, ff, he3, ho3, e3⟩ := d_setN (X := X) g ae ce t2.1 t2.2.1 de (s := 1) (lo := 1) (hi := 6) (by omega)
  rw [show (1920 : Int) + 1 = 1921 from rfl] at e3
  cases h3 : pNum b n 1 6 r2.1 with
  | error er =>
    obtain ⟨hv, q2, q3⟩ := he3 er h3
    subst hv
    refine ⟨0, Mf, mFr_t (mFr_t (mFr_t mf fd') fe) ff, noPl_t (noPl_t (noPl_t np fd') fe) ff, Or.inl ⟨er, rfl, q2, q3, pNum_er h3⟩, ?_⟩
    simp (disch := first | assumption | decide | omega | (simp only [List.length_cons, List.length_nil] <;> omega)) only [lgt_0, lgt_s, lset_0, lset_s, lst1_0, lst1_s, lst2_0, lst2_s, ev_iconst, ev_lconst, ev_ldc, ev_null, ev_iload, ev_lload, ev_aload, ev_istore, ev_lstore, ev_astore, ev_iinc, ev_iadd, ev_isub, ev_imul, ev_iand, ev_ior, ev_ishl, ev_ishr, ev_idiv, ev_irem, ev_ineg, ev_ladd, ev_lsub, ev_lmul, ev_land, ev_lor, ev_ldiv, ev_lrem, ev_lshl, ev_i2l, ev_l2i, ev_i2b, ev_i2s, ev_lcmp, ev_dupI, ev_dupR, ev_dup2, ev_popI, ev_popR, ev_alen, ev_xlen, ev_xald, ev_iald, ev_lald, ev_bald, ev_zald, ev_aald, ev_iast, ev_last, ev_bast, ev_zast, ev_aast, ev_gfI, ev_gfL, ev_gfR, ev_pfI, ev_pfZ, ev_pfL, ev_pfR, ev_new, ev_newa, ev_newq, ev_copy, ev_slen, ev_schr, ev_obj, ev_mmin, ev_mabs, ev_mmax, ev_goto, ev_jsr, ev_icmp_eq, ev_if_eq, ev_icmp_ne, ev_if_ne, ev_icmp_lt, ev_if_lt, ev_icmp_ge, ev_if_ge, ev_icmp_gt, ev_if_gt, ev_icmp_le, ev_if_le, ev_ifnull0, ev_ifnull1, ev_ifnn0, ev_ifnn1, ev_tsw, ev_lsw, ev_iret, ev_zret, ev_lret, ev_aret, ev_ret, ev_call0, ev_call1, ev_call2, ev_call3, ev_call4, ev_call5, ev_call6, Option.toList_some, Option.toList_none, List.cons_append, List.nil_append, List.length_cons, List.length_nil, Nat.reduceMod, Nat.reduceDiv, Nat.reduceLeDiff, nc, ↓reduceIte, Nat.zero_le, reduceCtorEq, w32_id, Int.reduceEq, Int.reduceNe, Int.reduceLT, Int.reduceLE, Int.reduceGT, Int.reduceGE, Int.reduceAdd, Int.reduceSub, Int.reduceMul, Int.reduceNeg, ne_eq, not_true_eq_false, not_false_eq_true, eq_self, ↓if_pos, ↓if_neg, J_240_0, k_240_0, J_240_17, k_240_17, J_240_78, k_240_78, J_240_79, k_240_79, J_240_80, k_240_80, J_240_99, k_240_99, J_240_163, k_240_163, J_240_191, k_240_191, J_240_200, k_240_200, ea, eb, hMc, e1, e2, e3]
  | ok r3 =>
  obtain ⟨hv, af, cf, df⟩ := ho3 r3 h3
  subst hv
  have a3 := pNum_ok h3
  have t3 := tE_on (b := b) t2.2.1 (by rw [a3.1]; omega) t2.1
  have er3 : r3.1 = tE b n r2.1 := by rw [a3.2.1]
  rw [← er3] at t3
  rw [bnd_o]
  obtain ⟨v, Mg, fg, ⟨se, so⟩, e4⟩ := d_wantSign (X := X) g af cf t3.1 t3.2.1
  have fg' : fM Mf Mg := by
    rcases fg with f | ⟨w, q, f⟩
    · exact fM_A f
    · rw [f]; exact fM_w fM_0
  have dg : mDr Mg (setS (setS (dS0, NW, W, Y, C, 0, fun _ => 0) 0 r2.2) 1 r3.2) 0 := by
    rcases fg with f | ⟨w, q, f⟩
    · exact mDr_A df f
    · rw [f]
      exact mDr_f df (by rw [up_ne (by omega), up_ne (by omega)]) (by rw [up_ne (by omega), up_ne (by omega)]) (by rw [up_ne2 (by omega), up_ne2 (by omega)]) (by rw [up_ne2 (by omega), up_ne2 (by omega)])
  cases h4 : pSign b n r3.1 with
  | error er =>
    obtain ⟨hv, q2, q3⟩ := se er h4
    subst hv
    refine ⟨0, Mg, mFr_t (mFr_t (mFr_t (mFr_t mf fd') fe) ff) fg', noPl_t (noPl_t (noPl_t (noPl_t np fd') fe) ff) fg', Or.inl ⟨er, rfl, q2, q3, pSign_er h4⟩, ?_⟩
    simp (disch := first | assumption | decide | omega | (simp only [List.length_cons, List.length_nil] <;> omega)) only [lgt_0, lgt_s, lset_0, lset_s, lst1_0, lst1_s, lst2_0, lst2_s, ev_iconst, ev_lconst, ev_ldc, ev_null, ev_iload, ev_lload, ev_aload, ev_istore, ev_lstore, ev_astore, ev_iinc, ev_iadd, ev_isub, ev_imul, ev_iand, ev_ior, ev_ishl, ev_ishr, ev_idiv, ev_irem, ev_ineg, ev_ladd, ev_lsub, ev_lmul, ev_land, ev_lor, ev_ldiv, ev_lrem, ev_lshl, ev_i2l, ev_l2i, ev_i2b, ev_i2s, ev_lcmp, ev_dupI, ev_dupR, ev_dup2, ev_popI, ev_popR, ev_alen, ev_xlen, ev_xald, ev_iald, ev_lald, ev_bald, ev_zald, ev_aald, ev_iast, ev_last, ev_bast, ev_zast, ev_aast, ev_gfI, ev_gfL, ev_gfR, ev_pfI, ev_pfZ, ev_pfL, ev_pfR, ev_new, ev_newa, ev_newq, ev_copy, ev_slen, ev_schr, ev_obj, ev_mmin, ev_mabs, ev_mmax, ev_goto, ev_jsr, ev_icmp_eq, ev_if_eq, ev_icmp_ne, ev_if_ne, ev_icmp_lt, ev_if_lt, ev_icmp_ge, ev_if_ge, ev_icmp_gt, ev_if_gt, ev_icmp_le, ev_if_le, ev_ifnull0, ev_ifnull1, ev_ifnn0, ev_ifnn1, ev_tsw, ev_lsw, ev_iret, ev_zret, ev_lret, ev_aret, ev_ret, ev_call0, ev_call1, ev_call2, ev_call3, ev_call4, ev_call5, ev_call6, Option.toList_some, Option.toList_none, List.cons_append, List.nil_append, List.length_cons, List.length_nil, Nat.reduceMod, Nat.reduceDiv, Nat.reduceLeDiff, nc, ↓reduceIte, Nat.zero_le, reduceCtorEq, w32_id, Int.reduceEq, Int.reduceNe, Int.reduceLT, Int.reduceLE, Int.reduceGT, Int.reduceGE, Int.reduceAdd, Int.reduceSub, Int.reduceMul, Int.reduceNeg, ne_eq, not_true_eq_false, not_false_eq_true, eq_self, ↓if_pos, ↓if_neg, J_240_0, k_240_0, J_240_17, k_240_17, J_240_78, k_240_78, J_240_79, k_240_79, J_240_80, k_240_80, J_240_99, k_240_99, J_240_163, k_240_163, J_240_191, k_240_191, J_240_200, k_240_200, ea, eb, hMc, e1, e2, e3, e4]
  | ok p4 =>
  obtain ⟨hv, ag, cg⟩ := so p4 h4
  subst hv
  have a4 := pSign_ok h4
  have t4 := tE_on (b := b) t3.2.1 (by rw [a4.1]; omega) t3.1
  rw [← a4.2] at t4
  rw [bnd_o]
  have u0 : upH (upH dS0 0 r2.2) 1 r3.2 0 = r2.2 := rfl
  have u1 : upH (upH dS0 0 r2.2) 1 r3.2 1 = r3.2 := rfl
  have u2 : upH (upH dS0 0 r2.2) 1 r3.2 2 = 0 := rfl
  have hJ : dJ (upH (upH dS0 0 r2.2) 1 r3.2, NW, W, Y, C, 0, fun _ => 0) := by
    have gd := dS0_good (v := r2.2) (u := r3.2) a2.2.2 a3.2.2
    refine ⟨⟨gd, ?_, ?_, fun k => Or.inl rfl, fun k k0 k1 => ?_, hX⟩, fun k k0 k1 => ?_⟩
    · show 1 ≤ upH (upH dS0 0 r2.2) 1 r3.2 0 ∧ 1 ≤ upH (upH dS0 0 r2.2) 1 r3.2 1
      rw [u0, u1]
      exact ⟨a2.2.2.1, a3.2.2.1⟩
    · show (0 : Int) ≤ 0 ∧ (0 : Int) ≤ upH (upH dS0 0 r2.2) 1 r3.2 1
      rw [u1]
      have := a3.2.2.1
      omega
    · have k1' : k < upH (upH dS0 0 r2.2) 1 r3.2 2 := k1
      omega
    · have k1' : k < 0 * upH (upH dS0 0 r2.2) 1 r3.2 0 := k1
      rw [Int.zero_mul] at k1'
      omega
  have dg' : mDr Mg (upH (upH dS0 0 r2.2) 1 r3.2, NW, W, Y, C, 0, fun _ => 0) (0 * upH (upH dS0 0 r2.2) 1 r3.2 0) := by
    rw [Int.zero_mul]
    exact dg
  obtain ⟨g', Mh, fh, res, e5⟩ := d_loopF (X := X) g 801 _ p4 0 none Mg (by omega) (Int.le_refl _) t4.1 t4.2.1 hJ ag cg dg'
  refine ⟨g', Mh, mFr_t (mFr_t (mFr_t (mFr_t (mFr_t mf fd') fe) ff) fg') fh, noPl_t (noPl_t (noPl_t (noPl_t (noPl_t np fd') fe) ff) fg') fh, ?_, ?_⟩
  · rcases res with ⟨e, q1, q2⟩ | ⟨d', q1, q2, q3⟩
    · exact Or.inl ⟨e, q1, q2⟩
    · have i := pLoop_I _ _ _ t4.1 t4.2.1 hJ q1
      exact Or.inr ⟨d', q1, q2, q3, i⟩
  · simp (disch := first | assumption | decide | omega | (simp only [List.length_cons, List.length_nil] <;> omega)) only [lgt_0, lgt_s, lset_0, lset_s, lst1_0, lst1_s, lst2_0, lst2_s, ev_iconst, ev_lconst, ev_ldc, ev_null, ev_iload, ev_lload, ev_aload, ev_istore, ev_lstore, ev_astore, ev_iinc, ev_iadd, ev_isub, ev_imul, ev_iand, ev_ior, ev_ishl, ev_ishr, ev_idiv, ev_irem, ev_ineg, ev_ladd, ev_lsub, ev_lmul, ev_land, ev_lor, ev_ldiv, ev_lrem, ev_lshl, ev_i2l, ev_l2i, ev_i2b, ev_i2s, ev_lcmp, ev_dupI, ev_dupR, ev_dup2, ev_popI, ev_popR, ev_alen, ev_xlen, ev_xald, ev_iald, ev_lald, ev_bald, ev_zald, ev_aald, ev_iast, ev_last, ev_bast, ev_zast, ev_aast, ev_gfI, ev_gfL, ev_gfR, ev_pfI, ev_pfZ, ev_pfL, ev_pfR, ev_new, ev_newa, ev_newq, ev_copy, ev_slen, ev_schr, ev_obj, ev_mmin, ev_mabs, ev_mmax, ev_goto, ev_jsr, ev_icmp_eq, ev_if_eq, ev_icmp_ne, ev_if_ne, ev_icmp_lt, ev_if_lt, ev_icmp_ge, ev_if_ge, ev_icmp_gt, ev_if_gt, ev_icmp_le, ev_if_le, ev_ifnull0, ev_ifnull1, ev_ifnn0, ev_ifnn1, ev_tsw, ev_lsw, ev_iret, ev_zret, ev_lret, ev_aret, ev_ret, ev_call0, ev_call1, ev_call2, ev_call3, ev_call4, ev_call5, ev_call6, Option.toList_some, Option.toList_none, List.cons_append, List.nil_append, List.length_cons, List.length_nil, Nat.reduceMod, Nat.reduceDiv, Nat.reduceLeDiff, nc, ↓reduceIte, Nat.zero_le, reduceCtorEq, w32_id, Int.reduceEq, Int.reduceNe, Int.reduceLT, Int.reduceLE, Int.reduceGT, Int.reduceGE, Int.reduceAdd, Int.reduceSub, Int.reduceMul, Int.reduceNeg, ne_eq, not_true_eq_false, not_false_eq_true, eq_self, ↓if_pos, ↓if_neg, J_240_0, k_240_0, J_240_17, k_240_17, J_240_78, k_240_78, J_240_79, k_240_79, J_240_99, k_240_99, J_240_163, k_240_163, J_240_191, k_240_191, J_240_200, k_240_200, ea, eb, hMc, e1, e2, e3, e4, e5]
theorem d_taken {v : Int} : (0 < M 140 18 → evc X 261 [vR (some 140), vI v] SH0 M = some (some (vI (-1)), SH0, up (up M 140 16 (M 140 18)) 140 2 9)) ∧ (M 140 18 = 0 → evc X 261 [vR (some 140), vI v] SH0 M = some (some (vI v), SH0, up (up M 140 16 0) 140 2 0)) := by
  have mk0 := w0_k140
  have hmd := w0_md140
  constructor <;> intro h <;> rw [E_261 mk0]
  · simp (disch := first | assumption | decide | omega | (simp only [List.length_cons, List.length_nil] <;> omega)) only [lgt_0, lgt_s, lset_0, lset_s, lst1_0, lst1_s, lst2_0, lst2_s, ev_iconst, ev_lconst, ev_ldc, ev_null, ev_iload, ev_lload, ev_aload, ev_istore, ev_lstore, ev_astore, ev_iinc, ev_iadd, ev_isub, ev_imul, ev_iand, ev_ior, ev_ishl, ev_ishr, ev_idiv, ev_irem, ev_ineg, ev_ladd, ev_lsub, ev_lmul, ev_land, ev_lor, ev_ldiv, ev_lrem, ev_lshl, ev_i2l, ev_l2i, ev_i2b, ev_i2s, ev_lcmp, ev_dupI, ev_dupR, ev_dup2, ev_popI, ev_popR, ev_alen, ev_xlen, ev_xald, ev_iald, ev_lald, ev_bald, ev_zald, ev_aald, ev_iast, ev_last, ev_bast, ev_zast, ev_aast, ev_gfI, ev_gfL, ev_gfR, ev_pfI, ev_pfZ, ev_pfL, ev_pfR, ev_new, ev_newa, ev_newq, ev_copy, ev_slen, ev_schr, ev_obj, ev_mmin, ev_mabs, ev_mmax, ev_goto, ev_jsr, ev_icmp_eq, ev_if_eq, ev_icmp_ne, ev_if_ne, ev_icmp_lt, ev_if_lt, ev_icmp_ge, ev_if_ge, ev_icmp_gt, ev_if_gt, ev_icmp_le, ev_if_le, ev_ifnull0, ev_ifnull1, ev_ifnn0, ev_ifnn1, ev_tsw, ev_lsw, ev_iret, ev_zret, ev_lret, ev_aret, ev_ret, ev_call0, ev_call1, ev_call2, ev_call3, ev_call4, ev_call5, ev_call6, Option.toList_some, Option.toList_none, List.cons_append, List.nil_append, List.length_cons, List.length_nil, Nat.reduceMod, Nat.reduceDiv, Nat.reduceLeDiff, nc, ↓reduceIte, Nat.zero_le, reduceCtorEq, w32_id, Int.reduceEq, Int.reduceNe, Int.reduceLT, Int.reduceLE, Int.reduceGT, Int.reduceGE, Int.reduceAdd, Int.reduceSub, Int.reduceMul, Int.reduceNeg, ne_eq, not_true_eq_false, not_false_eq_true, eq_self, ↓if_pos, ↓if_neg, J_261_0, k_261_0, J_261_24, k_261_24, J_261_29, k_261_29, up_ne2, m_refuse hmd]
  · simp (disch := first | assumption | decide | omega | (simp only [List.length_cons, List.length_nil] <;> omega)) only [lgt_0, lgt_s, lset_0, lset_s, lst1_0, lst1_s, lst2_0, lst2_s, ev_iconst, ev_lconst, ev_ldc, ev_null, ev_iload, ev_lload, ev_aload, ev_istore, ev_lstore, ev_astore, ev_iinc, ev_iadd, ev_isub, ev_imul, ev_iand, ev_ior, ev_ishl, ev_ishr, ev_idiv, ev_irem, ev_ineg, ev_ladd, ev_lsub, ev_lmul, ev_land, ev_lor, ev_ldiv, ev_lrem, ev_lshl, ev_i2l, ev_l2i, ev_i2b, ev_i2s, ev_lcmp, ev_dupI, ev_dupR, ev_dup2, ev_popI, ev_popR, ev_alen, ev_xlen, ev_xald, ev_iald, ev_lald, ev_bald, ev_zald, ev_aald, ev_iast, ev_last, ev_bast, ev_zast, ev_aast, ev_gfI, ev_gfL, ev_gfR, ev_pfI, ev_pfZ, ev_pfL, ev_pfR, ev_new, ev_newa, ev_newq, ev_copy, ev_slen, ev_schr, ev_obj, ev_mmin, ev_mabs, ev_mmax, ev_goto, ev_jsr, ev_icmp_eq, ev_if_eq, ev_icmp_ne, ev_if_ne, ev_icmp_lt, ev_if_lt, ev_icmp_ge, ev_if_ge, ev_icmp_gt, ev_if_gt, ev_icmp_le, ev_if_le, ev_ifnull0, ev_ifnull1, ev_ifnn0, ev_ifnn1, ev_tsw, ev_lsw, ev_iret, ev_zret, ev_lret, ev_aret, ev_ret, ev_call0, ev_call1, ev_call2, ev_call3, ev_call4, ev_call5, ev_call6, Option.toList_some, Option.toList_none, List.cons_append, List.nil_append, List.length_cons, List.length_nil, Nat.reduceMod, Nat.reduceDiv, Nat.reduceLeDiff, nc, ↓reduceIte, Nat.zero_le, reduceCtorEq, w32_id, Int.reduceEq, Int.reduceNe, Int.reduceLT, Int.reduceLE, Int.reduceGT, Int.reduceGE, Int.reduceAdd, Int.reduceSub, Int.reduceMul, Int.reduceNeg, ne_eq, not_true_eq_false, not_false_eq_true, eq_self, ↓if_pos, ↓if_neg, J_261_0, k_261_0, J_261_24, k_261_24, J_261_29, k_261_29, up_ne2, h, m_gives hmd]
end MCR
