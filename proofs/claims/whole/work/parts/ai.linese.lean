/-! DIRECTIONS: the class reads. -/
def dL0 : DD := (fun _ => 0, fun _ => 0, fun _ => 0, 0, 0)
theorem dL0_I {m : Int} : dlI m dL0 := ⟨⟨by show (0 : Int) ≤ 0; omega, by show (0 : Int) ≤ 40; omega⟩, by show ((0 : Nat) : Int) + ((0 : Nat) : Int) ≤ 2 * 0; omega, fun l hl => absurd hl (Nat.not_lt_zero l), fun l hl => absurd hl (Nat.not_lt_zero l), fun l hl => by
  have e : l = 0 := Nat.le_zero.mp hl
  rw [e]
  show (0 : Nat) ≤ 3
  omega⟩
def cFd (r : PE DD) (v : Int) (M : Mem) : Prop := (∀ e, r = .error e → v = 0 ∧ M 2 2 = e.1 ∧ M 2 3 = e.2) ∧ ∀ d, r = .ok d → v = 1 ∧ M 2 2 = 0 ∧ M 2 3 = -1 ∧ cDd M d ∧ M 32 5 = 1
theorem cFd_e {M : Mem} {e : Int × Int} {r : PE DD} (hr : r = .error e) (h2 : M 2 2 = e.1) (h3 : M 2 3 = e.2) : cFd r 0 M := ⟨fun e' h => by
  rw [hr] at h
  injection h with h
  subst h
  exact ⟨rfl, h2, h3⟩, fun q h => by
  rw [hr] at h
  injection h⟩
theorem fD_up {M M' : Mem} {c : Nat} {j z : Int} (h : fD M M') (hc : 31 ≤ c ∧ c ≤ 35) : fD M (up M' c j z) := ⟨fun e a x => by rw [up_ne (by omega)]; exact h.1 e a x, by rw [up_ne (by omega)]; exact h.2⟩
section LNE
variable {X : Int → Int} {M : Mem} {b : Int → Int} {n p m : Int} {d : DD} {NW : Int → List Int}
theorem c_loopL (g : gT b n) (n3 : n ≤ 300) (hm : 0 ≤ m) {w : Int} : ∀ (f : Nat) (d : DD) (p gd : Int) (M : Mem), gd + f = 301 → 0 ≤ gd → gd ≤ p → p ≤ n → dlI m d → cNm M NW m → cTc M b n p → cDd M d → ∃ v M', fD M M' ∧ cFd (pLns b n NW m f d p) v M' ∧ ev X 79 (jmp 79 22) [some (vR (some 31)), some (vI w), some (vR (some 4)), some (vI gd)] [] SH0 M = some (some (vI v), SH0, M')
  | 0, d, p, gd, M, hg, g0, g1, p1, _, _, _, _ => by omega
  | f + 1, d, p, gd, M, hg, g0, g1, p1, hI, hN, hc, hd => by
    have k31 := w0_k31
    have k32 := w0_k32
    have k2 := w0_k2
    have r0 := w0_r31_0
    have r1 := w0_r31_1
    have gq : ¬ 300 < gd := by omega
    unfold pLns
    rw [J_79_22]
    obtain ⟨v, Ma, fa, hv, e1⟩ := c_go (X := X) g hc (by omega) p1
    rcases hv with ⟨zk, hv, y2, y3⟩ | ⟨zk, hv, ca⟩
    · subst hv
      refine ⟨0, Ma, fD_f fa, cFd_e (e := (1, tQ b n p)) (if_pos zk) y2 y3, ?_⟩
      simp (disch := first | assumption | decide | omega | (simp only [List.length_cons, List.length_nil] <;> omega)) only [lgt_0, lgt_s, lset_0, lset_s, lst1_0, lst1_s, lst2_0, lst2_s, ev_iconst, ev_lconst, ev_ldc, ev_null, ev_iload, ev_lload, ev_aload, ev_istore, ev_lstore, ev_astore, ev_iinc, ev_iadd, ev_isub, ev_imul, ev_iand, ev_ior, ev_ishl, ev_ishr, ev_idiv, ev_irem, ev_ineg, ev_ladd, ev_lsub, ev_lmul, ev_land, ev_lor, ev_ldiv, ev_lrem, ev_lshl, ev_i2l, ev_l2i, ev_i2b, ev_i2s, ev_lcmp, ev_dupI, ev_dupR, ev_dup2, ev_popI, ev_popR, ev_alen, ev_xlen, ev_xald, ev_iald, ev_lald, ev_bald, ev_zald, ev_aald, ev_iast, ev_last, ev_bast, ev_zast, ev_aast, ev_gfI, ev_gfL, ev_gfR, ev_pfI, ev_pfZ, ev_pfL, ev_pfR, ev_new, ev_newa, ev_newq, ev_copy, ev_slen, ev_schr, ev_obj, ev_mmin, ev_mabs, ev_mmax, ev_goto, ev_jsr, ev_icmp_eq, ev_if_eq, ev_icmp_ne, ev_if_ne, ev_icmp_lt, ev_if_lt, ev_icmp_ge, ev_if_ge, ev_icmp_gt, ev_if_gt, ev_icmp_le, ev_if_le, ev_ifnull0, ev_ifnull1, ev_ifnn0, ev_ifnn1, ev_tsw, ev_lsw, ev_iret, ev_zret, ev_lret, ev_aret, ev_ret, ev_call0, ev_call1, ev_call2, ev_call3, ev_call4, ev_call5, ev_call6, Option.toList_some, Option.toList_none, List.cons_append, List.nil_append, List.length_cons, List.length_nil, Nat.reduceMod, Nat.reduceDiv, Nat.reduceLeDiff, nc, ↓reduceIte, Nat.zero_le, reduceCtorEq, w32_id, Int.reduceEq, Int.reduceNe, Int.reduceLT, Int.reduceLE, Int.reduceGT, Int.reduceGE, Int.reduceAdd, Int.reduceSub, Int.reduceMul, Int.reduceNeg, ne_eq, not_true_eq_false, not_false_eq_true, eq_self, ↓if_pos, ↓if_neg, J_79_0, k_79_0, J_79_41, k_79_41, J_79_77, k_79_77, J_79_81, k_79_81, J_79_82, k_79_82, J_79_83, k_79_83, J_79_93, k_79_93, J_79_99, k_79_99, k_79_22, r0, r1, gq, e1]
    subst hv
    rw [if_neg zk]
    have hda : cDd Ma d := cDd_f hd fun c c0 c1 => fa.1 c (by omega)
    have hNa := cNm_f hN (fa.1 5 (by omega)) (fa.1 6 (by omega))
    have tr := tK_rng (b := b) (n := n) (p := p)
    have i := ck_id tr.1 tr.2
    have h4 := ca.2.2.1
    have o := hda.2
    by_cases z0 : tK b n p = 0
    · rw [if_pos z0]
      rw [i.2.2.2.1.mpr z0] at h4
      generalize hMb : up Ma 32 5 1 = Mb
      have fb : ∀ c, c ≠ 32 → Mb c = Ma c := fun c hc => by rw [← hMb, up_ne hc]
      have b31 : Mb 31 2 = Ma 31 2 := by rw [fb 31 (by omega)]
      have fmb : fD M Mb := by rw [← hMb]; exact fD_up (fD_f fa) (by omega)
      by_cases y : opn d = []
      · rw [if_pos y]
        have o0 : Ma 31 2 = 0 := by rw [o, y]; rfl
        refine ⟨1, Mb, fmb, ⟨fun e h => by injection h, fun d' h' => ?_⟩, ?_⟩
        · injection h' with h'
          subst h'
          refine ⟨rfl, by rw [fb 2 (by omega)]; exact ca.1.2.1, by rw [fb 2 (by omega)]; exact ca.1.2.2, ⟨?_, by rw [b31]; exact o⟩, by rw [← hMb, up_eq]⟩
          have hl := hda.1
          unfold cDl at hl ⊢
          rw [← hMb, up_ne2 (show (3 : Int) ≠ 5 by omega), up_ne2 (show (4 : Int) ≠ 5 by omega), up_ne (show (33 : Nat) ≠ 32 by omega), up_ne (show (34 : Nat) ≠ 32 by omega), up_ne (show (35 : Nat) ≠ 32 by omega)]
          exact hl
        · simp (disch := first | assumption | decide | omega | (simp only [List.length_cons, List.length_nil] <;> omega)) only [lgt_0, lgt_s, lset_0, lset_s, lst1_0, lst1_s, lst2_0, lst2_s, ev_iconst, ev_lconst, ev_ldc, ev_null, ev_iload, ev_lload, ev_aload, ev_istore, ev_lstore, ev_astore, ev_iinc, ev_iadd, ev_isub, ev_imul, ev_iand, ev_ior, ev_ishl, ev_ishr, ev_idiv, ev_irem, ev_ineg, ev_ladd, ev_lsub, ev_lmul, ev_land, ev_lor, ev_ldiv, ev_lrem, ev_lshl, ev_i2l, ev_l2i, ev_i2b, ev_i2s, ev_lcmp, ev_dupI, ev_dupR, ev_dup2, ev_popI, ev_popR, ev_alen, ev_xlen, ev_xald, ev_iald, ev_lald, ev_bald, ev_zald, ev_aald, ev_iast, ev_last, ev_bast, ev_zast, ev_aast, ev_gfI, ev_gfL, ev_gfR, ev_pfI, ev_pfZ, ev_pfL, ev_pfR, ev_new, ev_newa, ev_newq, ev_copy, ev_slen, ev_schr, ev_obj, ev_mmin, ev_mabs, ev_mmax, ev_goto, ev_jsr, ev_icmp_eq, ev_if_eq, ev_icmp_ne, ev_if_ne, ev_icmp_lt, ev_if_lt, ev_icmp_ge, ev_if_ge, ev_icmp_gt, ev_if_gt, ev_icmp_le, ev_if_le, ev_ifnull0, ev_ifnull1, ev_ifnn0, ev_ifnn1, ev_tsw, ev_lsw, ev_iret, ev_zret, ev_lret, ev_aret, ev_ret, ev_call0, ev_call1, ev_call2, ev_call3, ev_call4, ev_call5, ev_call6, Option.toList_some, Option.toList_none, List.cons_append, List.nil_append, List.length_cons, List.length_nil, Nat.reduceMod, Nat.reduceDiv, Nat.reduceLeDiff, nc, ↓reduceIte, Nat.zero_le, reduceCtorEq, w32_id, Int.reduceEq, Int.reduceNe, Int.reduceLT, Int.reduceLE, Int.reduceGT, Int.reduceGE, Int.reduceAdd, Int.reduceSub, Int.reduceMul, Int.reduceNeg, ne_eq, not_true_eq_false, not_false_eq_true, eq_self, ↓if_pos, ↓if_neg, J_79_0, k_79_0, J_79_41, k_79_41, J_79_77, k_79_77, J_79_81, k_79_81, J_79_82, k_79_82, J_79_83, k_79_83, J_79_93, k_79_93, J_79_99, k_79_99, k_79_22, r0, r1, gq, e1, h4, hMb, b31, o0]
      · rw [if_neg y]
        have lp : 0 < (opn d).length := List.length_pos_iff.mpr y
        have o0 : ¬ Ma 31 2 = 0 := by omega
        have w2 := c_wrong (X := X) (M := Mb) (w := 2)
        rw [fb 2 (by omega), ca.2.1] at w2
        refine ⟨0, up (up Mb 2 2 2) 2 3 (tQ b n p), fD_w fmb, cFd_e (e := (2, tQ b n p)) rfl (by rw [up_ne2 (by omega), up_eq]) up_eq, ?_⟩
        simp (disch := first | assumption | decide | omega | (simp only [List.length_cons, List.length_nil] <;> omega)) only [lgt_0, lgt_s, lset_0, lset_s, lst1_0, lst1_s, lst2_0, lst2_s, ev_iconst, ev_lconst, ev_ldc, ev_null, ev_iload, ev_lload, ev_aload, ev_istore, ev_lstore, ev_astore, ev_iinc, ev_iadd, ev_isub, ev_imul, ev_iand, ev_ior, ev_ishl, ev_ishr, ev_idiv, ev_irem, ev_ineg, ev_ladd, ev_lsub, ev_lmul, ev_land, ev_lor, ev_ldiv, ev_lrem, ev_lshl, ev_i2l, ev_l2i, ev_i2b, ev_i2s, ev_lcmp, ev_dupI, ev_dupR, ev_dup2, ev_popI, ev_popR, ev_alen, ev_xlen, ev_xald, ev_iald, ev_lald, ev_bald, ev_zald, ev_aald, ev_iast, ev_last, ev_bast, ev_zast, ev_aast, ev_gfI, ev_gfL, ev_gfR, ev_pfI, ev_pfZ, ev_pfL, ev_pfR, ev_new, ev_newa, ev_newq, ev_copy, ev_slen, ev_schr, ev_obj, ev_mmin, ev_mabs, ev_mmax, ev_goto, ev_jsr, ev_icmp_eq, ev_if_eq, ev_icmp_ne, ev_if_ne, ev_icmp_lt, ev_if_lt, ev_icmp_ge, ev_if_ge, ev_icmp_gt, ev_if_gt, ev_icmp_le, ev_if_le, ev_ifnull0, ev_ifnull1, ev_ifnn0, ev_ifnn1, ev_tsw, ev_lsw, ev_iret, ev_zret, ev_lret, ev_aret, ev_ret, ev_call0, ev_call1, ev_call2, ev_call3, ev_call4, ev_call5, ev_call6, Option.toList_some, Option.toList_none, List.cons_append, List.nil_append, List.length_cons, List.length_nil, Nat.reduceMod, Nat.reduceDiv, Nat.reduceLeDiff, nc, ↓reduceIte, Nat.zero_le, reduceCtorEq, w32_id, Int.reduceEq, Int.reduceNe, Int.reduceLT, Int.reduceLE, Int.reduceGT, Int.reduceGE, Int.reduceAdd, Int.reduceSub, Int.reduceMul, Int.reduceNeg, ne_eq, not_true_eq_false, not_false_eq_true, eq_self, ↓if_pos, ↓if_neg, J_79_0, k_79_0, J_79_41, k_79_41, J_79_77, k_79_77, J_79_81, k_79_81, J_79_82, k_79_82, J_79_83, k_79_83, J_79_93, k_79_93, J_79_99, k_79_99, k_79_22, r0, r1, gq, e1, h4, hMb, b31, o0, w2]
    rw [if_neg z0]
    have h4' : ¬ Ma 2 4 = 0 := by rw [h4, i.2.2.2.1]; exact z0
    obtain ⟨v, Mb, fb, ⟨re, ro⟩, e2⟩ := c_line (X := X) g ca (by omega) p1 z0 hNa hda hI
    cases hr : pLine b n NW m d p with
    | error er =>
      obtain ⟨hv, q2, q3⟩ := re er hr
      subst hv
      refine ⟨0, Mb, fD_t (fD_f fa) fb, cFd_e rfl q2 q3, ?_⟩
      simp (disch := first | assumption | decide | omega | (simp only [List.length_cons, List.length_nil] <;> omega)) only [lgt_0, lgt_s, lset_0, lset_s, lst1_0, lst1_s, lst2_0, lst2_s, ev_iconst, ev_lconst, ev_ldc, ev_null, ev_iload, ev_lload, ev_aload, ev_istore, ev_lstore, ev_astore, ev_iinc, ev_iadd, ev_isub, ev_imul, ev_iand, ev_ior, ev_ishl, ev_ishr, ev_idiv, ev_irem, ev_ineg, ev_ladd, ev_lsub, ev_lmul, ev_land, ev_lor, ev_ldiv, ev_lrem, ev_lshl, ev_i2l, ev_l2i, ev_i2b, ev_i2s, ev_lcmp, ev_dupI, ev_dupR, ev_dup2, ev_popI, ev_popR, ev_alen, ev_xlen, ev_xald, ev_iald, ev_lald, ev_bald, ev_zald, ev_aald, ev_iast, ev_last, ev_bast, ev_zast, ev_aast, ev_gfI, ev_gfL, ev_gfR, ev_pfI, ev_pfZ, ev_pfL, ev_pfR, ev_new, ev_newa, ev_newq, ev_copy, ev_slen, ev_schr, ev_obj, ev_mmin, ev_mabs, ev_mmax, ev_goto, ev_jsr, ev_icmp_eq, ev_if_eq, ev_icmp_ne, ev_if_ne, ev_icmp_lt, ev_if_lt, ev_icmp_ge, ev_if_ge, ev_icmp_gt, ev_if_gt, ev_icmp_le, ev_if_le, ev_ifnull0, ev_ifnull1, ev_ifnn0, ev_ifnn1, ev_tsw, ev_lsw, ev_iret, ev_zret, ev_lret, ev_aret, ev_ret, ev_call0, ev_call1, ev_call2, ev_call3, ev_call4, ev_call5, ev_call6, Option.toList_some, Option.toList_none, List.cons_append, List.nil_append, List.length_cons, List.length_nil, Nat.reduceMod, Nat.reduceDiv, Nat.reduceLeDiff, nc, ↓reduceIte, Nat.zero_le, reduceCtorEq, w32_id, Int.reduceEq, Int.reduceNe, Int.reduceLT, Int.reduceLE, Int.reduceGT, Int.reduceGE, Int.reduceAdd, Int.reduceSub, Int.reduceMul, Int.reduceNeg, ne_eq, not_true_eq_false, not_false_eq_true, eq_self, ↓if_pos, ↓if_neg, J_79_0, k_79_0, J_79_41, k_79_41, J_79_77, k_79_77, J_79_81, k_79_81, J_79_82, k_79_82, J_79_83, k_79_83, J_79_93, k_79_93, J_79_99, k_79_99, k_79_22, r0, r1, gq, e1, h4', e2]
    | ok x =>
      obtain ⟨hv, cx, hx⟩ := ro x hr
      subst hv
      have ok := pLine_I (by omega) p1 z0 hm hI hr
      rw [bnd_o]
      have hNb := cNm_f hNa (fb.1 5 (by omega) (by omega)) (fb.1 6 (by omega) (by omega))
      obtain ⟨v, Mc, fc, fin, e3⟩ := c_loopL g n3 hm (w := w) f x.2 x.1 (gd + 1) Mb (by omega) (by omega) (by have := ok.1; omega) ok.1.2 ok.2 hNb cx hx
      refine ⟨v, Mc, fD_t (fD_t (fD_f fa) fb) fc, fin, ?_⟩
      simp (disch := first | assumption | decide | omega | (simp only [List.length_cons, List.length_nil] <;> omega)) only [lgt_0, lgt_s, lset_0, lset_s, lst1_0, lst1_s, lst2_0, lst2_s, ev_iconst, ev_lconst, ev_ldc, ev_null, ev_iload, ev_lload, ev_aload, ev_istore, ev_lstore, ev_astore, ev_iinc, ev_iadd, ev_isub, ev_imul, ev_iand, ev_ior, ev_ishl, ev_ishr, ev_idiv, ev_irem, ev_ineg, ev_ladd, ev_lsub, ev_lmul, ev_land, ev_lor, ev_ldiv, ev_lrem, ev_lshl, ev_i2l, ev_l2i, ev_i2b, ev_i2s, ev_lcmp, ev_dupI, ev_dupR, ev_dup2, ev_popI, ev_popR, ev_alen, ev_xlen, ev_xald, ev_iald, ev_lald, ev_bald, ev_zald, ev_aald, ev_iast, ev_last, ev_bast, ev_zast, ev_aast, ev_gfI, ev_gfL, ev_gfR, ev_pfI, ev_pfZ, ev_pfL, ev_pfR, ev_new, ev_newa, ev_newq, ev_copy, ev_slen, ev_schr, ev_obj, ev_mmin, ev_mabs, ev_mmax, ev_goto, ev_jsr, ev_icmp_eq, ev_if_eq, ev_icmp_ne, ev_if_ne, ev_icmp_lt, ev_if_lt, ev_icmp_ge, ev_if_ge, ev_icmp_gt, ev_if_gt, ev_icmp_le, ev_if_le, ev_ifnull0, ev_ifnull1, ev_ifnn0, ev_ifnn1, ev_tsw, ev_lsw, ev_iret, ev_zret, ev_lret, ev_aret, ev_ret, ev_call0, ev_call1, ev_call2, ev_call3, ev_call4, ev_call5, ev_call6, Option.toList_some, Option.toList_none, List.cons_append, List.nil_append, List.length_cons, List.length_nil, Nat.reduceMod, Nat.reduceDiv, Nat.reduceLeDiff, nc, ↓reduceIte, Nat.zero_le, reduceCtorEq, w32_id, Int.reduceEq, Int.reduceNe, Int.reduceLT, Int.reduceLE, Int.reduceGT, Int.reduceGE, Int.reduceAdd, Int.reduceSub, Int.reduceMul, Int.reduceNeg, ne_eq, not_true_eq_false, not_false_eq_true, eq_self, ↓if_pos, ↓if_neg, J_79_0, k_79_0, J_79_41, k_79_41, J_79_77, k_79_77, J_79_81, k_79_81, J_79_82, k_79_82, J_79_83, k_79_83, J_79_93, k_79_93, J_79_99, k_79_99, k_79_22, r0, r1, gq, e1, h4', e2, e3]
theorem c_readsD (g : gT b n) (n3 : n ≤ 300) (hm : 0 ≤ m) (hb : ∀ k, 0 ≤ k → k < n → M 3 k = b k) (hN : cNm M NW m) : ∃ v M', (∀ c, c ≠ 2 → (c < 31 ∨ 35 < c) → M' c = M c) ∧ M' 2 1 = 0 ∧ cFd (pLns b n NW m 301 dL0 0) v M' ∧ evc X 79 [vR (some 31), vI n, vR (some 4)] SH0 M = some (some (vI v), SH0, M') := by
  have k31 := w0_k31
  have k32 := w0_k32
  have k2 := w0_k2
  have r0 := w0_r31_0
  have r1 := w0_r31_1
  have n8 := g.1
  obtain ⟨Ma, fa, ca, a1, e1⟩ := c_open (X := X) g hb
  generalize hMb : up (up (up Ma 32 3 0) 32 4 0) 32 5 0 = Mb
  have e2 : evc X 75 [vR (some 32)] SH0 Ma = some (none, SH0, Mb) := by
    rw [E_75 k32]
    simp (disch := first | assumption | decide | omega | (simp only [List.length_cons, List.length_nil] <;> omega)) only [lgt_0, lgt_s, lset_0, lset_s, lst1_0, lst1_s, lst2_0, lst2_s, ev_iconst, ev_lconst, ev_ldc, ev_null, ev_iload, ev_lload, ev_aload, ev_istore, ev_lstore, ev_astore, ev_iinc, ev_iadd, ev_isub, ev_imul, ev_iand, ev_ior, ev_ishl, ev_ishr, ev_idiv, ev_irem, ev_ineg, ev_ladd, ev_lsub, ev_lmul, ev_land, ev_lor, ev_ldiv, ev_lrem, ev_lshl, ev_i2l, ev_l2i, ev_i2b, ev_i2s, ev_lcmp, ev_dupI, ev_dupR, ev_dup2, ev_popI, ev_popR, ev_alen, ev_xlen, ev_xald, ev_iald, ev_lald, ev_bald, ev_zald, ev_aald, ev_iast, ev_last, ev_bast, ev_zast, ev_aast, ev_gfI, ev_gfL, ev_gfR, ev_pfI, ev_pfZ, ev_pfL, ev_pfR, ev_new, ev_newa, ev_newq, ev_copy, ev_slen, ev_schr, ev_obj, ev_mmin, ev_mabs, ev_mmax, ev_goto, ev_jsr, ev_icmp_eq, ev_if_eq, ev_icmp_ne, ev_if_ne, ev_icmp_lt, ev_if_lt, ev_icmp_ge, ev_if_ge, ev_icmp_gt, ev_if_gt, ev_icmp_le, ev_if_le, ev_ifnull0, ev_ifnull1, ev_ifnn0, ev_ifnn1, ev_tsw, ev_lsw, ev_iret, ev_zret, ev_lret, ev_aret, ev_ret, ev_call0, ev_call1, ev_call2, ev_call3, ev_call4, ev_call5, ev_call6, Option.toList_some, Option.toList_none, List.cons_append, List.nil_append, List.length_cons, List.length_nil, Nat.reduceMod, Nat.reduceDiv, Nat.reduceLeDiff, nc, ↓reduceIte, Nat.zero_le, reduceCtorEq, w32_id, Int.reduceEq, Int.reduceNe, Int.reduceLT, Int.reduceLE, Int.reduceGT, Int.reduceGE, Int.reduceAdd, Int.reduceSub, Int.reduceMul, Int.reduceNeg, ne_eq, not_true_eq_false, not_false_eq_true, eq_self, ↓if_pos, ↓if_neg, J_75_0, k_75_0, hMb]
  generalize hMc : up Mb 31 2 0 = Mc
  have fb : ∀ c, c ≠ 32 → Mb c = Ma c := fun c hc => by rw [← hMb, up_ne hc, up_ne hc, up_ne hc]
  have fc : ∀ c, c ≠ 31 → c ≠ 32 → Mc c = Ma c := fun c h1 h2 => by rw [← hMc, up_ne h1, fb c h2]
  have hdc : cDd Mc dL0 := ⟨⟨by rw [← hMc, up_ne (by omega), ← hMb, up_ne2 (by omega), up_ne2 (by omega), up_eq]; rfl, by rw [← hMc, up_ne (by omega), ← hMb, up_ne2 (by omega), up_eq]; rfl, fun l hl => absurd hl (Nat.not_lt_zero l)⟩, by rw [← hMc, up_eq]; rfl⟩
  obtain ⟨v, Md, fd, fin, e3⟩ := c_loopL (X := X) (NW := NW) g n3 hm (w := n) 301 dL0 0 0 Mc (by omega) (by omega) (by omega) n8.1 dL0_I (cNm_f hN (by rw [fc 5 (by omega) (by omega), fa 5 (by omega)]) (by rw [fc 6 (by omega) (by omega), fa 6 (by omega)])) (cTc_f ca (fc 2 (by omega) (by omega)) (fc 3 (by omega) (by omega))) hdc
  refine ⟨v, Md, fun c h1 h2 => by rw [fd.1 c h1 h2, fc c (by omega) (by omega), fa c h1], by rw [fd.2, fc 2 (by omega) (by omega)]; exact a1, fin, ?_⟩
  rw [E_79 k31]
  simp (disch := first | assumption | decide | omega | (simp only [List.length_cons, List.length_nil] <;> omega)) only [lgt_0, lgt_s, lset_0, lset_s, lst1_0, lst1_s, lst2_0, lst2_s, ev_iconst, ev_lconst, ev_ldc, ev_null, ev_iload, ev_lload, ev_aload, ev_istore, ev_lstore, ev_astore, ev_iinc, ev_iadd, ev_isub, ev_imul, ev_iand, ev_ior, ev_ishl, ev_ishr, ev_idiv, ev_irem, ev_ineg, ev_ladd, ev_lsub, ev_lmul, ev_land, ev_lor, ev_ldiv, ev_lrem, ev_lshl, ev_i2l, ev_l2i, ev_i2b, ev_i2s, ev_lcmp, ev_dupI, ev_dupR, ev_dup2, ev_popI, ev_popR, ev_alen, ev_xlen, ev_xald, ev_iald, ev_lald, ev_bald, ev_zald, ev_aald, ev_iast, ev_last, ev_bast, ev_zast, ev_aast, ev_gfI, ev_gfL, ev_gfR, ev_pfI, ev_pfZ, ev_pfL, ev_pfR, ev_new, ev_newa, ev_newq, ev_copy, ev_slen, ev_schr, ev_obj, ev_mmin, ev_mabs, ev_mmax, ev_goto, ev_jsr, ev_icmp_eq, ev_if_eq, ev_icmp_ne, ev_if_ne, ev_icmp_lt, ev_if_lt, ev_icmp_ge, ev_if_ge, ev_icmp_gt, ev_if_gt, ev_icmp_le, ev_if_le, ev_ifnull0, ev_ifnull1, ev_ifnn0, ev_ifnn1, ev_tsw, ev_lsw, ev_iret, ev_zret, ev_lret, ev_aret, ev_ret, ev_call0, ev_call1, ev_call2, ev_call3, ev_call4, ev_call5, ev_call6, Option.toList_some, Option.toList_none, List.cons_append, List.nil_append, List.length_cons, List.length_nil, Nat.reduceMod, Nat.reduceDiv, Nat.reduceLeDiff, nc, ↓reduceIte, Nat.zero_le, reduceCtorEq, w32_id, Int.reduceEq, Int.reduceNe, Int.reduceLT, Int.reduceLE, Int.reduceGT, Int.reduceGE, Int.reduceAdd, Int.reduceSub, Int.reduceMul, Int.reduceNeg, ne_eq, not_true_eq_false, not_false_eq_true, eq_self, ↓if_pos, ↓if_neg, J_79_0, k_79_0, J_79_41, k_79_41, J_79_77, k_79_77, J_79_81, k_79_81, J_79_82, k_79_82, J_79_83, k_79_83, J_79_93, k_79_93, J_79_99, k_79_99, r0, r1, e1, e2, hMc, e3]
end LNE
