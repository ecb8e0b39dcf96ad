/-! DIRECTIONS: the model reads a line. -/
section LNO
variable {X : Int → Int} {M : Mem} {b : Int → Int} {n p m : Int} {d : DD} {NW : Int → List Int}
theorem mDd_id {M' : Mem} (hd : mDd M d) {k c v : Int} (k2 : k ≠ 2) (k3 : k ≠ 3) (e148 : M' 148 = M 148) (e23 : M' 140 23 = M 140 23) (e24 : M' 140 24 = d.2.2.2.2 + 1) (e35 : M' 141 1935 = (d.2.2.2.1 : Int) + 1) (fr : ∀ j, 1935 < j → j < 2050 + 4 * (d.2.2.2.1 : Int) → M' 141 j = M 141 j) (h0 : M' 141 (2050 + 4 * (d.2.2.2.1 : Int)) = k) (h1 : k = 0 ∨ k = 1 → M' 141 (2050 + 4 * (d.2.2.2.1 : Int) + 1) = c) (h2 : k = 0 ∨ k = 2 → M' 141 (2050 + 4 * (d.2.2.2.1 : Int) + 2) = v) : mDd M' (addL d k c v) := by
  obtain ⟨q1, q2, q3, q4, q5⟩ := hd
  have a1 : (2051 : Int) + 4 * (d.2.2.2.1 : Int) = 2050 + 4 * (d.2.2.2.1 : Int) + 1 := by omega
  have a2 : (2052 : Int) + 4 * (d.2.2.2.1 : Int) = 2050 + 4 * (d.2.2.2.1 : Int) + 2 := by omega
  refine ⟨by rw [opn_id k2 k3, e23]; exact q1, ?_, ?_, mDl_add q4 fr h0 (by rw [a1]; exact h1) (by rw [a2]; exact h2) (fun z => absurd z k3), by rw [opn_id k2 k3, e148]; exact q5⟩
  · show _ = d.2.2.2.2 + if k = 3 then 0 else 1
    rw [if_neg k3]; exact e24
  · rw [e35]
    show _ = ((d.2.2.2.1 + 1 : Nat) : Int)
    omega
theorem d_step (g : gT b n) (h : mAt M b n p) (hc : mCl M) (p0 : 0 ≤ p) (p1 : p ≤ n) (hk : tK b n p ≠ 0) (hd : mDd M d) (hI : dlI m d) (hN : mNm M NW m) : ∃ v M', fS M M' ∧ mRd b n (if tK b n p = 1 then .error (1, tQ b n p) else pLine b n NW m d p) v M' ∧ evc X 264 [vR (some 140)] SH0 M = some (some (vI v), SH0, M') := by
  have mk0 := w0_k140
  have hmd := w0_md140
  obtain ⟨r_at, k_at, l_at⟩ := md_at w0_md140; obtain ⟨r_opened, k_opened, l_opened⟩ := md_opened w0_md140
  have bad := fun e he => d_lbad (X := X) g h hc p0 p1 hd hI (e := e) he
  have badR : ∀ e : Int × Int, (if tK b n p = 1 then .error (1, tQ b n p) else pLine b n NW m d p) = (.error e : PE (Int × DD)) → evc X 264 [vR (some 140)] SH0 M = some (some (vI 0), SH0, up (up M 140 18 e.1) 140 17 e.2) → ∃ v M', fS M M' ∧ mRd b n (if tK b n p = 1 then .error (1, tQ b n p) else pLine b n NW m d p) v M' ∧ evc X 264 [vR (some 140)] SH0 M = some (some (vI v), SH0, M') := fun e he hv => ⟨0, _, fS_w fS_0, mRd_e he (by rw [up_ne2 (by omega), up_eq]) up_eq, hv⟩
  by_cases z1 : tK b n p = 1
  · exact badR (1, tQ b n p) (if_pos z1) (bad _ (Or.inl ⟨z1, rfl⟩))
  by_cases y1 : pSk b n p = -1 ∨ (pSk b n p = 3 ∧ opn d = [])
  · exact badR (2, tQ b n p) (by rw [if_neg z1]; unfold pLine; rw [if_pos y1]) (bad _ (Or.inr ⟨z1, Or.inl ⟨y1, rfl⟩⟩))
  by_cases y2 : pSk b n p ≠ 3 ∧ 40 ≤ d.2.2.2.2
  · exact badR (6, tQ b n p) (by rw [if_neg z1]; unfold pLine; rw [if_neg y1, if_pos y2]) (bad _ (Or.inr ⟨z1, Or.inr (Or.inl ⟨y1, y2, rfl⟩)⟩))
  by_cases y3 : pSk b n p = 2 ∧ 3 ≤ (opn d).length
  · exact badR (7, tQ b n p) (by rw [if_neg z1]; unfold pLine; rw [if_neg y1, if_neg y2, if_pos y3]) (bad _ (Or.inr ⟨z1, Or.inr (Or.inr ⟨y1, y2, y3, rfl⟩)⟩))
  clear bad badR
  rw [if_neg z1]
  have kr := pSk_rng (b := b) (n := n) (p := p)
  have ei := d_skw (X := X) g h p0 p1
  have hd' := hd
  obtain ⟨q1, q2, q3, q4, q5⟩ := hd'
  have i1 := hI.1
  have i2 := hI.2.1
  have i5 : (opn d).length ≤ 3 := hI.2.2.2.2 _ (Nat.le_refl _)
  have l0 : 0 ≤ (d.2.2.2.1 : Int) := by omega
  have t1 := tE_on (b := b) p1 hk p0
  unfold pLine
  rw [if_neg y1, if_neg y2, if_neg y3]
  by_cases k01 : pSk b n p = 0 ∨ pSk b n p = 1
  · have nm := d_nm (X := X) g h hc p0 p1 hk hd hI hN (by omega) (by omega)
    rcases nm with ⟨e, M', pe, ff, e18, e17, ev'⟩ | ⟨c, Ma, pc, fa, aa, e1⟩
    · refine ⟨0, M', ff, ?_, ev'⟩
      rcases k01 with k | k
      · rw [if_pos k, pe]
        exact mRd_e rfl e18 e17
      · rw [if_neg (by omega), if_pos k, pe]
        exact mRd_e rfl e18 e17
    have l1 : (d.2.2.2.1 : Int) < 80 := by omega
    rw [e1]
    generalize hL : (d.2.2.2.1 : Int) = L at q3 l0 l1 fa
    have f1 := mS1_f (M := M) (S := d.2.2.2.2 + 1) (k := pSk b n p) l0
    have s1 := fS_S1 (M := M) (S := d.2.2.2.2 + 1) (k := pSk b n p) l0
    generalize mS1 M L (d.2.2.2.2 + 1) (pSk b n p) = M1 at f1 s1 fa
    have a1 := pNam_ok pc
    have t2 := tE_on (b := b) t1.2.1 (by rw [a1.1.1]; omega) t1.1
    have ec1 : tE b n (tE b n p) = c.1 := by rw [a1.2.1]
    rw [ec1] at t2
    generalize hM2 : up Ma 141 (2050 + 4 * L + 1) c.2 = M2
    have f2 : ∀ e, e ≠ 141 → M2 e = Ma e := fun e he => by rw [← hM2, up_ne he]
    have a2 : mAt M2 b n (tE b n p) := mAt_f aa (fun i _ _ => by rw [f2 140 (by omega)]) (f2 147 (by omega))
    have s2 : fS M M2 := by rw [← hM2]; exact fS_141 (fS_t s1 (fS_A fa)) (by omega)
    have c2 : mCl M2 := ⟨by rw [f2 140 (by omega), fa.2 18 (by omega), f1.2.1 18 (by omega)]; exact hc.1, by rw [f2 140 (by omega), fa.2 17 (by omega), f1.2.1 17 (by omega)]; exact hc.2⟩
    obtain ⟨Mb, fb, ab, e2⟩ := d_go (X := X) g a2 t1.1 t1.2.1
    rw [ec1] at ab
    have cb := mCl_A c2 fb
    have sb := fS_t s2 (fS_A fb)
    have b148 : Mb 148 = M 148 := by rw [fb.1 148 (by omega), f2 148 (by omega), fa.1 148 (by omega), f1.1 148 (by omega) (by omega)]
    have b140 : ∀ i, 15 < i → i ≠ 24 → Mb 140 i = M 140 i := fun i h1 h2 => by rw [fb.2 i (by omega), f2 140 (by omega), fa.2 i (by omega), f1.2.1 i h2]
    have b24 : Mb 140 24 = d.2.2.2.2 + 1 := by rw [fb.2 24 (by omega), f2 140 (by omega), fa.2 24 (by omega), f1.2.2.1]
    have b141 : ∀ j, j ≠ 2050 + 4 * L + 1 → Mb 141 j = M1 141 j := fun j hj => by rw [fb.1 141 (by omega), ← hM2, up_ne2 hj, fa.1 141 (by omega)]
    have b141' : Mb 141 (2050 + 4 * L + 1) = c.2 := by rw [fb.1 141 (by omega), ← hM2, up_eq]
    rcases k01 with k | k
    · rw [if_pos k, pc, bnd_o]
      rw [k] at f1 ⊢
      obtain ⟨v, Mc, ne, no, e3⟩ := d_number (X := X) g ab cb t2.1 t2.2.1 (t := 2050 + 4 * L + 2) (lo := 1) (hi := 48) (by omega)
      cases hr : pNum b n 1 48 c.1 with
      | error er =>
        obtain ⟨hv, hM⟩ := ne er hr
        subst hv
        refine ⟨0, Mc, by rw [hM]; exact fS_w sb, mRd_e rfl (by rw [hM, up_ne2 (by omega), up_eq]) (by rw [hM, up_eq]), ?_⟩
        rw [J_264_237]
        simp (disch := first | assumption | decide | omega | (simp only [List.length_cons, List.length_nil] <;> omega)) only [lgt_0, lgt_s, lset_0, lset_s, lst1_0, lst1_s, lst2_0, lst2_s, ev_iconst, ev_lconst, ev_ldc, ev_null, ev_iload, ev_lload, ev_aload, ev_istore, ev_lstore, ev_astore, ev_iinc, ev_iadd, ev_isub, ev_imul, ev_iand, ev_ior, ev_ishl, ev_ishr, ev_idiv, ev_irem, ev_ineg, ev_ladd, ev_lsub, ev_lmul, ev_land, ev_lor, ev_ldiv, ev_lrem, ev_lshl, ev_i2l, ev_l2i, ev_i2b, ev_i2s, ev_lcmp, ev_dupI, ev_dupR, ev_dup2, ev_popI, ev_popR, ev_alen, ev_xlen, ev_xald, ev_iald, ev_lald, ev_bald, ev_zald, ev_aald, ev_iast, ev_last, ev_bast, ev_zast, ev_aast, ev_gfI, ev_gfL, ev_gfR, ev_pfI, ev_pfZ, ev_pfL, ev_pfR, ev_new, ev_newa, ev_newq, ev_copy, ev_slen, ev_schr, ev_obj, ev_mmin, ev_mabs, ev_mmax, ev_goto, ev_jsr, ev_icmp_eq, ev_if_eq, ev_icmp_ne, ev_if_ne, ev_icmp_lt, ev_if_lt, ev_icmp_ge, ev_if_ge, ev_icmp_gt, ev_if_gt, ev_icmp_le, ev_if_le, ev_ifnull0, ev_ifnull1, ev_ifnn0, ev_ifnn1, ev_tsw, ev_lsw, ev_iret, ev_zret, ev_lret, ev_aret, ev_ret, ev_call0, ev_call1, ev_call2, ev_call3, ev_call4, ev_call5, ev_call6, Option.toList_some, Option.toList_none, List.cons_append, List.nil_append, List.length_cons, List.length_nil, Nat.reduceMod, Nat.reduceDiv, Nat.reduceLeDiff, nc, ↓reduceIte, Nat.zero_le, reduceCtorEq, w32_id, Int.reduceEq, Int.reduceNe, Int.reduceLT, Int.reduceLE, Int.reduceGT, Int.reduceGE, Int.reduceAdd, Int.reduceSub, Int.reduceMul, Int.reduceNeg, ne_eq, not_true_eq_false, not_false_eq_true, eq_self, ↓if_pos, ↓if_neg, J_264_0, k_264_0, J_264_42, k_264_42, J_264_48, k_264_48, J_264_69, k_264_69, J_264_89, k_264_89, J_264_103, k_264_103, J_264_104, k_264_104, J_264_133, k_264_133, J_264_194, k_264_194, J_264_200, k_264_200, J_264_237, k_264_237, J_264_241, k_264_241, J_264_250, k_264_250, J_264_265, k_264_265, J_264_290, k_264_290, J_264_322, k_264_322, k_264_237, hM2, e2, e3]
      | ok r =>
        obtain ⟨hv, fc, ac⟩ := no r hr
        subst hv
        rw [bnd_o]
        have an := pNum_ok hr
        have t3 := tE_on (b := b) t2.2.1 (by rw [an.1]; omega) t2.1
        have er1 : r.1 = tE b n c.1 := by rw [an.2.1]
        rw [← er1] at t3
        have c140 : ∀ i, 15 < i → Mc 140 i = Mb 140 i := fun i hi => by rw [fc.2 i (by omega), up_ne (by omega)]
        have c141 : ∀ j, j ≠ 2050 + 4 * L + 2 → Mc 141 j = Mb 141 j := fun j hj => by rw [fc.1 141 (by omega), up_ne2 hj]
        have c141' : Mc 141 (2050 + 4 * L + 2) = r.2 := by rw [fc.1 141 (by omega), up_eq]
        have hdc : mDd Mc (addL d 0 c.2 r.2) := mDd_id hd (by omega) (by omega) (by rw [fc.1 148 (by omega), up_ne (by omega)]; exact b148) (by rw [c140 23 (by omega), b140 23 (by omega) (by omega)]) (by rw [c140 24 (by omega)]; exact b24) (by rw [hL, c141 _ (by omega), b141 _ (by omega)]; exact f1.2.2.2.1) (fun j j0 j1 => by rw [hL] at j1; rw [c141 _ (by omega), b141 _ (by omega)]; exact f1.2.2.2.2.2 j (by omega) (by omega)) (by rw [hL, c141 _ (by omega), b141 _ (by omega)]; exact f1.2.2.2.2.1) (fun _ => by rw [hL, c141 _ (by omega)]; exact b141') (fun _ => by rw [hL]; exact c141')
        have cc : mCl Mc := ⟨by rw [c140 18 (by omega)]; exact cb.1, by rw [c140 17 (by omega)]; exact cb.2⟩
        have sc : fS M Mc := fS_t (fS_141 sb (by omega)) (fS_A fc)
        obtain ⟨v, Md, fd, res, e4⟩ := d_fin (X := X) g sc ac cc t3.1 t3.2.1 hdc
        have v01 := mRd_01 res
        refine ⟨v, Md, fd, res, ?_⟩
        rw [J_264_237]
        simp (disch := first | assumption | decide | omega | (simp only [List.length_cons, List.length_nil] <;> omega)) only [lgt_0, lgt_s, lset_0, lset_s, lst1_0, lst1_s, lst2_0, lst2_s, ev_iconst, ev_lconst, ev_ldc, ev_null, ev_iload, ev_lload, ev_aload, ev_istore, ev_lstore, ev_astore, ev_iinc, ev_iadd, ev_isub, ev_imul, ev_iand, ev_ior, ev_ishl, ev_ishr, ev_idiv, ev_irem, ev_ineg, ev_ladd, ev_lsub, ev_lmul, ev_land, ev_lor, ev_ldiv, ev_lrem, ev_lshl, ev_i2l, ev_l2i, ev_i2b, ev_i2s, ev_lcmp, ev_dupI, ev_dupR, ev_dup2, ev_popI, ev_popR, ev_alen, ev_xlen, ev_xald, ev_iald, ev_lald, ev_bald, ev_zald, ev_aald, ev_iast, ev_last, ev_bast, ev_zast, ev_aast, ev_gfI, ev_gfL, ev_gfR, ev_pfI, ev_pfZ, ev_pfL, ev_pfR, ev_new, ev_newa, ev_newq, ev_copy, ev_slen, ev_schr, ev_obj, ev_mmin, ev_mabs, ev_mmax, ev_goto, ev_jsr, ev_icmp_eq, ev_if_eq, ev_icmp_ne, ev_if_ne, ev_icmp_lt, ev_if_lt, ev_icmp_ge, ev_if_ge, ev_icmp_gt, ev_if_gt, ev_icmp_le, ev_if_le, ev_ifnull0, ev_ifnull1, ev_ifnn0, ev_ifnn1, ev_tsw, ev_lsw, ev_iret, ev_zret, ev_lret, ev_aret, ev_ret, ev_call0, ev_call1, ev_call2, ev_call3, ev_call4, ev_call5, ev_call6, Option.toList_some, Option.toList_none, List.cons_append, List.nil_append, List.length_cons, List.length_nil, Nat.reduceMod, Nat.reduceDiv, Nat.reduceLeDiff, nc, ↓reduceIte, Nat.zero_le, reduceCtorEq, w32_id, Int.reduceEq, Int.reduceNe, Int.reduceLT, Int.reduceLE, Int.reduceGT, Int.reduceGE, Int.reduceAdd, Int.reduceSub, Int.reduceMul, Int.reduceNeg, ne_eq, not_true_eq_false, not_false_eq_true, eq_self, ↓if_pos, ↓if_neg, J_264_0, k_264_0, J_264_42, k_264_42, J_264_48, k_264_48, J_264_69, k_264_69, J_264_89, k_264_89, J_264_103, k_264_103, J_264_104, k_264_104, J_264_133, k_264_133, J_264_194, k_264_194, J_264_200, k_264_200, J_264_237, k_264_237, J_264_241, k_264_241, J_264_250, k_264_250, J_264_265, k_264_265, J_264_290, k_264_290, J_264_322, k_264_322, k_264_237, hM2, e2, e3, e4]
    · rw [if_neg (by omega), if_pos k, pc, bnd_o]
      rw [k] at f1 ⊢
      have hdb : mDd Mb (addL d 1 c.2 0) := mDd_id hd (by omega) (by omega) b148 (b140 23 (by omega) (by omega)) b24 (by rw [hL, b141 _ (by omega)]; exact f1.2.2.2.1) (fun j j0 j1 => by rw [hL] at j1; rw [b141 _ (by omega)]; exact f1.2.2.2.2.2 j (by omega) (by omega)) (by rw [hL, b141 _ (by omega)]; exact f1.2.2.2.2.1) (fun _ => by rw [hL]; exact b141') (fun z => by omega)
      obtain ⟨v, Md, fd, res, e4⟩ := d_fin (X := X) g sb ab cb t2.1 t2.2.1 hdb
      have v01 := mRd_01 res
      refine ⟨v, Md, fd, res, ?_⟩
      rw [J_264_237]
      simp (disch := first | assumption | decide | omega | (simp only [List.length_cons, List.length_nil] <;> omega)) only [lgt_0, lgt_s, lset_0, lset_s, lst1_0, lst1_s, lst2_0, lst2_s, ev_iconst, ev_lconst, ev_ldc, ev_null, ev_iload, ev_lload, ev_aload, ev_istore, ev_lstore, ev_astore, ev_iinc, ev_iadd, ev_isub, ev_imul, ev_iand, ev_ior, ev_ishl, ev_ishr, ev_idiv, ev_irem, ev_ineg, ev_ladd, ev_lsub, ev_lmul, ev_land, ev_lor, ev_ldiv, ev_lrem, ev_lshl, ev_i2l, ev_l2i, ev_i2b, ev_i2s, ev_lcmp, ev_dupI, ev_dupR, ev_dup2, ev_popI, ev_popR, ev_alen, ev_xlen, ev_xald, ev_iald, ev_lald, ev_bald, ev_zald, ev_aald, ev_iast, ev_last, ev_bast, ev_zast, ev_aast, ev_gfI, ev_gfL, ev_gfR, ev_pfI, ev_pfZ, ev_pfL, ev_pfR, ev_new, ev_newa, ev_newq, ev_copy, ev_slen, ev_schr, ev_obj, ev_mmin, ev_mabs, ev_mmax, ev_goto, ev_jsr, ev_icmp_eq, ev_if_eq, ev_icmp_ne, ev_if_ne, ev_icmp_lt, ev_if_lt, ev_icmp_ge, ev_if_ge, ev_icmp_gt, ev_if_gt, ev_icmp_le, ev_if_le, ev_ifnull0, ev_ifnull1, ev_ifnn0, ev_ifnn1, ev_tsw, ev_lsw, ev_iret, ev_zret, ev_lret, ev_aret, ev_ret, ev_call0, ev_call1, ev_call2, ev_call3, ev_call4, ev_call5, ev_call6, Option.toList_some, Option.toList_none, List.cons_append, List.nil_append, List.length_cons, List.length_nil, Nat.reduceMod, Nat.reduceDiv, Nat.reduceLeDiff, nc, ↓reduceIte, Nat.zero_le, reduceCtorEq, w32_id, Int.reduceEq, Int.reduceNe, Int.reduceLT, Int.reduceLE, Int.reduceGT, Int.reduceGE, Int.reduceAdd, Int.reduceSub, Int.reduceMul, Int.reduceNeg, ne_eq, not_true_eq_false, not_false_eq_true, eq_self, ↓if_pos, ↓if_neg, J_264_0, k_264_0, J_264_42, k_264_42, J_264_48, k_264_48, J_264_69, k_264_69, J_264_89, k_264_89, J_264_103, k_264_103, J_264_104, k_264_104, J_264_133, k_264_133, J_264_194, k_264_194, J_264_200, k_264_200, J_264_237, k_264_237, J_264_241, k_264_241, J_264_250, k_264_250, J_264_265, k_264_265, J_264_290, k_264_290, J_264_322, k_264_322, k_264_237, hM2, e2, e4]
  have k23 : pSk b n p = 2 ∨ pSk b n p = 3 := by omega
  rw [if_neg (by omega), if_neg (by omega)]
  by_cases k : pSk b n p = 2
  · rw [if_pos k]
    rw [k] at ei
    have s40 : d.2.2.2.2 < 40 := by omega
    have l1 : (d.2.2.2.1 : Int) < 80 := by omega
    have d3 : (opn d).length < 3 := by omega
    generalize hL : (d.2.2.2.1 : Int) = L at q3 l0 l1
    generalize hO : ((opn d).length : Int) = O at q1
    have o0 : 0 ≤ O ∧ O < 3 := by omega
    have f1 := mS1_f (M := M) (S := d.2.2.2.2 + 1) (k := 2) l0
    have s1 := fS_S1 (M := M) (S := d.2.2.2.2 + 1) (k := 2) l0
    have hM1 : up (up (up (up (up (up M 140 24 (d.2.2.2.2 + 1)) 141 (2050 + 4 * L + 1) 0) 141 (2050 + 4 * L + 2) 0) 141 (2050 + 4 * L + 3) 0) 141 (2050 + 4 * L) 2) 141 1935 (L + 1) = mS1 M L (d.2.2.2.2 + 1) 2 := rfl
    generalize mS1 M L (d.2.2.2.2 + 1) 2 = M1 at f1 s1 hM1
    have a1 : mAt M1 b n p := mAt_f h (fun i _ _ => f1.2.1 i (by omega)) (f1.1 147 (by omega) (by omega))
    have c1 : mCl M1 := ⟨by rw [f1.2.1 18 (by omega)]; exact hc.1, by rw [f1.2.1 17 (by omega)]; exact hc.2⟩
    obtain ⟨Ma, fa, aa, ea⟩ := d_go (X := X) g a1 p0 p1
    have ca := mCl_A c1 fa
    have h24 : ¬ d.2.2.2.2 = 40 := by omega
    have h23 : ¬ O = 3 := by omega
    have s0 := i1.1
    obtain ⟨v, Mc, ne, no, e3⟩ := d_number (X := X) g aa ca t1.1 t1.2.1 (t := 2050 + 4 * L + 2) (lo := 1) (hi := 48) (by omega)
    rw [E_264 mk0]
    cases hr : pNum b n 1 48 (tE b n p) with
    | error er =>
      obtain ⟨hv, hM⟩ := ne er hr
      subst hv
      refine ⟨0, Mc, by rw [hM]; exact fS_w (fS_t s1 (fS_A fa)), mRd_e rfl (by rw [hM, up_ne2 (by omega), up_eq]) (by rw [hM, up_eq]), ?_⟩
      simp (disch := first | assumption | decide | omega | (simp only [List.length_cons, List.length_nil] <;> omega)) only [lgt_0, lgt_s, lset_0, lset_s, lst1_0, lst1_s, lst2_0, lst2_s, ev_iconst, ev_lconst, ev_ldc, ev_null, ev_iload, ev_lload, ev_aload, ev_istore, ev_lstore, ev_astore, ev_iinc, ev_iadd, ev_isub, ev_imul, ev_iand, ev_ior, ev_ishl, ev_ishr, ev_idiv, ev_irem, ev_ineg, ev_ladd, ev_lsub, ev_lmul, ev_land, ev_lor, ev_ldiv, ev_lrem, ev_lshl, ev_i2l, ev_l2i, ev_i2b, ev_i2s, ev_lcmp, ev_dupI, ev_dupR, ev_dup2, ev_popI, ev_popR, ev_alen, ev_xlen, ev_xald, ev_iald, ev_lald, ev_bald, ev_zald, ev_aald, ev_iast, ev_last, ev_bast, ev_zast, ev_aast, ev_gfI, ev_gfL, ev_gfR, ev_pfI, ev_pfZ, ev_pfL, ev_pfR, ev_new, ev_newa, ev_newq, ev_copy, ev_slen, ev_schr, ev_obj, ev_mmin, ev_mabs, ev_mmax, ev_goto, ev_jsr, ev_icmp_eq, ev_if_eq, ev_icmp_ne, ev_if_ne, ev_icmp_lt, ev_if_lt, ev_icmp_ge, ev_if_ge, ev_icmp_gt, ev_if_gt, ev_icmp_le, ev_if_le, ev_ifnull0, ev_ifnull1, ev_ifnn0, ev_ifnn1, ev_tsw, ev_lsw, ev_iret, ev_zret, ev_lret, ev_aret, ev_ret, ev_call0, ev_call1, ev_call2, ev_call3, ev_call4, ev_call5, ev_call6, Option.toList_some, Option.toList_none, List.cons_append, List.nil_append, List.length_cons, List.length_nil, Nat.reduceMod, Nat.reduceDiv, Nat.reduceLeDiff, nc, ↓reduceIte, Nat.zero_le, reduceCtorEq, w32_id, Int.reduceEq, Int.reduceNe, Int.reduceLT, Int.reduceLE, Int.reduceGT, Int.reduceGE, Int.reduceAdd, Int.reduceSub, Int.reduceMul, Int.reduceNeg, ne_eq, not_true_eq_false, not_false_eq_true, eq_self, ↓if_pos, ↓if_neg, J_264_0, k_264_0, J_264_42, k_264_42, J_264_48, k_264_48, J_264_69, k_264_69, J_264_89, k_264_89, J_264_103, k_264_103, J_264_104, k_264_104, J_264_111, k_264_111, J_264_133, k_264_133, J_264_194, k_264_194, J_264_200, k_264_200, J_264_237, k_264_237, J_264_241, k_264_241, J_264_250, k_264_250, J_264_265, k_264_265, J_264_290, k_264_290, J_264_322, k_264_322, ei, r_at, r_opened, q1, q2, q3, h24, h23, up_ne, up_ne2, Int.add_zero, hM1, ea, e3]
    | ok r =>
      obtain ⟨hv, fc, ac⟩ := no r hr
      subst hv
      rw [bnd_o]
      have an := pNum_ok hr
      have t3 := tE_on (b := b) t1.2.1 (by rw [an.1]; omega) t1.1
      have er1 : r.1 = tE b n (tE b n p) := by rw [an.2.1]
      rw [← er1] at t3
      have c140 : ∀ i, 15 < i → Mc 140 i = Ma 140 i := fun i hi => by rw [fc.2 i (by omega), up_ne (by omega)]
      have c23 : Mc 140 23 = O := by rw [c140 23 (by omega), fa.2 23 (by omega), f1.2.1 23 (by omega)]; exact q1
      have c148 : Mc 148 = M 148 := by rw [fc.1 148 (by omega), up_ne (by omega), fa.1 148 (by omega), f1.1 148 (by omega) (by omega)]
      have c141 : ∀ j, j ≠ 2050 + 4 * L + 2 → Mc 141 j = M1 141 j := fun j hj => by rw [fc.1 141 (by omega), up_ne2 hj, fa.1 141 (by omega)]
      have c141' : Mc 141 (2050 + 4 * L + 2) = r.2 := by rw [fc.1 141 (by omega), up_eq]
      generalize hMd : up (up Mc 148 O L) 140 23 (O + 1) = Md
      have fd : ∀ e, e ≠ 140 → e ≠ 148 → Md e = Mc e := fun e h1 h2 => by rw [← hMd, up_ne h1, up_ne h2]
      have fd0 : ∀ i, i ≠ 23 → Md 140 i = Mc 140 i := fun i hi => by rw [← hMd, up_ne2 hi, up_ne (by omega)]
      have sd : fS M Md := by rw [← hMd]; exact fS_140 (fS_148 (fS_t (fS_141 (fS_t s1 (fS_A fa)) (by omega)) (fS_A fc))) (by omega)
      have ad : mAt Md b n r.1 := mAt_f ac (fun i _ _ => fd0 i (by omega)) (fd 147 (by omega) (by omega))
      have cd : mCl Md := ⟨by rw [fd0 18 (by omega), c140 18 (by omega)]; exact ca.1, by rw [fd0 17 (by omega), c140 17 (by omega)]; exact ca.2⟩
      have hdd : mDd Md (addL d 2 (-1) r.2) := by
        have eo : opn (addL d 2 (-1) r.2) = d.2.2.2.1 :: opn d := by rw [opn_add, if_pos rfl]
        refine ⟨?_, ?_, ?_, mDl_add q4 (fun j j0 j1 => ?_) ?_ (fun z => by omega) (fun _ => ?_) (fun z => by omega), ?_⟩
        · rw [eo, ← hMd, up_eq, List.length_cons]
          omega
        · rw [fd0 24 (by omega), c140 24 (by omega), fa.2 24 (by omega), f1.2.2.1]
          rfl
        · rw [fd 141 (by omega) (by omega), c141 _ (by omega), f1.2.2.2.1]
          show _ = ((d.2.2.2.1 + 1 : Nat) : Int)
          omega
        · rw [hL] at j1
          rw [fd 141 (by omega) (by omega), c141 _ (by omega)]
          exact f1.2.2.2.2.2 j (by omega) (by omega)
        · rw [hL, fd 141 (by omega) (by omega), c141 _ (by omega)]
          exact f1.2.2.2.2.1
        · rw [hL, fd 141 (by omega) (by omega), show (2052 : Int) + 4 * L = 2050 + 4 * L + 2 by omega]
          exact c141'
        · rw [eo]
          refine ⟨?_, opR_congr (fun j j0 j1 => ?_) q5⟩
          · rw [hO, ← hMd, up_ne (by omega), up_eq, hL]
          · rw [← hMd, up_ne (by omega), up_ne2 (by omega), c148]
      obtain ⟨v, Me, fe, res, e4⟩ := d_fin (X := X) g sd ad cd t3.1 t3.2.1 hdd
      have v01 := mRd_01 res
      refine ⟨v, Me, fe, res, ?_⟩
      simp (disch := first | assumption | decide | omega | (simp only [List.length_cons, List.length_nil] <;> omega)) only [lgt_0, lgt_s, lset_0, lset_s, lst1_0, lst1_s, lst2_0, lst2_s, ev_iconst, ev_lconst, ev_ldc, ev_null, ev_iload, ev_lload, ev_aload, ev_istore, ev_lstore, ev_astore, ev_iinc, ev_iadd, ev_isub, ev_imul, ev_iand, ev_ior, ev_ishl, ev_ishr, ev_idiv, ev_irem, ev_ineg, ev_ladd, ev_lsub, ev_lmul, ev_land, ev_lor, ev_ldiv, ev_lrem, ev_lshl, ev_i2l, ev_l2i, ev_i2b, ev_i2s, ev_lcmp, ev_dupI, ev_dupR, ev_dup2, ev_popI, ev_popR, ev_alen, ev_xlen, ev_xald, ev_iald, ev_lald, ev_bald, ev_zald, ev_aald, ev_iast, ev_last, ev_bast, ev_zast, ev_aast, ev_gfI, ev_gfL, ev_gfR, ev_pfI, ev_pfZ, ev_pfL, ev_pfR, ev_new, ev_newa, ev_newq, ev_copy, ev_slen, ev_schr, ev_obj, ev_mmin, ev_mabs, ev_mmax, ev_goto, ev_jsr, ev_icmp_eq, ev_if_eq, ev_icmp_ne, ev_if_ne, ev_icmp_lt, ev_if_lt, ev_icmp_ge, ev_if_ge, ev_icmp_gt, ev_if_gt, ev_icmp_le, ev_if_le, ev_ifnull0, ev_ifnull1, ev_ifnn0, ev_ifnn1, ev_tsw, ev_lsw, ev_iret, ev_zret, ev_lret, ev_aret, ev_ret, ev_call0, ev_call1, ev_call2, ev_call3, ev_call4, ev_call5, ev_call6, Option.toList_some, Option.toList_none, List.cons_append, List.nil_append, List.length_cons, List.length_nil, Nat.reduceMod, Nat.reduceDiv, Nat.reduceLeDiff, nc, ↓reduceIte, Nat.zero_le, reduceCtorEq, w32_id, Int.reduceEq, Int.reduceNe, Int.reduceLT, Int.reduceLE, Int.reduceGT, Int.reduceGE, Int.reduceAdd, Int.reduceSub, Int.reduceMul, Int.reduceNeg, ne_eq, not_true_eq_false, not_false_eq_true, eq_self, ↓if_pos, ↓if_neg, J_264_0, k_264_0, J_264_42, k_264_42, J_264_48, k_264_48, J_264_69, k_264_69, J_264_89, k_264_89, J_264_103, k_264_103, J_264_104, k_264_104, J_264_111, k_264_111, J_264_133, k_264_133, J_264_194, k_264_194, J_264_200, k_264_200, J_264_237, k_264_237, J_264_241, k_264_241, J_264_250, k_264_250, J_264_265, k_264_265, J_264_290, k_264_290, J_264_322, k_264_322, ei, r_at, r_opened, q1, q2, q3, h24, h23, up_ne, up_ne2, Int.add_zero, hM1, ea, e3, c23, hMd, e4]
  · have k3 : pSk b n p = 3 := by omega
    rw [if_neg k]
    rw [k3] at ei
    have on : opn d ≠ [] := fun y => y1 (Or.inr ⟨k3, y⟩)
    have lp : 0 < (opn d).length := List.length_pos_iff.mpr on
    have l1 : (d.2.2.2.1 : Int) < 80 := by omega
    generalize hL : (d.2.2.2.1 : Int) = L at q3 l0 l1
    cases ho : opn d with
    | nil => exact absurd ho on
    | cons o r =>
    have lr : ((opn d).length : Int) = (r.length : Int) + 1 := by rw [ho, List.length_cons]; omega
    rw [ho] at q5
    have q5a := q5.1
    generalize hO : (r.length : Int) = O at lr q5a
    have o0 : 0 ≤ O ∧ O < 3 := by omega
    have q1' : M 140 23 = O + 1 := by omega
    have f1 := mS1_f (M := M) (S := d.2.2.2.2) (k := 3) l0
    have s1 := fS_S1 (M := M) (S := d.2.2.2.2) (k := 3) l0
    have hM1 : up (up (up (up (up (up M 140 24 d.2.2.2.2) 141 (2050 + 4 * L + 1) 0) 141 (2050 + 4 * L + 2) 0) 141 (2050 + 4 * L + 3) 0) 141 (2050 + 4 * L) 3) 141 1935 (L + 1) = mS1 M L d.2.2.2.2 3 := rfl
    generalize mS1 M L d.2.2.2.2 3 = M1 at f1 s1 hM1
    have a1 : mAt M1 b n p := mAt_f h (fun i _ _ => f1.2.1 i (by omega)) (f1.1 147 (by omega) (by omega))
    have c1 : mCl M1 := ⟨by rw [f1.2.1 18 (by omega)]; exact hc.1, by rw [f1.2.1 17 (by omega)]; exact hc.2⟩
    obtain ⟨Ma, fa, aa, ea⟩ := d_go (X := X) g a1 p0 p1
    have ca := mCl_A c1 fa
    have s0 := i1.1
    have h23 : ¬ O + 1 = 0 := by omega
    have a23 : Ma 140 23 = O + 1 := by rw [fa.2 23 (by omega), f1.2.1 23 (by omega)]; exact q1'
    have a148 : Ma 148 O = (o : Int) := by rw [fa.1 148 (by omega), f1.1 148 (by omega) (by omega)]; exact q5a
    have oe : O + 1 - 1 = O := by omega
    generalize hMd : up (up Ma 140 23 O) 141 (2050 + 4 * L + 3) (o : Int) = Md
    have fd0 : ∀ i, i ≠ 23 → Md 140 i = Ma 140 i := fun i hi => by rw [← hMd, up_ne (by omega), up_ne2 hi]
    have fd : ∀ e, e ≠ 140 → e ≠ 141 → Md e = Ma e := fun e h1 h2 => by rw [← hMd, up_ne h2, up_ne h1]
    have d141 : ∀ j, j ≠ 2050 + 4 * L + 3 → Md 141 j = M1 141 j := fun j hj => by rw [← hMd, up_ne2 hj, up_ne (by omega), fa.1 141 (by omega)]
    have sd : fS M Md := by rw [← hMd]; exact fS_141 (fS_140 (fS_t s1 (fS_A fa)) (by omega)) (by omega)
    have ad : mAt Md b n (tE b n p) := mAt_f aa (fun i _ _ => fd0 i (by omega)) (fd 147 (by omega) (by omega))
    have cd : mCl Md := ⟨by rw [fd0 18 (by omega)]; exact ca.1, by rw [fd0 17 (by omega)]; exact ca.2⟩
    have hdd : mDd Md (addL d 3 (-1) 0) := by
      have eo : opn (addL d 3 (-1) 0) = r := by rw [opn_add, if_neg (by omega), if_pos rfl, ho]; rfl
      refine ⟨?_, ?_, ?_, mDl_add q4 (fun j j0 j1 => ?_) ?_ (fun z => by omega) (fun z => by omega) (fun _ => ⟨o, r, ho, ?_⟩), ?_⟩
      · rw [eo, ← hMd, up_ne (by omega), up_eq, hO]
      · rw [fd0 24 (by omega), fa.2 24 (by omega), f1.2.2.1]
        show _ = d.2.2.2.2 + 0
        rw [Int.add_zero]
      · rw [d141 _ (by omega), f1.2.2.2.1]
        show _ = ((d.2.2.2.1 + 1 : Nat) : Int)
        omega
      · rw [hL] at j1
        rw [d141 _ (by omega)]
        exact f1.2.2.2.2.2 j (by omega) (by omega)
      · rw [hL, d141 _ (by omega)]
        exact f1.2.2.2.2.1
      · rw [hL, show (2053 : Int) + 4 * L = 2050 + 4 * L + 3 by omega, ← hMd, up_eq]
      · rw [eo, fd 148 (by omega) (by omega), fa.1 148 (by omega), f1.1 148 (by omega) (by omega)]
        exact q5.2
    obtain ⟨v, Me, fe, res, e4⟩ := d_fin (X := X) g sd ad cd t1.1 t1.2.1 hdd
    have v01 := mRd_01 res
    refine ⟨v, Me, fe, res, ?_⟩
    rw [E_264 mk0]
    simp (disch := first | assumption | decide | omega | (simp only [List.length_cons, List.length_nil] <;> omega)) only [lgt_0, lgt_s, lset_0, lset_s, lst1_0, lst1_s, lst2_0, lst2_s, ev_iconst, ev_lconst, ev_ldc, ev_null, ev_iload, ev_lload, ev_aload, ev_istore, ev_lstore, ev_astore, ev_iinc, ev_iadd, ev_isub, ev_imul, ev_iand, ev_ior, ev_ishl, ev_ishr, ev_idiv, ev_irem, ev_ineg, ev_ladd, ev_lsub, ev_lmul, ev_land, ev_lor, ev_ldiv, ev_lrem, ev_lshl, ev_i2l, ev_l2i, ev_i2b, ev_i2s, ev_lcmp, ev_dupI, ev_dupR, ev_dup2, ev_popI, ev_popR, ev_alen, ev_xlen, ev_xald, ev_iald, ev_lald, ev_bald, ev_zald, ev_aald, ev_iast, ev_last, ev_bast, ev_zast, ev_aast, ev_gfI, ev_gfL, ev_gfR, ev_pfI, ev_pfZ, ev_pfL, ev_pfR, ev_new, ev_newa, ev_newq, ev_copy, ev_slen, ev_schr, ev_obj, ev_mmin, ev_mabs, ev_mmax, ev_goto, ev_jsr, ev_icmp_eq, ev_if_eq, ev_icmp_ne, ev_if_ne, ev_icmp_lt, ev_if_lt, ev_icmp_ge, ev_if_ge, ev_icmp_gt, ev_if_gt, ev_icmp_le, ev_if_le, ev_ifnull0, ev_ifnull1, ev_ifnn0, ev_ifnn1, ev_tsw, ev_lsw, ev_iret, ev_zret, ev_lret, ev_aret, ev_ret, ev_call0, ev_call1, ev_call2, ev_call3, ev_call4, ev_call5, ev_call6, Option.toList_some, Option.toList_none, List.cons_append, List.nil_append, List.length_cons, List.length_nil, Nat.reduceMod, Nat.reduceDiv, Nat.reduceLeDiff, nc, ↓reduceIte, Nat.zero_le, reduceCtorEq, w32_id, Int.reduceEq, Int.reduceNe, Int.reduceLT, Int.reduceLE, Int.reduceGT, Int.reduceGE, Int.reduceAdd, Int.reduceSub, Int.reduceMul, Int.reduceNeg, ne_eq, not_true_eq_false, not_false_eq_true, eq_self, ↓if_pos, ↓if_neg, J_264_0, k_264_0, J_264_42, k_264_42, J_264_48, k_264_48, J_264_69, k_264_69, J_264_89, k_264_89, J_264_103, k_264_103, J_264_104, k_264_104, J_264_111, k_264_111, J_264_133, k_264_133, J_264_194, k_264_194, J_264_200, k_264_200, J_264_237, k_264_237, J_264_241, k_264_241, J_264_250, k_264_250, J_264_265, k_264_265, J_264_290, k_264_290, J_264_322, k_264_322, ei, r_at, r_opened, q1', q2, q3, h23, up_ne, up_ne2, up_eq, Int.add_zero, hM1, ea, a23, a148, oe, hMd, e4]
end LNO
