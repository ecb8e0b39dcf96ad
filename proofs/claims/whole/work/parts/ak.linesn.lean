/-! DIRECTIONS: the model reads a line: its head, a name. -/
def mS1 (M : Mem) (l S k : Int) : Mem := up (up (up (up (up (up M 140 24 S) 141 (2050 + 4 * l + 1) 0) 141 (2050 + 4 * l + 2) 0) 141 (2050 + 4 * l + 3) 0) 141 (2050 + 4 * l) k) 141 1935 (l + 1)
theorem mS1_f {M : Mem} {l S k : Int} (l0 : 0 ≤ l) : (∀ c, c ≠ 140 → c ≠ 141 → mS1 M l S k c = M c) ∧ (∀ i, i ≠ 24 → mS1 M l S k 140 i = M 140 i) ∧ mS1 M l S k 140 24 = S ∧ mS1 M l S k 141 1935 = l + 1 ∧ mS1 M l S k 141 (2050 + 4 * l) = k ∧ (∀ j, j ≠ 1935 → (j < 2050 + 4 * l ∨ 2053 + 4 * l < j) → mS1 M l S k 141 j = M 141 j) := by
  unfold mS1
  refine ⟨fun c h1 h2 => ?_, fun i hi => ?_, ?_, up_eq, ?_, fun j h1 h2 => ?_⟩
  · rw [up_ne h2, up_ne h2, up_ne h2, up_ne h2, up_ne h2, up_ne h1]
  · rw [up_ne (by omega), up_ne (by omega), up_ne (by omega), up_ne (by omega), up_ne (by omega), up_ne2 hi]
  · rw [up_ne (by omega), up_ne (by omega), up_ne (by omega), up_ne (by omega), up_ne (by omega), up_eq]
  · rw [up_ne2 (by omega), up_eq]
  · rw [up_ne2 h1, up_ne2 (by omega), up_ne2 (by omega), up_ne2 (by omega), up_ne2 (by omega), up_ne (by omega)]
theorem fS_S1 {M : Mem} {l S k : Int} (l0 : 0 ≤ l) : fS M (mS1 M l S k) := by
  have f := mS1_f (M := M) (S := S) (k := k) l0
  exact ⟨fun c a x _ => f.1 c a x, fun i hi => f.2.1 i (by omega), fun j hj => f.2.2.2.2.2 j (by omega) (by omega)⟩
section LNN
variable {X : Int → Int} {M : Mem} {b : Int → Int} {n p m : Int} {d : DD} {NW : Int → List Int}
theorem d_skw (g : gT b n) (h : mAt M b n p) (p0 : 0 ≤ p) (p1 : p ≤ n) : evc X 248 [vR (some 140), vS 20] SH0 M = some (some (vI (pSk b n p)), SH0, M) := d_inWords (X := X) g h p0 p1 kOK_S
/-- a line that cannot begin -/
theorem d_lbad (g : gT b n) (h : mAt M b n p) (hc : mCl M) (p0 : 0 ≤ p) (p1 : p ≤ n) (hd : mDd M d) (hI : dlI m d) {e : Int × Int} (he : (tK b n p = 1 ∧ e = (1, tQ b n p)) ∨ (tK b n p ≠ 1 ∧ (((pSk b n p = -1 ∨ (pSk b n p = 3 ∧ opn d = [])) ∧ e = (2, tQ b n p)) ∨ (¬ (pSk b n p = -1 ∨ (pSk b n p = 3 ∧ opn d = [])) ∧ ((pSk b n p ≠ 3 ∧ 40 ≤ d.2.2.2.2) ∧ e = (6, tQ b n p))) ∨ (¬ (pSk b n p = -1 ∨ (pSk b n p = 3 ∧ opn d = [])) ∧ ¬ (pSk b n p ≠ 3 ∧ 40 ≤ d.2.2.2.2) ∧ ((pSk b n p = 2 ∧ 3 ≤ (opn d).length) ∧ e = (7, tQ b n p)))))) : evc X 264 [vR (some 140)] SH0 M = some (some (vI 0), SH0, up (up M 140 18 e.1) 140 17 e.2) := by
  have mk0 := w0_k140
  have hmd := w0_md140
  obtain ⟨r_at, k_at, l_at⟩ := md_at w0_md140; obtain ⟨r_opened, k_opened, l_opened⟩ := md_opened w0_md140
  have ei := d_skw (X := X) g h p0 p1
  have ef := fun w => d_fails (X := X) h hc.1 (w := w)
  obtain ⟨q1, q2, q3, q4, q5⟩ := hd
  have i1 := hI.1
  have i2 := hI.2.1
  have i5 : (opn d).length ≤ 3 := hI.2.2.2.2 _ (Nat.le_refl _)
  have lt : 0 ≤ M 141 1935 ∧ M 141 1935 ≤ 80 := by omega
  have kr := pSk_rng (b := b) (n := n) (p := p)
  rw [E_264 mk0]
  have two : ∀ e' : Int × Int, (pSk b n p = -1 ∨ (pSk b n p = 3 ∧ opn d = [])) → e' = ((if tK b n p = 1 then 1 else 2), tQ b n p) → ev X 264 k_264_0 [some (vR (some 140)), none, none, none, none] [] SH0 M = some (some (vI 0), SH0, up (up M 140 18 e'.1) 140 17 e'.2) := fun e' hz he' => by
    have e2 := ef 2
    rw [he']
    rcases hz with z | ⟨z, y⟩
    · rw [z] at ei
      simp (disch := first | assumption | decide | omega | (simp only [List.length_cons, List.length_nil] <;> omega)) only [lgt_0, lgt_s, lset_0, lset_s, lst1_0, lst1_s, lst2_0, lst2_s, ev_iconst, ev_lconst, ev_ldc, ev_null, ev_iload, ev_lload, ev_aload, ev_istore, ev_lstore, ev_astore, ev_iinc, ev_iadd, ev_isub, ev_imul, ev_iand, ev_ior, ev_ishl, ev_ishr, ev_idiv, ev_irem, ev_ineg, ev_ladd, ev_lsub, ev_lmul, ev_land, ev_lor, ev_ldiv, ev_lrem, ev_lshl, ev_i2l, ev_l2i, ev_i2b, ev_i2s, ev_lcmp, ev_dupI, ev_dupR, ev_dup2, ev_popI, ev_popR, ev_alen, ev_xlen, ev_xald, ev_iald, ev_lald, ev_bald, ev_zald, ev_aald, ev_iast, ev_last, ev_bast, ev_zast, ev_aast, ev_gfI, ev_gfL, ev_gfR, ev_pfI, ev_pfZ, ev_pfL, ev_pfR, ev_new, ev_newa, ev_newq, ev_copy, ev_slen, ev_schr, ev_obj, ev_mmin, ev_mabs, ev_mmax, ev_goto, ev_jsr, ev_icmp_eq, ev_if_eq, ev_icmp_ne, ev_if_ne, ev_icmp_lt, ev_if_lt, ev_icmp_ge, ev_if_ge, ev_icmp_gt, ev_if_gt, ev_icmp_le, ev_if_le, ev_ifnull0, ev_ifnull1, ev_ifnn0, ev_ifnn1, ev_tsw, ev_lsw, ev_iret, ev_zret, ev_lret, ev_aret, ev_ret, ev_call0, ev_call1, ev_call2, ev_call3, ev_call4, ev_call5, ev_call6, Option.toList_some, Option.toList_none, List.cons_append, List.nil_append, List.length_cons, List.length_nil, Nat.reduceMod, Nat.reduceDiv, Nat.reduceLeDiff, nc, ↓reduceIte, Nat.zero_le, reduceCtorEq, w32_id, Int.reduceEq, Int.reduceNe, Int.reduceLT, Int.reduceLE, Int.reduceGT, Int.reduceGE, Int.reduceAdd, Int.reduceSub, Int.reduceMul, Int.reduceNeg, ne_eq, not_true_eq_false, not_false_eq_true, eq_self, ↓if_pos, ↓if_neg, J_264_0, k_264_0, J_264_42, k_264_42, J_264_48, k_264_48, J_264_69, k_264_69, J_264_89, k_264_89, J_264_103, k_264_103, J_264_104, k_264_104, J_264_133, k_264_133, J_264_194, k_264_194, J_264_200, k_264_200, J_264_237, k_264_237, J_264_241, k_264_241, J_264_250, k_264_250, J_264_265, k_264_265, J_264_290, k_264_290, J_264_322, k_264_322, ei, r_at, e2]
    · rw [z] at ei
      have o0 : M 140 23 = 0 := by rw [q1, y]; rfl
      simp (disch := first | assumption | decide | omega | (simp only [List.length_cons, List.length_nil] <;> omega)) only [lgt_0, lgt_s, lset_0, lset_s, lst1_0, lst1_s, lst2_0, lst2_s, ev_iconst, ev_lconst, ev_ldc, ev_null, ev_iload, ev_lload, ev_aload, ev_istore, ev_lstore, ev_astore, ev_iinc, ev_iadd, ev_isub, ev_imul, ev_iand, ev_ior, ev_ishl, ev_ishr, ev_idiv, ev_irem, ev_ineg, ev_ladd, ev_lsub, ev_lmul, ev_land, ev_lor, ev_ldiv, ev_lrem, ev_lshl, ev_i2l, ev_l2i, ev_i2b, ev_i2s, ev_lcmp, ev_dupI, ev_dupR, ev_dup2, ev_popI, ev_popR, ev_alen, ev_xlen, ev_xald, ev_iald, ev_lald, ev_bald, ev_zald, ev_aald, ev_iast, ev_last, ev_bast, ev_zast, ev_aast, ev_gfI, ev_gfL, ev_gfR, ev_pfI, ev_pfZ, ev_pfL, ev_pfR, ev_new, ev_newa, ev_newq, ev_copy, ev_slen, ev_schr, ev_obj, ev_mmin, ev_mabs, ev_mmax, ev_goto, ev_jsr, ev_icmp_eq, ev_if_eq, ev_icmp_ne, ev_if_ne, ev_icmp_lt, ev_if_lt, ev_icmp_ge, ev_if_ge, ev_icmp_gt, ev_if_gt, ev_icmp_le, ev_if_le, ev_ifnull0, ev_ifnull1, ev_ifnn0, ev_ifnn1, ev_tsw, ev_lsw, ev_iret, ev_zret, ev_lret, ev_aret, ev_ret, ev_call0, ev_call1, ev_call2, ev_call3, ev_call4, ev_call5, ev_call6, Option.toList_some, Option.toList_none, List.cons_append, List.nil_append, List.length_cons, List.length_nil, Nat.reduceMod, Nat.reduceDiv, Nat.reduceLeDiff, nc, ↓reduceIte, Nat.zero_le, reduceCtorEq, w32_id, Int.reduceEq, Int.reduceNe, Int.reduceLT, Int.reduceLE, Int.reduceGT, Int.reduceGE, Int.reduceAdd, Int.reduceSub, Int.reduceMul, Int.reduceNeg, ne_eq, not_true_eq_false, not_false_eq_true, eq_self, ↓if_pos, ↓if_neg, J_264_0, k_264_0, J_264_42, k_264_42, J_264_48, k_264_48, J_264_69, k_264_69, J_264_89, k_264_89, J_264_103, k_264_103, J_264_104, k_264_104, J_264_133, k_264_133, J_264_194, k_264_194, J_264_200, k_264_200, J_264_237, k_264_237, J_264_241, k_264_241, J_264_250, k_264_250, J_264_265, k_264_265, J_264_290, k_264_290, J_264_322, k_264_322, ei, r_at, o0, e2]
  rcases he with ⟨z1, he⟩ | ⟨z1, ⟨hz, he⟩ | ⟨hz, hy, he⟩ | ⟨hz, hx, hy, he⟩⟩
  · have z : pSk b n p = -1 := by unfold pSk; rw [if_neg (by omega)]
    exact two e (Or.inl z) (by rw [he, if_pos z1])
  · exact two e hz (by rw [he, if_neg z1])
  · have e6 := ef 6
    rw [if_neg z1] at e6
    subst he
    have n1 : ¬ pSk b n p = -1 := fun y => hz (Or.inl y)
    have n3 : ¬ pSk b n p = 3 := hy.1
    have h24 : M 140 24 = 40 := by omega
    generalize pSk b n p = w at ei n1 n3
    simp (disch := first | assumption | decide | omega | (simp only [List.length_cons, List.length_nil] <;> omega)) only [lgt_0, lgt_s, lset_0, lset_s, lst1_0, lst1_s, lst2_0, lst2_s, ev_iconst, ev_lconst, ev_ldc, ev_null, ev_iload, ev_lload, ev_aload, ev_istore, ev_lstore, ev_astore, ev_iinc, ev_iadd, ev_isub, ev_imul, ev_iand, ev_ior, ev_ishl, ev_ishr, ev_idiv, ev_irem, ev_ineg, ev_ladd, ev_lsub, ev_lmul, ev_land, ev_lor, ev_ldiv, ev_lrem, ev_lshl, ev_i2l, ev_l2i, ev_i2b, ev_i2s, ev_lcmp, ev_dupI, ev_dupR, ev_dup2, ev_popI, ev_popR, ev_alen, ev_xlen, ev_xald, ev_iald, ev_lald, ev_bald, ev_zald, ev_aald, ev_iast, ev_last, ev_bast, ev_zast, ev_aast, ev_gfI, ev_gfL, ev_gfR, ev_pfI, ev_pfZ, ev_pfL, ev_pfR, ev_new, ev_newa, ev_newq, ev_copy, ev_slen, ev_schr, ev_obj, ev_mmin, ev_mabs, ev_mmax, ev_goto, ev_jsr, ev_icmp_eq, ev_if_eq, ev_icmp_ne, ev_if_ne, ev_icmp_lt, ev_if_lt, ev_icmp_ge, ev_if_ge, ev_icmp_gt, ev_if_gt, ev_icmp_le, ev_if_le, ev_ifnull0, ev_ifnull1, ev_ifnn0, ev_ifnn1, ev_tsw, ev_lsw, ev_iret, ev_zret, ev_lret, ev_aret, ev_ret, ev_call0, ev_call1, ev_call2, ev_call3, ev_call4, ev_call5, ev_call6, Option.toList_some, Option.toList_none, List.cons_append, List.nil_append, List.length_cons, List.length_nil, Nat.reduceMod, Nat.reduceDiv, Nat.reduceLeDiff, nc, ↓reduceIte, Nat.zero_le, reduceCtorEq, w32_id, Int.reduceEq, Int.reduceNe, Int.reduceLT, Int.reduceLE, Int.reduceGT, Int.reduceGE, Int.reduceAdd, Int.reduceSub, Int.reduceMul, Int.reduceNeg, ne_eq, not_true_eq_false, not_false_eq_true, eq_self, ↓if_pos, ↓if_neg, J_264_0, k_264_0, J_264_42, k_264_42, J_264_48, k_264_48, J_264_69, k_264_69, J_264_89, k_264_89, J_264_103, k_264_103, J_264_104, k_264_104, J_264_133, k_264_133, J_264_194, k_264_194, J_264_200, k_264_200, J_264_237, k_264_237, J_264_241, k_264_241, J_264_250, k_264_250, J_264_265, k_264_265, J_264_290, k_264_290, J_264_322, k_264_322, ei, n1, n3, r_at, h24, e6]
  · have e7 := ef 7
    rw [if_neg z1] at e7
    subst he
    have h24 : ¬ M 140 24 = 40 := by omega
    have h23 : M 140 23 = 3 := by omega
    rw [hy.1] at ei
    simp (disch := first | assumption | decide | omega | (simp only [List.length_cons, List.length_nil] <;> omega)) only [lgt_0, lgt_s, lset_0, lset_s, lst1_0, lst1_s, lst2_0, lst2_s, ev_iconst, ev_lconst, ev_ldc, ev_null, ev_iload, ev_lload, ev_aload, ev_istore, ev_lstore, ev_astore, ev_iinc, ev_iadd, ev_isub, ev_imul, ev_iand, ev_ior, ev_ishl, ev_ishr, ev_idiv, ev_irem, ev_ineg, ev_ladd, ev_lsub, ev_lmul, ev_land, ev_lor, ev_ldiv, ev_lrem, ev_lshl, ev_i2l, ev_l2i, ev_i2b, ev_i2s, ev_lcmp, ev_dupI, ev_dupR, ev_dup2, ev_popI, ev_popR, ev_alen, ev_xlen, ev_xald, ev_iald, ev_lald, ev_bald, ev_zald, ev_aald, ev_iast, ev_last, ev_bast, ev_zast, ev_aast, ev_gfI, ev_gfL, ev_gfR, ev_pfI, ev_pfZ, ev_pfL, ev_pfR, ev_new, ev_newa, ev_newq, ev_copy, ev_slen, ev_schr, ev_obj, ev_mmin, ev_mabs, ev_mmax, ev_goto, ev_jsr, ev_icmp_eq, ev_if_eq, ev_icmp_ne, ev_if_ne, ev_icmp_lt, ev_if_lt, ev_icmp_ge, ev_if_ge, ev_icmp_gt, ev_if_gt, ev_icmp_le, ev_if_le, ev_ifnull0, ev_ifnull1, ev_ifnn0, ev_ifnn1, ev_tsw, ev_lsw, ev_iret, ev_zret, ev_lret, ev_aret, ev_ret, ev_call0, ev_call1, ev_call2, ev_call3, ev_call4, ev_call5, ev_call6, Option.toList_some, Option.toList_none, List.cons_append, List.nil_append, List.length_cons, List.length_nil, Nat.reduceMod, Nat.reduceDiv, Nat.reduceLeDiff, nc, ↓reduceIte, Nat.zero_le, reduceCtorEq, w32_id, Int.reduceEq, Int.reduceNe, Int.reduceLT, Int.reduceLE, Int.reduceGT, Int.reduceGE, Int.reduceAdd, Int.reduceSub, Int.reduceMul, Int.reduceNeg, ne_eq, not_true_eq_false, not_false_eq_true, eq_self, ↓if_pos, ↓if_neg, J_264_0, k_264_0, J_264_42, k_264_42, J_264_48, k_264_48, J_264_69, k_264_69, J_264_89, k_264_89, J_264_103, k_264_103, J_264_104, k_264_104, J_264_133, k_264_133, J_264_194, k_264_194, J_264_200, k_264_200, J_264_237, k_264_237, J_264_241, k_264_241, J_264_250, k_264_250, J_264_265, k_264_265, J_264_290, k_264_290, J_264_322, k_264_322, ei, r_at, h24, h23, e7]
/-- a name behind the line's word -/
theorem d_nm (g : gT b n) (h : mAt M b n p) (hc : mCl M) (p0 : 0 ≤ p) (p1 : p ≤ n) (hk : tK b n p ≠ 0) (hd : mDd M d) (hI : dlI m d) (hN : mNm M NW m) (k2 : 0 ≤ pSk b n p ∧ pSk b n p < 2) (hs : d.2.2.2.2 < 40) : (∃ e M', pNam b n NW m (tE b n p) = .error e ∧ fS M M' ∧ M' 140 18 = e.1 ∧ M' 140 17 = e.2 ∧ evc X 264 [vR (some 140)] SH0 M = some (some (vI 0), SH0, M')) ∨ ∃ c Ma, pNam b n NW m (tE b n p) = .ok c ∧ fA (mS1 M (d.2.2.2.1 : Int) (d.2.2.2.2 + 1) (pSk b n p)) Ma ∧ mAt Ma b n (tE b n p) ∧ evc X 264 [vR (some 140)] SH0 M = ev X 264 (jmp 264 237) [some (vR (some 140)), some (vI (pSk b n p)), some (vI (d.2.2.2.1 : Int)), some (vI (2050 + 4 * (d.2.2.2.1 : Int))), some (vI 4)] [] SH0 (up Ma 141 (2050 + 4 * (d.2.2.2.1 : Int) + 1) c.2) := by
  have mk0 := w0_k140
  have hmd := w0_md140
  obtain ⟨r_at, k_at, l_at⟩ := md_at w0_md140; obtain ⟨r_opened, k_opened, l_opened⟩ := md_opened w0_md140
  have ei := d_skw (X := X) g h p0 p1
  obtain ⟨q1, q2, q3, q4, q5⟩ := hd
  have i1 := hI.1
  have i2 := hI.2.1
  have l0 : 0 ≤ (d.2.2.2.1 : Int) := by omega
  have l1 : (d.2.2.2.1 : Int) < 80 := by omega
  have t1 := tE_on (b := b) p1 hk p0
  generalize pSk b n p = w at ei k2
  generalize hL : (d.2.2.2.1 : Int) = L at q3 l0 l1
  have f1 := mS1_f (M := M) (S := d.2.2.2.2 + 1) (k := w) l0
  have s1 := fS_S1 (M := M) (S := d.2.2.2.2 + 1) (k := w) l0
  have hM1 : up (up (up (up (up (up M 140 24 (d.2.2.2.2 + 1)) 141 (2050 + 4 * L + 1) 0) 141 (2050 + 4 * L + 2) 0) 141 (2050 + 4 * L + 3) 0) 141 (2050 + 4 * L) w) 141 1935 (L + 1) = mS1 M L (d.2.2.2.2 + 1) w := rfl
  generalize mS1 M L (d.2.2.2.2 + 1) w = M1 at f1 s1 hM1
  have a1 : mAt M1 b n p := mAt_f h (fun i _ _ => f1.2.1 i (by omega)) (f1.1 147 (by omega) (by omega))
  have c1 : mCl M1 := ⟨by rw [f1.2.1 18 (by omega)]; exact hc.1, by rw [f1.2.1 17 (by omega)]; exact hc.2⟩
  obtain ⟨Ma, fa, aa, ea⟩ := d_go (X := X) g a1 p0 p1
  have ca := mCl_A c1 fa
  have hNa := mNm_f hN (fS_t s1 (fS_A fa))
  have n1 : ¬ w = -1 := by omega
  have n2 : ¬ w = 2 := by omega
  have n3 : ¬ w = 3 := by omega
  have g2 : ¬ 2 ≤ w := by omega
  have h24 : ¬ d.2.2.2.2 = 40 := by omega
  have s0 := i1.1
  have ef := fun w => d_fails (X := X) aa ca.1 (w := w)
  obtain ⟨tx, h12, h13, h14, _⟩ := id aa
  rw [E_264 mk0]
  unfold pNam
  by_cases z : tK b n (tE b n p) = 2
  rotate_left
  · have qn : ¬ Ma 140 12 = 2 := by rw [h12]; exact z
    have e2 := ef 2
    have nn : nmB b n SKW (tE b n p) = false := decide_eq_false fun w => z w.1
    refine Or.inl ⟨((if tK b n (tE b n p) = 1 then 1 else 2), tQ b n (tE b n p)), _, ?_, fS_w (fS_t s1 (fS_A fa)), by rw [up_ne2 (by omega), up_eq], up_eq, ?_⟩
    · by_cases y : tK b n (tE b n p) = 1
      · rw [if_pos y, if_pos y]
      · rw [if_neg y, if_neg y, if_pos nn]
    · simp (disch := first | assumption | decide | omega | (simp only [List.length_cons, List.length_nil] <;> omega)) only [lgt_0, lgt_s, lset_0, lset_s, lst1_0, lst1_s, lst2_0, lst2_s, ev_iconst, ev_lconst, ev_ldc, ev_null, ev_iload, ev_lload, ev_aload, ev_istore, ev_lstore, ev_astore, ev_iinc, ev_iadd, ev_isub, ev_imul, ev_iand, ev_ior, ev_ishl, ev_ishr, ev_idiv, ev_irem, ev_ineg, ev_ladd, ev_lsub, ev_lmul, ev_land, ev_lor, ev_ldiv, ev_lrem, ev_lshl, ev_i2l, ev_l2i, ev_i2b, ev_i2s, ev_lcmp, ev_dupI, ev_dupR, ev_dup2, ev_popI, ev_popR, ev_alen, ev_xlen, ev_xald, ev_iald, ev_lald, ev_bald, ev_zald, ev_aald, ev_iast, ev_last, ev_bast, ev_zast, ev_aast, ev_gfI, ev_gfL, ev_gfR, ev_pfI, ev_pfZ, ev_pfL, ev_pfR, ev_new, ev_newa, ev_newq, ev_copy, ev_slen, ev_schr, ev_obj, ev_mmin, ev_mabs, ev_mmax, ev_goto, ev_jsr, ev_icmp_eq, ev_if_eq, ev_icmp_ne, ev_if_ne, ev_icmp_lt, ev_if_lt, ev_icmp_ge, ev_if_ge, ev_icmp_gt, ev_if_gt, ev_icmp_le, ev_if_le, ev_ifnull0, ev_ifnull1, ev_ifnn0, ev_ifnn1, ev_tsw, ev_lsw, ev_iret, ev_zret, ev_lret, ev_aret, ev_ret, ev_call0, ev_call1, ev_call2, ev_call3, ev_call4, ev_call5, ev_call6, Option.toList_some, Option.toList_none, List.cons_append, List.nil_append, List.length_cons, List.length_nil, Nat.reduceMod, Nat.reduceDiv, Nat.reduceLeDiff, nc, ↓reduceIte, Nat.zero_le, reduceCtorEq, w32_id, Int.reduceEq, Int.reduceNe, Int.reduceLT, Int.reduceLE, Int.reduceGT, Int.reduceGE, Int.reduceAdd, Int.reduceSub, Int.reduceMul, Int.reduceNeg, ne_eq, not_true_eq_false, not_false_eq_true, eq_self, ↓if_pos, ↓if_neg, J_264_0, k_264_0, J_264_42, k_264_42, J_264_48, k_264_48, J_264_69, k_264_69, J_264_89, k_264_89, J_264_103, k_264_103, J_264_104, k_264_104, J_264_111, k_264_111, J_264_133, k_264_133, J_264_194, k_264_194, J_264_200, k_264_200, J_264_237, k_264_237, J_264_241, k_264_241, J_264_250, k_264_250, J_264_265, k_264_265, J_264_290, k_264_290, J_264_322, k_264_322, ei, n1, n2, n3, g2, r_at, q2, q3, h24, up_ne, up_ne2, Int.add_zero, hM1, ea, qn, e2]
  have y1 : ¬ tK b n (tE b n p) = 1 := by omega
  rw [if_neg y1]
  rw [z] at h12
  have tl := tW_len (b := b) t1.2.1
  have ei2 := d_skw (X := X) g aa t1.1 t1.2.1
  have es : pSk b n (tE b n p) = ixF SKW (tW b n (tE b n p)) 0 := if_pos z
  rw [es] at ei2
  by_cases l8 : (tW b n (tE b n p)).length ≤ 8
  rotate_left
  · have q8 : 8 < Ma 140 14 - Ma 140 13 := by rw [h14, h13]; omega
    have e2 := ef 2
    rw [if_neg y1] at e2
    have nn : nmB b n SKW (tE b n p) = false := decide_eq_false fun w => l8 w.2.1
    have er := tE_rng (b := b) t1.2.1
    have tb := g.1
    have r13 : 0 ≤ Ma 140 13 ∧ Ma 140 13 ≤ 800 := by have qr := tQ_rng (b := b) t1.2.1; rw [h13]; omega
    have r14 : 0 ≤ Ma 140 14 ∧ Ma 140 14 ≤ 800 := by rw [h14]; omega
    refine Or.inl ⟨(2, tQ b n (tE b n p)), _, if_pos nn, fS_w (fS_t s1 (fS_A fa)), by rw [up_ne2 (by omega), up_eq], up_eq, ?_⟩
    simp (disch := first | assumption | decide | omega | (simp only [List.length_cons, List.length_nil] <;> omega)) only [lgt_0, lgt_s, lset_0, lset_s, lst1_0, lst1_s, lst2_0, lst2_s, ev_iconst, ev_lconst, ev_ldc, ev_null, ev_iload, ev_lload, ev_aload, ev_istore, ev_lstore, ev_astore, ev_iinc, ev_iadd, ev_isub, ev_imul, ev_iand, ev_ior, ev_ishl, ev_ishr, ev_idiv, ev_irem, ev_ineg, ev_ladd, ev_lsub, ev_lmul, ev_land, ev_lor, ev_ldiv, ev_lrem, ev_lshl, ev_i2l, ev_l2i, ev_i2b, ev_i2s, ev_lcmp, ev_dupI, ev_dupR, ev_dup2, ev_popI, ev_popR, ev_alen, ev_xlen, ev_xald, ev_iald, ev_lald, ev_bald, ev_zald, ev_aald, ev_iast, ev_last, ev_bast, ev_zast, ev_aast, ev_gfI, ev_gfL, ev_gfR, ev_pfI, ev_pfZ, ev_pfL, ev_pfR, ev_new, ev_newa, ev_newq, ev_copy, ev_slen, ev_schr, ev_obj, ev_mmin, ev_mabs, ev_mmax, ev_goto, ev_jsr, ev_icmp_eq, ev_if_eq, ev_icmp_ne, ev_if_ne, ev_icmp_lt, ev_if_lt, ev_icmp_ge, ev_if_ge, ev_icmp_gt, ev_if_gt, ev_icmp_le, ev_if_le, ev_ifnull0, ev_ifnull1, ev_ifnn0, ev_ifnn1, ev_tsw, ev_lsw, ev_iret, ev_zret, ev_lret, ev_aret, ev_ret, ev_call0, ev_call1, ev_call2, ev_call3, ev_call4, ev_call5, ev_call6, Option.toList_some, Option.toList_none, List.cons_append, List.nil_append, List.length_cons, List.length_nil, Nat.reduceMod, Nat.reduceDiv, Nat.reduceLeDiff, nc, ↓reduceIte, Nat.zero_le, reduceCtorEq, w32_id, Int.reduceEq, Int.reduceNe, Int.reduceLT, Int.reduceLE, Int.reduceGT, Int.reduceGE, Int.reduceAdd, Int.reduceSub, Int.reduceMul, Int.reduceNeg, ne_eq, not_true_eq_false, not_false_eq_true, eq_self, ↓if_pos, ↓if_neg, J_264_0, k_264_0, J_264_42, k_264_42, J_264_48, k_264_48, J_264_69, k_264_69, J_264_89, k_264_89, J_264_103, k_264_103, J_264_104, k_264_104, J_264_111, k_264_111, J_264_133, k_264_133, J_264_194, k_264_194, J_264_200, k_264_200, J_264_237, k_264_237, J_264_241, k_264_241, J_264_250, k_264_250, J_264_265, k_264_265, J_264_290, k_264_290, J_264_322, k_264_322, ei, n1, n2, n3, g2, r_at, q2, q3, h24, up_ne, up_ne2, Int.add_zero, hM1, ea, h12, q8, e2]
  have q8 : ¬ 8 < Ma 140 14 - Ma 140 13 := by rw [h14, h13]; omega
  have er := tE_rng (b := b) t1.2.1
  have tb := g.1
  have r13 : 0 ≤ Ma 140 13 ∧ Ma 140 13 ≤ 800 := by have qr := tQ_rng (b := b) t1.2.1; rw [h13]; omega
  have r14 : 0 ≤ Ma 140 14 ∧ Ma 140 14 ≤ 800 := by rw [h14]; omega
  by_cases ix : ixF SKW (tW b n (tE b n p)) 0 = -1
  rotate_left
  · have e2 := ef 2
    rw [if_neg y1] at e2
    have nn : nmB b n SKW (tE b n p) = false := decide_eq_false fun w => ix w.2.2
    generalize ixF SKW (tW b n (tE b n p)) 0 = iv at ei2 ix
    refine Or.inl ⟨(2, tQ b n (tE b n p)), _, if_pos nn, fS_w (fS_t s1 (fS_A fa)), by rw [up_ne2 (by omega), up_eq], up_eq, ?_⟩
    simp (disch := first | assumption | decide | omega | (simp only [List.length_cons, List.length_nil] <;> omega)) only [lgt_0, lgt_s, lset_0, lset_s, lst1_0, lst1_s, lst2_0, lst2_s, ev_iconst, ev_lconst, ev_ldc, ev_null, ev_iload, ev_lload, ev_aload, ev_istore, ev_lstore, ev_astore, ev_iinc, ev_iadd, ev_isub, ev_imul, ev_iand, ev_ior, ev_ishl, ev_ishr, ev_idiv, ev_irem, ev_ineg, ev_ladd, ev_lsub, ev_lmul, ev_land, ev_lor, ev_ldiv, ev_lrem, ev_lshl, ev_i2l, ev_l2i, ev_i2b, ev_i2s, ev_lcmp, ev_dupI, ev_dupR, ev_dup2, ev_popI, ev_popR, ev_alen, ev_xlen, ev_xald, ev_iald, ev_lald, ev_bald, ev_zald, ev_aald, ev_iast, ev_last, ev_bast, ev_zast, ev_aast, ev_gfI, ev_gfL, ev_gfR, ev_pfI, ev_pfZ, ev_pfL, ev_pfR, ev_new, ev_newa, ev_newq, ev_copy, ev_slen, ev_schr, ev_obj, ev_mmin, ev_mabs, ev_mmax, ev_goto, ev_jsr, ev_icmp_eq, ev_if_eq, ev_icmp_ne, ev_if_ne, ev_icmp_lt, ev_if_lt, ev_icmp_ge, ev_if_ge, ev_icmp_gt, ev_if_gt, ev_icmp_le, ev_if_le, ev_ifnull0, ev_ifnull1, ev_ifnn0, ev_ifnn1, ev_tsw, ev_lsw, ev_iret, ev_zret, ev_lret, ev_aret, ev_ret, ev_call0, ev_call1, ev_call2, ev_call3, ev_call4, ev_call5, ev_call6, Option.toList_some, Option.toList_none, List.cons_append, List.nil_append, List.length_cons, List.length_nil, Nat.reduceMod, Nat.reduceDiv, Nat.reduceLeDiff, nc, ↓reduceIte, Nat.zero_le, reduceCtorEq, w32_id, Int.reduceEq, Int.reduceNe, Int.reduceLT, Int.reduceLE, Int.reduceGT, Int.reduceGE, Int.reduceAdd, Int.reduceSub, Int.reduceMul, Int.reduceNeg, ne_eq, not_true_eq_false, not_false_eq_true, eq_self, ↓if_pos, ↓if_neg, J_264_0, k_264_0, J_264_42, k_264_42, J_264_48, k_264_48, J_264_69, k_264_69, J_264_89, k_264_89, J_264_103, k_264_103, J_264_104, k_264_104, J_264_111, k_264_111, J_264_133, k_264_133, J_264_194, k_264_194, J_264_200, k_264_200, J_264_237, k_264_237, J_264_241, k_264_241, J_264_250, k_264_250, J_264_265, k_264_265, J_264_290, k_264_290, J_264_322, k_264_322, ei, n1, n2, n3, g2, r_at, q2, q3, h24, up_ne, up_ne2, Int.add_zero, hM1, ea, h12, q8, ei2, ix, e2]
  have nn : ¬ nmB b n SKW (tE b n p) = false := by
    have : nmB b n SKW (tE b n p) = true := decide_eq_true ⟨z, l8, ix⟩
    rw [this]; decide
  rw [if_neg nn]
  rw [ix] at ei2
  have efd := d_findHere (X := X) (M := Ma) g aa t1.1 t1.2.1 z l8 (NW := NW) (base := 0) (m := m) (by omega) hN.2.1 (fun k k0 k1 => by rw [Int.zero_add]; exact hNa.2.2 k k0 k1)
  have a2 := hNa.1
  by_cases fz : fnF NW m (tW b n (tE b n p)) = -1
  · rw [if_pos fz]
    rw [fz] at efd
    generalize hMb : up Ma 141 (2050 + 4 * L + 1) (-1) = Mb
    have fb : ∀ c, c ≠ 141 → Mb c = Ma c := fun c hc => by rw [← hMb, up_ne hc]
    have b1 : Mb 141 (2050 + 4 * L + 1) = -1 := by rw [← hMb, up_eq]
    have ab : mAt Mb b n (tE b n p) := mAt_f aa (fun i _ _ => by rw [fb 140 (by omega)]) (fb 147 (by omega))
    have e3 := d_fails (X := X) ab (by rw [fb 140 (by omega)]; exact ca.1) (w := 3)
    rw [if_neg y1] at e3
    refine Or.inl ⟨(3, tQ b n (tE b n p)), up (up Mb 140 18 3) 140 17 (tQ b n (tE b n p)), rfl, fS_w (by rw [← hMb]; exact fS_141 (fS_t s1 (fS_A fa)) (by omega)), by rw [up_ne2 (by omega), up_eq], up_eq, ?_⟩
    simp (disch := first | assumption | decide | omega | (simp only [List.length_cons, List.length_nil] <;> omega)) only [lgt_0, lgt_s, lset_0, lset_s, lst1_0, lst1_s, lst2_0, lst2_s, ev_iconst, ev_lconst, ev_ldc, ev_null, ev_iload, ev_lload, ev_aload, ev_istore, ev_lstore, ev_astore, ev_iinc, ev_iadd, ev_isub, ev_imul, ev_iand, ev_ior, ev_ishl, ev_ishr, ev_idiv, ev_irem, ev_ineg, ev_ladd, ev_lsub, ev_lmul, ev_land, ev_lor, ev_ldiv, ev_lrem, ev_lshl, ev_i2l, ev_l2i, ev_i2b, ev_i2s, ev_lcmp, ev_dupI, ev_dupR, ev_dup2, ev_popI, ev_popR, ev_alen, ev_xlen, ev_xald, ev_iald, ev_lald, ev_bald, ev_zald, ev_aald, ev_iast, ev_last, ev_bast, ev_zast, ev_aast, ev_gfI, ev_gfL, ev_gfR, ev_pfI, ev_pfZ, ev_pfL, ev_pfR, ev_new, ev_newa, ev_newq, ev_copy, ev_slen, ev_schr, ev_obj, ev_mmin, ev_mabs, ev_mmax, ev_goto, ev_jsr, ev_icmp_eq, ev_if_eq, ev_icmp_ne, ev_if_ne, ev_icmp_lt, ev_if_lt, ev_icmp_ge, ev_if_ge, ev_icmp_gt, ev_if_gt, ev_icmp_le, ev_if_le, ev_ifnull0, ev_ifnull1, ev_ifnn0, ev_ifnn1, ev_tsw, ev_lsw, ev_iret, ev_zret, ev_lret, ev_aret, ev_ret, ev_call0, ev_call1, ev_call2, ev_call3, ev_call4, ev_call5, ev_call6, Option.toList_some, Option.toList_none, List.cons_append, List.nil_append, List.length_cons, List.length_nil, Nat.reduceMod, Nat.reduceDiv, Nat.reduceLeDiff, nc, ↓reduceIte, Nat.zero_le, reduceCtorEq, w32_id, Int.reduceEq, Int.reduceNe, Int.reduceLT, Int.reduceLE, Int.reduceGT, Int.reduceGE, Int.reduceAdd, Int.reduceSub, Int.reduceMul, Int.reduceNeg, ne_eq, not_true_eq_false, not_false_eq_true, eq_self, ↓if_pos, ↓if_neg, J_264_0, k_264_0, J_264_42, k_264_42, J_264_48, k_264_48, J_264_69, k_264_69, J_264_89, k_264_89, J_264_103, k_264_103, J_264_104, k_264_104, J_264_111, k_264_111, J_264_133, k_264_133, J_264_194, k_264_194, J_264_200, k_264_200, J_264_237, k_264_237, J_264_241, k_264_241, J_264_250, k_264_250, J_264_265, k_264_265, J_264_290, k_264_290, J_264_322, k_264_322, ei, n1, n2, n3, g2, r_at, q2, q3, h24, up_ne, up_ne2, Int.add_zero, hM1, ea, h12, q8, ei2, a2, efd, hMb, b1, e3]
  · rw [if_neg fz]
    refine Or.inr ⟨_, Ma, rfl, fa, aa, ?_⟩
    show _ = ev X 264 (jmp 264 237) _ [] SH0 (up Ma 141 (2050 + 4 * L + 1) (fnF NW m (tW b n (tE b n p))))
    generalize fnF NW m (tW b n (tE b n p)) = fv at efd fz
    have b1 : up Ma 141 (2050 + 4 * L + 1) fv 141 (2050 + 4 * L + 1) = fv := up_eq
    simp (disch := first | assumption | decide | omega | (simp only [List.length_cons, List.length_nil] <;> omega)) only [lgt_0, lgt_s, lset_0, lset_s, lst1_0, lst1_s, lst2_0, lst2_s, ev_iconst, ev_lconst, ev_ldc, ev_null, ev_iload, ev_lload, ev_aload, ev_istore, ev_lstore, ev_astore, ev_iinc, ev_iadd, ev_isub, ev_imul, ev_iand, ev_ior, ev_ishl, ev_ishr, ev_idiv, ev_irem, ev_ineg, ev_ladd, ev_lsub, ev_lmul, ev_land, ev_lor, ev_ldiv, ev_lrem, ev_lshl, ev_i2l, ev_l2i, ev_i2b, ev_i2s, ev_lcmp, ev_dupI, ev_dupR, ev_dup2, ev_popI, ev_popR, ev_alen, ev_xlen, ev_xald, ev_iald, ev_lald, ev_bald, ev_zald, ev_aald, ev_iast, ev_last, ev_bast, ev_zast, ev_aast, ev_gfI, ev_gfL, ev_gfR, ev_pfI, ev_pfZ, ev_pfL, ev_pfR, ev_new, ev_newa, ev_newq, ev_copy, ev_slen, ev_schr, ev_obj, ev_mmin, ev_mabs, ev_mmax, ev_goto, ev_jsr, ev_icmp_eq, ev_if_eq, ev_icmp_ne, ev_if_ne, ev_icmp_lt, ev_if_lt, ev_icmp_ge, ev_if_ge, ev_icmp_gt, ev_if_gt, ev_icmp_le, ev_if_le, ev_ifnull0, ev_ifnull1, ev_ifnn0, ev_ifnn1, ev_tsw, ev_lsw, ev_iret, ev_zret, ev_lret, ev_aret, ev_ret, ev_call0, ev_call1, ev_call2, ev_call3, ev_call4, ev_call5, ev_call6, Option.toList_some, Option.toList_none, List.cons_append, List.nil_append, List.length_cons, List.length_nil, Nat.reduceMod, Nat.reduceDiv, Nat.reduceLeDiff, nc, ↓reduceIte, Nat.zero_le, reduceCtorEq, w32_id, Int.reduceEq, Int.reduceNe, Int.reduceLT, Int.reduceLE, Int.reduceGT, Int.reduceGE, Int.reduceAdd, Int.reduceSub, Int.reduceMul, Int.reduceNeg, ne_eq, not_true_eq_false, not_false_eq_true, eq_self, ↓if_pos, ↓if_neg, J_264_0, k_264_0, J_264_42, k_264_42, J_264_48, k_264_48, J_264_69, k_264_69, J_264_89, k_264_89, J_264_103, k_264_103, J_264_104, k_264_104, J_264_111, k_264_111, J_264_133, k_264_133, J_264_194, k_264_194, J_264_200, k_264_200, J_264_241, k_264_241, J_264_250, k_264_250, J_264_265, k_264_265, J_264_290, k_264_290, J_264_322, k_264_322, ei, n1, n2, n3, g2, r_at, q2, q3, h24, up_ne, up_ne2, Int.add_zero, hM1, ea, h12, q8, ei2, a2, efd, b1, fz]
end LNN
