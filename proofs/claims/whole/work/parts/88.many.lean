/-! LESSENED: the class's count. -/
theorem mxN_congr {f g : Int → Int} (h : ∀ c, 0 ≤ c → c < 5 → g c = f c) : ∀ {k : Nat}, k < 5 → mxN g k = mxN f k ∧ (0 ≤ mxN f k ∧ mxN f k ≤ k)
  | 0, _ => ⟨rfl, Int.le_refl _, Int.le_refl _⟩
  | k + 1, hk => by
    have ih := mxN_congr h (k := k) (by omega)
    show (if g (mxN g k) < g ((k : Int) + 1) then (k : Int) + 1 else mxN g k) = (if f (mxN f k) < f ((k : Int) + 1) then (k : Int) + 1 else mxN f k) ∧ (0 ≤ (if f (mxN f k) < f ((k : Int) + 1) then (k : Int) + 1 else mxN f k) ∧ (if f (mxN f k) < f ((k : Int) + 1) then (k : Int) + 1 else mxN f k) ≤ ((k + 1 : Nat) : Int))
    rw [ih.1, h (mxN f k) ih.2.1 (by omega), h ((k : Int) + 1) (by omega) (by omega)]
    refine ⟨rfl, ?_⟩
    split <;> omega
def gK (f : Int → Int) : Nat → Int → Int
  | 0 => f
  | k + 1 => zr (gK f k) (mxN (gK f k) 4)
theorem gK_s {f : Int → Int} : ∀ {k : Nat}, gK (zr f (mxN f 4)) k = gK f (k + 1)
  | 0 => rfl
  | k + 1 => by
    have ih := gK_s (f := f) (k := k)
    show zr (gK (zr f (mxN f 4)) k) (mxN (gK (zr f (mxN f 4)) k) 4) = zr (gK f (k + 1)) (mxN (gK f (k + 1)) 4)
    rw [ih]
theorem topF_g : ∀ {n : Nat} {f : Int → Int}, topF f n = tot (gK f n)
  | 0, f => rfl
  | n + 1, f => by
    show topF (zr f (mxN f 4)) n = _
    rw [topF_g, gK_s]
theorem gK_rng {f : Int → Int} {u : Int} (h : ∀ c, 0 ≤ c → c < 5 → 0 ≤ f c ∧ f c ≤ u) : ∀ {k : Nat}, ∀ c, 0 ≤ c → c < 5 → 0 ≤ gK f k c ∧ gK f k c ≤ u
  | 0 => h
  | k + 1 => fun c c0 c1 => by
    have ih := gK_rng h (k := k) c c0 c1
    show 0 ≤ zr (gK f k) (mxN (gK f k) 4) c ∧ zr (gK f k) (mxN (gK f k) 4) c ≤ u
    unfold zr
    split <;> omega
theorem tot_rng {f : Int → Int} {u : Int} (h : ∀ c, 0 ≤ c → c < 5 → 0 ≤ f c ∧ f c ≤ u) : 0 ≤ tot f ∧ tot f ≤ 5 * u := by
  have a := h 0 (by omega) (by omega); have b := h 1 (by omega) (by omega); have c := h 2 (by omega) (by omega); have d := h 3 (by omega) (by omega); have e := h 4 (by omega) (by omega)
  unfold tot
  omega
def cnC (A : Int → Int) (row : Int) (k : Nat) : Int → Int := fun c => sumN (fun i => if xR A i = row ∧ xH A i = c then 1 else 0) k
theorem cnC_rng {A : Int → Int} {row c : Int} {k : Nat} : 0 ≤ cnC A row k c ∧ cnC A row k c ≤ k := by
  have e := sumN_le (f := fun i => if xR A i = row ∧ xH A i = c then 1 else 0) (a := 0) (b := 1) (n := k) (fun j _ => by split <;> omega)
  unfold cnC
  omega
theorem cnC_s {A : Int → Int} {row c : Int} {k : Nat} : cnC A row (k + 1) c = cnC A row k c + if xR A k = row ∧ xH A k = c then 1 else 0 := rfl
theorem tot_one {f g : Int → Int} : ∀ m, 0 ≤ m → m < 5 → (∀ c, g c = f c + if m = c then 1 else 0) → tot g = tot f + 1 := by
  refine five ?_ ?_ ?_ ?_ ?_ <;> intro h <;> unfold tot <;> rw [h 0, h 1, h 2, h 3, h 4] <;> simp only [Int.reduceEq, ↓reduceIte] <;> omega
theorem tot_same {f g : Int → Int} (h : ∀ c, g c = f c) : tot g = tot f := by
  unfold tot
  rw [h 0, h 1, h 2, h 3, h 4]
section MNY
variable {X : Int → Int} {M : Mem}
theorem c_tooMany (h : RR' M) {row : Int} {n : Nat} (hn : n ≤ 5) : ∃ M', (∀ b, b ≠ 80 → M' b = M b) ∧ evc X 184 [vR (some 0), vI row, vI (n : Int)] SH0 M = some (some (vI (topF (cnC (AA M) row (xn (AA M)).toNat) n)), SH0, M') := by
  have k0 := w0_k0; have hc4 := w0_ch4; have hmd := w0_md140; have mk0 := hmd.1; have hc4' := w0_ch4; obtain ⟨ck0, cr0, cr1, cr2, cr3, cr4, cr5, cr6, cr7, ck1, ck2, ck3, ck4, ck5, ck6, ck7, ck8, cl1, cl2, cl3, cl4, cl5, cl6, cl7, cl8⟩ := hc4'
  have k80 := w0_k80
  have l80 : len SH0 80 = 5 := rfl
  have kv := rr_kv h
  have nn := (k_gWY kv).1.2.1
  have ef := s_fill (X := X) (M := M) (n := 5) (v := 0) k80 l80 (by omega)
  -- the counts
  obtain ⟨ls1, M1, ⟨hls, fr, i1⟩, he⟩ := ev_for (X := X) (y := 184) (Sh := SH0) (fun i ls M' => ls = [some (vR (some 0)), some (vI row), some (vI (n : Int)), some (vI (tot (cnC (AA M) row i))), some (vI (i : Int)), none, none] ∧ (∀ b, b ≠ 80 → M' b = M b) ∧ (∀ c, 0 ≤ c → c < 5 → M' 80 c = cnC (AA M) row i c)) J_184_13 (xn (AA M)).toNat (fun i hi ls M' hI => by
    obtain ⟨hls, fr, i1⟩ := hI
    subst hls
    have m8 : M' 4 8 = xn (AA M) := by rw [fr 4 (by omega)]; exact n_c h
    have eH := k_H kv (i := i) (by omega) (by omega)
    have gi := (k_gWY kv).1.2.2 i (by omega) (by omega)
    have g2 := (k_gWY kv).1.1.2.2.1
    have h6 := congrFun (fr (4 + 6) (by omega)) (i : Int)
    have h8 := congrFun (fr (4 + 8) (by omega)) (i : Int)
    rw [eH.1] at h6
    rw [eH.2.2] at h8
    have tr := tot_rng (f := cnC (AA M) row i) (u := 48) (fun c _ _ => by have := cnC_rng (A := AA M) (row := row) (c := c) (k := i); omega)
    by_cases q : xR (AA M) i = row
    · have ehc := s_hasColour (X := X) (M := M') hc4 (i := xH (AA M) i)
      rw [if_pos (by rw [fr (4 + 1) (by omega), S_c h (by omega) (by omega)]; exact gi.1)] at ehc
      have et := tot_one (f := cnC (AA M) row i) (g := cnC (AA M) row (i + 1)) (xH (AA M) i) gi.1.1 (by omega) (fun c => by
        rw [cnC_s]
        by_cases y : xH (AA M) i = c
        · rw [if_pos ⟨q, y⟩, if_pos y]
        · rw [if_neg (fun w => y w.2), if_neg y])
      have e80 := i1 (xH (AA M) i) gi.1.1 (by omega)
      have cr := cnC_rng (A := AA M) (row := row) (c := xH (AA M) i) (k := i)
      refine ⟨_, up M' 80 (xH (AA M) i) (cnC (AA M) row i (xH (AA M) i) + 1), ⟨rfl, fun b hb => by rw [up_ne hb]; exact fr b hb, fun c c0 c1 => ?_⟩, ?_⟩
      · rw [cnC_s]
        by_cases y : xH (AA M) i = c
        · rw [if_pos ⟨q, y⟩, ← y, up_eq]
        · rw [if_neg (fun w => y w.2), up_ne2 (fun w => y w.symm), Int.add_zero]
          exact i1 c c0 c1
      · rw [et]
        have g1 := gi.1
        generalize cnC (AA M) row i (xH (AA M) i) = cv at e80 cr ⊢
        generalize xH (AA M) i = hv at ehc h6 e80 g1 ⊢
        generalize xR (AA M) i = rv at h8 q
        subst q
        generalize tot (cnC (AA M) rv i) = tv at tr ⊢
        simp (disch := first | assumption | decide | omega | (simp only [List.length_cons, List.length_nil] <;> omega)) only [lgt_0, lgt_s, lset_0, lset_s, lst1_0, lst1_s, lst2_0, lst2_s, ev_iconst, ev_lconst, ev_ldc, ev_null, ev_iload, ev_lload, ev_aload, ev_istore, ev_lstore, ev_astore, ev_iinc, ev_iadd, ev_isub, ev_imul, ev_iand, ev_ior, ev_ishl, ev_ishr, ev_idiv, ev_irem, ev_ineg, ev_ladd, ev_lsub, ev_lmul, ev_land, ev_lor, ev_ldiv, ev_lrem, ev_lshl, ev_i2l, ev_l2i, ev_i2b, ev_i2s, ev_lcmp, ev_dupI, ev_dupR, ev_dup2, ev_popI, ev_popR, ev_alen, ev_xlen, ev_xald, ev_iald, ev_lald, ev_bald, ev_zald, ev_aald, ev_iast, ev_last, ev_bast, ev_zast, ev_aast, ev_gfI, ev_gfL, ev_gfR, ev_pfI, ev_pfZ, ev_pfL, ev_pfR, ev_new, ev_newa, ev_newq, ev_copy, ev_slen, ev_schr, ev_obj, ev_mmin, ev_mabs, ev_mmax, ev_goto, ev_jsr, ev_icmp_eq, ev_if_eq, ev_icmp_ne, ev_if_ne, ev_icmp_lt, ev_if_lt, ev_icmp_ge, ev_if_ge, ev_icmp_gt, ev_if_gt, ev_icmp_le, ev_if_le, ev_ifnull0, ev_ifnull1, ev_ifnn0, ev_ifnn1, ev_tsw, ev_lsw, ev_iret, ev_zret, ev_lret, ev_aret, ev_ret, ev_call0, ev_call1, ev_call2, ev_call3, ev_call4, ev_call5, ev_call6, Option.toList_some, Option.toList_none, List.cons_append, List.nil_append, List.length_cons, List.length_nil, Nat.reduceMod, Nat.reduceDiv, Nat.reduceLeDiff, nc, ↓reduceIte, Nat.zero_le, reduceCtorEq, w32_id, Int.reduceEq, Int.reduceNe, Int.reduceLT, Int.reduceLE, Int.reduceGT, Int.reduceGE, Int.reduceAdd, Int.reduceSub, Int.reduceMul, Int.reduceNeg, ne_eq, not_true_eq_false, not_false_eq_true, eq_self, ↓if_pos, ↓if_neg, w0_r0_3, w0_r0_4, w0_r0_5, w0_r0_6, w0_r0_7, w0_r0_8, w0_r0_10, w0_r0_11, w0_r0_12, w0_r0_13, w0_r0_14, w0_r0_15, w0_r0_16, w0_r0_17, w0_r0_18, cr0, cr1, cr2, cr3, cr4, cr5, cr6, cr7, J_184_0, k_184_0, J_184_81, k_184_81, J_184_87, k_184_87, J_184_129, k_184_129, J_184_135, k_184_135, J_184_159, k_184_159, k_184_13, m8, h8, h6, ehc, e80, nc_s]
    · have et := tot_same (f := cnC (AA M) row i) (g := cnC (AA M) row (i + 1)) (fun c => by rw [cnC_s, if_neg (fun w => q w.1), Int.add_zero])
      refine ⟨_, M', ⟨rfl, fr, fun c c0 c1 => ?_⟩, ?_⟩
      · rw [cnC_s, if_neg (fun w => q w.1), Int.add_zero]
        exact i1 c c0 c1
      · rw [et]
        generalize xR (AA M) i = rv at h8 q
        generalize tot (cnC (AA M) row i) = tv at tr ⊢
        simp (disch := first | assumption | decide | omega | (simp only [List.length_cons, List.length_nil] <;> omega)) only [lgt_0, lgt_s, lset_0, lset_s, lst1_0, lst1_s, lst2_0, lst2_s, ev_iconst, ev_lconst, ev_ldc, ev_null, ev_iload, ev_lload, ev_aload, ev_istore, ev_lstore, ev_astore, ev_iinc, ev_iadd, ev_isub, ev_imul, ev_iand, ev_ior, ev_ishl, ev_ishr, ev_idiv, ev_irem, ev_ineg, ev_ladd, ev_lsub, ev_lmul, ev_land, ev_lor, ev_ldiv, ev_lrem, ev_lshl, ev_i2l, ev_l2i, ev_i2b, ev_i2s, ev_lcmp, ev_dupI, ev_dupR, ev_dup2, ev_popI, ev_popR, ev_alen, ev_xlen, ev_xald, ev_iald, ev_lald, ev_bald, ev_zald, ev_aald, ev_iast, ev_last, ev_bast, ev_zast, ev_aast, ev_gfI, ev_gfL, ev_gfR, ev_pfI, ev_pfZ, ev_pfL, ev_pfR, ev_new, ev_newa, ev_newq, ev_copy, ev_slen, ev_schr, ev_obj, ev_mmin, ev_mabs, ev_mmax, ev_goto, ev_jsr, ev_icmp_eq, ev_if_eq, ev_icmp_ne, ev_if_ne, ev_icmp_lt, ev_if_lt, ev_icmp_ge, ev_if_ge, ev_icmp_gt, ev_if_gt, ev_icmp_le, ev_if_le, ev_ifnull0, ev_ifnull1, ev_ifnn0, ev_ifnn1, ev_tsw, ev_lsw, ev_iret, ev_zret, ev_lret, ev_aret, ev_ret, ev_call0, ev_call1, ev_call2, ev_call3, ev_call4, ev_call5, ev_call6, Option.toList_some, Option.toList_none, List.cons_append, List.nil_append, List.length_cons, List.length_nil, Nat.reduceMod, Nat.reduceDiv, Nat.reduceLeDiff, nc, ↓reduceIte, Nat.zero_le, reduceCtorEq, w32_id, Int.reduceEq, Int.reduceNe, Int.reduceLT, Int.reduceLE, Int.reduceGT, Int.reduceGE, Int.reduceAdd, Int.reduceSub, Int.reduceMul, Int.reduceNeg, ne_eq, not_true_eq_false, not_false_eq_true, eq_self, ↓if_pos, ↓if_neg, w0_r0_3, w0_r0_4, w0_r0_5, w0_r0_6, w0_r0_7, w0_r0_8, w0_r0_10, w0_r0_11, w0_r0_12, w0_r0_13, w0_r0_14, w0_r0_15, w0_r0_16, w0_r0_17, w0_r0_18, cr0, cr1, cr2, cr3, cr4, cr5, cr6, cr7, J_184_0, k_184_0, J_184_81, k_184_81, J_184_87, k_184_87, J_184_129, k_184_129, J_184_135, k_184_135, J_184_159, k_184_159, k_184_13, m8, h8, q, nc_s]) [some (vR (some 0)), some (vI row), some (vI (n : Int)), some (vI 0), some (vI 0), none, none] (mfill M 80 5 0) ⟨rfl, fun b hb => mfill_ne hb, fun c c0 c1 => mfill_in ⟨c0, c1⟩⟩
  subst hls
  have fr1 := fun c (c0 : 0 ≤ c) (c1 : c < 5) => cnC_rng (A := AA M) (row := row) (c := c) (k := (xn (AA M)).toNat)
  generalize cnC (AA M) row (xn (AA M)).toNat = f at i1 he fr1 ⊢
  have frr : ∀ c, 0 ≤ c → c < 5 → 0 ≤ f c ∧ f c ≤ 48 := fun c c0 c1 => by have := fr1 c c0 c1; omega
  have e : (((xn (AA M)).toNat : Nat) : Int) = xn (AA M) := by omega
  rw [e] at he
  have m8 : M1 4 8 = xn (AA M) := by rw [fr 4 (by omega)]; exact n_c h
  -- the most frequent
  obtain ⟨ls2, M2, ⟨z5, z6, hls, fr2, i2⟩, he2⟩ := ev_for (X := X) (y := 184) (Sh := SH0) (fun i ls M' => ∃ z5 z6, ls = [some (vR (some 0)), some (vI row), some (vI (n : Int)), some (vI (tot (gK f i))), some (vI (i : Int)), z5, z6] ∧ (∀ b, b ≠ 80 → M' b = M b) ∧ (∀ c, 0 ≤ c → c < 5 → M' 80 c = gK f i c)) J_184_90 n (fun i hi ls M' hI => by
    obtain ⟨z5, z6, hls, fr, i1⟩ := hI
    subst hls
    have gr := fun c (c0 : 0 ≤ c) (c1 : c < 5) => gK_rng frr (k := i) c c0 c1
    have tr := tot_rng gr
    have hL := ev_loopK (X := X) (y := 184) (Sh := SH0) (K := k_184_102) (fun j => [some (vR (some 0)), some (vI row), some (vI (n : Int)), some (vI (tot (gK f i))), some (vI (i : Int)), some (vI (mxN (gK f i) j)), some (vI ((j : Int) + 1))]) (fun _ => M') 4 J_184_102 (fun j hj => by
      have mj := (mxN_congr (f := gK f i) (g := gK f i) (fun _ _ _ => rfl) (k := j) (by omega)).2
      have e1 := i1 ((j : Int) + 1) (by omega) (by omega)
      have e2 := i1 (mxN (gK f i) j) mj.1 (by omega)
      have ms : mxN (gK f i) (j + 1) = if gK f i (mxN (gK f i) j) < gK f i ((j : Int) + 1) then (j : Int) + 1 else mxN (gK f i) j := rfl
      rw [ms]
      generalize tot (gK f i) = tv
      generalize gK f i ((j : Int) + 1) = v1 at e1 ⊢
      generalize gK f i (mxN (gK f i) j) = v2 at e2 ⊢
      generalize mxN (gK f i) j = mv at e2 mj ⊢
      have i5 : ((j + 1 : Nat) : Int) = (j : Int) + 1 := rfl
      by_cases q : v2 < v1
      · rw [if_pos q]
        simp (disch := first | assumption | decide | omega | (simp only [List.length_cons, List.length_nil] <;> omega)) only [lgt_0, lgt_s, lset_0, lset_s, lst1_0, lst1_s, lst2_0, lst2_s, ev_iconst, ev_lconst, ev_ldc, ev_null, ev_iload, ev_lload, ev_aload, ev_istore, ev_lstore, ev_astore, ev_iinc, ev_iadd, ev_isub, ev_imul, ev_iand, ev_ior, ev_ishl, ev_ishr, ev_idiv, ev_irem, ev_ineg, ev_ladd, ev_lsub, ev_lmul, ev_land, ev_lor, ev_ldiv, ev_lrem, ev_lshl, ev_i2l, ev_l2i, ev_i2b, ev_i2s, ev_lcmp, ev_dupI, ev_dupR, ev_dup2, ev_popI, ev_popR, ev_alen, ev_xlen, ev_xald, ev_iald, ev_lald, ev_bald, ev_zald, ev_aald, ev_iast, ev_last, ev_bast, ev_zast, ev_aast, ev_gfI, ev_gfL, ev_gfR, ev_pfI, ev_pfZ, ev_pfL, ev_pfR, ev_new, ev_newa, ev_newq, ev_copy, ev_slen, ev_schr, ev_obj, ev_mmin, ev_mabs, ev_mmax, ev_goto, ev_jsr, ev_icmp_eq, ev_if_eq, ev_icmp_ne, ev_if_ne, ev_icmp_lt, ev_if_lt, ev_icmp_ge, ev_if_ge, ev_icmp_gt, ev_if_gt, ev_icmp_le, ev_if_le, ev_ifnull0, ev_ifnull1, ev_ifnn0, ev_ifnn1, ev_tsw, ev_lsw, ev_iret, ev_zret, ev_lret, ev_aret, ev_ret, ev_call0, ev_call1, ev_call2, ev_call3, ev_call4, ev_call5, ev_call6, Option.toList_some, Option.toList_none, List.cons_append, List.nil_append, List.length_cons, List.length_nil, Nat.reduceMod, Nat.reduceDiv, Nat.reduceLeDiff, nc, ↓reduceIte, Nat.zero_le, reduceCtorEq, w32_id, Int.reduceEq, Int.reduceNe, Int.reduceLT, Int.reduceLE, Int.reduceGT, Int.reduceGE, Int.reduceAdd, Int.reduceSub, Int.reduceMul, Int.reduceNeg, ne_eq, not_true_eq_false, not_false_eq_true, eq_self, ↓if_pos, ↓if_neg, w0_r0_3, w0_r0_4, w0_r0_5, w0_r0_6, w0_r0_7, w0_r0_8, w0_r0_10, w0_r0_11, w0_r0_12, w0_r0_13, w0_r0_14, w0_r0_15, w0_r0_16, w0_r0_17, w0_r0_18, J_184_0, k_184_0, J_184_81, k_184_81, J_184_87, k_184_87, J_184_129, k_184_129, J_184_135, k_184_135, J_184_159, k_184_159, k_184_102, e1, e2, q, i5]
      · rw [if_neg q]
        simp (disch := first | assumption | decide | omega | (simp only [List.length_cons, List.length_nil] <;> omega)) only [lgt_0, lgt_s, lset_0, lset_s, lst1_0, lst1_s, lst2_0, lst2_s, ev_iconst, ev_lconst, ev_ldc, ev_null, ev_iload, ev_lload, ev_aload, ev_istore, ev_lstore, ev_astore, ev_iinc, ev_iadd, ev_isub, ev_imul, ev_iand, ev_ior, ev_ishl, ev_ishr, ev_idiv, ev_irem, ev_ineg, ev_ladd, ev_lsub, ev_lmul, ev_land, ev_lor, ev_ldiv, ev_lrem, ev_lshl, ev_i2l, ev_l2i, ev_i2b, ev_i2s, ev_lcmp, ev_dupI, ev_dupR, ev_dup2, ev_popI, ev_popR, ev_alen, ev_xlen, ev_xald, ev_iald, ev_lald, ev_bald, ev_zald, ev_aald, ev_iast, ev_last, ev_bast, ev_zast, ev_aast, ev_gfI, ev_gfL, ev_gfR, ev_pfI, ev_pfZ, ev_pfL, ev_pfR, ev_new, ev_newa, ev_newq, ev_copy, ev_slen, ev_schr, ev_obj, ev_mmin, ev_mabs, ev_mmax, ev_goto, ev_jsr, ev_icmp_eq, ev_if_eq, ev_icmp_ne, ev_if_ne, ev_icmp_lt, ev_if_lt, ev_icmp_ge, ev_if_ge, ev_icmp_gt, ev_if_gt, ev_icmp_le, ev_if_le, ev_ifnull0, ev_ifnull1, ev_ifnn0, ev_ifnn1, ev_tsw, ev_lsw, ev_iret, ev_zret, ev_lret, ev_aret, ev_ret, ev_call0, ev_call1, ev_call2, ev_call3, ev_call4, ev_call5, ev_call6, Option.toList_some, Option.toList_none, List.cons_append, List.nil_append, List.length_cons, List.length_nil, Nat.reduceMod, Nat.reduceDiv, Nat.reduceLeDiff, nc, ↓reduceIte, Nat.zero_le, reduceCtorEq, w32_id, Int.reduceEq, Int.reduceNe, Int.reduceLT, Int.reduceLE, Int.reduceGT, Int.reduceGE, Int.reduceAdd, Int.reduceSub, Int.reduceMul, Int.reduceNeg, ne_eq, not_true_eq_false, not_false_eq_true, eq_self, ↓if_pos, ↓if_neg, w0_r0_3, w0_r0_4, w0_r0_5, w0_r0_6, w0_r0_7, w0_r0_8, w0_r0_10, w0_r0_11, w0_r0_12, w0_r0_13, w0_r0_14, w0_r0_15, w0_r0_16, w0_r0_17, w0_r0_18, J_184_0, k_184_0, J_184_81, k_184_81, J_184_87, k_184_87, J_184_129, k_184_129, J_184_135, k_184_135, J_184_159, k_184_159, k_184_102, e1, e2, q, i5])
    have mj := (mxN_congr (f := gK f i) (g := gK f i) (fun _ _ _ => rfl) (k := 4) (by omega)).2
    have e2 := i1 (mxN (gK f i) 4) mj.1 (by omega)
    have tz := tot_zr (f := gK f i) (mxN (gK f i) 4) mj.1 (by omega)
    have gs : gK f (i + 1) = zr (gK f i) (mxN (gK f i) 4) := rfl
    rw [show mxN (gK f i) 0 = 0 from rfl, show ((0 : Nat) : Int) + 1 = 1 from rfl, show ((4 : Nat) : Int) + 1 = 5 from rfl] at hL
    have gr2 := gr (mxN (gK f i) 4) mj.1 (by omega)
    have tr2 := tot_rng (fun c (c0 : 0 ≤ c) (c1 : c < 5) => gK_rng frr (k := i + 1) c c0 c1)
    rw [gs] at tr2
    refine ⟨[some (vR (some 0)), some (vI row), some (vI (n : Int)), some (vI (tot (gK f (i + 1)))), some (vI ((i : Int) + 1)), some (vI (mxN (gK f i) 4)), some (vI 5)], up M' 80 (mxN (gK f i) 4) 0, ⟨_, _, rfl, fun b hb => by rw [up_ne hb]; exact fr b hb, fun c c0 c1 => ?_⟩, ?_⟩
    · rw [gs]
      by_cases y : c = mxN (gK f i) 4
      · rw [y, up_eq, zr_eq]
      · rw [up_ne2 y, zr_ne y]; exact i1 c c0 c1
    · have te : tot (gK f i) - gK f i (mxN (gK f i) 4) = tot (zr (gK f i) (mxN (gK f i) 4)) := by omega
      rw [gs]
      generalize tot (zr (gK f i) (mxN (gK f i) 4)) = t2 at te tz tr2 ⊢
      generalize tot (gK f i) = tv at *
      generalize gK f i (mxN (gK f i) 4) = v2 at *
      generalize mxN (gK f i) 4 = mv at *
      simp (disch := first | assumption | decide | omega | (simp only [List.length_cons, List.length_nil] <;> omega)) only [lgt_0, lgt_s, lset_0, lset_s, lst1_0, lst1_s, lst2_0, lst2_s, ev_iconst, ev_lconst, ev_ldc, ev_null, ev_iload, ev_lload, ev_aload, ev_istore, ev_lstore, ev_astore, ev_iinc, ev_iadd, ev_isub, ev_imul, ev_iand, ev_ior, ev_ishl, ev_ishr, ev_idiv, ev_irem, ev_ineg, ev_ladd, ev_lsub, ev_lmul, ev_land, ev_lor, ev_ldiv, ev_lrem, ev_lshl, ev_i2l, ev_l2i, ev_i2b, ev_i2s, ev_lcmp, ev_dupI, ev_dupR, ev_dup2, ev_popI, ev_popR, ev_alen, ev_xlen, ev_xald, ev_iald, ev_lald, ev_bald, ev_zald, ev_aald, ev_iast, ev_last, ev_bast, ev_zast, ev_aast, ev_gfI, ev_gfL, ev_gfR, ev_pfI, ev_pfZ, ev_pfL, ev_pfR, ev_new, ev_newa, ev_newq, ev_copy, ev_slen, ev_schr, ev_obj, ev_mmin, ev_mabs, ev_mmax, ev_goto, ev_jsr, ev_icmp_eq, ev_if_eq, ev_icmp_ne, ev_if_ne, ev_icmp_lt, ev_if_lt, ev_icmp_ge, ev_if_ge, ev_icmp_gt, ev_if_gt, ev_icmp_le, ev_if_le, ev_ifnull0, ev_ifnull1, ev_ifnn0, ev_ifnn1, ev_tsw, ev_lsw, ev_iret, ev_zret, ev_lret, ev_aret, ev_ret, ev_call0, ev_call1, ev_call2, ev_call3, ev_call4, ev_call5, ev_call6, Option.toList_some, Option.toList_none, List.cons_append, List.nil_append, List.length_cons, List.length_nil, Nat.reduceMod, Nat.reduceDiv, Nat.reduceLeDiff, nc, ↓reduceIte, Nat.zero_le, reduceCtorEq, w32_id, Int.reduceEq, Int.reduceNe, Int.reduceLT, Int.reduceLE, Int.reduceGT, Int.reduceGE, Int.reduceAdd, Int.reduceSub, Int.reduceMul, Int.reduceNeg, ne_eq, not_true_eq_false, not_false_eq_true, eq_self, ↓if_pos, ↓if_neg, w0_r0_3, w0_r0_4, w0_r0_5, w0_r0_6, w0_r0_7, w0_r0_8, w0_r0_10, w0_r0_11, w0_r0_12, w0_r0_13, w0_r0_14, w0_r0_15, w0_r0_16, w0_r0_17, w0_r0_18, J_184_0, k_184_0, J_184_81, k_184_81, J_184_87, k_184_87, J_184_129, k_184_129, J_184_135, k_184_135, J_184_159, k_184_159, k_184_90, hL]
      simp (disch := first | assumption | decide | omega | (simp only [List.length_cons, List.length_nil] <;> omega)) only [lgt_0, lgt_s, lset_0, lset_s, lst1_0, lst1_s, lst2_0, lst2_s, ev_iconst, ev_lconst, ev_ldc, ev_null, ev_iload, ev_lload, ev_aload, ev_istore, ev_lstore, ev_astore, ev_iinc, ev_iadd, ev_isub, ev_imul, ev_iand, ev_ior, ev_ishl, ev_ishr, ev_idiv, ev_irem, ev_ineg, ev_ladd, ev_lsub, ev_lmul, ev_land, ev_lor, ev_ldiv, ev_lrem, ev_lshl, ev_i2l, ev_l2i, ev_i2b, ev_i2s, ev_lcmp, ev_dupI, ev_dupR, ev_dup2, ev_popI, ev_popR, ev_alen, ev_xlen, ev_xald, ev_iald, ev_lald, ev_bald, ev_zald, ev_aald, ev_iast, ev_last, ev_bast, ev_zast, ev_aast, ev_gfI, ev_gfL, ev_gfR, ev_pfI, ev_pfZ, ev_pfL, ev_pfR, ev_new, ev_newa, ev_newq, ev_copy, ev_slen, ev_schr, ev_obj, ev_mmin, ev_mabs, ev_mmax, ev_goto, ev_jsr, ev_icmp_eq, ev_if_eq, ev_icmp_ne, ev_if_ne, ev_icmp_lt, ev_if_lt, ev_icmp_ge, ev_if_ge, ev_icmp_gt, ev_if_gt, ev_icmp_le, ev_if_le, ev_ifnull0, ev_ifnull1, ev_ifnn0, ev_ifnn1, ev_tsw, ev_lsw, ev_iret, ev_zret, ev_lret, ev_aret, ev_ret, ev_call0, ev_call1, ev_call2, ev_call3, ev_call4, ev_call5, ev_call6, Option.toList_some, Option.toList_none, List.cons_append, List.nil_append, List.length_cons, List.length_nil, Nat.reduceMod, Nat.reduceDiv, Nat.reduceLeDiff, nc, ↓reduceIte, Nat.zero_le, reduceCtorEq, w32_id, Int.reduceEq, Int.reduceNe, Int.reduceLT, Int.reduceLE, Int.reduceGT, Int.reduceGE, Int.reduceAdd, Int.reduceSub, Int.reduceMul, Int.reduceNeg, ne_eq, not_true_eq_false, not_false_eq_true, eq_self, ↓if_pos, ↓if_neg, w0_r0_3, w0_r0_4, w0_r0_5, w0_r0_6, w0_r0_7, w0_r0_8, w0_r0_10, w0_r0_11, w0_r0_12, w0_r0_13, w0_r0_14, w0_r0_15, w0_r0_16, w0_r0_17, w0_r0_18, J_184_0, k_184_0, J_184_81, k_184_81, J_184_87, k_184_87, J_184_129, k_184_129, J_184_135, k_184_135, J_184_159, k_184_159, k_184_102, e2, te]) [some (vR (some 0)), some (vI row), some (vI (n : Int)), some (vI (tot f)), some (vI 0), none, none] M1 ⟨none, none, rfl, fr, i1⟩
  subst hls
  refine ⟨M2, fr2, ?_⟩
  rw [topF_g]
  rw [E_184 k0]
  simp (disch := first | assumption | decide | omega | (simp only [List.length_cons, List.length_nil] <;> omega)) only [lgt_0, lgt_s, lset_0, lset_s, lst1_0, lst1_s, lst2_0, lst2_s, ev_iconst, ev_lconst, ev_ldc, ev_null, ev_iload, ev_lload, ev_aload, ev_istore, ev_lstore, ev_astore, ev_iinc, ev_iadd, ev_isub, ev_imul, ev_iand, ev_ior, ev_ishl, ev_ishr, ev_idiv, ev_irem, ev_ineg, ev_ladd, ev_lsub, ev_lmul, ev_land, ev_lor, ev_ldiv, ev_lrem, ev_lshl, ev_i2l, ev_l2i, ev_i2b, ev_i2s, ev_lcmp, ev_dupI, ev_dupR, ev_dup2, ev_popI, ev_popR, ev_alen, ev_xlen, ev_xald, ev_iald, ev_lald, ev_bald, ev_zald, ev_aald, ev_iast, ev_last, ev_bast, ev_zast, ev_aast, ev_gfI, ev_gfL, ev_gfR, ev_pfI, ev_pfZ, ev_pfL, ev_pfR, ev_new, ev_newa, ev_newq, ev_copy, ev_slen, ev_schr, ev_obj, ev_mmin, ev_mabs, ev_mmax, ev_goto, ev_jsr, ev_icmp_eq, ev_if_eq, ev_icmp_ne, ev_if_ne, ev_icmp_lt, ev_if_lt, ev_icmp_ge, ev_if_ge, ev_icmp_gt, ev_if_gt, ev_icmp_le, ev_if_le, ev_ifnull0, ev_ifnull1, ev_ifnn0, ev_ifnn1, ev_tsw, ev_lsw, ev_iret, ev_zret, ev_lret, ev_aret, ev_ret, ev_call0, ev_call1, ev_call2, ev_call3, ev_call4, ev_call5, ev_call6, Option.toList_some, Option.toList_none, List.cons_append, List.nil_append, List.length_cons, List.length_nil, Nat.reduceMod, Nat.reduceDiv, Nat.reduceLeDiff, nc, ↓reduceIte, Nat.zero_le, reduceCtorEq, w32_id, Int.reduceEq, Int.reduceNe, Int.reduceLT, Int.reduceLE, Int.reduceGT, Int.reduceGE, Int.reduceAdd, Int.reduceSub, Int.reduceMul, Int.reduceNeg, ne_eq, not_true_eq_false, not_false_eq_true, eq_self, ↓if_pos, ↓if_neg, w0_r0_3, w0_r0_4, w0_r0_5, w0_r0_6, w0_r0_7, w0_r0_8, w0_r0_10, w0_r0_11, w0_r0_12, w0_r0_13, w0_r0_14, w0_r0_15, w0_r0_16, w0_r0_17, w0_r0_18, cr0, cr1, cr2, cr3, cr4, cr5, cr6, cr7, J_184_0, k_184_0, J_184_81, k_184_81, J_184_87, k_184_87, J_184_129, k_184_129, J_184_135, k_184_135, J_184_159, k_184_159, ef]
  rw [he]
  have q2 : xn (AA M) ≤ xn (AA M) := Int.le_refl _
  simp (disch := first | assumption | decide | omega | (simp only [List.length_cons, List.length_nil] <;> omega)) only [lgt_0, lgt_s, lset_0, lset_s, lst1_0, lst1_s, lst2_0, lst2_s, ev_iconst, ev_lconst, ev_ldc, ev_null, ev_iload, ev_lload, ev_aload, ev_istore, ev_lstore, ev_astore, ev_iinc, ev_iadd, ev_isub, ev_imul, ev_iand, ev_ior, ev_ishl, ev_ishr, ev_idiv, ev_irem, ev_ineg, ev_ladd, ev_lsub, ev_lmul, ev_land, ev_lor, ev_ldiv, ev_lrem, ev_lshl, ev_i2l, ev_l2i, ev_i2b, ev_i2s, ev_lcmp, ev_dupI, ev_dupR, ev_dup2, ev_popI, ev_popR, ev_alen, ev_xlen, ev_xald, ev_iald, ev_lald, ev_bald, ev_zald, ev_aald, ev_iast, ev_last, ev_bast, ev_zast, ev_aast, ev_gfI, ev_gfL, ev_gfR, ev_pfI, ev_pfZ, ev_pfL, ev_pfR, ev_new, ev_newa, ev_newq, ev_copy, ev_slen, ev_schr, ev_obj, ev_mmin, ev_mabs, ev_mmax, ev_goto, ev_jsr, ev_icmp_eq, ev_if_eq, ev_icmp_ne, ev_if_ne, ev_icmp_lt, ev_if_lt, ev_icmp_ge, ev_if_ge, ev_icmp_gt, ev_if_gt, ev_icmp_le, ev_if_le, ev_ifnull0, ev_ifnull1, ev_ifnn0, ev_ifnn1, ev_tsw, ev_lsw, ev_iret, ev_zret, ev_lret, ev_aret, ev_ret, ev_call0, ev_call1, ev_call2, ev_call3, ev_call4, ev_call5, ev_call6, Option.toList_some, Option.toList_none, List.cons_append, List.nil_append, List.length_cons, List.length_nil, Nat.reduceMod, Nat.reduceDiv, Nat.reduceLeDiff, nc, ↓reduceIte, Nat.zero_le, reduceCtorEq, w32_id, Int.reduceEq, Int.reduceNe, Int.reduceLT, Int.reduceLE, Int.reduceGT, Int.reduceGE, Int.reduceAdd, Int.reduceSub, Int.reduceMul, Int.reduceNeg, ne_eq, not_true_eq_false, not_false_eq_true, eq_self, ↓if_pos, ↓if_neg, w0_r0_3, w0_r0_4, w0_r0_5, w0_r0_6, w0_r0_7, w0_r0_8, w0_r0_10, w0_r0_11, w0_r0_12, w0_r0_13, w0_r0_14, w0_r0_15, w0_r0_16, w0_r0_17, w0_r0_18, cr0, cr1, cr2, cr3, cr4, cr5, cr6, cr7, J_184_0, k_184_0, J_184_81, k_184_81, J_184_87, k_184_87, J_184_129, k_184_129, J_184_135, k_184_135, J_184_159, k_184_159, k_184_13, m8, q2]
  rw [he2]
  have q3 : (n : Int) ≤ n := Int.le_refl _
  simp (disch := first | assumption | decide | omega | (simp only [List.length_cons, List.length_nil] <;> omega)) only [lgt_0, lgt_s, lset_0, lset_s, lst1_0, lst1_s, lst2_0, lst2_s, ev_iconst, ev_lconst, ev_ldc, ev_null, ev_iload, ev_lload, ev_aload, ev_istore, ev_lstore, ev_astore, ev_iinc, ev_iadd, ev_isub, ev_imul, ev_iand, ev_ior, ev_ishl, ev_ishr, ev_idiv, ev_irem, ev_ineg, ev_ladd, ev_lsub, ev_lmul, ev_land, ev_lor, ev_ldiv, ev_lrem, ev_lshl, ev_i2l, ev_l2i, ev_i2b, ev_i2s, ev_lcmp, ev_dupI, ev_dupR, ev_dup2, ev_popI, ev_popR, ev_alen, ev_xlen, ev_xald, ev_iald, ev_lald, ev_bald, ev_zald, ev_aald, ev_iast, ev_last, ev_bast, ev_zast, ev_aast, ev_gfI, ev_gfL, ev_gfR, ev_pfI, ev_pfZ, ev_pfL, ev_pfR, ev_new, ev_newa, ev_newq, ev_copy, ev_slen, ev_schr, ev_obj, ev_mmin, ev_mabs, ev_mmax, ev_goto, ev_jsr, ev_icmp_eq, ev_if_eq, ev_icmp_ne, ev_if_ne, ev_icmp_lt, ev_if_lt, ev_icmp_ge, ev_if_ge, ev_icmp_gt, ev_if_gt, ev_icmp_le, ev_if_le, ev_ifnull0, ev_ifnull1, ev_ifnn0, ev_ifnn1, ev_tsw, ev_lsw, ev_iret, ev_zret, ev_lret, ev_aret, ev_ret, ev_call0, ev_call1, ev_call2, ev_call3, ev_call4, ev_call5, ev_call6, Option.toList_some, Option.toList_none, List.cons_append, List.nil_append, List.length_cons, List.length_nil, Nat.reduceMod, Nat.reduceDiv, Nat.reduceLeDiff, nc, ↓reduceIte, Nat.zero_le, reduceCtorEq, w32_id, Int.reduceEq, Int.reduceNe, Int.reduceLT, Int.reduceLE, Int.reduceGT, Int.reduceGE, Int.reduceAdd, Int.reduceSub, Int.reduceMul, Int.reduceNeg, ne_eq, not_true_eq_false, not_false_eq_true, eq_self, ↓if_pos, ↓if_neg, w0_r0_3, w0_r0_4, w0_r0_5, w0_r0_6, w0_r0_7, w0_r0_8, w0_r0_10, w0_r0_11, w0_r0_12, w0_r0_13, w0_r0_14, w0_r0_15, w0_r0_16, w0_r0_17, w0_r0_18, cr0, cr1, cr2, cr3, cr4, cr5, cr6, cr7, J_184_0, k_184_0, J_184_81, k_184_81, J_184_87, k_184_87, J_184_129, k_184_129, J_184_135, k_184_135, J_184_159, k_184_159, k_184_90, q3]
end MNY
