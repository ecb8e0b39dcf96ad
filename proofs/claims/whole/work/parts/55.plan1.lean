/-! OPERATIONS on the plan: goes, comes, link, unlink, clear. -/
theorem pl_join {L E A L' E' : Int → Int} {i j : Int} (h : PLok L E A) (hn : xn A ≤ 48) (hi : 0 ≤ i) (hij : i < j) (hj : j < xn A) (hw : wyA A i j ≠ 0) (hL : L i = -1) (hE : E j = -1) (h1 : ∀ k, L' k = if k = i then j else L k) (h2 : ∀ k, E' k = if k = j then i else E k) : PLok L' E' A := by
  obtain ⟨a, b, c⟩ := h
  refine ⟨fun k k0 k1 => ?_, fun k k0 k1 => ?_, fun k k0 k1 hk => ?_⟩
  · rw [h1]
    by_cases q : k = i
    · rw [if_pos q, q]; exact Or.inr ⟨hij, hj, hw⟩
    · rw [if_neg q]; exact a k k0 k1
  · rw [h2]
    by_cases q : k = j
    · rw [if_pos q, q, h1, if_pos rfl]; exact Or.inr ⟨hi, hij, rfl⟩
    · rw [if_neg q]
      rcases b k k0 k1 with z | z
      · exact Or.inl z
      · have ne : E k ≠ i := fun e => by rw [e, hL] at z; omega
        rw [h1, if_neg ne]
        exact Or.inr z
  · rw [h1] at hk
    by_cases q : k = i
    · rw [h1, if_pos q, h2, if_pos rfl, q]
    · rw [if_neg q] at hk
      rw [h1, if_neg q]
      have e := c k k0 k1 hk
      have ne : L k ≠ j := fun z => by rw [z, hE] at e; omega
      rw [h2, if_neg ne]
      exact e
theorem pl_part {L E A L' E' : Int → Int} {i : Int} (h : PLok L E A) (hn : xn A ≤ 48) (hi : 0 ≤ i ∧ i < 48) (hL : L i ≠ -1) (h1 : ∀ k, L' k = if k = i then -1 else L k) (h2 : ∀ k, E' k = if k = L i then -1 else E k) : PLok L' E' A := by
  obtain ⟨a, b, c⟩ := h
  have ei := c i hi.1 hi.2 hL
  refine ⟨fun k k0 k1 => ?_, fun k k0 k1 => ?_, fun k k0 k1 hk => ?_⟩
  · rw [h1]
    by_cases q : k = i
    · rw [if_pos q]; exact Or.inl rfl
    · rw [if_neg q]; exact a k k0 k1
  · rw [h2]
    by_cases q : k = L i
    · rw [if_pos q]; exact Or.inl rfl
    · rw [if_neg q]
      rcases b k k0 k1 with z | z
      · exact Or.inl z
      · have ne : E k ≠ i := fun e => by rw [e] at z; omega
        rw [h1, if_neg ne]
        exact Or.inr z
  · rw [h1] at hk
    by_cases q : k = i
    · rw [if_pos q] at hk; exact absurd rfl hk
    · rw [if_neg q] at hk
      rw [h1, if_neg q]
      have e := c k k0 k1 hk
      have ne : L k ≠ L i := fun z => by rw [z, ei] at e; omega
      rw [h2, if_neg ne]
      exact e
theorem pl_empty {L E A : Int → Int} (h1 : ∀ k, 0 ≤ k → k < 48 → L k = -1) (h2 : ∀ k, 0 ≤ k → k < 48 → E k = -1) : PLok L E A :=
  ⟨fun k a b => Or.inl (h1 k a b), fun k a b => Or.inl (h2 k a b), fun k a b hk => absurd (h1 k a b) hk⟩
theorem from_E {L E A : Int → Int} {j : Int} (h : PLok L E A) (hj : 0 ≤ j ∧ j < 48) : firstN (fun k => decide (L k = j)) j.toNat = E j := by
  obtain ⟨a, b, c⟩ := h
  rcases b j hj.1 hj.2 with z | z
  · rw [z]
    refine firstN_no fun k hk => decide_eq_false fun e => ?_
    have := c k (by omega) (by omega) (by omega)
    rw [e, z] at this
    omega
  · have e : ((E j).toNat : Int) = E j := by omega
    rw [← e]
    refine firstN_at (k := (E j).toNat) ?_ (fun k hk => ?_) (by omega)
    · rw [e]; exact decide_eq_true z.2.2
    · refine decide_eq_false fun e2 => ?_
      have := c k (by omega) (by omega) (by omega)
      rw [e2] at this
      omega
section PL1
variable {X : Int → Int} {M : Mem}
theorem rr_p (h : RR' M) : RPl (M (13 + 1)) (M (13 + 2)) (gA (M (140 + 1)) 0) (AA M) := h.2.2.2.2.2.1
theorem G_m (h : RR' M) {i : Int} (h0 : 0 ≤ i) (h1 : i < 48) : M (140 + 1) (80 + i) = M (13 + 1) i := by
  rw [(rr_p h).1 i h0 h1, gA_0 h0 h1]
theorem d_from (h : RR' M) {j : Int} (hj : 0 ≤ j ∧ j < 48) : evc X 284 [vR (some 140), vI j] SH0 M = some (some (vI (M (13 + 2) j)), SH0, M) := by
  rw [m_from w0_md140 (by omega), ← from_E (rr_p h).2 hj]
  have e : firstN (fun k => decide (M (140 + 1) (80 + k) = j)) j.toNat = firstN (fun k => decide (M (13 + 1) k = j)) j.toNat := firstN_congr fun i hi => by rw [G_m h (by omega) (by omega)]
  rw [e]
/-- the plan changes -/
theorem RR_p {M M' : Mem} (h0 : ∀ i, i ≠ 0 → M' 0 i = M 0 i) (h1 : ∀ b, 0 < b → (b < 14 ∨ (15 < b ∧ b < 27) ∨ 45 < b) → (b < 64 ∨ 80 < b) → (b < 140 ∨ (141 < b ∧ b < 147) ∨ b = 149 ∨ b = 150 ∨ b = 160 ∨ b = 166 ∨ b = 167) → M' b = M b) (h2 : ∀ i, i = 3 ∨ i = 4 ∨ i = 10 ∨ i = 16 ∨ i = 17 ∨ i = 21 ∨ i = 41 ∨ i = 54 ∨ i = 55 → M' 140 i = M 140 i)
    (h3 : ∀ k, (k < 80 ∨ 128 ≤ k) → M' (140 + 1) k = M (140 + 1) k) (hp : RPl (M' (13 + 1)) (M' (13 + 2)) (gA (M' (140 + 1)) 0) (AA M)) (r : RR' M) : RR' M' := by
  obtain ⟨r1, r2, r3, r4, r5, r6, r7, r8, r9, r10⟩ := r
  have e1 : cA (M' (140 + 1)) 0 = cA (M (140 + 1)) 0 := cA_c fun k a b => h3 k (by omega)
  have e3 : dA (M' (140 + 1)) 0 = dA (M (140 + 1)) 0 := dA_c fun k a => h3 k (by omega)
  have a2 := h1 (140 + 2) (by omega) (by omega) (by omega) (by omega)
  refine ⟨?_, ?_, ?_, ?_, ?_, ?_, ?_, ?_, ?_, ?_⟩
  · unfold RTb at r1 ⊢
    rw [h0 1 (by omega), h0 2 (by omega), h2 3 (by omega), h2 4 (by omega)]
    exact r1
  · unfold RTr at r2 ⊢
    rw [h1 81 (by omega) (by omega) (by omega) (by omega), h1 82 (by omega) (by omega) (by omega) (by omega), h1 83 (by omega) (by omega) (by omega) (by omega), h1 84 (by omega) (by omega) (by omega) (by omega), h1 85 (by omega) (by omega) (by omega) (by omega), h1 86 (by omega) (by omega) (by omega) (by omega), h1 87 (by omega) (by omega) (by omega) (by omega), h1 88 (by omega) (by omega) (by omega) (by omega), h1 (140 + 3) (by omega) (by omega) (by omega) (by omega), h1 (140 + 4) (by omega) (by omega) (by omega) (by omega), h1 (140 + 5) (by omega) (by omega) (by omega) (by omega)]
    exact r2
  · unfold RTp RX at r3 ⊢
    rw [h1 25 (by omega) (by omega) (by omega) (by omega), h1 26 (by omega) (by omega) (by omega) (by omega), h1 2 (by omega) (by omega) (by omega) (by omega), h1 3 (by omega) (by omega) (by omega) (by omega), h1 (140 + 6) (by omega) (by omega) (by omega) (by omega), h2 10 (by omega), h2 16 (by omega), h2 17 (by omega)]
    exact r3
  · unfold RC at r4 ⊢
    rw [e1, a2]
    exact RC1_c (fun b x y => h1 b (by omega) (by omega) (by omega) (by omega)) r4
  · unfold RN at r5 ⊢
    rw [e1, h1 (140 + 9) (by omega) (by omega) (by omega) (by omega), h1 (140 + 10) (by omega) (by omega) (by omega) (by omega)]
    exact r5
  · unfold RP
    rw [e1]
    exact hp
  · unfold RD at r7 ⊢
    rw [e1, e3, h1 16 (by omega) (by omega) (by omega) (by omega), h1 17 (by omega) (by omega) (by omega) (by omega), h1 18 (by omega) (by omega) (by omega) (by omega), h1 19 (by omega) (by omega) (by omega) (by omega)]
    exact r7
  · unfold RM at r8 ⊢
    rw [h0 9 (by omega), h2 55 (by omega)]
    refine ⟨r8.1, r8.2.1, fun z => RM1_c (fun b x y => h1 b (by omega) (by omega) (by omega) (by omega)) ⟨h1 _ (by omega) (by omega) (by omega) (by omega), h1 _ (by omega) (by omega) (by omega) (by omega)⟩ ⟨h1 _ (by omega) (by omega) (by omega) (by omega), h1 _ (by omega) (by omega) (by omega) (by omega), h1 _ (by omega) (by omega) (by omega) (by omega), h1 _ (by omega) (by omega) (by omega) (by omega)⟩ (fun k _ _ => h3 k (by omega)) (fun k _ _ => by rw [a2]) (r8.2.2.1 z),
      fun z => RM1_c (fun b x y => h1 b (by omega) (by omega) (by omega) (by omega)) ⟨h1 _ (by omega) (by omega) (by omega) (by omega), h1 _ (by omega) (by omega) (by omega) (by omega)⟩ ⟨h1 _ (by omega) (by omega) (by omega) (by omega), h1 _ (by omega) (by omega) (by omega) (by omega), h1 _ (by omega) (by omega) (by omega) (by omega), h1 _ (by omega) (by omega) (by omega) (by omega)⟩ (fun k _ _ => h3 k (by omega)) (fun k _ _ => by rw [a2]) (r8.2.2.2.1 z),
      fun z => RM1_c (fun b x y => h1 b (by omega) (by omega) (by omega) (by omega)) ⟨h1 _ (by omega) (by omega) (by omega) (by omega), h1 _ (by omega) (by omega) (by omega) (by omega)⟩ ⟨h1 _ (by omega) (by omega) (by omega) (by omega), h1 _ (by omega) (by omega) (by omega) (by omega), h1 _ (by omega) (by omega) (by omega) (by omega), h1 _ (by omega) (by omega) (by omega) (by omega)⟩ (fun k _ _ => h3 k (by omega)) (fun k _ _ => by rw [a2]) (r8.2.2.2.2 z)⟩
  · unfold RF at r9 ⊢
    rw [e1, h1 60 (by omega) (by omega) (by omega) (by omega), h1 62 (by omega) (by omega) (by omega) (by omega), h1 63 (by omega) (by omega) (by omega) (by omega), h1 166 (by omega) (by omega) (by omega) (by omega), h1 167 (by omega) (by omega) (by omega) (by omega), h2 54 (by omega), h2 21 (by omega)]
    exact r9
  · unfold RA at r10 ⊢
    rw [e1, h1 46 (by omega) (by omega) (by omega) (by omega), h1 47 (by omega) (by omega) (by omega) (by omega), h1 48 (by omega) (by omega) (by omega) (by omega), h1 49 (by omega) (by omega) (by omega) (by omega), h1 50 (by omega) (by omega) (by omega) (by omega), h1 51 (by omega) (by omega) (by omega) (by omega), h1 (51 + 1) (by omega) (by omega) (by omega) (by omega), h1 (51 + 3) (by omega) (by omega) (by omega) (by omega), h1 (51 + 6) (by omega) (by omega) (by omega) (by omega), h1 (51 + 7) (by omega) (by omega) (by omega) (by omega), h1 (51 + 8) (by omega) (by omega) (by omega) (by omega), h1 160 (by omega) (by omega) (by omega) (by omega), h2 41 (by omega)]
    exact r10
theorem op_goes (h : RR' M) {a : Int} : OP X 119 [vI a] 291 [vI a] M := by
  have k0 := w0_k0; have hc4 := w0_ch4; have hmd := w0_md140; have mk0 := hmd.1; have hc4' := w0_ch4; obtain ⟨ck0, cr0, cr1, cr2, cr3, cr4, cr5, cr6, cr7, ck1, ck2, ck3, ck4, ck5, ck6, ck7, ck8, cl1, cl2, cl3, cl4, cl5, cl6, cl7, cl8⟩ := hc4'
  obtain ⟨pk, pr1, pr2, pk1, pk2, pl1, pl2⟩ := w0_pl13
  have hst := c_hasStitch (X := X) h (i := a)
  have hn := xn_rng h
  by_cases q : 0 ≤ a ∧ a < xn (AA M)
  · rw [if1 q] at hst
    have gm (M1 : Mem) (h1 : RR' M1) (hm : ∀ b, (0 < b ∧ b < 36) ∨ 80 < b → M1 b = M b) : M1 (140 + 1) (80 + a) = M (13 + 1) a := by
      rw [G_m h1 q.1 (by omega), hm (13 + 1) (by omega)]
    by_cases q1 : M (13 + 1) a = -1
    · refine op_ro3 (v := vI (-1)) (st := 6) h ?_ ?_
      · rw [E_119 k0]
        simp (disch := first | assumption | decide | omega | (simp only [List.length_cons, List.length_nil] <;> omega)) only [lgt_0, lgt_s, lset_0, lset_s, lst1_0, lst1_s, lst2_0, lst2_s, ev_iconst, ev_lconst, ev_ldc, ev_null, ev_iload, ev_lload, ev_aload, ev_istore, ev_lstore, ev_astore, ev_iinc, ev_iadd, ev_isub, ev_imul, ev_iand, ev_ior, ev_ishl, ev_ishr, ev_idiv, ev_irem, ev_ineg, ev_ladd, ev_lsub, ev_lmul, ev_land, ev_lor, ev_ldiv, ev_lrem, ev_lshl, ev_i2l, ev_l2i, ev_i2b, ev_i2s, ev_lcmp, ev_dupI, ev_dupR, ev_dup2, ev_popI, ev_popR, ev_alen, ev_xlen, ev_xald, ev_iald, ev_lald, ev_bald, ev_zald, ev_aald, ev_iast, ev_last, ev_bast, ev_zast, ev_aast, ev_gfI, ev_gfL, ev_gfR, ev_pfI, ev_pfZ, ev_pfL, ev_pfR, ev_new, ev_newa, ev_newq, ev_copy, ev_slen, ev_schr, ev_obj, ev_mmin, ev_mabs, ev_mmax, ev_goto, ev_jsr, ev_icmp_eq, ev_if_eq, ev_icmp_ne, ev_if_ne, ev_icmp_lt, ev_if_lt, ev_icmp_ge, ev_if_ge, ev_icmp_gt, ev_if_gt, ev_icmp_le, ev_if_le, ev_ifnull0, ev_ifnull1, ev_ifnn0, ev_ifnn1, ev_tsw, ev_lsw, ev_iret, ev_zret, ev_lret, ev_aret, ev_ret, ev_call0, ev_call1, ev_call2, ev_call3, ev_call4, ev_call5, ev_call6, Option.toList_some, Option.toList_none, List.cons_append, List.nil_append, List.length_cons, List.length_nil, Nat.reduceMod, Nat.reduceDiv, Nat.reduceLeDiff, nc, ↓reduceIte, Nat.zero_le, reduceCtorEq, w32_id, Int.reduceEq, Int.reduceNe, Int.reduceLT, Int.reduceLE, Int.reduceGT, Int.reduceGE, Int.reduceAdd, Int.reduceSub, Int.reduceMul, Int.reduceNeg, ne_eq, not_true_eq_false, not_false_eq_true, eq_self, ↓if_pos, ↓if_neg, w0_r0_3, w0_r0_4, w0_r0_5, w0_r0_6, w0_r0_7, w0_r0_8, w0_r0_10, w0_r0_11, w0_r0_12, w0_r0_13, w0_r0_14, w0_r0_15, w0_r0_16, w0_r0_17, w0_r0_18, cr0, cr1, cr2, cr3, cr4, cr5, cr6, cr7, J_119_0, k_119_0, J_119_17, k_119_17, J_119_39, k_119_39, J_119_52, k_119_52, hst, pr1, q1, s_none]
      · intro M1 h1 hm
        obtain ⟨r_at, k_at, l_at⟩ := md_at w0_md140
        have dd := d_isStitch (X := X) h1 (i := a)
        rw [AA_m hm, if1 q] at dd
        have g := gm M1 h1 hm
        rw [q1] at g
        rw [E_291 mk0]
        simp (disch := first | assumption | decide | omega | (simp only [List.length_cons, List.length_nil] <;> omega)) only [lgt_0, lgt_s, lset_0, lset_s, lst1_0, lst1_s, lst2_0, lst2_s, ev_iconst, ev_lconst, ev_ldc, ev_null, ev_iload, ev_lload, ev_aload, ev_istore, ev_lstore, ev_astore, ev_iinc, ev_iadd, ev_isub, ev_imul, ev_iand, ev_ior, ev_ishl, ev_ishr, ev_idiv, ev_irem, ev_ineg, ev_ladd, ev_lsub, ev_lmul, ev_land, ev_lor, ev_ldiv, ev_lrem, ev_lshl, ev_i2l, ev_l2i, ev_i2b, ev_i2s, ev_lcmp, ev_dupI, ev_dupR, ev_dup2, ev_popI, ev_popR, ev_alen, ev_xlen, ev_xald, ev_iald, ev_lald, ev_bald, ev_zald, ev_aald, ev_iast, ev_last, ev_bast, ev_zast, ev_aast, ev_gfI, ev_gfL, ev_gfR, ev_pfI, ev_pfZ, ev_pfL, ev_pfR, ev_new, ev_newa, ev_newq, ev_copy, ev_slen, ev_schr, ev_obj, ev_mmin, ev_mabs, ev_mmax, ev_goto, ev_jsr, ev_icmp_eq, ev_if_eq, ev_icmp_ne, ev_if_ne, ev_icmp_lt, ev_if_lt, ev_icmp_ge, ev_if_ge, ev_icmp_gt, ev_if_gt, ev_icmp_le, ev_if_le, ev_ifnull0, ev_ifnull1, ev_ifnn0, ev_ifnn1, ev_tsw, ev_lsw, ev_iret, ev_zret, ev_lret, ev_aret, ev_ret, ev_call0, ev_call1, ev_call2, ev_call3, ev_call4, ev_call5, ev_call6, Option.toList_some, Option.toList_none, List.cons_append, List.nil_append, List.length_cons, List.length_nil, Nat.reduceMod, Nat.reduceDiv, Nat.reduceLeDiff, nc, ↓reduceIte, Nat.zero_le, reduceCtorEq, w32_id, Int.reduceEq, Int.reduceNe, Int.reduceLT, Int.reduceLE, Int.reduceGT, Int.reduceGE, Int.reduceAdd, Int.reduceSub, Int.reduceMul, Int.reduceNeg, ne_eq, not_true_eq_false, not_false_eq_true, eq_self, ↓if_pos, ↓if_neg, J_291_0, k_291_0, J_291_17, k_291_17, J_291_39, k_291_39, J_291_52, k_291_52, r_at, dd, g, m_refuse hmd]
    · refine op_ro3 (v := vI (M (13 + 1) a)) (st := 0) h ?_ ?_
      · rw [E_119 k0]
        simp (disch := first | assumption | decide | omega | (simp only [List.length_cons, List.length_nil] <;> omega)) only [lgt_0, lgt_s, lset_0, lset_s, lst1_0, lst1_s, lst2_0, lst2_s, ev_iconst, ev_lconst, ev_ldc, ev_null, ev_iload, ev_lload, ev_aload, ev_istore, ev_lstore, ev_astore, ev_iinc, ev_iadd, ev_isub, ev_imul, ev_iand, ev_ior, ev_ishl, ev_ishr, ev_idiv, ev_irem, ev_ineg, ev_ladd, ev_lsub, ev_lmul, ev_land, ev_lor, ev_ldiv, ev_lrem, ev_lshl, ev_i2l, ev_l2i, ev_i2b, ev_i2s, ev_lcmp, ev_dupI, ev_dupR, ev_dup2, ev_popI, ev_popR, ev_alen, ev_xlen, ev_xald, ev_iald, ev_lald, ev_bald, ev_zald, ev_aald, ev_iast, ev_last, ev_bast, ev_zast, ev_aast, ev_gfI, ev_gfL, ev_gfR, ev_pfI, ev_pfZ, ev_pfL, ev_pfR, ev_new, ev_newa, ev_newq, ev_copy, ev_slen, ev_schr, ev_obj, ev_mmin, ev_mabs, ev_mmax, ev_goto, ev_jsr, ev_icmp_eq, ev_if_eq, ev_icmp_ne, ev_if_ne, ev_icmp_lt, ev_if_lt, ev_icmp_ge, ev_if_ge, ev_icmp_gt, ev_if_gt, ev_icmp_le, ev_if_le, ev_ifnull0, ev_ifnull1, ev_ifnn0, ev_ifnn1, ev_tsw, ev_lsw, ev_iret, ev_zret, ev_lret, ev_aret, ev_ret, ev_call0, ev_call1, ev_call2, ev_call3, ev_call4, ev_call5, ev_call6, Option.toList_some, Option.toList_none, List.cons_append, List.nil_append, List.length_cons, List.length_nil, Nat.reduceMod, Nat.reduceDiv, Nat.reduceLeDiff, nc, ↓reduceIte, Nat.zero_le, reduceCtorEq, w32_id, Int.reduceEq, Int.reduceNe, Int.reduceLT, Int.reduceLE, Int.reduceGT, Int.reduceGE, Int.reduceAdd, Int.reduceSub, Int.reduceMul, Int.reduceNeg, ne_eq, not_true_eq_false, not_false_eq_true, eq_self, ↓if_pos, ↓if_neg, w0_r0_3, w0_r0_4, w0_r0_5, w0_r0_6, w0_r0_7, w0_r0_8, w0_r0_10, w0_r0_11, w0_r0_12, w0_r0_13, w0_r0_14, w0_r0_15, w0_r0_16, w0_r0_17, w0_r0_18, cr0, cr1, cr2, cr3, cr4, cr5, cr6, cr7, J_119_0, k_119_0, J_119_17, k_119_17, J_119_39, k_119_39, J_119_52, k_119_52, hst, pr1, q1, s_answer]
      · intro M1 h1 hm
        obtain ⟨r_at, k_at, l_at⟩ := md_at w0_md140
        have dd := d_isStitch (X := X) h1 (i := a)
        rw [AA_m hm, if1 q] at dd
        have g := gm M1 h1 hm
        rw [E_291 mk0]
        simp (disch := first | assumption | decide | omega | (simp only [List.length_cons, List.length_nil] <;> omega)) only [lgt_0, lgt_s, lset_0, lset_s, lst1_0, lst1_s, lst2_0, lst2_s, ev_iconst, ev_lconst, ev_ldc, ev_null, ev_iload, ev_lload, ev_aload, ev_istore, ev_lstore, ev_astore, ev_iinc, ev_iadd, ev_isub, ev_imul, ev_iand, ev_ior, ev_ishl, ev_ishr, ev_idiv, ev_irem, ev_ineg, ev_ladd, ev_lsub, ev_lmul, ev_land, ev_lor, ev_ldiv, ev_lrem, ev_lshl, ev_i2l, ev_l2i, ev_i2b, ev_i2s, ev_lcmp, ev_dupI, ev_dupR, ev_dup2, ev_popI, ev_popR, ev_alen, ev_xlen, ev_xald, ev_iald, ev_lald, ev_bald, ev_zald, ev_aald, ev_iast, ev_last, ev_bast, ev_zast, ev_aast, ev_gfI, ev_gfL, ev_gfR, ev_pfI, ev_pfZ, ev_pfL, ev_pfR, ev_new, ev_newa, ev_newq, ev_copy, ev_slen, ev_schr, ev_obj, ev_mmin, ev_mabs, ev_mmax, ev_goto, ev_jsr, ev_icmp_eq, ev_if_eq, ev_icmp_ne, ev_if_ne, ev_icmp_lt, ev_if_lt, ev_icmp_ge, ev_if_ge, ev_icmp_gt, ev_if_gt, ev_icmp_le, ev_if_le, ev_ifnull0, ev_ifnull1, ev_ifnn0, ev_ifnn1, ev_tsw, ev_lsw, ev_iret, ev_zret, ev_lret, ev_aret, ev_ret, ev_call0, ev_call1, ev_call2, ev_call3, ev_call4, ev_call5, ev_call6, Option.toList_some, Option.toList_none, List.cons_append, List.nil_append, List.length_cons, List.length_nil, Nat.reduceMod, Nat.reduceDiv, Nat.reduceLeDiff, nc, ↓reduceIte, Nat.zero_le, reduceCtorEq, w32_id, Int.reduceEq, Int.reduceNe, Int.reduceLT, Int.reduceLE, Int.reduceGT, Int.reduceGE, Int.reduceAdd, Int.reduceSub, Int.reduceMul, Int.reduceNeg, ne_eq, not_true_eq_false, not_false_eq_true, eq_self, ↓if_pos, ↓if_neg, J_291_0, k_291_0, J_291_17, k_291_17, J_291_39, k_291_39, J_291_52, k_291_52, r_at, dd, g, q1, m_gives hmd]
  · rw [if0 q] at hst
    refine op_ro3 (v := vI (-1)) (st := 1) h ?_ ?_
    · rw [E_119 k0]
      simp (disch := first | assumption | decide | omega | (simp only [List.length_cons, List.length_nil] <;> omega)) only [lgt_0, lgt_s, lset_0, lset_s, lst1_0, lst1_s, lst2_0, lst2_s, ev_iconst, ev_lconst, ev_ldc, ev_null, ev_iload, ev_lload, ev_aload, ev_istore, ev_lstore, ev_astore, ev_iinc, ev_iadd, ev_isub, ev_imul, ev_iand, ev_ior, ev_ishl, ev_ishr, ev_idiv, ev_irem, ev_ineg, ev_ladd, ev_lsub, ev_lmul, ev_land, ev_lor, ev_ldiv, ev_lrem, ev_lshl, ev_i2l, ev_l2i, ev_i2b, ev_i2s, ev_lcmp, ev_dupI, ev_dupR, ev_dup2, ev_popI, ev_popR, ev_alen, ev_xlen, ev_xald, ev_iald, ev_lald, ev_bald, ev_zald, ev_aald, ev_iast, ev_last, ev_bast, ev_zast, ev_aast, ev_gfI, ev_gfL, ev_gfR, ev_pfI, ev_pfZ, ev_pfL, ev_pfR, ev_new, ev_newa, ev_newq, ev_copy, ev_slen, ev_schr, ev_obj, ev_mmin, ev_mabs, ev_mmax, ev_goto, ev_jsr, ev_icmp_eq, ev_if_eq, ev_icmp_ne, ev_if_ne, ev_icmp_lt, ev_if_lt, ev_icmp_ge, ev_if_ge, ev_icmp_gt, ev_if_gt, ev_icmp_le, ev_if_le, ev_ifnull0, ev_ifnull1, ev_ifnn0, ev_ifnn1, ev_tsw, ev_lsw, ev_iret, ev_zret, ev_lret, ev_aret, ev_ret, ev_call0, ev_call1, ev_call2, ev_call3, ev_call4, ev_call5, ev_call6, Option.toList_some, Option.toList_none, List.cons_append, List.nil_append, List.length_cons, List.length_nil, Nat.reduceMod, Nat.reduceDiv, Nat.reduceLeDiff, nc, ↓reduceIte, Nat.zero_le, reduceCtorEq, w32_id, Int.reduceEq, Int.reduceNe, Int.reduceLT, Int.reduceLE, Int.reduceGT, Int.reduceGE, Int.reduceAdd, Int.reduceSub, Int.reduceMul, Int.reduceNeg, ne_eq, not_true_eq_false, not_false_eq_true, eq_self, ↓if_pos, ↓if_neg, w0_r0_3, w0_r0_4, w0_r0_5, w0_r0_6, w0_r0_7, w0_r0_8, w0_r0_10, w0_r0_11, w0_r0_12, w0_r0_13, w0_r0_14, w0_r0_15, w0_r0_16, w0_r0_17, w0_r0_18, cr0, cr1, cr2, cr3, cr4, cr5, cr6, cr7, J_119_0, k_119_0, J_119_17, k_119_17, J_119_39, k_119_39, J_119_52, k_119_52, hst, s_none]
    · intro M1 h1 hm
      have dd := d_isStitch (X := X) h1 (i := a)
      rw [AA_m hm, if0 q] at dd
      rw [E_291 mk0]
      simp (disch := first | assumption | decide | omega | (simp only [List.length_cons, List.length_nil] <;> omega)) only [lgt_0, lgt_s, lset_0, lset_s, lst1_0, lst1_s, lst2_0, lst2_s, ev_iconst, ev_lconst, ev_ldc, ev_null, ev_iload, ev_lload, ev_aload, ev_istore, ev_lstore, ev_astore, ev_iinc, ev_iadd, ev_isub, ev_imul, ev_iand, ev_ior, ev_ishl, ev_ishr, ev_idiv, ev_irem, ev_ineg, ev_ladd, ev_lsub, ev_lmul, ev_land, ev_lor, ev_ldiv, ev_lrem, ev_lshl, ev_i2l, ev_l2i, ev_i2b, ev_i2s, ev_lcmp, ev_dupI, ev_dupR, ev_dup2, ev_popI, ev_popR, ev_alen, ev_xlen, ev_xald, ev_iald, ev_lald, ev_bald, ev_zald, ev_aald, ev_iast, ev_last, ev_bast, ev_zast, ev_aast, ev_gfI, ev_gfL, ev_gfR, ev_pfI, ev_pfZ, ev_pfL, ev_pfR, ev_new, ev_newa, ev_newq, ev_copy, ev_slen, ev_schr, ev_obj, ev_mmin, ev_mabs, ev_mmax, ev_goto, ev_jsr, ev_icmp_eq, ev_if_eq, ev_icmp_ne, ev_if_ne, ev_icmp_lt, ev_if_lt, ev_icmp_ge, ev_if_ge, ev_icmp_gt, ev_if_gt, ev_icmp_le, ev_if_le, ev_ifnull0, ev_ifnull1, ev_ifnn0, ev_ifnn1, ev_tsw, ev_lsw, ev_iret, ev_zret, ev_lret, ev_aret, ev_ret, ev_call0, ev_call1, ev_call2, ev_call3, ev_call4, ev_call5, ev_call6, Option.toList_some, Option.toList_none, List.cons_append, List.nil_append, List.length_cons, List.length_nil, Nat.reduceMod, Nat.reduceDiv, Nat.reduceLeDiff, nc, ↓reduceIte, Nat.zero_le, reduceCtorEq, w32_id, Int.reduceEq, Int.reduceNe, Int.reduceLT, Int.reduceLE, Int.reduceGT, Int.reduceGE, Int.reduceAdd, Int.reduceSub, Int.reduceMul, Int.reduceNeg, ne_eq, not_true_eq_false, not_false_eq_true, eq_self, ↓if_pos, ↓if_neg, J_291_0, k_291_0, J_291_17, k_291_17, J_291_39, k_291_39, J_291_52, k_291_52, dd, m_refuse hmd]
theorem op_comes (h : RR' M) {a : Int} : OP X 120 [vI a] 292 [vI a] M := by
  have k0 := w0_k0; have hc4 := w0_ch4; have hmd := w0_md140; have mk0 := hmd.1; have hc4' := w0_ch4; obtain ⟨ck0, cr0, cr1, cr2, cr3, cr4, cr5, cr6, cr7, ck1, ck2, ck3, ck4, ck5, ck6, ck7, ck8, cl1, cl2, cl3, cl4, cl5, cl6, cl7, cl8⟩ := hc4'
  obtain ⟨pk, pr1, pr2, pk1, pk2, pl1, pl2⟩ := w0_pl13
  have hst := c_hasStitch (X := X) h (i := a)
  have hn := xn_rng h
  by_cases q : 0 ≤ a ∧ a < xn (AA M)
  · rw [if1 q] at hst
    by_cases q1 : M (13 + 2) a = -1
    · refine op_ro3 (v := vI (-1)) (st := 6) h ?_ ?_
      · rw [E_120 k0]
        simp (disch := first | assumption | decide | omega | (simp only [List.length_cons, List.length_nil] <;> omega)) only [lgt_0, lgt_s, lset_0, lset_s, lst1_0, lst1_s, lst2_0, lst2_s, ev_iconst, ev_lconst, ev_ldc, ev_null, ev_iload, ev_lload, ev_aload, ev_istore, ev_lstore, ev_astore, ev_iinc, ev_iadd, ev_isub, ev_imul, ev_iand, ev_ior, ev_ishl, ev_ishr, ev_idiv, ev_irem, ev_ineg, ev_ladd, ev_lsub, ev_lmul, ev_land, ev_lor, ev_ldiv, ev_lrem, ev_lshl, ev_i2l, ev_l2i, ev_i2b, ev_i2s, ev_lcmp, ev_dupI, ev_dupR, ev_dup2, ev_popI, ev_popR, ev_alen, ev_xlen, ev_xald, ev_iald, ev_lald, ev_bald, ev_zald, ev_aald, ev_iast, ev_last, ev_bast, ev_zast, ev_aast, ev_gfI, ev_gfL, ev_gfR, ev_pfI, ev_pfZ, ev_pfL, ev_pfR, ev_new, ev_newa, ev_newq, ev_copy, ev_slen, ev_schr, ev_obj, ev_mmin, ev_mabs, ev_mmax, ev_goto, ev_jsr, ev_icmp_eq, ev_if_eq, ev_icmp_ne, ev_if_ne, ev_icmp_lt, ev_if_lt, ev_icmp_ge, ev_if_ge, ev_icmp_gt, ev_if_gt, ev_icmp_le, ev_if_le, ev_ifnull0, ev_ifnull1, ev_ifnn0, ev_ifnn1, ev_tsw, ev_lsw, ev_iret, ev_zret, ev_lret, ev_aret, ev_ret, ev_call0, ev_call1, ev_call2, ev_call3, ev_call4, ev_call5, ev_call6, Option.toList_some, Option.toList_none, List.cons_append, List.nil_append, List.length_cons, List.length_nil, Nat.reduceMod, Nat.reduceDiv, Nat.reduceLeDiff, nc, ↓reduceIte, Nat.zero_le, reduceCtorEq, w32_id, Int.reduceEq, Int.reduceNe, Int.reduceLT, Int.reduceLE, Int.reduceGT, Int.reduceGE, Int.reduceAdd, Int.reduceSub, Int.reduceMul, Int.reduceNeg, ne_eq, not_true_eq_false, not_false_eq_true, eq_self, ↓if_pos, ↓if_neg, w0_r0_3, w0_r0_4, w0_r0_5, w0_r0_6, w0_r0_7, w0_r0_8, w0_r0_10, w0_r0_11, w0_r0_12, w0_r0_13, w0_r0_14, w0_r0_15, w0_r0_16, w0_r0_17, w0_r0_18, cr0, cr1, cr2, cr3, cr4, cr5, cr6, cr7, J_120_0, k_120_0, J_120_17, k_120_17, J_120_39, k_120_39, J_120_52, k_120_52, hst, pr2, q1, s_none]
      · intro M1 h1 hm
        have dd := d_isStitch (X := X) h1 (i := a)
        rw [AA_m hm, if1 q] at dd
        have g := d_from (X := X) h1 (j := a) (by omega)
        rw [hm (13 + 2) (by omega), q1] at g
        rw [E_292 mk0]
        simp (disch := first | assumption | decide | omega | (simp only [List.length_cons, List.length_nil] <;> omega)) only [lgt_0, lgt_s, lset_0, lset_s, lst1_0, lst1_s, lst2_0, lst2_s, ev_iconst, ev_lconst, ev_ldc, ev_null, ev_iload, ev_lload, ev_aload, ev_istore, ev_lstore, ev_astore, ev_iinc, ev_iadd, ev_isub, ev_imul, ev_iand, ev_ior, ev_ishl, ev_ishr, ev_idiv, ev_irem, ev_ineg, ev_ladd, ev_lsub, ev_lmul, ev_land, ev_lor, ev_ldiv, ev_lrem, ev_lshl, ev_i2l, ev_l2i, ev_i2b, ev_i2s, ev_lcmp, ev_dupI, ev_dupR, ev_dup2, ev_popI, ev_popR, ev_alen, ev_xlen, ev_xald, ev_iald, ev_lald, ev_bald, ev_zald, ev_aald, ev_iast, ev_last, ev_bast, ev_zast, ev_aast, ev_gfI, ev_gfL, ev_gfR, ev_pfI, ev_pfZ, ev_pfL, ev_pfR, ev_new, ev_newa, ev_newq, ev_copy, ev_slen, ev_schr, ev_obj, ev_mmin, ev_mabs, ev_mmax, ev_goto, ev_jsr, ev_icmp_eq, ev_if_eq, ev_icmp_ne, ev_if_ne, ev_icmp_lt, ev_if_lt, ev_icmp_ge, ev_if_ge, ev_icmp_gt, ev_if_gt, ev_icmp_le, ev_if_le, ev_ifnull0, ev_ifnull1, ev_ifnn0, ev_ifnn1, ev_tsw, ev_lsw, ev_iret, ev_zret, ev_lret, ev_aret, ev_ret, ev_call0, ev_call1, ev_call2, ev_call3, ev_call4, ev_call5, ev_call6, Option.toList_some, Option.toList_none, List.cons_append, List.nil_append, List.length_cons, List.length_nil, Nat.reduceMod, Nat.reduceDiv, Nat.reduceLeDiff, nc, ↓reduceIte, Nat.zero_le, reduceCtorEq, w32_id, Int.reduceEq, Int.reduceNe, Int.reduceLT, Int.reduceLE, Int.reduceGT, Int.reduceGE, Int.reduceAdd, Int.reduceSub, Int.reduceMul, Int.reduceNeg, ne_eq, not_true_eq_false, not_false_eq_true, eq_self, ↓if_pos, ↓if_neg, J_292_0, k_292_0, J_292_17, k_292_17, J_292_35, k_292_35, J_292_44, k_292_44, dd, g, m_refuse hmd]
    · refine op_ro3 (v := vI (M (13 + 2) a)) (st := 0) h ?_ ?_
      · rw [E_120 k0]
        simp (disch := first | assumption | decide | omega | (simp only [List.length_cons, List.length_nil] <;> omega)) only [lgt_0, lgt_s, lset_0, lset_s, lst1_0, lst1_s, lst2_0, lst2_s, ev_iconst, ev_lconst, ev_ldc, ev_null, ev_iload, ev_lload, ev_aload, ev_istore, ev_lstore, ev_astore, ev_iinc, ev_iadd, ev_isub, ev_imul, ev_iand, ev_ior, ev_ishl, ev_ishr, ev_idiv, ev_irem, ev_ineg, ev_ladd, ev_lsub, ev_lmul, ev_land, ev_lor, ev_ldiv, ev_lrem, ev_lshl, ev_i2l, ev_l2i, ev_i2b, ev_i2s, ev_lcmp, ev_dupI, ev_dupR, ev_dup2, ev_popI, ev_popR, ev_alen, ev_xlen, ev_xald, ev_iald, ev_lald, ev_bald, ev_zald, ev_aald, ev_iast, ev_last, ev_bast, ev_zast, ev_aast, ev_gfI, ev_gfL, ev_gfR, ev_pfI, ev_pfZ, ev_pfL, ev_pfR, ev_new, ev_newa, ev_newq, ev_copy, ev_slen, ev_schr, ev_obj, ev_mmin, ev_mabs, ev_mmax, ev_goto, ev_jsr, ev_icmp_eq, ev_if_eq, ev_icmp_ne, ev_if_ne, ev_icmp_lt, ev_if_lt, ev_icmp_ge, ev_if_ge, ev_icmp_gt, ev_if_gt, ev_icmp_le, ev_if_le, ev_ifnull0, ev_ifnull1, ev_ifnn0, ev_ifnn1, ev_tsw, ev_lsw, ev_iret, ev_zret, ev_lret, ev_aret, ev_ret, ev_call0, ev_call1, ev_call2, ev_call3, ev_call4, ev_call5, ev_call6, Option.toList_some, Option.toList_none, List.cons_append, List.nil_append, List.length_cons, List.length_nil, Nat.reduceMod, Nat.reduceDiv, Nat.reduceLeDiff, nc, ↓reduceIte, Nat.zero_le, reduceCtorEq, w32_id, Int.reduceEq, Int.reduceNe, Int.reduceLT, Int.reduceLE, Int.reduceGT, Int.reduceGE, Int.reduceAdd, Int.reduceSub, Int.reduceMul, Int.reduceNeg, ne_eq, not_true_eq_false, not_false_eq_true, eq_self, ↓if_pos, ↓if_neg, w0_r0_3, w0_r0_4, w0_r0_5, w0_r0_6, w0_r0_7, w0_r0_8, w0_r0_10, w0_r0_11, w0_r0_12, w0_r0_13, w0_r0_14, w0_r0_15, w0_r0_16, w0_r0_17, w0_r0_18, cr0, cr1, cr2, cr3, cr4, cr5, cr6, cr7, J_120_0, k_120_0, J_120_17, k_120_17, J_120_39, k_120_39, J_120_52, k_120_52, hst, pr2, q1, s_answer]
      · intro M1 h1 hm
        have dd := d_isStitch (X := X) h1 (i := a)
        rw [AA_m hm, if1 q] at dd
        have g := d_from (X := X) h1 (j := a) (by omega)
        rw [hm (13 + 2) (by omega)] at g
        rw [E_292 mk0]
        simp (disch := first | assumption | decide | omega | (simp only [List.length_cons, List.length_nil] <;> omega)) only [lgt_0, lgt_s, lset_0, lset_s, lst1_0, lst1_s, lst2_0, lst2_s, ev_iconst, ev_lconst, ev_ldc, ev_null, ev_iload, ev_lload, ev_aload, ev_istore, ev_lstore, ev_astore, ev_iinc, ev_iadd, ev_isub, ev_imul, ev_iand, ev_ior, ev_ishl, ev_ishr, ev_idiv, ev_irem, ev_ineg, ev_ladd, ev_lsub, ev_lmul, ev_land, ev_lor, ev_ldiv, ev_lrem, ev_lshl, ev_i2l, ev_l2i, ev_i2b, ev_i2s, ev_lcmp, ev_dupI, ev_dupR, ev_dup2, ev_popI, ev_popR, ev_alen, ev_xlen, ev_xald, ev_iald, ev_lald, ev_bald, ev_zald, ev_aald, ev_iast, ev_last, ev_bast, ev_zast, ev_aast, ev_gfI, ev_gfL, ev_gfR, ev_pfI, ev_pfZ, ev_pfL, ev_pfR, ev_new, ev_newa, ev_newq, ev_copy, ev_slen, ev_schr, ev_obj, ev_mmin, ev_mabs, ev_mmax, ev_goto, ev_jsr, ev_icmp_eq, ev_if_eq, ev_icmp_ne, ev_if_ne, ev_icmp_lt, ev_if_lt, ev_icmp_ge, ev_if_ge, ev_icmp_gt, ev_if_gt, ev_icmp_le, ev_if_le, ev_ifnull0, ev_ifnull1, ev_ifnn0, ev_ifnn1, ev_tsw, ev_lsw, ev_iret, ev_zret, ev_lret, ev_aret, ev_ret, ev_call0, ev_call1, ev_call2, ev_call3, ev_call4, ev_call5, ev_call6, Option.toList_some, Option.toList_none, List.cons_append, List.nil_append, List.length_cons, List.length_nil, Nat.reduceMod, Nat.reduceDiv, Nat.reduceLeDiff, nc, ↓reduceIte, Nat.zero_le, reduceCtorEq, w32_id, Int.reduceEq, Int.reduceNe, Int.reduceLT, Int.reduceLE, Int.reduceGT, Int.reduceGE, Int.reduceAdd, Int.reduceSub, Int.reduceMul, Int.reduceNeg, ne_eq, not_true_eq_false, not_false_eq_true, eq_self, ↓if_pos, ↓if_neg, J_292_0, k_292_0, J_292_17, k_292_17, J_292_35, k_292_35, J_292_44, k_292_44, dd, g, q1, m_gives hmd]
  · rw [if0 q] at hst
    refine op_ro3 (v := vI (-1)) (st := 1) h ?_ ?_
    · rw [E_120 k0]
      simp (disch := first | assumption | decide | omega | (simp only [List.length_cons, List.length_nil] <;> omega)) only [lgt_0, lgt_s, lset_0, lset_s, lst1_0, lst1_s, lst2_0, lst2_s, ev_iconst, ev_lconst, ev_ldc, ev_null, ev_iload, ev_lload, ev_aload, ev_istore, ev_lstore, ev_astore, ev_iinc, ev_iadd, ev_isub, ev_imul, ev_iand, ev_ior, ev_ishl, ev_ishr, ev_idiv, ev_irem, ev_ineg, ev_ladd, ev_lsub, ev_lmul, ev_land, ev_lor, ev_ldiv, ev_lrem, ev_lshl, ev_i2l, ev_l2i, ev_i2b, ev_i2s, ev_lcmp, ev_dupI, ev_dupR, ev_dup2, ev_popI, ev_popR, ev_alen, ev_xlen, ev_xald, ev_iald, ev_lald, ev_bald, ev_zald, ev_aald, ev_iast, ev_last, ev_bast, ev_zast, ev_aast, ev_gfI, ev_gfL, ev_gfR, ev_pfI, ev_pfZ, ev_pfL, ev_pfR, ev_new, ev_newa, ev_newq, ev_copy, ev_slen, ev_schr, ev_obj, ev_mmin, ev_mabs, ev_mmax, ev_goto, ev_jsr, ev_icmp_eq, ev_if_eq, ev_icmp_ne, ev_if_ne, ev_icmp_lt, ev_if_lt, ev_icmp_ge, ev_if_ge, ev_icmp_gt, ev_if_gt, ev_icmp_le, ev_if_le, ev_ifnull0, ev_ifnull1, ev_ifnn0, ev_ifnn1, ev_tsw, ev_lsw, ev_iret, ev_zret, ev_lret, ev_aret, ev_ret, ev_call0, ev_call1, ev_call2, ev_call3, ev_call4, ev_call5, ev_call6, Option.toList_some, Option.toList_none, List.cons_append, List.nil_append, List.length_cons, List.length_nil, Nat.reduceMod, Nat.reduceDiv, Nat.reduceLeDiff, nc, ↓reduceIte, Nat.zero_le, reduceCtorEq, w32_id, Int.reduceEq, Int.reduceNe, Int.reduceLT, Int.reduceLE, Int.reduceGT, Int.reduceGE, Int.reduceAdd, Int.reduceSub, Int.reduceMul, Int.reduceNeg, ne_eq, not_true_eq_false, not_false_eq_true, eq_self, ↓if_pos, ↓if_neg, w0_r0_3, w0_r0_4, w0_r0_5, w0_r0_6, w0_r0_7, w0_r0_8, w0_r0_10, w0_r0_11, w0_r0_12, w0_r0_13, w0_r0_14, w0_r0_15, w0_r0_16, w0_r0_17, w0_r0_18, cr0, cr1, cr2, cr3, cr4, cr5, cr6, cr7, J_120_0, k_120_0, J_120_17, k_120_17, J_120_39, k_120_39, J_120_52, k_120_52, hst, s_none]
    · intro M1 h1 hm
      have dd := d_isStitch (X := X) h1 (i := a)
      rw [AA_m hm, if0 q] at dd
      rw [E_292 mk0]
      simp (disch := first | assumption | decide | omega | (simp only [List.length_cons, List.length_nil] <;> omega)) only [lgt_0, lgt_s, lset_0, lset_s, lst1_0, lst1_s, lst2_0, lst2_s, ev_iconst, ev_lconst, ev_ldc, ev_null, ev_iload, ev_lload, ev_aload, ev_istore, ev_lstore, ev_astore, ev_iinc, ev_iadd, ev_isub, ev_imul, ev_iand, ev_ior, ev_ishl, ev_ishr, ev_idiv, ev_irem, ev_ineg, ev_ladd, ev_lsub, ev_lmul, ev_land, ev_lor, ev_ldiv, ev_lrem, ev_lshl, ev_i2l, ev_l2i, ev_i2b, ev_i2s, ev_lcmp, ev_dupI, ev_dupR, ev_dup2, ev_popI, ev_popR, ev_alen, ev_xlen, ev_xald, ev_iald, ev_lald, ev_bald, ev_zald, ev_aald, ev_iast, ev_last, ev_bast, ev_zast, ev_aast, ev_gfI, ev_gfL, ev_gfR, ev_pfI, ev_pfZ, ev_pfL, ev_pfR, ev_new, ev_newa, ev_newq, ev_copy, ev_slen, ev_schr, ev_obj, ev_mmin, ev_mabs, ev_mmax, ev_goto, ev_jsr, ev_icmp_eq, ev_if_eq, ev_icmp_ne, ev_if_ne, ev_icmp_lt, ev_if_lt, ev_icmp_ge, ev_if_ge, ev_icmp_gt, ev_if_gt, ev_icmp_le, ev_if_le, ev_ifnull0, ev_ifnull1, ev_ifnn0, ev_ifnn1, ev_tsw, ev_lsw, ev_iret, ev_zret, ev_lret, ev_aret, ev_ret, ev_call0, ev_call1, ev_call2, ev_call3, ev_call4, ev_call5, ev_call6, Option.toList_some, Option.toList_none, List.cons_append, List.nil_append, List.length_cons, List.length_nil, Nat.reduceMod, Nat.reduceDiv, Nat.reduceLeDiff, nc, ↓reduceIte, Nat.zero_le, reduceCtorEq, w32_id, Int.reduceEq, Int.reduceNe, Int.reduceLT, Int.reduceLE, Int.reduceGT, Int.reduceGE, Int.reduceAdd, Int.reduceSub, Int.reduceMul, Int.reduceNeg, ne_eq, not_true_eq_false, not_false_eq_true, eq_self, ↓if_pos, ↓if_neg, J_292_0, k_292_0, J_292_17, k_292_17, J_292_35, k_292_35, J_292_44, k_292_44, dd, m_refuse hmd]
end PL1
