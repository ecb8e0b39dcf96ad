/-! OPERATIONS: fill. -/
abbrev cnd (A : Int → Int) (p : LE) (j i : Int) : Prop := p.1 i = -1 ∧ wyA A i j ≠ 0 ∧ prA A i j < 2 * A 3
def isC (A : Int → Int) (p : LE) (j lo k b : Int) : Prop := (b = -1 ∧ ∀ i, lo ≤ i → i < k → ¬ cnd A p j i) ∨ ((lo ≤ b ∧ b < k) ∧ cnd A p j b ∧ ∀ i, lo ≤ i → i < k → cnd A p j i → prA A b j ≤ prA A i j ∧ (b < i → prA A b j < prA A i j))
def cheM (A : Int → Int) (p : LE) (j : Int) : Nat → Int
  | 0 => -1
  | i + 1 => if cnd A p j i then (if cheM A p j i = -1 ∨ prA A i j ≤ prA A (cheM A p j i) j then (i : Int) else cheM A p j i) else cheM A p j i
theorem cheM_is {A : Int → Int} {p : LE} {j : Int} : ∀ {k : Nat}, isC A p j 0 k (cheM A p j k)
  | 0 => Or.inl ⟨rfl, fun i a b => by omega⟩
  | k + 1 => by
    have ih := cheM_is (A := A) (p := p) (j := j) (k := k)
    show isC A p j 0 ((k + 1 : Nat) : Int) (if cnd A p j k then (if cheM A p j k = -1 ∨ prA A k j ≤ prA A (cheM A p j k) j then (k : Int) else cheM A p j k) else cheM A p j k)
    by_cases q : cnd A p j k
    · rw [if_pos q]
      by_cases q1 : cheM A p j k = -1 ∨ prA A k j ≤ prA A (cheM A p j k) j
      · rw [if_pos q1]
        refine Or.inr ⟨by omega, q, fun i a b c => ?_⟩
        by_cases z : i = k
        · subst z; exact ⟨Int.le_refl _, fun w => absurd w (Int.lt_irrefl _)⟩
        · rcases ih with ⟨e, f⟩ | ⟨e, f, g⟩
          · exact absurd c (f i a (by omega))
          · have g2 := g i a (by omega) c
            have q2 := q1.resolve_left (by omega)
            exact ⟨by omega, fun w => by omega⟩
      · rw [if_neg q1]
        rcases ih with ⟨e, f⟩ | ⟨e, f, g⟩
        · exact absurd (Or.inl e) q1
        · refine Or.inr ⟨by omega, f, fun i a b c => ?_⟩
          by_cases z : i = k
          · subst z
            have : ¬ prA A k j ≤ prA A (cheM A p j k) j := fun w => q1 (Or.inr w)
            exact ⟨by omega, fun _ => by omega⟩
          · exact g i a (by omega) c
    · rw [if_neg q]
      rcases ih with ⟨e, f⟩ | ⟨e, f, g⟩
      · refine Or.inl ⟨e, fun i a b => ?_⟩
        by_cases z : i = k
        · subst z; exact q
        · exact f i a (by omega)
      · refine Or.inr ⟨by omega, f, fun i a b c => ?_⟩
        by_cases z : i = k
        · subst z; exact absurd c q
        · exact g i a (by omega) c
theorem isC_uniq {A : Int → Int} {p : LE} {j k b b' : Int} (h0 : isC A p j 0 k b) (h1 : isC A p j 0 k b') : b = b' := by
  rcases h0 with ⟨e, f⟩ | ⟨e, f, g⟩
  · rcases h1 with ⟨e', f'⟩ | ⟨e', f', g'⟩
    · omega
    · exact absurd f' (f b' e'.1 e'.2)
  · rcases h1 with ⟨e', f'⟩ | ⟨e', f', g'⟩
    · exact absurd f (f' b e.1 e.2)
    · have a1 := g b' e'.1 e'.2 f'
      have a2 := g' b e.1 e.2 f
      rcases Int.lt_trichotomy b b' with z | z | z
      · have := a1.2 z; omega
      · exact z
      · have := a2.2 z; omega
def flF (A : Int → Int) (p : LE) : Nat → LE × Int
  | 0 => (p, 0)
  | j + 1 => if (flF A p j).1.2 j = -1 ∧ cheM A (flF A p j).1 j j ≠ -1 then (jn (flF A p j).1 (cheM A (flF A p j).1 j j) j, (flF A p j).2 + 1) else flF A p j
theorem flF_s {A : Int → Int} {p : LE} {j : Nat} : flF A p (j + 1) = if (flF A p j).1.2 j = -1 ∧ cheM A (flF A p j).1 j j ≠ -1 then (jn (flF A p j).1 (cheM A (flF A p j).1 j j) j, (flF A p j).2 + 1) else flF A p j := rfl
theorem flF_ok {A : Int → Int} {p : LE} (h : PLok p.1 p.2 A) (hn : xn A ≤ 48) : ∀ {j : Nat}, (j : Int) ≤ xn A → PLok (flF A p j).1.1 (flF A p j).1.2 A ∧ 0 ≤ (flF A p j).2 ∧ (flF A p j).2 ≤ j
  | 0, _ => ⟨h, Int.le_refl _, Int.le_refl _⟩
  | j + 1, hj => by
    have ih := flF_ok h hn (j := j) (by omega)
    rw [flF_s]
    by_cases q : (flF A p j).1.2 j = -1 ∧ cheM A (flF A p j).1 j j ≠ -1
    · rw [if_pos q]
      rcases cheM_is (A := A) (p := (flF A p j).1) (j := j) (k := j) with ⟨e, f⟩ | ⟨e, f, g⟩
      · exact absurd e q.2
      · exact ⟨jn_ok ih.1 hn e.1 e.2 (by omega) f.2.1 f.1 q.1, by show 0 ≤ (flF A p j).2 + 1; omega, by show (flF A p j).2 + 1 ≤ _; omega⟩
    · rw [if_neg q]
      exact ⟨ih.1, ih.2.1, by omega⟩
section FIL
variable {X : Int → Int} {M M' : Mem} {A : Int → Int}
theorem k_cheapest {p : LE} (kv : KV M A) (hp : cP M p) {j : Int} (h0 : 0 ≤ j) (h1 : j < xn A) : evc X 205 [vR (some 13), vR (some 4), vI j] SH0 M = some (some (vI (cheM A p j j.toNat)), SH0, M) := by
  obtain ⟨pk, pr1, pr2, pk1, pk2, pl1', pl2'⟩ := w0_pl13
  have hc4 := w0_ch4
  obtain ⟨ck0, cr0, cr1, cr2, cr3, cr4, cr5, cr6, cr7, ck1, ck2, ck3, ck4, ck5, ck6, ck7, ck8, cl1, cl2, cl3, cl4, cl5, cl6, cl7, cl8⟩ := hc4
  have n := (k_gWY kv).1.2.1
  have s3 := k_S kv (i := 3) (by omega) (by omega)
  have g3 := (k_gWY kv).1.1.2.2.2.1
  have e14 := hp.1
  have key := ev_while (X := X) (y := 205) (Sh := SH0) (fun m ls M' => M' = M ∧ ∃ i b l : Int, ls = [some (vR (some 13)), some (vR (some 4)), some (vI j), some (vI b), some (vI l), some (vI i)] ∧ (-1 ≤ i ∧ i < j) ∧ isC A p j (i + 1) j b ∧ (b = -1 ∧ l = 2 * A 3 ∨ 0 ≤ b ∧ l = prA A b j) ∧ m = (i + 1).toNat)
    (fun o => o = some (some (vI (cheM A p j j.toNat)), SH0, M)) J_205_17 (fun m ls M' hI => by
    obtain ⟨hM, i, b, l, hls, hi, hb, hl, hm⟩ := hI
    subst hM hls
    by_cases z : i < 0
    · refine Or.inr ?_
      have z1 : i = -1 := by omega
      have cm := cheM_is (A := A) (p := p) (j := j) (k := j.toNat)
      rw [show ((j.toNat : Nat) : Int) = j from by omega] at cm
      rw [z1] at hb
      rw [isC_uniq cm hb]
      simp (disch := first | assumption | decide | omega | (simp only [List.length_cons, List.length_nil] <;> omega)) only [lgt_0, lgt_s, lset_0, lset_s, lst1_0, lst1_s, lst2_0, lst2_s, ev_iconst, ev_lconst, ev_ldc, ev_null, ev_iload, ev_lload, ev_aload, ev_istore, ev_lstore, ev_astore, ev_iinc, ev_iadd, ev_isub, ev_imul, ev_iand, ev_ior, ev_ishl, ev_ishr, ev_idiv, ev_irem, ev_ineg, ev_ladd, ev_lsub, ev_lmul, ev_land, ev_lor, ev_ldiv, ev_lrem, ev_lshl, ev_i2l, ev_l2i, ev_i2b, ev_i2s, ev_lcmp, ev_dupI, ev_dupR, ev_dup2, ev_popI, ev_popR, ev_alen, ev_xlen, ev_xald, ev_iald, ev_lald, ev_bald, ev_zald, ev_aald, ev_iast, ev_last, ev_bast, ev_zast, ev_aast, ev_gfI, ev_gfL, ev_gfR, ev_pfI, ev_pfZ, ev_pfL, ev_pfR, ev_new, ev_newa, ev_newq, ev_copy, ev_slen, ev_schr, ev_obj, ev_mmin, ev_mabs, ev_mmax, ev_goto, ev_jsr, ev_icmp_eq, ev_if_eq, ev_icmp_ne, ev_if_ne, ev_icmp_lt, ev_if_lt, ev_icmp_ge, ev_if_ge, ev_icmp_gt, ev_if_gt, ev_icmp_le, ev_if_le, ev_ifnull0, ev_ifnull1, ev_ifnn0, ev_ifnn1, ev_tsw, ev_lsw, ev_iret, ev_zret, ev_lret, ev_aret, ev_ret, ev_call0, ev_call1, ev_call2, ev_call3, ev_call4, ev_call5, ev_call6, Option.toList_some, Option.toList_none, List.cons_append, List.nil_append, List.length_cons, List.length_nil, Nat.reduceMod, Nat.reduceDiv, Nat.reduceLeDiff, nc, ↓reduceIte, Nat.zero_le, reduceCtorEq, w32_id, Int.reduceEq, Int.reduceNe, Int.reduceLT, Int.reduceLE, Int.reduceGT, Int.reduceGE, Int.reduceAdd, Int.reduceSub, Int.reduceMul, Int.reduceNeg, ne_eq, not_true_eq_false, not_false_eq_true, eq_self, ↓if_pos, ↓if_neg, J_205_0, k_205_0, J_205_67, k_205_67, J_205_73, k_205_73, k_205_17]
    · have ei : i + -1 = i - 1 := by omega
      have ew := k_way (X := X) kv (i := i) (j := j) (i32_s (by omega) (by omega)) (i32_s (by omega) (by omega))
      have ep := k_price (X := X) kv (i := i) (j := j) (i32_s (by omega) (by omega)) (i32_s (by omega) (by omega))
      have pr := prA_rng (k_gWY kv) (i := i) (j := j)
      have hl2 : l ≤ 2 * A 3 := by
        rcases hb with ⟨e, f⟩ | ⟨e, f, g⟩
        · omega
        · rcases hl with w | w
          · omega
          · have := f.2.2; omega
      have no : ¬ cnd A p j i → isC A p j (i - 1 + 1) j b := fun nc => by
        rcases hb with ⟨e, f⟩ | ⟨e, f, g⟩
        · refine Or.inl ⟨e, fun k a c => ?_⟩
          by_cases y : k = i
          · rw [y]; exact nc
          · exact f k (by omega) c
        · refine Or.inr ⟨by omega, f, fun k a c d => ?_⟩
          by_cases y : k = i
          · rw [y] at d; exact absurd d nc
          · exact g k (by omega) c d
      by_cases q1 : p.1 i = -1
      · by_cases q2 : wyA A i j = 0
        · rw [q2] at ew
          refine Or.inl ⟨_, _, M', ?_, ⟨rfl, i - 1, b, l, rfl, by omega, no (fun w => w.2.1 q2), hl, rfl⟩, ?_⟩
          · omega
          · simp (disch := first | assumption | decide | omega | (simp only [List.length_cons, List.length_nil] <;> omega)) only [lgt_0, lgt_s, lset_0, lset_s, lst1_0, lst1_s, lst2_0, lst2_s, ev_iconst, ev_lconst, ev_ldc, ev_null, ev_iload, ev_lload, ev_aload, ev_istore, ev_lstore, ev_astore, ev_iinc, ev_iadd, ev_isub, ev_imul, ev_iand, ev_ior, ev_ishl, ev_ishr, ev_idiv, ev_irem, ev_ineg, ev_ladd, ev_lsub, ev_lmul, ev_land, ev_lor, ev_ldiv, ev_lrem, ev_lshl, ev_i2l, ev_l2i, ev_i2b, ev_i2s, ev_lcmp, ev_dupI, ev_dupR, ev_dup2, ev_popI, ev_popR, ev_alen, ev_xlen, ev_xald, ev_iald, ev_lald, ev_bald, ev_zald, ev_aald, ev_iast, ev_last, ev_bast, ev_zast, ev_aast, ev_gfI, ev_gfL, ev_gfR, ev_pfI, ev_pfZ, ev_pfL, ev_pfR, ev_new, ev_newa, ev_newq, ev_copy, ev_slen, ev_schr, ev_obj, ev_mmin, ev_mabs, ev_mmax, ev_goto, ev_jsr, ev_icmp_eq, ev_if_eq, ev_icmp_ne, ev_if_ne, ev_icmp_lt, ev_if_lt, ev_icmp_ge, ev_if_ge, ev_icmp_gt, ev_if_gt, ev_icmp_le, ev_if_le, ev_ifnull0, ev_ifnull1, ev_ifnn0, ev_ifnn1, ev_tsw, ev_lsw, ev_iret, ev_zret, ev_lret, ev_aret, ev_ret, ev_call0, ev_call1, ev_call2, ev_call3, ev_call4, ev_call5, ev_call6, Option.toList_some, Option.toList_none, List.cons_append, List.nil_append, List.length_cons, List.length_nil, Nat.reduceMod, Nat.reduceDiv, Nat.reduceLeDiff, nc, ↓reduceIte, Nat.zero_le, reduceCtorEq, w32_id, Int.reduceEq, Int.reduceNe, Int.reduceLT, Int.reduceLE, Int.reduceGT, Int.reduceGE, Int.reduceAdd, Int.reduceSub, Int.reduceMul, Int.reduceNeg, ne_eq, not_true_eq_false, not_false_eq_true, eq_self, ↓if_pos, ↓if_neg, J_205_0, k_205_0, J_205_67, k_205_67, J_205_73, k_205_73, k_205_17, ei, pr1, e14, q1, ew]
        · by_cases q3 : prA A i j < l
          · refine Or.inl ⟨_, _, M', ?_, ⟨rfl, i - 1, i, prA A i j, rfl, by omega, Or.inr ⟨by omega, ⟨q1, q2, by omega⟩, fun k a c d => ?_⟩, Or.inr ⟨by omega, rfl⟩, rfl⟩, ?_⟩
            · omega
            · by_cases y : k = i
              · rw [y]; exact ⟨Int.le_refl _, fun w => absurd w (Int.lt_irrefl _)⟩
              · rcases hb with ⟨e, f⟩ | ⟨e, f, g⟩
                · exact absurd d (f k (by omega) c)
                · have := g k (by omega) c d
                  rcases hl with w | w
                  · omega
                  · exact ⟨by omega, fun _ => by omega⟩
            · generalize prA A i j = pv at ep pr q3 ⊢
              generalize wyA A i j = wv at ew q2
              simp (disch := first | assumption | decide | omega | (simp only [List.length_cons, List.length_nil] <;> omega)) only [lgt_0, lgt_s, lset_0, lset_s, lst1_0, lst1_s, lst2_0, lst2_s, ev_iconst, ev_lconst, ev_ldc, ev_null, ev_iload, ev_lload, ev_aload, ev_istore, ev_lstore, ev_astore, ev_iinc, ev_iadd, ev_isub, ev_imul, ev_iand, ev_ior, ev_ishl, ev_ishr, ev_idiv, ev_irem, ev_ineg, ev_ladd, ev_lsub, ev_lmul, ev_land, ev_lor, ev_ldiv, ev_lrem, ev_lshl, ev_i2l, ev_l2i, ev_i2b, ev_i2s, ev_lcmp, ev_dupI, ev_dupR, ev_dup2, ev_popI, ev_popR, ev_alen, ev_xlen, ev_xald, ev_iald, ev_lald, ev_bald, ev_zald, ev_aald, ev_iast, ev_last, ev_bast, ev_zast, ev_aast, ev_gfI, ev_gfL, ev_gfR, ev_pfI, ev_pfZ, ev_pfL, ev_pfR, ev_new, ev_newa, ev_newq, ev_copy, ev_slen, ev_schr, ev_obj, ev_mmin, ev_mabs, ev_mmax, ev_goto, ev_jsr, ev_icmp_eq, ev_if_eq, ev_icmp_ne, ev_if_ne, ev_icmp_lt, ev_if_lt, ev_icmp_ge, ev_if_ge, ev_icmp_gt, ev_if_gt, ev_icmp_le, ev_if_le, ev_ifnull0, ev_ifnull1, ev_ifnn0, ev_ifnn1, ev_tsw, ev_lsw, ev_iret, ev_zret, ev_lret, ev_aret, ev_ret, ev_call0, ev_call1, ev_call2, ev_call3, ev_call4, ev_call5, ev_call6, Option.toList_some, Option.toList_none, List.cons_append, List.nil_append, List.length_cons, List.length_nil, Nat.reduceMod, Nat.reduceDiv, Nat.reduceLeDiff, nc, ↓reduceIte, Nat.zero_le, reduceCtorEq, w32_id, Int.reduceEq, Int.reduceNe, Int.reduceLT, Int.reduceLE, Int.reduceGT, Int.reduceGE, Int.reduceAdd, Int.reduceSub, Int.reduceMul, Int.reduceNeg, ne_eq, not_true_eq_false, not_false_eq_true, eq_self, ↓if_pos, ↓if_neg, J_205_0, k_205_0, J_205_67, k_205_67, J_205_73, k_205_73, k_205_17, ei, pr1, e14, q1, ew, q2, ep, q3]
          · refine Or.inl ⟨_, _, M', ?_, ⟨rfl, i - 1, b, l, rfl, by omega, ?_, hl, rfl⟩, ?_⟩
            · omega
            · rcases hb with ⟨e, f⟩ | ⟨e, f, g⟩
              · exact no (fun w => by have := w.2.2; omega)
              · refine Or.inr ⟨by omega, f, fun k a c d => ?_⟩
                by_cases y : k = i
                · rw [y]
                  rcases hl with w | w
                  · omega
                  · exact ⟨by omega, fun _ => by omega⟩
                · exact g k (by omega) c d
            · generalize prA A i j = pv at ep pr q3 ⊢
              generalize wyA A i j = wv at ew q2
              simp (disch := first | assumption | decide | omega | (simp only [List.length_cons, List.length_nil] <;> omega)) only [lgt_0, lgt_s, lset_0, lset_s, lst1_0, lst1_s, lst2_0, lst2_s, ev_iconst, ev_lconst, ev_ldc, ev_null, ev_iload, ev_lload, ev_aload, ev_istore, ev_lstore, ev_astore, ev_iinc, ev_iadd, ev_isub, ev_imul, ev_iand, ev_ior, ev_ishl, ev_ishr, ev_idiv, ev_irem, ev_ineg, ev_ladd, ev_lsub, ev_lmul, ev_land, ev_lor, ev_ldiv, ev_lrem, ev_lshl, ev_i2l, ev_l2i, ev_i2b, ev_i2s, ev_lcmp, ev_dupI, ev_dupR, ev_dup2, ev_popI, ev_popR, ev_alen, ev_xlen, ev_xald, ev_iald, ev_lald, ev_bald, ev_zald, ev_aald, ev_iast, ev_last, ev_bast, ev_zast, ev_aast, ev_gfI, ev_gfL, ev_gfR, ev_pfI, ev_pfZ, ev_pfL, ev_pfR, ev_new, ev_newa, ev_newq, ev_copy, ev_slen, ev_schr, ev_obj, ev_mmin, ev_mabs, ev_mmax, ev_goto, ev_jsr, ev_icmp_eq, ev_if_eq, ev_icmp_ne, ev_if_ne, ev_icmp_lt, ev_if_lt, ev_icmp_ge, ev_if_ge, ev_icmp_gt, ev_if_gt, ev_icmp_le, ev_if_le, ev_ifnull0, ev_ifnull1, ev_ifnn0, ev_ifnn1, ev_tsw, ev_lsw, ev_iret, ev_zret, ev_lret, ev_aret, ev_ret, ev_call0, ev_call1, ev_call2, ev_call3, ev_call4, ev_call5, ev_call6, Option.toList_some, Option.toList_none, List.cons_append, List.nil_append, List.length_cons, List.length_nil, Nat.reduceMod, Nat.reduceDiv, Nat.reduceLeDiff, nc, ↓reduceIte, Nat.zero_le, reduceCtorEq, w32_id, Int.reduceEq, Int.reduceNe, Int.reduceLT, Int.reduceLE, Int.reduceGT, Int.reduceGE, Int.reduceAdd, Int.reduceSub, Int.reduceMul, Int.reduceNeg, ne_eq, not_true_eq_false, not_false_eq_true, eq_self, ↓if_pos, ↓if_neg, J_205_0, k_205_0, J_205_67, k_205_67, J_205_73, k_205_73, k_205_17, ei, pr1, e14, q1, ew, q2, ep, q3]
      · refine Or.inl ⟨_, _, M', ?_, ⟨rfl, i - 1, b, l, rfl, by omega, no (fun w => q1 w.1), hl, rfl⟩, ?_⟩
        · omega
        · simp (disch := first | assumption | decide | omega | (simp only [List.length_cons, List.length_nil] <;> omega)) only [lgt_0, lgt_s, lset_0, lset_s, lst1_0, lst1_s, lst2_0, lst2_s, ev_iconst, ev_lconst, ev_ldc, ev_null, ev_iload, ev_lload, ev_aload, ev_istore, ev_lstore, ev_astore, ev_iinc, ev_iadd, ev_isub, ev_imul, ev_iand, ev_ior, ev_ishl, ev_ishr, ev_idiv, ev_irem, ev_ineg, ev_ladd, ev_lsub, ev_lmul, ev_land, ev_lor, ev_ldiv, ev_lrem, ev_lshl, ev_i2l, ev_l2i, ev_i2b, ev_i2s, ev_lcmp, ev_dupI, ev_dupR, ev_dup2, ev_popI, ev_popR, ev_alen, ev_xlen, ev_xald, ev_iald, ev_lald, ev_bald, ev_zald, ev_aald, ev_iast, ev_last, ev_bast, ev_zast, ev_aast, ev_gfI, ev_gfL, ev_gfR, ev_pfI, ev_pfZ, ev_pfL, ev_pfR, ev_new, ev_newa, ev_newq, ev_copy, ev_slen, ev_schr, ev_obj, ev_mmin, ev_mabs, ev_mmax, ev_goto, ev_jsr, ev_icmp_eq, ev_if_eq, ev_icmp_ne, ev_if_ne, ev_icmp_lt, ev_if_lt, ev_icmp_ge, ev_if_ge, ev_icmp_gt, ev_if_gt, ev_icmp_le, ev_if_le, ev_ifnull0, ev_ifnull1, ev_ifnn0, ev_ifnn1, ev_tsw, ev_lsw, ev_iret, ev_zret, ev_lret, ev_aret, ev_ret, ev_call0, ev_call1, ev_call2, ev_call3, ev_call4, ev_call5, ev_call6, Option.toList_some, Option.toList_none, List.cons_append, List.nil_append, List.length_cons, List.length_nil, Nat.reduceMod, Nat.reduceDiv, Nat.reduceLeDiff, nc, ↓reduceIte, Nat.zero_le, reduceCtorEq, w32_id, Int.reduceEq, Int.reduceNe, Int.reduceLT, Int.reduceLE, Int.reduceGT, Int.reduceGE, Int.reduceAdd, Int.reduceSub, Int.reduceMul, Int.reduceNeg, ne_eq, not_true_eq_false, not_false_eq_true, eq_self, ↓if_pos, ↓if_neg, J_205_0, k_205_0, J_205_67, k_205_67, J_205_73, k_205_73, k_205_17, ei, pr1, e14, q1]) _ [some (vR (some 13)), some (vR (some 4)), some (vI j), some (vI (-1)), some (vI (2 * A 3)), some (vI (j - 1))] M ⟨rfl, j - 1, -1, 2 * A 3, rfl, by omega, Or.inl ⟨rfl, fun i a b => by omega⟩, Or.inl ⟨rfl, rfl⟩, rfl⟩
  rw [E_205 pk]
  simp (disch := first | assumption | decide | omega | (simp only [List.length_cons, List.length_nil] <;> omega)) only [lgt_0, lgt_s, lset_0, lset_s, lst1_0, lst1_s, lst2_0, lst2_s, ev_iconst, ev_lconst, ev_ldc, ev_null, ev_iload, ev_lload, ev_aload, ev_istore, ev_lstore, ev_astore, ev_iinc, ev_iadd, ev_isub, ev_imul, ev_iand, ev_ior, ev_ishl, ev_ishr, ev_idiv, ev_irem, ev_ineg, ev_ladd, ev_lsub, ev_lmul, ev_land, ev_lor, ev_ldiv, ev_lrem, ev_lshl, ev_i2l, ev_l2i, ev_i2b, ev_i2s, ev_lcmp, ev_dupI, ev_dupR, ev_dup2, ev_popI, ev_popR, ev_alen, ev_xlen, ev_xald, ev_iald, ev_lald, ev_bald, ev_zald, ev_aald, ev_iast, ev_last, ev_bast, ev_zast, ev_aast, ev_gfI, ev_gfL, ev_gfR, ev_pfI, ev_pfZ, ev_pfL, ev_pfR, ev_new, ev_newa, ev_newq, ev_copy, ev_slen, ev_schr, ev_obj, ev_mmin, ev_mabs, ev_mmax, ev_goto, ev_jsr, ev_icmp_eq, ev_if_eq, ev_icmp_ne, ev_if_ne, ev_icmp_lt, ev_if_lt, ev_icmp_ge, ev_if_ge, ev_icmp_gt, ev_if_gt, ev_icmp_le, ev_if_le, ev_ifnull0, ev_ifnull1, ev_ifnn0, ev_ifnn1, ev_tsw, ev_lsw, ev_iret, ev_zret, ev_lret, ev_aret, ev_ret, ev_call0, ev_call1, ev_call2, ev_call3, ev_call4, ev_call5, ev_call6, Option.toList_some, Option.toList_none, List.cons_append, List.nil_append, List.length_cons, List.length_nil, Nat.reduceMod, Nat.reduceDiv, Nat.reduceLeDiff, nc, ↓reduceIte, Nat.zero_le, reduceCtorEq, w32_id, Int.reduceEq, Int.reduceNe, Int.reduceLT, Int.reduceLE, Int.reduceGT, Int.reduceGE, Int.reduceAdd, Int.reduceSub, Int.reduceMul, Int.reduceNeg, ne_eq, not_true_eq_false, not_false_eq_true, eq_self, ↓if_pos, ↓if_neg, J_205_0, k_205_0, J_205_67, k_205_67, J_205_73, k_205_73, cr0, cr1, cr2, cr3, cr4, cr5, cr6, cr7, s3]
  exact key
theorem k_fillUp {NM : Int → Int} {p : LE} (r : RC1 M 4 A NM) (hp : cP M p) (hl : PLok p.1 p.2 A) : ∃ M', (∀ b, b ≠ 13 + 1 → b ≠ 13 + 2 → M' b = M b) ∧ cP M' (flF A p (xn A).toNat).1 ∧ evc X 204 [vR (some 13), vR (some 4)] SH0 M = some (some (vI (flF A p (xn A).toNat).2), SH0, M') := by
  obtain ⟨pk, pr1, pr2, pk1, pk2, pl1', pl2'⟩ := w0_pl13
  have ck := w0_k4
  have n := (k_gWY (kv_of r hp hl)).1.2.1
  have rf : ∀ M' : Mem, (∀ b, b ≠ 13 + 1 → b ≠ 13 + 2 → M' b = M b) → RC1 M' 4 A NM := fun M' f => RC1_c (fun b x y => f b (by omega) (by omega)) r
  have n8 := k_n (kv_of r hp hl)
  obtain ⟨ls', M2, ⟨z4, hls, fr, hp2⟩, he⟩ := ev_for (X := X) (y := 204) (Sh := SH0) (fun i ls M' => ∃ z4, ls = [some (vR (some 13)), some (vR (some 4)), some (vI (flF A p i).2), some (vI (i : Int)), z4] ∧ (∀ b, b ≠ 13 + 1 → b ≠ 13 + 2 → M' b = M b) ∧ cP M' (flF A p i).1) J_204_4 (xn A).toNat (fun j hj ls M' hI => by
    obtain ⟨z4, hls, fr, hp2⟩ := hI
    subst hls
    have m8 : M' 4 8 = xn A := by rw [fr 4 (by omega) (by omega)]; exact n8
    obtain ⟨okI, c0, c1⟩ := flF_ok hl n.2 (j := j) (by omega)
    have es := flF_s (A := A) (p := p) (j := j)
    have kv := kv_of (rf M' fr) hp2 okI
    have ec := k_cheapest (X := X) kv hp2 (j := (j : Int)) (by omega) (by omega)
    rw [Int.toNat_natCast] at ec
    have ci := cheM_is (A := A) (p := (flF A p j).1) (j := (j : Int)) (k := j)
    have e15 := congrFun hp2.2 (j : Int)
    by_cases q : (flF A p j).1.2 j = -1
    · rw [q] at e15
      by_cases q1 : cheM A (flF A p j).1 j j = -1
      · rw [if_neg (fun w => w.2 q1)] at es
        refine ⟨_, M', ⟨some (vI (-1)), rfl, fr, by rw [es]; exact hp2⟩, ?_⟩
        rw [es]
        rw [q1] at ec
        generalize (flF A p j).2 = cm at c0 c1 ⊢
        simp (disch := first | assumption | decide | omega | (simp only [List.length_cons, List.length_nil] <;> omega)) only [lgt_0, lgt_s, lset_0, lset_s, lst1_0, lst1_s, lst2_0, lst2_s, ev_iconst, ev_lconst, ev_ldc, ev_null, ev_iload, ev_lload, ev_aload, ev_istore, ev_lstore, ev_astore, ev_iinc, ev_iadd, ev_isub, ev_imul, ev_iand, ev_ior, ev_ishl, ev_ishr, ev_idiv, ev_irem, ev_ineg, ev_ladd, ev_lsub, ev_lmul, ev_land, ev_lor, ev_ldiv, ev_lrem, ev_lshl, ev_i2l, ev_l2i, ev_i2b, ev_i2s, ev_lcmp, ev_dupI, ev_dupR, ev_dup2, ev_popI, ev_popR, ev_alen, ev_xlen, ev_xald, ev_iald, ev_lald, ev_bald, ev_zald, ev_aald, ev_iast, ev_last, ev_bast, ev_zast, ev_aast, ev_gfI, ev_gfL, ev_gfR, ev_pfI, ev_pfZ, ev_pfL, ev_pfR, ev_new, ev_newa, ev_newq, ev_copy, ev_slen, ev_schr, ev_obj, ev_mmin, ev_mabs, ev_mmax, ev_goto, ev_jsr, ev_icmp_eq, ev_if_eq, ev_icmp_ne, ev_if_ne, ev_icmp_lt, ev_if_lt, ev_icmp_ge, ev_if_ge, ev_icmp_gt, ev_if_gt, ev_icmp_le, ev_if_le, ev_ifnull0, ev_ifnull1, ev_ifnn0, ev_ifnn1, ev_tsw, ev_lsw, ev_iret, ev_zret, ev_lret, ev_aret, ev_ret, ev_call0, ev_call1, ev_call2, ev_call3, ev_call4, ev_call5, ev_call6, Option.toList_some, Option.toList_none, List.cons_append, List.nil_append, List.length_cons, List.length_nil, Nat.reduceMod, Nat.reduceDiv, Nat.reduceLeDiff, nc, ↓reduceIte, Nat.zero_le, reduceCtorEq, w32_id, Int.reduceEq, Int.reduceNe, Int.reduceLT, Int.reduceLE, Int.reduceGT, Int.reduceGE, Int.reduceAdd, Int.reduceSub, Int.reduceMul, Int.reduceNeg, ne_eq, not_true_eq_false, not_false_eq_true, eq_self, ↓if_pos, ↓if_neg, J_204_0, k_204_0, J_204_31, k_204_31, J_204_32, k_204_32, J_204_50, k_204_50, J_204_56, k_204_56, k_204_4, m8, pr2, e15, ec, nc_s]
      · rw [if_pos ⟨q, q1⟩] at es
        have cr := (ci.resolve_left (fun w => q1 w.1)).1
        have ej := s_join (X := X) (M := M') w0_pl13 (i := cheM A (flF A p j).1 j j) (j := (j : Int))
        rw [if_pos (by omega)] at ej
        refine ⟨_, up (up M' (13 + 1) (cheM A (flF A p j).1 j j) j) (13 + 2) j (cheM A (flF A p j).1 j j), ⟨some (vI (cheM A (flF A p j).1 j j)), rfl, fun b b1 b2 => by rw [up_ne b2, up_ne b1]; exact fr b b1 b2, by rw [es]; exact cP_join hp2⟩, ?_⟩
        rw [es]
        generalize cheM A (flF A p j).1 j j = cv at ec ej q1 ⊢
        generalize (flF A p j).2 = cm at c0 c1 ⊢
        simp (disch := first | assumption | decide | omega | (simp only [List.length_cons, List.length_nil] <;> omega)) only [lgt_0, lgt_s, lset_0, lset_s, lst1_0, lst1_s, lst2_0, lst2_s, ev_iconst, ev_lconst, ev_ldc, ev_null, ev_iload, ev_lload, ev_aload, ev_istore, ev_lstore, ev_astore, ev_iinc, ev_iadd, ev_isub, ev_imul, ev_iand, ev_ior, ev_ishl, ev_ishr, ev_idiv, ev_irem, ev_ineg, ev_ladd, ev_lsub, ev_lmul, ev_land, ev_lor, ev_ldiv, ev_lrem, ev_lshl, ev_i2l, ev_l2i, ev_i2b, ev_i2s, ev_lcmp, ev_dupI, ev_dupR, ev_dup2, ev_popI, ev_popR, ev_alen, ev_xlen, ev_xald, ev_iald, ev_lald, ev_bald, ev_zald, ev_aald, ev_iast, ev_last, ev_bast, ev_zast, ev_aast, ev_gfI, ev_gfL, ev_gfR, ev_pfI, ev_pfZ, ev_pfL, ev_pfR, ev_new, ev_newa, ev_newq, ev_copy, ev_slen, ev_schr, ev_obj, ev_mmin, ev_mabs, ev_mmax, ev_goto, ev_jsr, ev_icmp_eq, ev_if_eq, ev_icmp_ne, ev_if_ne, ev_icmp_lt, ev_if_lt, ev_icmp_ge, ev_if_ge, ev_icmp_gt, ev_if_gt, ev_icmp_le, ev_if_le, ev_ifnull0, ev_ifnull1, ev_ifnn0, ev_ifnn1, ev_tsw, ev_lsw, ev_iret, ev_zret, ev_lret, ev_aret, ev_ret, ev_call0, ev_call1, ev_call2, ev_call3, ev_call4, ev_call5, ev_call6, Option.toList_some, Option.toList_none, List.cons_append, List.nil_append, List.length_cons, List.length_nil, Nat.reduceMod, Nat.reduceDiv, Nat.reduceLeDiff, nc, ↓reduceIte, Nat.zero_le, reduceCtorEq, w32_id, Int.reduceEq, Int.reduceNe, Int.reduceLT, Int.reduceLE, Int.reduceGT, Int.reduceGE, Int.reduceAdd, Int.reduceSub, Int.reduceMul, Int.reduceNeg, ne_eq, not_true_eq_false, not_false_eq_true, eq_self, ↓if_pos, ↓if_neg, J_204_0, k_204_0, J_204_31, k_204_31, J_204_32, k_204_32, J_204_50, k_204_50, J_204_56, k_204_56, k_204_4, m8, pr2, e15, ec, q1, ej, nc_s]
    · rw [if_neg (fun w => q w.1)] at es
      refine ⟨_, M', ⟨some (vI (-1)), rfl, fr, by rw [es]; exact hp2⟩, ?_⟩
      rw [es]
      generalize (flF A p j).2 = cm at c0 c1 ⊢
      simp (disch := first | assumption | decide | omega | (simp only [List.length_cons, List.length_nil] <;> omega)) only [lgt_0, lgt_s, lset_0, lset_s, lst1_0, lst1_s, lst2_0, lst2_s, ev_iconst, ev_lconst, ev_ldc, ev_null, ev_iload, ev_lload, ev_aload, ev_istore, ev_lstore, ev_astore, ev_iinc, ev_iadd, ev_isub, ev_imul, ev_iand, ev_ior, ev_ishl, ev_ishr, ev_idiv, ev_irem, ev_ineg, ev_ladd, ev_lsub, ev_lmul, ev_land, ev_lor, ev_ldiv, ev_lrem, ev_lshl, ev_i2l, ev_l2i, ev_i2b, ev_i2s, ev_lcmp, ev_dupI, ev_dupR, ev_dup2, ev_popI, ev_popR, ev_alen, ev_xlen, ev_xald, ev_iald, ev_lald, ev_bald, ev_zald, ev_aald, ev_iast, ev_last, ev_bast, ev_zast, ev_aast, ev_gfI, ev_gfL, ev_gfR, ev_pfI, ev_pfZ, ev_pfL, ev_pfR, ev_new, ev_newa, ev_newq, ev_copy, ev_slen, ev_schr, ev_obj, ev_mmin, ev_mabs, ev_mmax, ev_goto, ev_jsr, ev_icmp_eq, ev_if_eq, ev_icmp_ne, ev_if_ne, ev_icmp_lt, ev_if_lt, ev_icmp_ge, ev_if_ge, ev_icmp_gt, ev_if_gt, ev_icmp_le, ev_if_le, ev_ifnull0, ev_ifnull1, ev_ifnn0, ev_ifnn1, ev_tsw, ev_lsw, ev_iret, ev_zret, ev_lret, ev_aret, ev_ret, ev_call0, ev_call1, ev_call2, ev_call3, ev_call4, ev_call5, ev_call6, Option.toList_some, Option.toList_none, List.cons_append, List.nil_append, List.length_cons, List.length_nil, Nat.reduceMod, Nat.reduceDiv, Nat.reduceLeDiff, nc, ↓reduceIte, Nat.zero_le, reduceCtorEq, w32_id, Int.reduceEq, Int.reduceNe, Int.reduceLT, Int.reduceLE, Int.reduceGT, Int.reduceGE, Int.reduceAdd, Int.reduceSub, Int.reduceMul, Int.reduceNeg, ne_eq, not_true_eq_false, not_false_eq_true, eq_self, ↓if_pos, ↓if_neg, J_204_0, k_204_0, J_204_31, k_204_31, J_204_32, k_204_32, J_204_50, k_204_50, J_204_56, k_204_56, k_204_4, m8, pr2, e15, q, nc_s]) [some (vR (some 13)), some (vR (some 4)), some (vI 0), some (vI 0), none] M ⟨none, rfl, fun _ _ _ => rfl, hp⟩
  subst hls
  have e : (((xn A).toNat : Nat) : Int) = xn A := by omega
  rw [e] at he
  have m8 : M2 4 8 = xn A := by rw [fr 4 (by omega) (by omega)]; exact n8
  refine ⟨M2, fr, hp2, ?_⟩
  rw [E_204 pk]
  simp (disch := first | assumption | decide | omega | (simp only [List.length_cons, List.length_nil] <;> omega)) only [lgt_0, lgt_s, lset_0, lset_s, lst1_0, lst1_s, lst2_0, lst2_s, ev_iconst, ev_lconst, ev_ldc, ev_null, ev_iload, ev_lload, ev_aload, ev_istore, ev_lstore, ev_astore, ev_iinc, ev_iadd, ev_isub, ev_imul, ev_iand, ev_ior, ev_ishl, ev_ishr, ev_idiv, ev_irem, ev_ineg, ev_ladd, ev_lsub, ev_lmul, ev_land, ev_lor, ev_ldiv, ev_lrem, ev_lshl, ev_i2l, ev_l2i, ev_i2b, ev_i2s, ev_lcmp, ev_dupI, ev_dupR, ev_dup2, ev_popI, ev_popR, ev_alen, ev_xlen, ev_xald, ev_iald, ev_lald, ev_bald, ev_zald, ev_aald, ev_iast, ev_last, ev_bast, ev_zast, ev_aast, ev_gfI, ev_gfL, ev_gfR, ev_pfI, ev_pfZ, ev_pfL, ev_pfR, ev_new, ev_newa, ev_newq, ev_copy, ev_slen, ev_schr, ev_obj, ev_mmin, ev_mabs, ev_mmax, ev_goto, ev_jsr, ev_icmp_eq, ev_if_eq, ev_icmp_ne, ev_if_ne, ev_icmp_lt, ev_if_lt, ev_icmp_ge, ev_if_ge, ev_icmp_gt, ev_if_gt, ev_icmp_le, ev_if_le, ev_ifnull0, ev_ifnull1, ev_ifnn0, ev_ifnn1, ev_tsw, ev_lsw, ev_iret, ev_zret, ev_lret, ev_aret, ev_ret, ev_call0, ev_call1, ev_call2, ev_call3, ev_call4, ev_call5, ev_call6, Option.toList_some, Option.toList_none, List.cons_append, List.nil_append, List.length_cons, List.length_nil, Nat.reduceMod, Nat.reduceDiv, Nat.reduceLeDiff, nc, ↓reduceIte, Nat.zero_le, reduceCtorEq, w32_id, Int.reduceEq, Int.reduceNe, Int.reduceLT, Int.reduceLE, Int.reduceGT, Int.reduceGE, Int.reduceAdd, Int.reduceSub, Int.reduceMul, Int.reduceNeg, ne_eq, not_true_eq_false, not_false_eq_true, eq_self, ↓if_pos, ↓if_neg, J_204_0, k_204_0, J_204_31, k_204_31, J_204_32, k_204_32, J_204_50, k_204_50, J_204_56, k_204_56, ]
  rw [he]
  have q2 : xn A ≤ xn A := Int.le_refl _
  simp (disch := first | assumption | decide | omega | (simp only [List.length_cons, List.length_nil] <;> omega)) only [lgt_0, lgt_s, lset_0, lset_s, lst1_0, lst1_s, lst2_0, lst2_s, ev_iconst, ev_lconst, ev_ldc, ev_null, ev_iload, ev_lload, ev_aload, ev_istore, ev_lstore, ev_astore, ev_iinc, ev_iadd, ev_isub, ev_imul, ev_iand, ev_ior, ev_ishl, ev_ishr, ev_idiv, ev_irem, ev_ineg, ev_ladd, ev_lsub, ev_lmul, ev_land, ev_lor, ev_ldiv, ev_lrem, ev_lshl, ev_i2l, ev_l2i, ev_i2b, ev_i2s, ev_lcmp, ev_dupI, ev_dupR, ev_dup2, ev_popI, ev_popR, ev_alen, ev_xlen, ev_xald, ev_iald, ev_lald, ev_bald, ev_zald, ev_aald, ev_iast, ev_last, ev_bast, ev_zast, ev_aast, ev_gfI, ev_gfL, ev_gfR, ev_pfI, ev_pfZ, ev_pfL, ev_pfR, ev_new, ev_newa, ev_newq, ev_copy, ev_slen, ev_schr, ev_obj, ev_mmin, ev_mabs, ev_mmax, ev_goto, ev_jsr, ev_icmp_eq, ev_if_eq, ev_icmp_ne, ev_if_ne, ev_icmp_lt, ev_if_lt, ev_icmp_ge, ev_if_ge, ev_icmp_gt, ev_if_gt, ev_icmp_le, ev_if_le, ev_ifnull0, ev_ifnull1, ev_ifnn0, ev_ifnn1, ev_tsw, ev_lsw, ev_iret, ev_zret, ev_lret, ev_aret, ev_ret, ev_call0, ev_call1, ev_call2, ev_call3, ev_call4, ev_call5, ev_call6, Option.toList_some, Option.toList_none, List.cons_append, List.nil_append, List.length_cons, List.length_nil, Nat.reduceMod, Nat.reduceDiv, Nat.reduceLeDiff, nc, ↓reduceIte, Nat.zero_le, reduceCtorEq, w32_id, Int.reduceEq, Int.reduceNe, Int.reduceLT, Int.reduceLE, Int.reduceGT, Int.reduceGE, Int.reduceAdd, Int.reduceSub, Int.reduceMul, Int.reduceNeg, ne_eq, not_true_eq_false, not_false_eq_true, eq_self, ↓if_pos, ↓if_neg, J_204_0, k_204_0, J_204_31, k_204_31, J_204_32, k_204_32, J_204_50, k_204_50, J_204_56, k_204_56, k_204_4, m8, q2]
theorem m_fill {p : LE} (hq : mP M A p) : ∃ M', (∀ b, b ≠ 140 + 1 → M' b = M b) ∧ (∀ k, (k < 80 ∨ 128 ≤ k) → M' (140 + 1) k = M (140 + 1) k) ∧ mP M' A (flF A p (xn A).toNat).1 ∧ evc X 355 [vR (some 140)] SH0 M = some (some (vI (flF A p (xn A).toNat).2), SH0, up M' 140 2 0) := by
  have hmd := w0_md140
  have mk0 := w0_k140
  obtain ⟨r_at, k_at, l_at⟩ := md_at w0_md140
  have n := v_n hq
  obtain ⟨ls', M2, ⟨z3, z4, hls, fr, g, hp2⟩, he⟩ := ev_for (X := X) (y := 355) (Sh := SH0) (fun i ls M' => ∃ z3 z4, ls = [some (vR (some 140)), some (vI (flF A p i).2), some (vI (i : Int)), z3, z4] ∧ (∀ b, b ≠ 140 + 1 → M' b = M b) ∧ (∀ k, (k < 80 ∨ 128 ≤ k) → M' (140 + 1) k = M (140 + 1) k) ∧ mP M' A (flF A p i).1) J_355_4 (xn A).toNat (fun j hj ls M' hI => by
    obtain ⟨z3, z4, hls, fr, g, hp2⟩ := hI
    subst hls
    have em := v_many (X := X) hp2
    have ef := v_from (X := X) hp2 (j := (j : Int)) (by omega)
    obtain ⟨okI, c0, c1⟩ := flF_ok hq.2.2.2.2 n.2 (j := j) (by omega)
    have es := flF_s (A := A) (p := p) (j := j)
    have ci := cheM_is (A := A) (p := (flF A p j).1) (j := (j : Int)) (k := j)
    have s3 := hp2.1 3 (by omega) (by omega)
    have g3 := hp2.2.2.1.1.1.2.2.2.1
    by_cases q : (flF A p j).1.2 j = -1
    · rw [q] at ef
      -- the cheapest
      have inner : ∀ cm : Int, ∃ z4', ev X 355 (jmp 355 29) [some (vR (some 140)), some (vI cm), some (vI (j : Int)), some (vI (-1)), some (vI 0)] [] SH0 M' = ev X 355 k_355_114 [some (vR (some 140)), some (vI cm), some (vI (j : Int)), some (vI (cheM A (flF A p j).1 j j)), z4'] [] SH0 M' := by
        intro cm
        have hL := ev_loopK (X := X) (y := 355) (Sh := SH0) (K := k_355_29) (fun i => [some (vR (some 140)), some (vI cm), some (vI (j : Int)), some (vI (cheM A (flF A p j).1 j i)), some (vI (i : Int))]) (fun _ => M') j J_355_29 (fun i hi => by
          have cs : cheM A (flF A p j).1 j (i + 1) = if cnd A (flF A p j).1 j i then (if cheM A (flF A p j).1 j i = -1 ∨ prA A i j ≤ prA A (cheM A (flF A p j).1 j i) j then (i : Int) else cheM A (flF A p j).1 j i) else cheM A (flF A p j).1 j i := rfl
          have cb := cheM_is (A := A) (p := (flF A p j).1) (j := (j : Int)) (k := i)
          have ea := hp2.2.2.2.1 i (by omega) (by omega)
          by_cases q1 : (flF A p j).1.1 i = -1
          · rw [q1] at ea
            have ew := v_way (X := X) hp2 (i := i) (j := j) (by omega) (by omega) (by omega)
            by_cases q2 : wyA A i j = 0
            · rw [if_neg (fun w => w.2.1 q2)] at cs
              rw [q2] at ew
              rw [cs]
              simp (disch := first | assumption | decide | omega | (simp only [List.length_cons, List.length_nil] <;> omega)) only [lgt_0, lgt_s, lset_0, lset_s, lst1_0, lst1_s, lst2_0, lst2_s, ev_iconst, ev_lconst, ev_ldc, ev_null, ev_iload, ev_lload, ev_aload, ev_istore, ev_lstore, ev_astore, ev_iinc, ev_iadd, ev_isub, ev_imul, ev_iand, ev_ior, ev_ishl, ev_ishr, ev_idiv, ev_irem, ev_ineg, ev_ladd, ev_lsub, ev_lmul, ev_land, ev_lor, ev_ldiv, ev_lrem, ev_lshl, ev_i2l, ev_l2i, ev_i2b, ev_i2s, ev_lcmp, ev_dupI, ev_dupR, ev_dup2, ev_popI, ev_popR, ev_alen, ev_xlen, ev_xald, ev_iald, ev_lald, ev_bald, ev_zald, ev_aald, ev_iast, ev_last, ev_bast, ev_zast, ev_aast, ev_gfI, ev_gfL, ev_gfR, ev_pfI, ev_pfZ, ev_pfL, ev_pfR, ev_new, ev_newa, ev_newq, ev_copy, ev_slen, ev_schr, ev_obj, ev_mmin, ev_mabs, ev_mmax, ev_goto, ev_jsr, ev_icmp_eq, ev_if_eq, ev_icmp_ne, ev_if_ne, ev_icmp_lt, ev_if_lt, ev_icmp_ge, ev_if_ge, ev_icmp_gt, ev_if_gt, ev_icmp_le, ev_if_le, ev_ifnull0, ev_ifnull1, ev_ifnn0, ev_ifnn1, ev_tsw, ev_lsw, ev_iret, ev_zret, ev_lret, ev_aret, ev_ret, ev_call0, ev_call1, ev_call2, ev_call3, ev_call4, ev_call5, ev_call6, Option.toList_some, Option.toList_none, List.cons_append, List.nil_append, List.length_cons, List.length_nil, Nat.reduceMod, Nat.reduceDiv, Nat.reduceLeDiff, nc, ↓reduceIte, Nat.zero_le, reduceCtorEq, w32_id, Int.reduceEq, Int.reduceNe, Int.reduceLT, Int.reduceLE, Int.reduceGT, Int.reduceGE, Int.reduceAdd, Int.reduceSub, Int.reduceMul, Int.reduceNeg, ne_eq, not_true_eq_false, not_false_eq_true, eq_self, ↓if_pos, ↓if_neg, J_355_0, k_355_0, J_355_24, k_355_24, J_355_80, k_355_80, J_355_101, k_355_101, J_355_106, k_355_106, J_355_107, k_355_107, J_355_108, k_355_108, J_355_114, k_355_114, J_355_122, k_355_122, J_355_135, k_355_135, J_355_141, k_355_141, k_355_29, r_at, ea, ew, nc_s]
            · have ep := v_cost (X := X) hp2 (i := i) (j := j) (by omega) (by omega) (by omega) q2
              by_cases q3 : prA A i j < 2 * A 3
              · rw [if_pos ⟨q1, q2, q3⟩] at cs
                by_cases q4 : cheM A (flF A p j).1 j i = -1
                · rw [if_pos (Or.inl q4)] at cs
                  rw [cs, q4]
                  generalize prA A i j = pv at ep q3
                  generalize wyA A i j = wv at ew q2
                  simp (disch := first | assumption | decide | omega | (simp only [List.length_cons, List.length_nil] <;> omega)) only [lgt_0, lgt_s, lset_0, lset_s, lst1_0, lst1_s, lst2_0, lst2_s, ev_iconst, ev_lconst, ev_ldc, ev_null, ev_iload, ev_lload, ev_aload, ev_istore, ev_lstore, ev_astore, ev_iinc, ev_iadd, ev_isub, ev_imul, ev_iand, ev_ior, ev_ishl, ev_ishr, ev_idiv, ev_irem, ev_ineg, ev_ladd, ev_lsub, ev_lmul, ev_land, ev_lor, ev_ldiv, ev_lrem, ev_lshl, ev_i2l, ev_l2i, ev_i2b, ev_i2s, ev_lcmp, ev_dupI, ev_dupR, ev_dup2, ev_popI, ev_popR, ev_alen, ev_xlen, ev_xald, ev_iald, ev_lald, ev_bald, ev_zald, ev_aald, ev_iast, ev_last, ev_bast, ev_zast, ev_aast, ev_gfI, ev_gfL, ev_gfR, ev_pfI, ev_pfZ, ev_pfL, ev_pfR, ev_new, ev_newa, ev_newq, ev_copy, ev_slen, ev_schr, ev_obj, ev_mmin, ev_mabs, ev_mmax, ev_goto, ev_jsr, ev_icmp_eq, ev_if_eq, ev_icmp_ne, ev_if_ne, ev_icmp_lt, ev_if_lt, ev_icmp_ge, ev_if_ge, ev_icmp_gt, ev_if_gt, ev_icmp_le, ev_if_le, ev_ifnull0, ev_ifnull1, ev_ifnn0, ev_ifnn1, ev_tsw, ev_lsw, ev_iret, ev_zret, ev_lret, ev_aret, ev_ret, ev_call0, ev_call1, ev_call2, ev_call3, ev_call4, ev_call5, ev_call6, Option.toList_some, Option.toList_none, List.cons_append, List.nil_append, List.length_cons, List.length_nil, Nat.reduceMod, Nat.reduceDiv, Nat.reduceLeDiff, nc, ↓reduceIte, Nat.zero_le, reduceCtorEq, w32_id, Int.reduceEq, Int.reduceNe, Int.reduceLT, Int.reduceLE, Int.reduceGT, Int.reduceGE, Int.reduceAdd, Int.reduceSub, Int.reduceMul, Int.reduceNeg, ne_eq, not_true_eq_false, not_false_eq_true, eq_self, ↓if_pos, ↓if_neg, J_355_0, k_355_0, J_355_24, k_355_24, J_355_80, k_355_80, J_355_101, k_355_101, J_355_106, k_355_106, J_355_107, k_355_107, J_355_108, k_355_108, J_355_114, k_355_114, J_355_122, k_355_122, J_355_135, k_355_135, J_355_141, k_355_141, k_355_29, r_at, ea, ew, q2, ep, s3, q3, nc_s]
                · have cb2 := cb.resolve_left (fun w => q4 w.1)
                  have ep2 := v_cost (X := X) hp2 (i := cheM A (flF A p j).1 j i) (j := j) cb2.1.1 (by omega) (by omega) cb2.2.1.2.1
                  generalize cheM A (flF A p j).1 j i = cv at cs ep2 q4 ⊢
                  generalize prA A cv j = pc at ep2 cs
                  generalize prA A i j = pv at ep q3 cs
                  generalize wyA A i j = wv at ew q2
                  by_cases q5 : pv ≤ pc
                  · rw [if_pos (Or.inr q5)] at cs
                    rw [cs]
                    simp (disch := first | assumption | decide | omega | (simp only [List.length_cons, List.length_nil] <;> omega)) only [lgt_0, lgt_s, lset_0, lset_s, lst1_0, lst1_s, lst2_0, lst2_s, ev_iconst, ev_lconst, ev_ldc, ev_null, ev_iload, ev_lload, ev_aload, ev_istore, ev_lstore, ev_astore, ev_iinc, ev_iadd, ev_isub, ev_imul, ev_iand, ev_ior, ev_ishl, ev_ishr, ev_idiv, ev_irem, ev_ineg, ev_ladd, ev_lsub, ev_lmul, ev_land, ev_lor, ev_ldiv, ev_lrem, ev_lshl, ev_i2l, ev_l2i, ev_i2b, ev_i2s, ev_lcmp, ev_dupI, ev_dupR, ev_dup2, ev_popI, ev_popR, ev_alen, ev_xlen, ev_xald, ev_iald, ev_lald, ev_bald, ev_zald, ev_aald, ev_iast, ev_last, ev_bast, ev_zast, ev_aast, ev_gfI, ev_gfL, ev_gfR, ev_pfI, ev_pfZ, ev_pfL, ev_pfR, ev_new, ev_newa, ev_newq, ev_copy, ev_slen, ev_schr, ev_obj, ev_mmin, ev_mabs, ev_mmax, ev_goto, ev_jsr, ev_icmp_eq, ev_if_eq, ev_icmp_ne, ev_if_ne, ev_icmp_lt, ev_if_lt, ev_icmp_ge, ev_if_ge, ev_icmp_gt, ev_if_gt, ev_icmp_le, ev_if_le, ev_ifnull0, ev_ifnull1, ev_ifnn0, ev_ifnn1, ev_tsw, ev_lsw, ev_iret, ev_zret, ev_lret, ev_aret, ev_ret, ev_call0, ev_call1, ev_call2, ev_call3, ev_call4, ev_call5, ev_call6, Option.toList_some, Option.toList_none, List.cons_append, List.nil_append, List.length_cons, List.length_nil, Nat.reduceMod, Nat.reduceDiv, Nat.reduceLeDiff, nc, ↓reduceIte, Nat.zero_le, reduceCtorEq, w32_id, Int.reduceEq, Int.reduceNe, Int.reduceLT, Int.reduceLE, Int.reduceGT, Int.reduceGE, Int.reduceAdd, Int.reduceSub, Int.reduceMul, Int.reduceNeg, ne_eq, not_true_eq_false, not_false_eq_true, eq_self, ↓if_pos, ↓if_neg, J_355_0, k_355_0, J_355_24, k_355_24, J_355_80, k_355_80, J_355_101, k_355_101, J_355_106, k_355_106, J_355_107, k_355_107, J_355_108, k_355_108, J_355_114, k_355_114, J_355_122, k_355_122, J_355_135, k_355_135, J_355_141, k_355_141, k_355_29, r_at, ea, ew, q2, ep, s3, q3, q4, ep2, q5, nc_s]
                  · rw [if_neg (fun w => w.elim q4 q5)] at cs
                    rw [cs]
                    simp (disch := first | assumption | decide | omega | (simp only [List.length_cons, List.length_nil] <;> omega)) only [lgt_0, lgt_s, lset_0, lset_s, lst1_0, lst1_s, lst2_0, lst2_s, ev_iconst, ev_lconst, ev_ldc, ev_null, ev_iload, ev_lload, ev_aload, ev_istore, ev_lstore, ev_astore, ev_iinc, ev_iadd, ev_isub, ev_imul, ev_iand, ev_ior, ev_ishl, ev_ishr, ev_idiv, ev_irem, ev_ineg, ev_ladd, ev_lsub, ev_lmul, ev_land, ev_lor, ev_ldiv, ev_lrem, ev_lshl, ev_i2l, ev_l2i, ev_i2b, ev_i2s, ev_lcmp, ev_dupI, ev_dupR, ev_dup2, ev_popI, ev_popR, ev_alen, ev_xlen, ev_xald, ev_iald, ev_lald, ev_bald, ev_zald, ev_aald, ev_iast, ev_last, ev_bast, ev_zast, ev_aast, ev_gfI, ev_gfL, ev_gfR, ev_pfI, ev_pfZ, ev_pfL, ev_pfR, ev_new, ev_newa, ev_newq, ev_copy, ev_slen, ev_schr, ev_obj, ev_mmin, ev_mabs, ev_mmax, ev_goto, ev_jsr, ev_icmp_eq, ev_if_eq, ev_icmp_ne, ev_if_ne, ev_icmp_lt, ev_if_lt, ev_icmp_ge, ev_if_ge, ev_icmp_gt, ev_if_gt, ev_icmp_le, ev_if_le, ev_ifnull0, ev_ifnull1, ev_ifnn0, ev_ifnn1, ev_tsw, ev_lsw, ev_iret, ev_zret, ev_lret, ev_aret, ev_ret, ev_call0, ev_call1, ev_call2, ev_call3, ev_call4, ev_call5, ev_call6, Option.toList_some, Option.toList_none, List.cons_append, List.nil_append, List.length_cons, List.length_nil, Nat.reduceMod, Nat.reduceDiv, Nat.reduceLeDiff, nc, ↓reduceIte, Nat.zero_le, reduceCtorEq, w32_id, Int.reduceEq, Int.reduceNe, Int.reduceLT, Int.reduceLE, Int.reduceGT, Int.reduceGE, Int.reduceAdd, Int.reduceSub, Int.reduceMul, Int.reduceNeg, ne_eq, not_true_eq_false, not_false_eq_true, eq_self, ↓if_pos, ↓if_neg, J_355_0, k_355_0, J_355_24, k_355_24, J_355_80, k_355_80, J_355_101, k_355_101, J_355_106, k_355_106, J_355_107, k_355_107, J_355_108, k_355_108, J_355_114, k_355_114, J_355_122, k_355_122, J_355_135, k_355_135, J_355_141, k_355_141, k_355_29, r_at, ea, ew, q2, ep, s3, q3, q4, ep2, q5, nc_s]
              · rw [if_neg (fun w => q3 w.2.2)] at cs
                rw [cs]
                generalize prA A i j = pv at ep q3
                generalize wyA A i j = wv at ew q2
                simp (disch := first | assumption | decide | omega | (simp only [List.length_cons, List.length_nil] <;> omega)) only [lgt_0, lgt_s, lset_0, lset_s, lst1_0, lst1_s, lst2_0, lst2_s, ev_iconst, ev_lconst, ev_ldc, ev_null, ev_iload, ev_lload, ev_aload, ev_istore, ev_lstore, ev_astore, ev_iinc, ev_iadd, ev_isub, ev_imul, ev_iand, ev_ior, ev_ishl, ev_ishr, ev_idiv, ev_irem, ev_ineg, ev_ladd, ev_lsub, ev_lmul, ev_land, ev_lor, ev_ldiv, ev_lrem, ev_lshl, ev_i2l, ev_l2i, ev_i2b, ev_i2s, ev_lcmp, ev_dupI, ev_dupR, ev_dup2, ev_popI, ev_popR, ev_alen, ev_xlen, ev_xald, ev_iald, ev_lald, ev_bald, ev_zald, ev_aald, ev_iast, ev_last, ev_bast, ev_zast, ev_aast, ev_gfI, ev_gfL, ev_gfR, ev_pfI, ev_pfZ, ev_pfL, ev_pfR, ev_new, ev_newa, ev_newq, ev_copy, ev_slen, ev_schr, ev_obj, ev_mmin, ev_mabs, ev_mmax, ev_goto, ev_jsr, ev_icmp_eq, ev_if_eq, ev_icmp_ne, ev_if_ne, ev_icmp_lt, ev_if_lt, ev_icmp_ge, ev_if_ge, ev_icmp_gt, ev_if_gt, ev_icmp_le, ev_if_le, ev_ifnull0, ev_ifnull1, ev_ifnn0, ev_ifnn1, ev_tsw, ev_lsw, ev_iret, ev_zret, ev_lret, ev_aret, ev_ret, ev_call0, ev_call1, ev_call2, ev_call3, ev_call4, ev_call5, ev_call6, Option.toList_some, Option.toList_none, List.cons_append, List.nil_append, List.length_cons, List.length_nil, Nat.reduceMod, Nat.reduceDiv, Nat.reduceLeDiff, nc, ↓reduceIte, Nat.zero_le, reduceCtorEq, w32_id, Int.reduceEq, Int.reduceNe, Int.reduceLT, Int.reduceLE, Int.reduceGT, Int.reduceGE, Int.reduceAdd, Int.reduceSub, Int.reduceMul, Int.reduceNeg, ne_eq, not_true_eq_false, not_false_eq_true, eq_self, ↓if_pos, ↓if_neg, J_355_0, k_355_0, J_355_24, k_355_24, J_355_80, k_355_80, J_355_101, k_355_101, J_355_106, k_355_106, J_355_107, k_355_107, J_355_108, k_355_108, J_355_114, k_355_114, J_355_122, k_355_122, J_355_135, k_355_135, J_355_141, k_355_141, k_355_29, r_at, ea, ew, q2, ep, s3, q3, nc_s]
          · rw [if_neg (fun w => q1 w.1)] at cs
            rw [cs]
            simp (disch := first | assumption | decide | omega | (simp only [List.length_cons, List.length_nil] <;> omega)) only [lgt_0, lgt_s, lset_0, lset_s, lst1_0, lst1_s, lst2_0, lst2_s, ev_iconst, ev_lconst, ev_ldc, ev_null, ev_iload, ev_lload, ev_aload, ev_istore, ev_lstore, ev_astore, ev_iinc, ev_iadd, ev_isub, ev_imul, ev_iand, ev_ior, ev_ishl, ev_ishr, ev_idiv, ev_irem, ev_ineg, ev_ladd, ev_lsub, ev_lmul, ev_land, ev_lor, ev_ldiv, ev_lrem, ev_lshl, ev_i2l, ev_l2i, ev_i2b, ev_i2s, ev_lcmp, ev_dupI, ev_dupR, ev_dup2, ev_popI, ev_popR, ev_alen, ev_xlen, ev_xald, ev_iald, ev_lald, ev_bald, ev_zald, ev_aald, ev_iast, ev_last, ev_bast, ev_zast, ev_aast, ev_gfI, ev_gfL, ev_gfR, ev_pfI, ev_pfZ, ev_pfL, ev_pfR, ev_new, ev_newa, ev_newq, ev_copy, ev_slen, ev_schr, ev_obj, ev_mmin, ev_mabs, ev_mmax, ev_goto, ev_jsr, ev_icmp_eq, ev_if_eq, ev_icmp_ne, ev_if_ne, ev_icmp_lt, ev_if_lt, ev_icmp_ge, ev_if_ge, ev_icmp_gt, ev_if_gt, ev_icmp_le, ev_if_le, ev_ifnull0, ev_ifnull1, ev_ifnn0, ev_ifnn1, ev_tsw, ev_lsw, ev_iret, ev_zret, ev_lret, ev_aret, ev_ret, ev_call0, ev_call1, ev_call2, ev_call3, ev_call4, ev_call5, ev_call6, Option.toList_some, Option.toList_none, List.cons_append, List.nil_append, List.length_cons, List.length_nil, Nat.reduceMod, Nat.reduceDiv, Nat.reduceLeDiff, nc, ↓reduceIte, Nat.zero_le, reduceCtorEq, w32_id, Int.reduceEq, Int.reduceNe, Int.reduceLT, Int.reduceLE, Int.reduceGT, Int.reduceGE, Int.reduceAdd, Int.reduceSub, Int.reduceMul, Int.reduceNeg, ne_eq, not_true_eq_false, not_false_eq_true, eq_self, ↓if_pos, ↓if_neg, J_355_0, k_355_0, J_355_24, k_355_24, J_355_80, k_355_80, J_355_101, k_355_101, J_355_106, k_355_106, J_355_107, k_355_107, J_355_108, k_355_108, J_355_114, k_355_114, J_355_122, k_355_122, J_355_135, k_355_135, J_355_141, k_355_141, k_355_29, r_at, ea, q1, nc_s])
        refine ⟨some (vI (j : Int)), ?_⟩
        rw [show cheM A (flF A p j).1 j 0 = -1 from rfl, show ((0 : Nat) : Int) = 0 from rfl] at hL
        rw [hL]
        have jj : ¬ (j : Int) < j := Int.lt_irrefl _
        simp (disch := first | assumption | decide | omega | (simp only [List.length_cons, List.length_nil] <;> omega)) only [lgt_0, lgt_s, lset_0, lset_s, lst1_0, lst1_s, lst2_0, lst2_s, ev_iconst, ev_lconst, ev_ldc, ev_null, ev_iload, ev_lload, ev_aload, ev_istore, ev_lstore, ev_astore, ev_iinc, ev_iadd, ev_isub, ev_imul, ev_iand, ev_ior, ev_ishl, ev_ishr, ev_idiv, ev_irem, ev_ineg, ev_ladd, ev_lsub, ev_lmul, ev_land, ev_lor, ev_ldiv, ev_lrem, ev_lshl, ev_i2l, ev_l2i, ev_i2b, ev_i2s, ev_lcmp, ev_dupI, ev_dupR, ev_dup2, ev_popI, ev_popR, ev_alen, ev_xlen, ev_xald, ev_iald, ev_lald, ev_bald, ev_zald, ev_aald, ev_iast, ev_last, ev_bast, ev_zast, ev_aast, ev_gfI, ev_gfL, ev_gfR, ev_pfI, ev_pfZ, ev_pfL, ev_pfR, ev_new, ev_newa, ev_newq, ev_copy, ev_slen, ev_schr, ev_obj, ev_mmin, ev_mabs, ev_mmax, ev_goto, ev_jsr, ev_icmp_eq, ev_if_eq, ev_icmp_ne, ev_if_ne, ev_icmp_lt, ev_if_lt, ev_icmp_ge, ev_if_ge, ev_icmp_gt, ev_if_gt, ev_icmp_le, ev_if_le, ev_ifnull0, ev_ifnull1, ev_ifnn0, ev_ifnn1, ev_tsw, ev_lsw, ev_iret, ev_zret, ev_lret, ev_aret, ev_ret, ev_call0, ev_call1, ev_call2, ev_call3, ev_call4, ev_call5, ev_call6, Option.toList_some, Option.toList_none, List.cons_append, List.nil_append, List.length_cons, List.length_nil, Nat.reduceMod, Nat.reduceDiv, Nat.reduceLeDiff, nc, ↓reduceIte, Nat.zero_le, reduceCtorEq, w32_id, Int.reduceEq, Int.reduceNe, Int.reduceLT, Int.reduceLE, Int.reduceGT, Int.reduceGE, Int.reduceAdd, Int.reduceSub, Int.reduceMul, Int.reduceNeg, ne_eq, not_true_eq_false, not_false_eq_true, eq_self, ↓if_pos, ↓if_neg, J_355_0, k_355_0, J_355_24, k_355_24, J_355_80, k_355_80, J_355_101, k_355_101, J_355_106, k_355_106, J_355_107, k_355_107, J_355_108, k_355_108, J_355_122, k_355_122, J_355_135, k_355_135, J_355_141, k_355_141, k_355_29, J_355_114, Int.le_refl]
      by_cases q1 : cheM A (flF A p j).1 j j = -1
      · rw [if_neg (fun w => w.2 q1)] at es
        obtain ⟨z4', ei⟩ := inner (flF A p j).2
        rw [q1] at ei
        refine ⟨_, M', ⟨some (vI (-1)), z4', rfl, fr, g, by rw [es]; exact hp2⟩, ?_⟩
        rw [es]
        generalize (flF A p j).2 = cm at c0 c1 ei ⊢
        simp (disch := first | assumption | decide | omega | (simp only [List.length_cons, List.length_nil] <;> omega)) only [lgt_0, lgt_s, lset_0, lset_s, lst1_0, lst1_s, lst2_0, lst2_s, ev_iconst, ev_lconst, ev_ldc, ev_null, ev_iload, ev_lload, ev_aload, ev_istore, ev_lstore, ev_astore, ev_iinc, ev_iadd, ev_isub, ev_imul, ev_iand, ev_ior, ev_ishl, ev_ishr, ev_idiv, ev_irem, ev_ineg, ev_ladd, ev_lsub, ev_lmul, ev_land, ev_lor, ev_ldiv, ev_lrem, ev_lshl, ev_i2l, ev_l2i, ev_i2b, ev_i2s, ev_lcmp, ev_dupI, ev_dupR, ev_dup2, ev_popI, ev_popR, ev_alen, ev_xlen, ev_xald, ev_iald, ev_lald, ev_bald, ev_zald, ev_aald, ev_iast, ev_last, ev_bast, ev_zast, ev_aast, ev_gfI, ev_gfL, ev_gfR, ev_pfI, ev_pfZ, ev_pfL, ev_pfR, ev_new, ev_newa, ev_newq, ev_copy, ev_slen, ev_schr, ev_obj, ev_mmin, ev_mabs, ev_mmax, ev_goto, ev_jsr, ev_icmp_eq, ev_if_eq, ev_icmp_ne, ev_if_ne, ev_icmp_lt, ev_if_lt, ev_icmp_ge, ev_if_ge, ev_icmp_gt, ev_if_gt, ev_icmp_le, ev_if_le, ev_ifnull0, ev_ifnull1, ev_ifnn0, ev_ifnn1, ev_tsw, ev_lsw, ev_iret, ev_zret, ev_lret, ev_aret, ev_ret, ev_call0, ev_call1, ev_call2, ev_call3, ev_call4, ev_call5, ev_call6, Option.toList_some, Option.toList_none, List.cons_append, List.nil_append, List.length_cons, List.length_nil, Nat.reduceMod, Nat.reduceDiv, Nat.reduceLeDiff, nc, ↓reduceIte, Nat.zero_le, reduceCtorEq, w32_id, Int.reduceEq, Int.reduceNe, Int.reduceLT, Int.reduceLE, Int.reduceGT, Int.reduceGE, Int.reduceAdd, Int.reduceSub, Int.reduceMul, Int.reduceNeg, ne_eq, not_true_eq_false, not_false_eq_true, eq_self, ↓if_pos, ↓if_neg, J_355_0, k_355_0, J_355_24, k_355_24, J_355_80, k_355_80, J_355_101, k_355_101, J_355_106, k_355_106, J_355_107, k_355_107, J_355_108, k_355_108, J_355_122, k_355_122, J_355_135, k_355_135, J_355_141, k_355_141, k_355_4, em, ef, ei]
        simp (disch := first | assumption | decide | omega | (simp only [List.length_cons, List.length_nil] <;> omega)) only [lgt_0, lgt_s, lset_0, lset_s, lst1_0, lst1_s, lst2_0, lst2_s, ev_iconst, ev_lconst, ev_ldc, ev_null, ev_iload, ev_lload, ev_aload, ev_istore, ev_lstore, ev_astore, ev_iinc, ev_iadd, ev_isub, ev_imul, ev_iand, ev_ior, ev_ishl, ev_ishr, ev_idiv, ev_irem, ev_ineg, ev_ladd, ev_lsub, ev_lmul, ev_land, ev_lor, ev_ldiv, ev_lrem, ev_lshl, ev_i2l, ev_l2i, ev_i2b, ev_i2s, ev_lcmp, ev_dupI, ev_dupR, ev_dup2, ev_popI, ev_popR, ev_alen, ev_xlen, ev_xald, ev_iald, ev_lald, ev_bald, ev_zald, ev_aald, ev_iast, ev_last, ev_bast, ev_zast, ev_aast, ev_gfI, ev_gfL, ev_gfR, ev_pfI, ev_pfZ, ev_pfL, ev_pfR, ev_new, ev_newa, ev_newq, ev_copy, ev_slen, ev_schr, ev_obj, ev_mmin, ev_mabs, ev_mmax, ev_goto, ev_jsr, ev_icmp_eq, ev_if_eq, ev_icmp_ne, ev_if_ne, ev_icmp_lt, ev_if_lt, ev_icmp_ge, ev_if_ge, ev_icmp_gt, ev_if_gt, ev_icmp_le, ev_if_le, ev_ifnull0, ev_ifnull1, ev_ifnn0, ev_ifnn1, ev_tsw, ev_lsw, ev_iret, ev_zret, ev_lret, ev_aret, ev_ret, ev_call0, ev_call1, ev_call2, ev_call3, ev_call4, ev_call5, ev_call6, Option.toList_some, Option.toList_none, List.cons_append, List.nil_append, List.length_cons, List.length_nil, Nat.reduceMod, Nat.reduceDiv, Nat.reduceLeDiff, nc, ↓reduceIte, Nat.zero_le, reduceCtorEq, w32_id, Int.reduceEq, Int.reduceNe, Int.reduceLT, Int.reduceLE, Int.reduceGT, Int.reduceGE, Int.reduceAdd, Int.reduceSub, Int.reduceMul, Int.reduceNeg, ne_eq, not_true_eq_false, not_false_eq_true, eq_self, ↓if_pos, ↓if_neg, J_355_0, k_355_0, J_355_24, k_355_24, J_355_80, k_355_80, J_355_101, k_355_101, J_355_106, k_355_106, J_355_107, k_355_107, J_355_108, k_355_108, J_355_114, k_355_114, J_355_122, k_355_122, J_355_135, k_355_135, J_355_141, k_355_141, k_355_114, nc_s]
      · rw [if_pos ⟨q, q1⟩] at es
        obtain ⟨z4', ei⟩ := inner (flF A p j).2
        have cb2 := ci.resolve_left (fun w => q1 w.1)
        have cj := mP_join (i := cheM A (flF A p j).1 j j) (j := (j : Int)) hp2 cb2.1.1 cb2.1.2 (by omega) cb2.2.1.2.1 cb2.2.1.1 q
        refine ⟨_, up M' (140 + 1) (80 + cheM A (flF A p j).1 j j) j, ⟨some (vI (cheM A (flF A p j).1 j j)), z4', rfl, fun b b1 => by rw [up_ne b1]; exact fr b b1, fun k hk => by rw [up_ne2 (by omega)]; exact g k hk, by rw [es]; exact cj⟩, ?_⟩
        rw [es]
        have c2 := cb2.1
        generalize cheM A (flF A p j).1 j j = cv at ei q1 c2 ⊢
        generalize (flF A p j).2 = cm at c0 c1 ei ⊢
        simp (disch := first | assumption | decide | omega | (simp only [List.length_cons, List.length_nil] <;> omega)) only [lgt_0, lgt_s, lset_0, lset_s, lst1_0, lst1_s, lst2_0, lst2_s, ev_iconst, ev_lconst, ev_ldc, ev_null, ev_iload, ev_lload, ev_aload, ev_istore, ev_lstore, ev_astore, ev_iinc, ev_iadd, ev_isub, ev_imul, ev_iand, ev_ior, ev_ishl, ev_ishr, ev_idiv, ev_irem, ev_ineg, ev_ladd, ev_lsub, ev_lmul, ev_land, ev_lor, ev_ldiv, ev_lrem, ev_lshl, ev_i2l, ev_l2i, ev_i2b, ev_i2s, ev_lcmp, ev_dupI, ev_dupR, ev_dup2, ev_popI, ev_popR, ev_alen, ev_xlen, ev_xald, ev_iald, ev_lald, ev_bald, ev_zald, ev_aald, ev_iast, ev_last, ev_bast, ev_zast, ev_aast, ev_gfI, ev_gfL, ev_gfR, ev_pfI, ev_pfZ, ev_pfL, ev_pfR, ev_new, ev_newa, ev_newq, ev_copy, ev_slen, ev_schr, ev_obj, ev_mmin, ev_mabs, ev_mmax, ev_goto, ev_jsr, ev_icmp_eq, ev_if_eq, ev_icmp_ne, ev_if_ne, ev_icmp_lt, ev_if_lt, ev_icmp_ge, ev_if_ge, ev_icmp_gt, ev_if_gt, ev_icmp_le, ev_if_le, ev_ifnull0, ev_ifnull1, ev_ifnn0, ev_ifnn1, ev_tsw, ev_lsw, ev_iret, ev_zret, ev_lret, ev_aret, ev_ret, ev_call0, ev_call1, ev_call2, ev_call3, ev_call4, ev_call5, ev_call6, Option.toList_some, Option.toList_none, List.cons_append, List.nil_append, List.length_cons, List.length_nil, Nat.reduceMod, Nat.reduceDiv, Nat.reduceLeDiff, nc, ↓reduceIte, Nat.zero_le, reduceCtorEq, w32_id, Int.reduceEq, Int.reduceNe, Int.reduceLT, Int.reduceLE, Int.reduceGT, Int.reduceGE, Int.reduceAdd, Int.reduceSub, Int.reduceMul, Int.reduceNeg, ne_eq, not_true_eq_false, not_false_eq_true, eq_self, ↓if_pos, ↓if_neg, J_355_0, k_355_0, J_355_24, k_355_24, J_355_80, k_355_80, J_355_101, k_355_101, J_355_106, k_355_106, J_355_107, k_355_107, J_355_108, k_355_108, J_355_122, k_355_122, J_355_135, k_355_135, J_355_141, k_355_141, k_355_4, em, ef, ei]
        simp (disch := first | assumption | decide | omega | (simp only [List.length_cons, List.length_nil] <;> omega)) only [lgt_0, lgt_s, lset_0, lset_s, lst1_0, lst1_s, lst2_0, lst2_s, ev_iconst, ev_lconst, ev_ldc, ev_null, ev_iload, ev_lload, ev_aload, ev_istore, ev_lstore, ev_astore, ev_iinc, ev_iadd, ev_isub, ev_imul, ev_iand, ev_ior, ev_ishl, ev_ishr, ev_idiv, ev_irem, ev_ineg, ev_ladd, ev_lsub, ev_lmul, ev_land, ev_lor, ev_ldiv, ev_lrem, ev_lshl, ev_i2l, ev_l2i, ev_i2b, ev_i2s, ev_lcmp, ev_dupI, ev_dupR, ev_dup2, ev_popI, ev_popR, ev_alen, ev_xlen, ev_xald, ev_iald, ev_lald, ev_bald, ev_zald, ev_aald, ev_iast, ev_last, ev_bast, ev_zast, ev_aast, ev_gfI, ev_gfL, ev_gfR, ev_pfI, ev_pfZ, ev_pfL, ev_pfR, ev_new, ev_newa, ev_newq, ev_copy, ev_slen, ev_schr, ev_obj, ev_mmin, ev_mabs, ev_mmax, ev_goto, ev_jsr, ev_icmp_eq, ev_if_eq, ev_icmp_ne, ev_if_ne, ev_icmp_lt, ev_if_lt, ev_icmp_ge, ev_if_ge, ev_icmp_gt, ev_if_gt, ev_icmp_le, ev_if_le, ev_ifnull0, ev_ifnull1, ev_ifnn0, ev_ifnn1, ev_tsw, ev_lsw, ev_iret, ev_zret, ev_lret, ev_aret, ev_ret, ev_call0, ev_call1, ev_call2, ev_call3, ev_call4, ev_call5, ev_call6, Option.toList_some, Option.toList_none, List.cons_append, List.nil_append, List.length_cons, List.length_nil, Nat.reduceMod, Nat.reduceDiv, Nat.reduceLeDiff, nc, ↓reduceIte, Nat.zero_le, reduceCtorEq, w32_id, Int.reduceEq, Int.reduceNe, Int.reduceLT, Int.reduceLE, Int.reduceGT, Int.reduceGE, Int.reduceAdd, Int.reduceSub, Int.reduceMul, Int.reduceNeg, ne_eq, not_true_eq_false, not_false_eq_true, eq_self, ↓if_pos, ↓if_neg, J_355_0, k_355_0, J_355_24, k_355_24, J_355_80, k_355_80, J_355_101, k_355_101, J_355_106, k_355_106, J_355_107, k_355_107, J_355_108, k_355_108, J_355_114, k_355_114, J_355_122, k_355_122, J_355_135, k_355_135, J_355_141, k_355_141, k_355_114, q1, r_at, nc_s]
    · rw [if_neg (fun w => q w.1)] at es
      refine ⟨_, M', ⟨z3, z4, rfl, fr, g, by rw [es]; exact hp2⟩, ?_⟩
      rw [es]
      generalize (flF A p j).2 = cm at c0 c1 ⊢
      generalize (flF A p j).1.2 j = ev_ at ef q
      simp (disch := first | assumption | decide | omega | (simp only [List.length_cons, List.length_nil] <;> omega)) only [lgt_0, lgt_s, lset_0, lset_s, lst1_0, lst1_s, lst2_0, lst2_s, ev_iconst, ev_lconst, ev_ldc, ev_null, ev_iload, ev_lload, ev_aload, ev_istore, ev_lstore, ev_astore, ev_iinc, ev_iadd, ev_isub, ev_imul, ev_iand, ev_ior, ev_ishl, ev_ishr, ev_idiv, ev_irem, ev_ineg, ev_ladd, ev_lsub, ev_lmul, ev_land, ev_lor, ev_ldiv, ev_lrem, ev_lshl, ev_i2l, ev_l2i, ev_i2b, ev_i2s, ev_lcmp, ev_dupI, ev_dupR, ev_dup2, ev_popI, ev_popR, ev_alen, ev_xlen, ev_xald, ev_iald, ev_lald, ev_bald, ev_zald, ev_aald, ev_iast, ev_last, ev_bast, ev_zast, ev_aast, ev_gfI, ev_gfL, ev_gfR, ev_pfI, ev_pfZ, ev_pfL, ev_pfR, ev_new, ev_newa, ev_newq, ev_copy, ev_slen, ev_schr, ev_obj, ev_mmin, ev_mabs, ev_mmax, ev_goto, ev_jsr, ev_icmp_eq, ev_if_eq, ev_icmp_ne, ev_if_ne, ev_icmp_lt, ev_if_lt, ev_icmp_ge, ev_if_ge, ev_icmp_gt, ev_if_gt, ev_icmp_le, ev_if_le, ev_ifnull0, ev_ifnull1, ev_ifnn0, ev_ifnn1, ev_tsw, ev_lsw, ev_iret, ev_zret, ev_lret, ev_aret, ev_ret, ev_call0, ev_call1, ev_call2, ev_call3, ev_call4, ev_call5, ev_call6, Option.toList_some, Option.toList_none, List.cons_append, List.nil_append, List.length_cons, List.length_nil, Nat.reduceMod, Nat.reduceDiv, Nat.reduceLeDiff, nc, ↓reduceIte, Nat.zero_le, reduceCtorEq, w32_id, Int.reduceEq, Int.reduceNe, Int.reduceLT, Int.reduceLE, Int.reduceGT, Int.reduceGE, Int.reduceAdd, Int.reduceSub, Int.reduceMul, Int.reduceNeg, ne_eq, not_true_eq_false, not_false_eq_true, eq_self, ↓if_pos, ↓if_neg, J_355_0, k_355_0, J_355_24, k_355_24, J_355_80, k_355_80, J_355_101, k_355_101, J_355_106, k_355_106, J_355_107, k_355_107, J_355_108, k_355_108, J_355_114, k_355_114, J_355_122, k_355_122, J_355_135, k_355_135, J_355_141, k_355_141, k_355_4, em, ef, q, nc_s]) [some (vR (some 140)), some (vI 0), some (vI 0), none, none] M ⟨none, none, rfl, fun _ _ => rfl, fun _ _ => rfl, hq⟩
  subst hls
  have e : (((xn A).toNat : Nat) : Int) = xn A := by omega
  rw [e] at he
  have em := v_many (X := X) hp2
  refine ⟨M2, fr, g, hp2, ?_⟩
  rw [E_355 mk0]
  simp (disch := first | assumption | decide | omega | (simp only [List.length_cons, List.length_nil] <;> omega)) only [lgt_0, lgt_s, lset_0, lset_s, lst1_0, lst1_s, lst2_0, lst2_s, ev_iconst, ev_lconst, ev_ldc, ev_null, ev_iload, ev_lload, ev_aload, ev_istore, ev_lstore, ev_astore, ev_iinc, ev_iadd, ev_isub, ev_imul, ev_iand, ev_ior, ev_ishl, ev_ishr, ev_idiv, ev_irem, ev_ineg, ev_ladd, ev_lsub, ev_lmul, ev_land, ev_lor, ev_ldiv, ev_lrem, ev_lshl, ev_i2l, ev_l2i, ev_i2b, ev_i2s, ev_lcmp, ev_dupI, ev_dupR, ev_dup2, ev_popI, ev_popR, ev_alen, ev_xlen, ev_xald, ev_iald, ev_lald, ev_bald, ev_zald, ev_aald, ev_iast, ev_last, ev_bast, ev_zast, ev_aast, ev_gfI, ev_gfL, ev_gfR, ev_pfI, ev_pfZ, ev_pfL, ev_pfR, ev_new, ev_newa, ev_newq, ev_copy, ev_slen, ev_schr, ev_obj, ev_mmin, ev_mabs, ev_mmax, ev_goto, ev_jsr, ev_icmp_eq, ev_if_eq, ev_icmp_ne, ev_if_ne, ev_icmp_lt, ev_if_lt, ev_icmp_ge, ev_if_ge, ev_icmp_gt, ev_if_gt, ev_icmp_le, ev_if_le, ev_ifnull0, ev_ifnull1, ev_ifnn0, ev_ifnn1, ev_tsw, ev_lsw, ev_iret, ev_zret, ev_lret, ev_aret, ev_ret, ev_call0, ev_call1, ev_call2, ev_call3, ev_call4, ev_call5, ev_call6, Option.toList_some, Option.toList_none, List.cons_append, List.nil_append, List.length_cons, List.length_nil, Nat.reduceMod, Nat.reduceDiv, Nat.reduceLeDiff, nc, ↓reduceIte, Nat.zero_le, reduceCtorEq, w32_id, Int.reduceEq, Int.reduceNe, Int.reduceLT, Int.reduceLE, Int.reduceGT, Int.reduceGE, Int.reduceAdd, Int.reduceSub, Int.reduceMul, Int.reduceNeg, ne_eq, not_true_eq_false, not_false_eq_true, eq_self, ↓if_pos, ↓if_neg, J_355_0, k_355_0, J_355_24, k_355_24, J_355_80, k_355_80, J_355_101, k_355_101, J_355_106, k_355_106, J_355_107, k_355_107, J_355_108, k_355_108, J_355_114, k_355_114, J_355_122, k_355_122, J_355_135, k_355_135, J_355_141, k_355_141, ]
  rw [he]
  have q2 : xn A ≤ xn A := Int.le_refl _
  simp (disch := first | assumption | decide | omega | (simp only [List.length_cons, List.length_nil] <;> omega)) only [lgt_0, lgt_s, lset_0, lset_s, lst1_0, lst1_s, lst2_0, lst2_s, ev_iconst, ev_lconst, ev_ldc, ev_null, ev_iload, ev_lload, ev_aload, ev_istore, ev_lstore, ev_astore, ev_iinc, ev_iadd, ev_isub, ev_imul, ev_iand, ev_ior, ev_ishl, ev_ishr, ev_idiv, ev_irem, ev_ineg, ev_ladd, ev_lsub, ev_lmul, ev_land, ev_lor, ev_ldiv, ev_lrem, ev_lshl, ev_i2l, ev_l2i, ev_i2b, ev_i2s, ev_lcmp, ev_dupI, ev_dupR, ev_dup2, ev_popI, ev_popR, ev_alen, ev_xlen, ev_xald, ev_iald, ev_lald, ev_bald, ev_zald, ev_aald, ev_iast, ev_last, ev_bast, ev_zast, ev_aast, ev_gfI, ev_gfL, ev_gfR, ev_pfI, ev_pfZ, ev_pfL, ev_pfR, ev_new, ev_newa, ev_newq, ev_copy, ev_slen, ev_schr, ev_obj, ev_mmin, ev_mabs, ev_mmax, ev_goto, ev_jsr, ev_icmp_eq, ev_if_eq, ev_icmp_ne, ev_if_ne, ev_icmp_lt, ev_if_lt, ev_icmp_ge, ev_if_ge, ev_icmp_gt, ev_if_gt, ev_icmp_le, ev_if_le, ev_ifnull0, ev_ifnull1, ev_ifnn0, ev_ifnn1, ev_tsw, ev_lsw, ev_iret, ev_zret, ev_lret, ev_aret, ev_ret, ev_call0, ev_call1, ev_call2, ev_call3, ev_call4, ev_call5, ev_call6, Option.toList_some, Option.toList_none, List.cons_append, List.nil_append, List.length_cons, List.length_nil, Nat.reduceMod, Nat.reduceDiv, Nat.reduceLeDiff, nc, ↓reduceIte, Nat.zero_le, reduceCtorEq, w32_id, Int.reduceEq, Int.reduceNe, Int.reduceLT, Int.reduceLE, Int.reduceGT, Int.reduceGE, Int.reduceAdd, Int.reduceSub, Int.reduceMul, Int.reduceNeg, ne_eq, not_true_eq_false, not_false_eq_true, eq_self, ↓if_pos, ↓if_neg, J_355_0, k_355_0, J_355_24, k_355_24, J_355_80, k_355_80, J_355_101, k_355_101, J_355_106, k_355_106, J_355_107, k_355_107, J_355_108, k_355_108, J_355_114, k_355_114, J_355_122, k_355_122, J_355_135, k_355_135, J_355_141, k_355_141, k_355_4, em, q2, m_gives hmd]
theorem op_fill (h : RR' M) : OP X 203 [] 355 [] M := by
  have k0 := w0_k0; have hc4 := w0_ch4; have hmd := w0_md140; have mk0 := hmd.1; have hc4' := w0_ch4; obtain ⟨ck0, cr0, cr1, cr2, cr3, cr4, cr5, cr6, cr7, ck1, ck2, ck3, ck4, ck5, ck6, ck7, ck8, cl1, cl2, cl3, cl4, cl5, cl6, cl7, cl8⟩ := hc4'
  have n := xn_rng h
  have kv := rr_kv h
  obtain ⟨Mb, fb, cb, eb⟩ := k_fillUp (X := X) (p := (M (13 + 1), M (13 + 2))) (rr_c h) ⟨rfl, rfl⟩ kv.2
  have okB := (flF_ok (p := (M (13 + 1), M (13 + 2))) kv.2 n.2 (j := (xn (AA M)).toNat) (by omega)).1
  generalize hM1 : up Mb 0 0 0 = M1
  have m1 : ∀ b, b ≠ 0 → b ≠ 13 + 1 → b ≠ 13 + 2 → M1 b = M b := fun b b0 b1 b2 => by rw [← hM1, up_ne b0, fb b b1 b2]
  have hm : mds M M1 := fun b hb => m1 b (by omega) (by omega) (by omega)
  have qv := rr_qv h hm
  obtain ⟨N2, f2, g2, c2, e2⟩ := m_fill (X := X) (p := (M (13 + 1), M (13 + 2))) qv
  refine ⟨vI (flF (AA M) (M (13 + 1), M (13 + 2)) (xn (AA M)).toNat).2, M1, up N2 140 2 0, ?_, e2, ?_⟩
  · rw [E_203 k0]
    simp (disch := first | assumption | decide | omega | (simp only [List.length_cons, List.length_nil] <;> omega)) only [lgt_0, lgt_s, lset_0, lset_s, lst1_0, lst1_s, lst2_0, lst2_s, ev_iconst, ev_lconst, ev_ldc, ev_null, ev_iload, ev_lload, ev_aload, ev_istore, ev_lstore, ev_astore, ev_iinc, ev_iadd, ev_isub, ev_imul, ev_iand, ev_ior, ev_ishl, ev_ishr, ev_idiv, ev_irem, ev_ineg, ev_ladd, ev_lsub, ev_lmul, ev_land, ev_lor, ev_ldiv, ev_lrem, ev_lshl, ev_i2l, ev_l2i, ev_i2b, ev_i2s, ev_lcmp, ev_dupI, ev_dupR, ev_dup2, ev_popI, ev_popR, ev_alen, ev_xlen, ev_xald, ev_iald, ev_lald, ev_bald, ev_zald, ev_aald, ev_iast, ev_last, ev_bast, ev_zast, ev_aast, ev_gfI, ev_gfL, ev_gfR, ev_pfI, ev_pfZ, ev_pfL, ev_pfR, ev_new, ev_newa, ev_newq, ev_copy, ev_slen, ev_schr, ev_obj, ev_mmin, ev_mabs, ev_mmax, ev_goto, ev_jsr, ev_icmp_eq, ev_if_eq, ev_icmp_ne, ev_if_ne, ev_icmp_lt, ev_if_lt, ev_icmp_ge, ev_if_ge, ev_icmp_gt, ev_if_gt, ev_icmp_le, ev_if_le, ev_ifnull0, ev_ifnull1, ev_ifnn0, ev_ifnn1, ev_tsw, ev_lsw, ev_iret, ev_zret, ev_lret, ev_aret, ev_ret, ev_call0, ev_call1, ev_call2, ev_call3, ev_call4, ev_call5, ev_call6, Option.toList_some, Option.toList_none, List.cons_append, List.nil_append, List.length_cons, List.length_nil, Nat.reduceMod, Nat.reduceDiv, Nat.reduceLeDiff, nc, ↓reduceIte, Nat.zero_le, reduceCtorEq, w32_id, Int.reduceEq, Int.reduceNe, Int.reduceLT, Int.reduceLE, Int.reduceGT, Int.reduceGE, Int.reduceAdd, Int.reduceSub, Int.reduceMul, Int.reduceNeg, ne_eq, not_true_eq_false, not_false_eq_true, eq_self, ↓if_pos, ↓if_neg, w0_r0_3, w0_r0_4, w0_r0_5, w0_r0_6, w0_r0_7, w0_r0_8, w0_r0_10, w0_r0_11, w0_r0_12, w0_r0_13, w0_r0_14, w0_r0_15, w0_r0_16, w0_r0_17, w0_r0_18, J_203_0, k_203_0, eb, s_answer, hM1]
  · refine RR_pl (M := M) (fun i hi => ?_) (fun b b0 b1 b2 b3 b4 b5 b6 => ?_) (fun i i0 i1 => ?_) ?_ ?_ (fun k hk => ?_) (fun i a b => ?_) ?_ ?_ h
    · rw [up_ne (by omega), f2 0 (by omega), ← hM1, up_ne2 hi, fb 0 (by omega) (by omega)]
    · rw [up_ne b4, f2 b b5, m1 b (by omega) b1 b2]
    · rw [up_ne2 i1, f2 140 (by omega), m1 140 (by omega) (by omega) (by omega)]
    · rw [up_ne2 (by omega), f2 140 (by omega), m1 140 (by omega) (by omega) (by omega)]
    · rw [up_ne (by omega), f2 160 (by omega), m1 160 (by omega) (by omega) (by omega)]
    · rw [up_ne (by omega), g2 k hk, m1 _ (by omega) (by omega) (by omega)]
    · rw [up_ne (by omega), up_ne (by omega), f2 (13 + 1) (by omega), ← hM1, up_ne (by omega), cb.1]
      exact (c2.2.2.2.1 i a b).symm
    · rw [up_ne (by omega), up_ne (by omega), f2 (13 + 1) (by omega), f2 (13 + 2) (by omega), ← hM1, up_ne (by omega), up_ne (by omega), cb.1, cb.2]
      exact okB
    · rw [up_eq, up_ne (by omega), f2 0 (by omega), ← hM1, up_eq]
end FIL
