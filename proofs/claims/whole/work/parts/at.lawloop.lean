/-! THE LAW: its loop. -/
theorem G_365 : cdl.getD 365 [] = cd_365 := rfl
theorem J_365_0 : jmp 365 0 = k_365_0 := by unfold jmp; rw [G_365]; rfl
theorem J_365_18 : jmp 365 18 = k_365_18 := by unfold jmp; rw [G_365]; rfl
theorem J_365_308 : jmp 365 308 = k_365_308 := by unfold jmp; rw [G_365]; rfl
theorem J_365_321 : jmp 365 321 = k_365_321 := by unfold jmp; rw [G_365]; rfl
theorem J_365_335 : jmp 365 335 = k_365_335 := by unfold jmp; rw [G_365]; rfl
theorem J_365_349 : jmp 365 349 = k_365_349 := by unfold jmp; rw [G_365]; rfl
theorem J_365_392 : jmp 365 392 = k_365_392 := by unfold jmp; rw [G_365]; rfl
theorem J_365_465 : jmp 365 465 = k_365_465 := by unfold jmp; rw [G_365]; rfl
theorem J_365_499 : jmp 365 499 = k_365_499 := by unfold jmp; rw [G_365]; rfl
theorem J_365_562 : jmp 365 562 = k_365_562 := by unfold jmp; rw [G_365]; rfl
theorem J_365_625 : jmp 365 625 = k_365_625 := by unfold jmp; rw [G_365]; rfl
theorem J_365_648 : jmp 365 648 = k_365_648 := by unfold jmp; rw [G_365]; rfl
theorem J_365_671 : jmp 365 671 = k_365_671 := by unfold jmp; rw [G_365]; rfl
theorem J_365_694 : jmp 365 694 = k_365_694 := by unfold jmp; rw [G_365]; rfl
theorem J_365_717 : jmp 365 717 = k_365_717 := by unfold jmp; rw [G_365]; rfl
theorem J_365_750 : jmp 365 750 = k_365_750 := by unfold jmp; rw [G_365]; rfl
theorem J_365_783 : jmp 365 783 = k_365_783 := by unfold jmp; rw [G_365]; rfl
theorem J_365_816 : jmp 365 816 = k_365_816 := by unfold jmp; rw [G_365]; rfl
theorem J_365_849 : jmp 365 849 = k_365_849 := by unfold jmp; rw [G_365]; rfl
theorem J_365_882 : jmp 365 882 = k_365_882 := by unfold jmp; rw [G_365]; rfl
theorem J_365_915 : jmp 365 915 = k_365_915 := by unfold jmp; rw [G_365]; rfl
theorem J_365_948 : jmp 365 948 = k_365_948 := by unfold jmp; rw [G_365]; rfl
theorem J_365_971 : jmp 365 971 = k_365_971 := by unfold jmp; rw [G_365]; rfl
theorem J_365_984 : jmp 365 984 = k_365_984 := by unfold jmp; rw [G_365]; rfl
theorem J_365_1017 : jmp 365 1017 = k_365_1017 := by unfold jmp; rw [G_365]; rfl
theorem J_365_1040 : jmp 365 1040 = k_365_1040 := by unfold jmp; rw [G_365]; rfl
theorem J_365_1063 : jmp 365 1063 = k_365_1063 := by unfold jmp; rw [G_365]; rfl
theorem J_365_1086 : jmp 365 1086 = k_365_1086 := by unfold jmp; rw [G_365]; rfl
theorem J_365_1119 : jmp 365 1119 = k_365_1119 := by unfold jmp; rw [G_365]; rfl
theorem J_365_1142 : jmp 365 1142 = k_365_1142 := by unfold jmp; rw [G_365]; rfl
theorem J_365_1165 : jmp 365 1165 = k_365_1165 := by unfold jmp; rw [G_365]; rfl
theorem J_365_1178 : jmp 365 1178 = k_365_1178 := by unfold jmp; rw [G_365]; rfl
theorem J_365_1191 : jmp 365 1191 = k_365_1191 := by unfold jmp; rw [G_365]; rfl
theorem J_365_1214 : jmp 365 1214 = k_365_1214 := by unfold jmp; rw [G_365]; rfl
theorem J_365_1237 : jmp 365 1237 = k_365_1237 := by unfold jmp; rw [G_365]; rfl
theorem J_365_1260 : jmp 365 1260 = k_365_1260 := by unfold jmp; rw [G_365]; rfl
theorem J_365_1273 : jmp 365 1273 = k_365_1273 := by unfold jmp; rw [G_365]; rfl
theorem J_365_1286 : jmp 365 1286 = k_365_1286 := by unfold jmp; rw [G_365]; rfl
theorem J_365_1309 : jmp 365 1309 = k_365_1309 := by unfold jmp; rw [G_365]; rfl
theorem J_365_1322 : jmp 365 1322 = k_365_1322 := by unfold jmp; rw [G_365]; rfl
theorem J_365_1355 : jmp 365 1355 = k_365_1355 := by unfold jmp; rw [G_365]; rfl
theorem J_365_1378 : jmp 365 1378 = k_365_1378 := by unfold jmp; rw [G_365]; rfl
theorem J_365_1401 : jmp 365 1401 = k_365_1401 := by unfold jmp; rw [G_365]; rfl
theorem J_365_1434 : jmp 365 1434 = k_365_1434 := by unfold jmp; rw [G_365]; rfl
theorem J_365_1447 : jmp 365 1447 = k_365_1447 := by unfold jmp; rw [G_365]; rfl
theorem J_365_1460 : jmp 365 1460 = k_365_1460 := by unfold jmp; rw [G_365]; rfl
theorem J_365_1483 : jmp 365 1483 = k_365_1483 := by unfold jmp; rw [G_365]; rfl
theorem J_365_1516 : jmp 365 1516 = k_365_1516 := by unfold jmp; rw [G_365]; rfl
theorem J_365_1539 : jmp 365 1539 = k_365_1539 := by unfold jmp; rw [G_365]; rfl
theorem J_365_1572 : jmp 365 1572 = k_365_1572 := by unfold jmp; rw [G_365]; rfl
theorem J_365_1595 : jmp 365 1595 = k_365_1595 := by unfold jmp; rw [G_365]; rfl
theorem J_365_1608 : jmp 365 1608 = k_365_1608 := by unfold jmp; rw [G_365]; rfl
theorem J_365_1621 : jmp 365 1621 = k_365_1621 := by unfold jmp; rw [G_365]; rfl
theorem J_365_1634 : jmp 365 1634 = k_365_1634 := by unfold jmp; rw [G_365]; rfl
theorem J_365_1667 : jmp 365 1667 = k_365_1667 := by unfold jmp; rw [G_365]; rfl
theorem J_365_1720 : jmp 365 1720 = k_365_1720 := by unfold jmp; rw [G_365]; rfl
theorem J_365_1743 : jmp 365 1743 = k_365_1743 := by unfold jmp; rw [G_365]; rfl
theorem J_365_1756 : jmp 365 1756 = k_365_1756 := by unfold jmp; rw [G_365]; rfl
theorem J_365_1789 : jmp 365 1789 = k_365_1789 := by unfold jmp; rw [G_365]; rfl
theorem J_365_1812 : jmp 365 1812 = k_365_1812 := by unfold jmp; rw [G_365]; rfl
theorem J_365_1825 : jmp 365 1825 = k_365_1825 := by unfold jmp; rw [G_365]; rfl
theorem J_365_1838 : jmp 365 1838 = k_365_1838 := by unfold jmp; rw [G_365]; rfl
theorem J_365_1851 : jmp 365 1851 = k_365_1851 := by unfold jmp; rw [G_365]; rfl
theorem J_365_1864 : jmp 365 1864 = k_365_1864 := by unfold jmp; rw [G_365]; rfl
theorem J_365_1887 : jmp 365 1887 = k_365_1887 := by unfold jmp; rw [G_365]; rfl
theorem J_365_1900 : jmp 365 1900 = k_365_1900 := by unfold jmp; rw [G_365]; rfl
theorem J_365_1913 : jmp 365 1913 = k_365_1913 := by unfold jmp; rw [G_365]; rfl
theorem J_365_1926 : jmp 365 1926 = k_365_1926 := by unfold jmp; rw [G_365]; rfl
theorem J_365_1932 : jmp 365 1932 = k_365_1932 := by unfold jmp; rw [G_365]; rfl
abbrev lwO : Array Int := #[308, 321, 335, 349, 392, 465, 499, 562, 625, 648, 671, 694, 717, 750, 783, 816, 849, 882, 915, 948, 971, 984, 1017, 1040, 1063, 1086, 1119, 1142, 1165, 1178, 1191, 1214, 1237, 1260, 1273, 1286, 1309, 1322, 1355, 1378, 1401, 1434, 1447, 1460, 1483, 1516, 1539, 1572, 1595, 1608, 1621, 1634, 1667, 1720, 1743, 1756, 1789, 1812, 1825, 1838, 1851, 1864, 1887, 1900, 1913]
section LWL
variable {X : Int → Int}
theorem lw_all {M : Mem} {i : Int} (h : RR M) (hX : ∀ k, i32 (X k)) (i0 : 0 ≤ i) (i1 : i + 6 ≤ X (-1)) (i2 : X (-1) ≤ 3072) : ∀ b ∈ lwO.toList, ∃ M', RR M' ∧ ev X 365 (jmp 365 b) (lwS i) [] SH0 M = ev X 365 (jmp 365 1926) (lwS i) [] SH0 M' := by
  intro b hb
  have hb' : b ∈ ([308, 321, 335, 349, 392, 465, 499, 562, 625, 648, 671, 694, 717, 750, 783, 816, 849, 882, 915, 948, 971, 984, 1017, 1040, 1063, 1086, 1119, 1142, 1165, 1178, 1191, 1214, 1237, 1260, 1273, 1286, 1309, 1322, 1355, 1378, 1401, 1434, 1447, 1460, 1483, 1516, 1539, 1572, 1595, 1608, 1621, 1634, 1667, 1720, 1743, 1756, 1789, 1812, 1825, 1838, 1851, 1864, 1887, 1900, 1913] : List Int) := hb
  simp only [List.mem_cons, List.not_mem_nil, or_false] at hb'
  rcases hb' with z | z | z | z | z | z | z | z | z | z | z | z | z | z | z | z | z | z | z | z | z | z | z | z | z | z | z | z | z | z | z | z | z | z | z | z | z | z | z | z | z | z | z | z | z | z | z | z | z | z | z | z | z | z | z | z | z | z | z | z | z | z | z | z | z
  · rw [z, J_365_308]; exact lw_308 h hX i0 i1 i2
  · rw [z, J_365_321]; exact lw_321 h hX i0 i1 i2
  · rw [z, J_365_335]; exact lw_335 h hX i0 i1 i2
  · rw [z, J_365_349]; exact lw_349 h hX i0 i1 i2
  · rw [z, J_365_392]; exact lw_392 h hX i0 i1 i2
  · rw [z, J_365_465]; exact lw_465 h hX i0 i1 i2
  · rw [z, J_365_499]; exact lw_499 h hX i0 i1 i2
  · rw [z, J_365_562]; exact lw_562 h hX i0 i1 i2
  · rw [z, J_365_625]; exact lw_625 h hX i0 i1 i2
  · rw [z, J_365_648]; exact lw_648 h hX i0 i1 i2
  · rw [z, J_365_671]; exact lw_671 h hX i0 i1 i2
  · rw [z, J_365_694]; exact lw_694 h hX i0 i1 i2
  · rw [z, J_365_717]; exact lw_717 h hX i0 i1 i2
  · rw [z, J_365_750]; exact lw_750 h hX i0 i1 i2
  · rw [z, J_365_783]; exact lw_783 h hX i0 i1 i2
  · rw [z, J_365_816]; exact lw_816 h hX i0 i1 i2
  · rw [z, J_365_849]; exact lw_849 h hX i0 i1 i2
  · rw [z, J_365_882]; exact lw_882 h hX i0 i1 i2
  · rw [z, J_365_915]; exact lw_915 h hX i0 i1 i2
  · rw [z, J_365_948]; exact lw_948 h hX i0 i1 i2
  · rw [z, J_365_971]; exact lw_971 h hX i0 i1 i2
  · rw [z, J_365_984]; exact lw_984 h hX i0 i1 i2
  · rw [z, J_365_1017]; exact lw_1017 h hX i0 i1 i2
  · rw [z, J_365_1040]; exact lw_1040 h hX i0 i1 i2
  · rw [z, J_365_1063]; exact lw_1063 h hX i0 i1 i2
  · rw [z, J_365_1086]; exact lw_1086 h hX i0 i1 i2
  · rw [z, J_365_1119]; exact lw_1119 h hX i0 i1 i2
  · rw [z, J_365_1142]; exact lw_1142 h hX i0 i1 i2
  · rw [z, J_365_1165]; exact lw_1165 h hX i0 i1 i2
  · rw [z, J_365_1178]; exact lw_1178 h hX i0 i1 i2
  · rw [z, J_365_1191]; exact lw_1191 h hX i0 i1 i2
  · rw [z, J_365_1214]; exact lw_1214 h hX i0 i1 i2
  · rw [z, J_365_1237]; exact lw_1237 h hX i0 i1 i2
  · rw [z, J_365_1260]; exact lw_1260 h hX i0 i1 i2
  · rw [z, J_365_1273]; exact lw_1273 h hX i0 i1 i2
  · rw [z, J_365_1286]; exact lw_1286 h hX i0 i1 i2
  · rw [z, J_365_1309]; exact lw_1309 h hX i0 i1 i2
  · rw [z, J_365_1322]; exact lw_1322 h hX i0 i1 i2
  · rw [z, J_365_1355]; exact lw_1355 h hX i0 i1 i2
  · rw [z, J_365_1378]; exact lw_1378 h hX i0 i1 i2
  · rw [z, J_365_1401]; exact lw_1401 h hX i0 i1 i2
  · rw [z, J_365_1434]; exact lw_1434 h hX i0 i1 i2
  · rw [z, J_365_1447]; exact lw_1447 h hX i0 i1 i2
  · rw [z, J_365_1460]; exact lw_1460 h hX i0 i1 i2
  · rw [z, J_365_1483]; exact lw_1483 h hX i0 i1 i2
  · rw [z, J_365_1516]; exact lw_1516 h hX i0 i1 i2
  · rw [z, J_365_1539]; exact lw_1539 h hX i0 i1 i2
  · rw [z, J_365_1572]; exact lw_1572 h hX i0 i1 i2
  · rw [z, J_365_1595]; exact lw_1595 h hX i0 i1 i2
  · rw [z, J_365_1608]; exact lw_1608 h hX i0 i1 i2
  · rw [z, J_365_1621]; exact lw_1621 h hX i0 i1 i2
  · rw [z, J_365_1634]; exact lw_1634 h hX i0 i1 i2
  · rw [z, J_365_1667]; exact lw_1667 h hX i0 i1 i2
  · rw [z, J_365_1720]; exact lw_1720 h hX i0 i1 i2
  · rw [z, J_365_1743]; exact lw_1743 h hX i0 i1 i2
  · rw [z, J_365_1756]; exact lw_1756 h hX i0 i1 i2
  · rw [z, J_365_1789]; exact lw_1789 h hX i0 i1 i2
  · rw [z, J_365_1812]; exact lw_1812 h hX i0 i1 i2
  · rw [z, J_365_1825]; exact lw_1825 h hX i0 i1 i2
  · rw [z, J_365_1838]; exact lw_1838 h hX i0 i1 i2
  · rw [z, J_365_1851]; exact lw_1851 h hX i0 i1 i2
  · rw [z, J_365_1864]; exact lw_1864 h hX i0 i1 i2
  · rw [z, J_365_1887]; exact lw_1887 h hX i0 i1 i2
  · rw [z, J_365_1900]; exact lw_1900 h hX i0 i1 i2
  · rw [z, J_365_1913]; exact lw_1913 h hX i0 i1 i2
theorem lw_go {M : Mem} {i : Int} (h : RR M) (hX : ∀ k, i32 (X k)) (i0 : 0 ≤ i) (i1 : i + 6 ≤ X (-1)) (i2 : X (-1) ≤ 3072) (u : Int) : ∃ M', RR M' ∧ ev X 365 (jmp 365 (tsw 1926 0 64 lwO u)) (lwS i) [] SH0 M = ev X 365 (jmp 365 1926) (lwS i) [] SH0 M' := by
  unfold tsw
  by_cases z : u < 0 ∨ 64 < u
  · rw [if_pos z]
    exact ⟨M, h, rfl⟩
  · rw [if_neg z]
    have hl : (u - 0).toNat < lwO.toList.length := by
      show (u - 0).toNat < 65
      omega
    have e : lwO.toList.getD (u - 0).toNat 1926 = lwO.toList[(u - 0).toNat] := by rw [List.getD_eq_getElem?_getD, List.getElem?_eq_getElem hl]; rfl
    rw [e]
    exact lw_all h hX i0 i1 i2 _ (List.getElem_mem hl)
theorem lw_loop (hX : ∀ k, i32 (X k)) (x0 : 0 ≤ X (-1)) (i2 : X (-1) ≤ 3072) : ∀ (f : Nat) (i : Int) (M : Mem), X (-1) - i ≤ 6 * f → 0 ≤ i → i ≤ X (-1) → RR M → ∃ M', RR M' ∧ ev X 365 (jmp 365 18) (lwS i) [] SH0 M = some (some (vI 1), SH0, M')
  | f, i, M, hf, i0, ie, h => by
    rw [J_365_18]
    by_cases q : i + 6 ≤ X (-1)
    · cases f with
      | zero => omega
      | succ f =>
        have q' : ¬ X (-1) - 6 < i := by omega
        obtain ⟨M1, r1, e1⟩ := lw_go h hX i0 q i2 (i_and (X i) 127)
        obtain ⟨M2, r2, e2⟩ := lw_loop hX x0 i2 f (i + 6) M1 (by omega) (by omega) q r1
        refine ⟨M2, r2, ?_⟩
        unfold lwS at e1 e2 ⊢
        simp (disch := first | assumption | decide | omega | (simp only [List.length_cons, List.length_nil] <;> omega)) only [lgt_0, lgt_s, lset_0, lset_s, lst1_0, lst1_s, lst2_0, lst2_s, ev_iconst, ev_lconst, ev_ldc, ev_null, ev_iload, ev_lload, ev_aload, ev_istore, ev_lstore, ev_astore, ev_iinc, ev_iadd, ev_isub, ev_imul, ev_iand, ev_ior, ev_ishl, ev_ishr, ev_idiv, ev_irem, ev_ineg, ev_ladd, ev_lsub, ev_lmul, ev_land, ev_lor, ev_ldiv, ev_lrem, ev_lshl, ev_i2l, ev_l2i, ev_i2b, ev_i2s, ev_lcmp, ev_dupI, ev_dupR, ev_dup2, ev_popI, ev_popR, ev_alen, ev_xlen, ev_xald, ev_iald, ev_lald, ev_bald, ev_zald, ev_aald, ev_iast, ev_last, ev_bast, ev_zast, ev_aast, ev_gfI, ev_gfL, ev_gfR, ev_pfI, ev_pfZ, ev_pfL, ev_pfR, ev_new, ev_newa, ev_newq, ev_copy, ev_slen, ev_schr, ev_obj, ev_mmin, ev_mabs, ev_mmax, ev_goto, ev_jsr, ev_icmp_eq, ev_if_eq, ev_icmp_ne, ev_if_ne, ev_icmp_lt, ev_if_lt, ev_icmp_ge, ev_if_ge, ev_icmp_gt, ev_if_gt, ev_icmp_le, ev_if_le, ev_ifnull0, ev_ifnull1, ev_ifnn0, ev_ifnn1, ev_tsw, ev_lsw, ev_iret, ev_zret, ev_lret, ev_aret, ev_ret, ev_call0, ev_call1, ev_call2, ev_call3, ev_call4, ev_call5, ev_call6, Option.toList_some, Option.toList_none, List.cons_append, List.nil_append, List.length_cons, List.length_nil, Nat.reduceMod, Nat.reduceDiv, Nat.reduceLeDiff, nc, ↓reduceIte, Nat.zero_le, reduceCtorEq, w32_id, Int.reduceEq, Int.reduceNe, Int.reduceLT, Int.reduceLE, Int.reduceGT, Int.reduceGE, Int.reduceAdd, Int.reduceSub, Int.reduceMul, Int.reduceNeg, ne_eq, not_true_eq_false, not_false_eq_true, eq_self, ↓if_pos, ↓if_neg, k_365_18, q', e1, J_365_1926, k_365_1926, e2]
    · have q' : X (-1) - 6 < i := by omega
      refine ⟨M, h, ?_⟩
      unfold lwS
      simp (disch := first | assumption | decide | omega | (simp only [List.length_cons, List.length_nil] <;> omega)) only [lgt_0, lgt_s, lset_0, lset_s, lst1_0, lst1_s, lst2_0, lst2_s, ev_iconst, ev_lconst, ev_ldc, ev_null, ev_iload, ev_lload, ev_aload, ev_istore, ev_lstore, ev_astore, ev_iinc, ev_iadd, ev_isub, ev_imul, ev_iand, ev_ior, ev_ishl, ev_ishr, ev_idiv, ev_irem, ev_ineg, ev_ladd, ev_lsub, ev_lmul, ev_land, ev_lor, ev_ldiv, ev_lrem, ev_lshl, ev_i2l, ev_l2i, ev_i2b, ev_i2s, ev_lcmp, ev_dupI, ev_dupR, ev_dup2, ev_popI, ev_popR, ev_alen, ev_xlen, ev_xald, ev_iald, ev_lald, ev_bald, ev_zald, ev_aald, ev_iast, ev_last, ev_bast, ev_zast, ev_aast, ev_gfI, ev_gfL, ev_gfR, ev_pfI, ev_pfZ, ev_pfL, ev_pfR, ev_new, ev_newa, ev_newq, ev_copy, ev_slen, ev_schr, ev_obj, ev_mmin, ev_mabs, ev_mmax, ev_goto, ev_jsr, ev_icmp_eq, ev_if_eq, ev_icmp_ne, ev_if_ne, ev_icmp_lt, ev_if_lt, ev_icmp_ge, ev_if_ge, ev_icmp_gt, ev_if_gt, ev_icmp_le, ev_if_le, ev_ifnull0, ev_ifnull1, ev_ifnn0, ev_ifnn1, ev_tsw, ev_lsw, ev_iret, ev_zret, ev_lret, ev_aret, ev_ret, ev_call0, ev_call1, ev_call2, ev_call3, ev_call4, ev_call5, ev_call6, Option.toList_some, Option.toList_none, List.cons_append, List.nil_append, List.length_cons, List.length_nil, Nat.reduceMod, Nat.reduceDiv, Nat.reduceLeDiff, nc, ↓reduceIte, Nat.zero_le, reduceCtorEq, w32_id, Int.reduceEq, Int.reduceNe, Int.reduceLT, Int.reduceLE, Int.reduceGT, Int.reduceGE, Int.reduceAdd, Int.reduceSub, Int.reduceMul, Int.reduceNeg, ne_eq, not_true_eq_false, not_false_eq_true, eq_self, ↓if_pos, ↓if_neg, k_365_18, q', J_365_1932, k_365_1932]
end LWL
