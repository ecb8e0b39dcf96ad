/-! CHARTS in the world: a chart's cell c, its rows behind it. -/
def CH (Sh : List SE) (c : Nat) : Prop := knd Sh c = 2 ∧ rfs Sh c 0 = some (c + 1) ∧ rfs Sh c 1 = some (c + 2) ∧ rfs Sh c 2 = some (c + 3) ∧ rfs Sh c 3 = some (c + 4) ∧ rfs Sh c 4 = some (c + 5) ∧ rfs Sh c 5 = some (c + 6) ∧ rfs Sh c 6 = some (c + 7) ∧ rfs Sh c 7 = some (c + 8) ∧ knd Sh (c + 1) = 100 ∧ knd Sh (c + 2) = 101 ∧ knd Sh (c + 3) = 100 ∧ knd Sh (c + 4) = 100 ∧ knd Sh (c + 5) = 100 ∧ knd Sh (c + 6) = 100 ∧ knd Sh (c + 7) = 100 ∧ knd Sh (c + 8) = 100 ∧ len Sh (c + 1) = 15 ∧ len Sh (c + 2) = 5 ∧ len Sh (c + 3) = 5 ∧ len Sh (c + 4) = 5 ∧ len Sh (c + 5) = 48 ∧ len Sh (c + 6) = 48 ∧ len Sh (c + 7) = 48 ∧ len Sh (c + 8) = 48
theorem nc {n : Nat} : ((no_index (OfNat.ofNat n) : Nat) : Int) = OfNat.ofNat n := rfl
theorem w32_id {z : Int} (h0 : -2147483648 ≤ z) (h1 : z < 2147483648) : w32 z = z := by
  unfold w32
  exact Int.bmod_eq_of_le (by omega) (by omega)
/-- a loop as a row of states -/
theorem ev_loop {X : Int → Int} {y : Nat} {is : List Instr} {Sh : List SE} (L : Nat → PLS) (m : Nat → Mem) : ∀ (n : Nat), (∀ i, i < n → ev X y is (L i) [] Sh (m i) = ev X y is (L (i + 1)) [] Sh (m (i + 1))) → ev X y is (L 0) [] Sh (m 0) = ev X y is (L n) [] Sh (m n)
  | 0, _ => rfl
  | n + 1, h => (ev_loop L m n (fun i hi => h i (Nat.lt_succ_of_lt hi))).trans (h n (Nat.lt_succ_self n))
/-- a loop with an invariant -/
theorem ev_loopE {X : Int → Int} {y : Nat} {is : List Instr} {Sh : List SE} (I : Nat → PLS → Mem → Prop) : ∀ (n : Nat), (∀ i, i < n → ∀ ls M, I i ls M → ∃ ls' M', I (i + 1) ls' M' ∧ ev X y is ls [] Sh M = ev X y is ls' [] Sh M') → ∀ ls M, I 0 ls M → ∃ ls' M', I n ls' M' ∧ ev X y is ls [] Sh M = ev X y is ls' [] Sh M'
  | 0, _ => fun ls M h => ⟨ls, M, h, rfl⟩
  | n + 1, h => fun ls M h0 => by
    obtain ⟨l1, m1, i1, e1⟩ := ev_loopE I n (fun i hi => h i (Nat.lt_succ_of_lt hi)) ls M h0
    obtain ⟨l2, m2, i2, e2⟩ := h n (Nat.lt_succ_self n) l1 m1 i1
    exact ⟨l2, m2, i2, e1.trans e2⟩
/-! what both sides reckon: S settings, H hues, P places, R rows, n stitches -/
def wayF (S H P R : Int → Int) (n i j : Int) : Int :=
  if 0 ≤ i ∧ i < j ∧ j < n ∧ H i = H j then
    if j - i - 1 = 0 then 1
    else if S 14 = 1 ∨ R i = R j then (if j - i - 1 ≤ S 4 then 2 else if S 6 = 0 then 0 else 3)
    else if R j = R i + 1 ∧ -(S 7) ≤ P i - P j ∧ P i - P j ≤ S 7 then 4 else 0
  else 0
def goodS (S : Int → Int) : Prop := (0 ≤ S 0 ∧ S 0 ≤ 8) ∧ (0 ≤ S 1 ∧ S 1 ≤ 6) ∧ (0 ≤ S 2 ∧ S 2 ≤ 5) ∧ (0 ≤ S 3 ∧ S 3 ≤ 99) ∧ (0 ≤ S 4 ∧ S 4 ≤ 47) ∧ (0 ≤ S 5 ∧ S 5 ≤ 9) ∧ (0 ≤ S 6 ∧ S 6 ≤ 9) ∧ (0 ≤ S 7 ∧ S 7 ≤ 7) ∧ (0 ≤ S 8 ∧ S 8 ≤ 99) ∧ (1 ≤ S 9 ∧ S 9 ≤ 48) ∧ (0 ≤ S 10 ∧ S 10 ≤ 99) ∧ (0 ≤ S 11 ∧ S 11 ≤ 99) ∧ (0 ≤ S 12 ∧ S 12 ≤ 999) ∧ (0 ≤ S 13 ∧ S 13 ≤ 999) ∧ (0 ≤ S 14 ∧ S 14 ≤ 1)
/-- stitches, and of each its hue, place and row are in range -/
def goodN (S H P R : Int → Int) (n : Int) : Prop := goodS S ∧ (0 ≤ n ∧ n ≤ 48) ∧ ∀ i, 0 ≤ i → i < n → (0 ≤ H i ∧ H i < S 2) ∧ (0 ≤ P i ∧ P i < S 0) ∧ (0 ≤ R i ∧ R i < S 1)
def goodC (M : Mem) (c : Nat) : Prop := goodN (M (c + 1)) (M (c + 6)) (M (c + 7)) (M (c + 8)) (M c 8)
section CHT
variable {X : Int → Int} {Sh : List SE} {M : Mem} {c : Nat}
theorem s_hasStitch (h : CH Sh c) {i : Int} : evc X 95 [vR (some c), vI i] Sh M = some (some (vI (if 0 ≤ i ∧ i < M c 8 then 1 else 0)), Sh, M) := by
  obtain ⟨hk0, hr0, hr1, hr2, hr3, hr4, hr5, hr6, hr7, hk1, hk2, hk3, hk4, hk5, hk6, hk7, hk8, hl1, hl2, hl3, hl4, hl5, hl6, hl7, hl8⟩ := h
  rw [E_95 hk0]
  simp (disch := first | assumption | decide | omega | (simp only [List.length_cons, List.length_nil] <;> omega)) only [lgt_0, lgt_s, lset_0, lset_s, lst1_0, lst1_s, lst2_0, lst2_s, ev_iconst, ev_lconst, ev_ldc, ev_null, ev_iload, ev_lload, ev_aload, ev_istore, ev_lstore, ev_astore, ev_iinc, ev_iadd, ev_isub, ev_imul, ev_iand, ev_ior, ev_ishl, ev_ishr, ev_idiv, ev_irem, ev_ineg, ev_ladd, ev_lsub, ev_lmul, ev_land, ev_lor, ev_ldiv, ev_lrem, ev_lshl, ev_i2l, ev_l2i, ev_i2b, ev_i2s, ev_lcmp, ev_dupI, ev_dupR, ev_dup2, ev_popI, ev_popR, ev_alen, ev_xlen, ev_xald, ev_iald, ev_lald, ev_bald, ev_zald, ev_aald, ev_iast, ev_last, ev_bast, ev_zast, ev_aast, ev_gfI, ev_gfL, ev_gfR, ev_pfI, ev_pfZ, ev_pfL, ev_pfR, ev_new, ev_newa, ev_newq, ev_copy, ev_slen, ev_schr, ev_obj, ev_mmin, ev_mabs, ev_mmax, ev_goto, ev_jsr, ev_icmp_eq, ev_if_eq, ev_icmp_ne, ev_if_ne, ev_icmp_lt, ev_if_lt, ev_icmp_ge, ev_if_ge, ev_icmp_gt, ev_if_gt, ev_icmp_le, ev_if_le, ev_ifnull0, ev_ifnull1, ev_ifnn0, ev_ifnn1, ev_tsw, ev_lsw, ev_iret, ev_zret, ev_lret, ev_aret, ev_ret, ev_call0, ev_call1, ev_call2, ev_call3, ev_call4, ev_call5, ev_call6, Option.toList_some, Option.toList_none, List.cons_append, List.nil_append, List.length_cons, List.length_nil, Nat.reduceMod, Nat.reduceDiv, Nat.reduceAdd, Nat.reduceLeDiff, nc, if_true, if_false, Nat.zero_le, J_95_0, k_95_0, J_95_16, k_95_16, J_95_17, k_95_17]
  repeat' split
  all_goals first | rfl | omega
theorem s_hasCouple (h : CH Sh c) {i j : Int} : evc X 99 [vR (some c), vI i, vI j] Sh M = some (some (vI (if 0 ≤ i ∧ i < j ∧ j < M c 8 then 1 else 0)), Sh, M) := by
  obtain ⟨hk0, hr0, hr1, hr2, hr3, hr4, hr5, hr6, hr7, hk1, hk2, hk3, hk4, hk5, hk6, hk7, hk8, hl1, hl2, hl3, hl4, hl5, hl6, hl7, hl8⟩ := h
  rw [E_99 hk0]
  simp (disch := first | assumption | decide | omega | (simp only [List.length_cons, List.length_nil] <;> omega)) only [lgt_0, lgt_s, lset_0, lset_s, lst1_0, lst1_s, lst2_0, lst2_s, ev_iconst, ev_lconst, ev_ldc, ev_null, ev_iload, ev_lload, ev_aload, ev_istore, ev_lstore, ev_astore, ev_iinc, ev_iadd, ev_isub, ev_imul, ev_iand, ev_ior, ev_ishl, ev_ishr, ev_idiv, ev_irem, ev_ineg, ev_ladd, ev_lsub, ev_lmul, ev_land, ev_lor, ev_ldiv, ev_lrem, ev_lshl, ev_i2l, ev_l2i, ev_i2b, ev_i2s, ev_lcmp, ev_dupI, ev_dupR, ev_dup2, ev_popI, ev_popR, ev_alen, ev_xlen, ev_xald, ev_iald, ev_lald, ev_bald, ev_zald, ev_aald, ev_iast, ev_last, ev_bast, ev_zast, ev_aast, ev_gfI, ev_gfL, ev_gfR, ev_pfI, ev_pfZ, ev_pfL, ev_pfR, ev_new, ev_newa, ev_newq, ev_copy, ev_slen, ev_schr, ev_obj, ev_mmin, ev_mabs, ev_mmax, ev_goto, ev_jsr, ev_icmp_eq, ev_if_eq, ev_icmp_ne, ev_if_ne, ev_icmp_lt, ev_if_lt, ev_icmp_ge, ev_if_ge, ev_icmp_gt, ev_if_gt, ev_icmp_le, ev_if_le, ev_ifnull0, ev_ifnull1, ev_ifnn0, ev_ifnn1, ev_tsw, ev_lsw, ev_iret, ev_zret, ev_lret, ev_aret, ev_ret, ev_call0, ev_call1, ev_call2, ev_call3, ev_call4, ev_call5, ev_call6, Option.toList_some, Option.toList_none, List.cons_append, List.nil_append, List.length_cons, List.length_nil, Nat.reduceMod, Nat.reduceDiv, Nat.reduceAdd, Nat.reduceLeDiff, nc, if_true, if_false, Nat.zero_le, J_99_0, k_99_0, J_99_21, k_99_21, J_99_22, k_99_22]
  repeat' split
  all_goals first | rfl | omega
theorem s_hasRow (h : CH Sh c) {i : Int} : evc X 97 [vR (some c), vI i] Sh M = some (some (vI (if 0 ≤ i ∧ i < M (c + 1) 1 then 1 else 0)), Sh, M) := by
  obtain ⟨hk0, hr0, hr1, hr2, hr3, hr4, hr5, hr6, hr7, hk1, hk2, hk3, hk4, hk5, hk6, hk7, hk8, hl1, hl2, hl3, hl4, hl5, hl6, hl7, hl8⟩ := h
  rw [E_97 hk0]
  simp (disch := first | assumption | decide | omega | (simp only [List.length_cons, List.length_nil] <;> omega)) only [lgt_0, lgt_s, lset_0, lset_s, lst1_0, lst1_s, lst2_0, lst2_s, ev_iconst, ev_lconst, ev_ldc, ev_null, ev_iload, ev_lload, ev_aload, ev_istore, ev_lstore, ev_astore, ev_iinc, ev_iadd, ev_isub, ev_imul, ev_iand, ev_ior, ev_ishl, ev_ishr, ev_idiv, ev_irem, ev_ineg, ev_ladd, ev_lsub, ev_lmul, ev_land, ev_lor, ev_ldiv, ev_lrem, ev_lshl, ev_i2l, ev_l2i, ev_i2b, ev_i2s, ev_lcmp, ev_dupI, ev_dupR, ev_dup2, ev_popI, ev_popR, ev_alen, ev_xlen, ev_xald, ev_iald, ev_lald, ev_bald, ev_zald, ev_aald, ev_iast, ev_last, ev_bast, ev_zast, ev_aast, ev_gfI, ev_gfL, ev_gfR, ev_pfI, ev_pfZ, ev_pfL, ev_pfR, ev_new, ev_newa, ev_newq, ev_copy, ev_slen, ev_schr, ev_obj, ev_mmin, ev_mabs, ev_mmax, ev_goto, ev_jsr, ev_icmp_eq, ev_if_eq, ev_icmp_ne, ev_if_ne, ev_icmp_lt, ev_if_lt, ev_icmp_ge, ev_if_ge, ev_icmp_gt, ev_if_gt, ev_icmp_le, ev_if_le, ev_ifnull0, ev_ifnull1, ev_ifnn0, ev_ifnn1, ev_tsw, ev_lsw, ev_iret, ev_zret, ev_lret, ev_aret, ev_ret, ev_call0, ev_call1, ev_call2, ev_call3, ev_call4, ev_call5, ev_call6, Option.toList_some, Option.toList_none, List.cons_append, List.nil_append, List.length_cons, List.length_nil, Nat.reduceMod, Nat.reduceDiv, Nat.reduceAdd, Nat.reduceLeDiff, nc, if_true, if_false, Nat.zero_le, hr0, hr1, hr2, hr3, hr4, hr5, hr6, hr7, J_97_0, k_97_0, J_97_18, k_97_18, J_97_19, k_97_19]
  repeat' split
  all_goals first | rfl | omega
theorem s_hasColour (h : CH Sh c) {i : Int} : evc X 92 [vR (some c), vI i] Sh M = some (some (vI (if 0 ≤ i ∧ i < M (c + 1) 2 then 1 else 0)), Sh, M) := by
  obtain ⟨hk0, hr0, hr1, hr2, hr3, hr4, hr5, hr6, hr7, hk1, hk2, hk3, hk4, hk5, hk6, hk7, hk8, hl1, hl2, hl3, hl4, hl5, hl6, hl7, hl8⟩ := h
  rw [E_92 hk0]
  simp (disch := first | assumption | decide | omega | (simp only [List.length_cons, List.length_nil] <;> omega)) only [lgt_0, lgt_s, lset_0, lset_s, lst1_0, lst1_s, lst2_0, lst2_s, ev_iconst, ev_lconst, ev_ldc, ev_null, ev_iload, ev_lload, ev_aload, ev_istore, ev_lstore, ev_astore, ev_iinc, ev_iadd, ev_isub, ev_imul, ev_iand, ev_ior, ev_ishl, ev_ishr, ev_idiv, ev_irem, ev_ineg, ev_ladd, ev_lsub, ev_lmul, ev_land, ev_lor, ev_ldiv, ev_lrem, ev_lshl, ev_i2l, ev_l2i, ev_i2b, ev_i2s, ev_lcmp, ev_dupI, ev_dupR, ev_dup2, ev_popI, ev_popR, ev_alen, ev_xlen, ev_xald, ev_iald, ev_lald, ev_bald, ev_zald, ev_aald, ev_iast, ev_last, ev_bast, ev_zast, ev_aast, ev_gfI, ev_gfL, ev_gfR, ev_pfI, ev_pfZ, ev_pfL, ev_pfR, ev_new, ev_newa, ev_newq, ev_copy, ev_slen, ev_schr, ev_obj, ev_mmin, ev_mabs, ev_mmax, ev_goto, ev_jsr, ev_icmp_eq, ev_if_eq, ev_icmp_ne, ev_if_ne, ev_icmp_lt, ev_if_lt, ev_icmp_ge, ev_if_ge, ev_icmp_gt, ev_if_gt, ev_icmp_le, ev_if_le, ev_ifnull0, ev_ifnull1, ev_ifnn0, ev_ifnn1, ev_tsw, ev_lsw, ev_iret, ev_zret, ev_lret, ev_aret, ev_ret, ev_call0, ev_call1, ev_call2, ev_call3, ev_call4, ev_call5, ev_call6, Option.toList_some, Option.toList_none, List.cons_append, List.nil_append, List.length_cons, List.length_nil, Nat.reduceMod, Nat.reduceDiv, Nat.reduceAdd, Nat.reduceLeDiff, nc, if_true, if_false, Nat.zero_le, hr0, hr1, hr2, hr3, hr4, hr5, hr6, hr7, J_92_0, k_92_0, J_92_18, k_92_18, J_92_19, k_92_19]
  repeat' split
  all_goals first | rfl | omega
theorem s_way (h : CH Sh c) (g : goodC M c) {i j : Int} (hi : -2147483648 ≤ i ∧ i < 2147483648) (hj : -2147483648 ≤ j ∧ j < 2147483648) : evc X 100 [vR (some c), vI i, vI j] Sh M = some (some (vI (wayF (M (c + 1)) (M (c + 6)) (M (c + 7)) (M (c + 8)) (M c 8) i j)), Sh, M) := by
  have hcp := s_hasCouple (X := X) (M := M) h (i := i) (j := j)
  obtain ⟨hk0, hr0, hr1, hr2, hr3, hr4, hr5, hr6, hr7, hk1, hk2, hk3, hk4, hk5, hk6, hk7, hk8, hl1, hl2, hl3, hl4, hl5, hl6, hl7, hl8⟩ := h
  obtain ⟨gs, ⟨gn0, gn1⟩, gi⟩ := g
  obtain ⟨gs0, gs1, gs2, gs3, gs4, gs5, gs6, gs7, gs8, gs9, gs10, gs11, gs12, gs13, gs14⟩ := gs
  rw [E_100 hk0]
  unfold wayF
  by_cases hc : 0 ≤ i ∧ i < j ∧ j < M c 8
  · obtain ⟨h1, h2, h3⟩ := hc
    have gi1 := gi i h1 (by omega)
    have gj1 := gi j (by omega) h3
    rw [if_pos ⟨h1, h2, h3⟩] at hcp
    have e1 : w32 (j - i) = j - i := w32_id (by omega) (by omega)
    have e2 : w32 (j - i - 1) = j - i - 1 := w32_id (by omega) (by omega)
    have e3 : w32 (M (c + 7) i - M (c + 7) j) = M (c + 7) i - M (c + 7) j := w32_id (by omega) (by omega)
    have e4 : w32 (0 - (M (c + 7) i - M (c + 7) j)) = 0 - (M (c + 7) i - M (c + 7) j) := w32_id (by omega) (by omega)
    have e5 : w32 (M (c + 8) i + 1) = M (c + 8) i + 1 := w32_id (by omega) (by omega)
    simp (disch := first | assumption | decide | omega | (simp only [List.length_cons, List.length_nil] <;> omega)) only [lgt_0, lgt_s, lset_0, lset_s, lst1_0, lst1_s, lst2_0, lst2_s, ev_iconst, ev_lconst, ev_ldc, ev_null, ev_iload, ev_lload, ev_aload, ev_istore, ev_lstore, ev_astore, ev_iinc, ev_iadd, ev_isub, ev_imul, ev_iand, ev_ior, ev_ishl, ev_ishr, ev_idiv, ev_irem, ev_ineg, ev_ladd, ev_lsub, ev_lmul, ev_land, ev_lor, ev_ldiv, ev_lrem, ev_lshl, ev_i2l, ev_l2i, ev_i2b, ev_i2s, ev_lcmp, ev_dupI, ev_dupR, ev_dup2, ev_popI, ev_popR, ev_alen, ev_xlen, ev_xald, ev_iald, ev_lald, ev_bald, ev_zald, ev_aald, ev_iast, ev_last, ev_bast, ev_zast, ev_aast, ev_gfI, ev_gfL, ev_gfR, ev_pfI, ev_pfZ, ev_pfL, ev_pfR, ev_new, ev_newa, ev_newq, ev_copy, ev_slen, ev_schr, ev_obj, ev_mmin, ev_mabs, ev_mmax, ev_goto, ev_jsr, ev_icmp_eq, ev_if_eq, ev_icmp_ne, ev_if_ne, ev_icmp_lt, ev_if_lt, ev_icmp_ge, ev_if_ge, ev_icmp_gt, ev_if_gt, ev_icmp_le, ev_if_le, ev_ifnull0, ev_ifnull1, ev_ifnn0, ev_ifnn1, ev_tsw, ev_lsw, ev_iret, ev_zret, ev_lret, ev_aret, ev_ret, ev_call0, ev_call1, ev_call2, ev_call3, ev_call4, ev_call5, ev_call6, Option.toList_some, Option.toList_none, List.cons_append, List.nil_append, List.length_cons, List.length_nil, Nat.reduceMod, Nat.reduceDiv, Nat.reduceAdd, Nat.reduceLeDiff, nc, if_true, if_false, Nat.zero_le, hr0, hr1, hr2, hr3, hr4, hr5, hr6, hr7, J_100_0, k_100_0, J_100_24, k_100_24, J_100_26, k_100_26, J_100_38, k_100_38, J_100_64, k_100_64, J_100_76, k_100_76, J_100_90, k_100_90, J_100_91, k_100_91, J_100_92, k_100_92, J_100_122, k_100_122, J_100_123, k_100_123, J_100_151, k_100_151, J_100_152, k_100_152, hcp, e1, e2, e3, e4, e5]
    clear hr0 hr1 hr2 hr3 hr4 hr5 hr6 hr7 hk1 hk2 hk3 hk4 hk5 hk6 hk7 hk8 hl1 hl2 hl3 hl4 hl5 hl6 hl7 hl8
    repeat' split
    all_goals first | rfl | omega | skip
  · rw [if_neg hc] at hcp
    simp (disch := first | assumption | decide | omega | (simp only [List.length_cons, List.length_nil] <;> omega)) only [lgt_0, lgt_s, lset_0, lset_s, lst1_0, lst1_s, lst2_0, lst2_s, ev_iconst, ev_lconst, ev_ldc, ev_null, ev_iload, ev_lload, ev_aload, ev_istore, ev_lstore, ev_astore, ev_iinc, ev_iadd, ev_isub, ev_imul, ev_iand, ev_ior, ev_ishl, ev_ishr, ev_idiv, ev_irem, ev_ineg, ev_ladd, ev_lsub, ev_lmul, ev_land, ev_lor, ev_ldiv, ev_lrem, ev_lshl, ev_i2l, ev_l2i, ev_i2b, ev_i2s, ev_lcmp, ev_dupI, ev_dupR, ev_dup2, ev_popI, ev_popR, ev_alen, ev_xlen, ev_xald, ev_iald, ev_lald, ev_bald, ev_zald, ev_aald, ev_iast, ev_last, ev_bast, ev_zast, ev_aast, ev_gfI, ev_gfL, ev_gfR, ev_pfI, ev_pfZ, ev_pfL, ev_pfR, ev_new, ev_newa, ev_newq, ev_copy, ev_slen, ev_schr, ev_obj, ev_mmin, ev_mabs, ev_mmax, ev_goto, ev_jsr, ev_icmp_eq, ev_if_eq, ev_icmp_ne, ev_if_ne, ev_icmp_lt, ev_if_lt, ev_icmp_ge, ev_if_ge, ev_icmp_gt, ev_if_gt, ev_icmp_le, ev_if_le, ev_ifnull0, ev_ifnull1, ev_ifnn0, ev_ifnn1, ev_tsw, ev_lsw, ev_iret, ev_zret, ev_lret, ev_aret, ev_ret, ev_call0, ev_call1, ev_call2, ev_call3, ev_call4, ev_call5, ev_call6, Option.toList_some, Option.toList_none, List.cons_append, List.nil_append, List.length_cons, List.length_nil, Nat.reduceMod, Nat.reduceDiv, Nat.reduceAdd, Nat.reduceLeDiff, nc, if_true, if_false, Nat.zero_le, hr0, hr1, hr2, hr3, hr4, hr5, hr6, hr7, J_100_0, k_100_0, J_100_24, k_100_24, J_100_26, k_100_26, J_100_38, k_100_38, J_100_64, k_100_64, J_100_76, k_100_76, J_100_90, k_100_90, J_100_91, k_100_91, J_100_92, k_100_92, J_100_122, k_100_122, J_100_123, k_100_123, J_100_151, k_100_151, J_100_152, k_100_152, hcp]
    rw [if_neg (fun h => hc ⟨h.1, h.2.1, h.2.2.1⟩)]
end CHT
