/-! PAIRING: growing a tree, the search's turns. -/
theorem ev_for {X : Int → Int} {y : Nat} {b : Int} {K : List Instr} {Sh : List SE} (I : Nat → PLS → Mem → Prop) (hK : jmp y b = K) (n : Nat) (h : ∀ i, i < n → ∀ ls M, I i ls M → ∃ ls' M', I (i + 1) ls' M' ∧ ev X y K ls [] Sh M = ev X y (jmp y b) ls' [] Sh M') (ls : PLS) (M : Mem) (h0 : I 0 ls M) : ∃ ls' M', I n ls' M' ∧ ev X y (jmp y b) ls [] Sh M = ev X y K ls' [] Sh M' := by
  have e := ev_loopE (X := X) (y := y) (is := jmp y b) (Sh := Sh) I n (fun i hi ls M hI => by
    obtain ⟨ls', M', h1, h2⟩ := h i hi ls M hI
    exact ⟨ls', M', h1, by rw [← h2, hK]⟩) ls M h0
  obtain ⟨ls', M', h1, h2⟩ := e
  exact ⟨ls', M', h1, by rw [h2, hK]⟩
theorem ev_while {X : Int → Int} {y : Nat} {b : Int} {K : List Instr} {Sh : List SE} (I : Nat → PLS → Mem → Prop) (Q : Option PRES → Prop) (hK : jmp y b = K) (h : ∀ n ls M, I n ls M → (∃ k ls' M', k < n ∧ I k ls' M' ∧ ev X y K ls [] Sh M = ev X y (jmp y b) ls' [] Sh M') ∨ Q (ev X y K ls [] Sh M)) : ∀ n ls M, I n ls M → Q (ev X y (jmp y b) ls [] Sh M) := by
  intro n
  induction n using Nat.strongRecOn with
  | _ n ih =>
    intro ls M hI
    rcases h n ls M hI with ⟨k, ls', M', hk, hI', e⟩ | e
    · rw [hK, e]
      exact ih k hk ls' M' hI'
    · rw [hK]
      exact e
theorem up_eq {M : Mem} {a : Nat} {j z : Int} : up M a j z a j = z := by rw [up_at, if_pos rfl]
theorem up_ne2 {M : Mem} {a : Nat} {j z i : Int} (h : i ≠ j) : up M a j z a i = M a i := by rw [up_at, if_neg h]
section TRE
variable {X : Int → Int} {Sh : List SE} {M : Mem} {p : Nat}
theorem s_nearest (h : PA Sh p) (hn : 0 ≤ M p 2 ∧ M p 2 ≤ 48) (h0 : M (p + 9) 0 = 0) : ∃ t, (0 ≤ t ∧ t ≤ M p 2) ∧ M (p + 9) t = 0 ∧ (∀ c, 0 ≤ c → c ≤ M p 2 → M (p + 9) c = 0 → M (p + 8) t ≤ M (p + 8) c) ∧ evc X 149 [vR (some p)] Sh M = some (some (vI t), Sh, M) := by
  have hk0 := h.1; obtain ⟨r_distances, k_distances, l_distances⟩ := pa_distances h; obtain ⟨r_reached, k_reached, l_reached⟩ := pa_reached h
  obtain ⟨ls', M', ⟨hM, t, hls, ht, hr, hd⟩, he⟩ := ev_for (X := X) (y := 149) (Sh := Sh) (fun i ls M' => M' = M ∧ ∃ t, ls = [some (vR (some p)), some (vI t), some (vI ((i : Int) + 1))] ∧ (0 ≤ t ∧ t ≤ i) ∧ M (p + 9) t = 0 ∧ ∀ c : Int, 0 ≤ c → c ≤ i → M (p + 9) c = 0 → M (p + 8) t ≤ M (p + 8) c) J_149_4 (M p 2).toNat (fun i hi ls M' hI => by
    obtain ⟨hM, t, hls, ht, hr, hd⟩ := hI
    subst hM hls
    have q0 : ¬ M' p 2 < (i : Int) + 1 := by omega
    by_cases q1 : M' (p + 9) ((i : Int) + 1) = 0
    · by_cases q2 : M' (p + 8) t ≤ M' (p + 8) ((i : Int) + 1)
      · refine ⟨_, _, ⟨rfl, t, rfl, by omega, hr, fun c h1 h2 h3 => ?_⟩, ?_⟩
        · by_cases z : c = (i : Int) + 1
          · rw [z]; exact q2
          · exact hd c h1 (by omega) h3
        · simp (disch := first | assumption | decide | omega | (simp only [List.length_cons, List.length_nil] <;> omega)) only [lgt_0, lgt_s, lset_0, lset_s, lst1_0, lst1_s, lst2_0, lst2_s, ev_iconst, ev_lconst, ev_ldc, ev_null, ev_iload, ev_lload, ev_aload, ev_istore, ev_lstore, ev_astore, ev_iinc, ev_iadd, ev_isub, ev_imul, ev_iand, ev_ior, ev_ishl, ev_ishr, ev_idiv, ev_irem, ev_ineg, ev_ladd, ev_lsub, ev_lmul, ev_land, ev_lor, ev_ldiv, ev_lrem, ev_lshl, ev_i2l, ev_l2i, ev_i2b, ev_i2s, ev_lcmp, ev_dupI, ev_dupR, ev_dup2, ev_popI, ev_popR, ev_alen, ev_xlen, ev_xald, ev_iald, ev_lald, ev_bald, ev_zald, ev_aald, ev_iast, ev_last, ev_bast, ev_zast, ev_aast, ev_gfI, ev_gfL, ev_gfR, ev_pfI, ev_pfZ, ev_pfL, ev_pfR, ev_new, ev_newa, ev_newq, ev_copy, ev_slen, ev_schr, ev_obj, ev_mmin, ev_mabs, ev_mmax, ev_goto, ev_jsr, ev_icmp_eq, ev_if_eq, ev_icmp_ne, ev_if_ne, ev_icmp_lt, ev_if_lt, ev_icmp_ge, ev_if_ge, ev_icmp_gt, ev_if_gt, ev_icmp_le, ev_if_le, ev_ifnull0, ev_ifnull1, ev_ifnn0, ev_ifnn1, ev_tsw, ev_lsw, ev_iret, ev_zret, ev_lret, ev_aret, ev_ret, ev_call0, ev_call1, ev_call2, ev_call3, ev_call4, ev_call5, ev_call6, Option.toList_some, Option.toList_none, List.cons_append, List.nil_append, List.length_cons, List.length_nil, Nat.reduceMod, Nat.reduceDiv, Nat.reduceAdd, Nat.reduceLeDiff, nc, ↓reduceIte, Nat.zero_le, reduceCtorEq, w32_id, Int.reduceEq, Int.reduceNe, Int.reduceLT, Int.reduceLE, Int.reduceGT, Int.reduceGE, Int.reduceAdd, Int.reduceSub, Int.reduceMul, Int.reduceNeg, ne_eq, not_true_eq_false, not_false_eq_true, eq_self, r_distances, r_reached, k_149_4, J_149_0, k_149_0, J_149_38, k_149_38, J_149_44, k_149_44, q0, q1, q2, nc_s]
      · refine ⟨_, _, ⟨rfl, (i : Int) + 1, rfl, by omega, q1, fun c h1 h2 h3 => ?_⟩, ?_⟩
        · by_cases z : c = (i : Int) + 1
          · rw [z]; exact Int.le_refl _
          · have := hd c h1 (by omega) h3
            omega
        · simp (disch := first | assumption | decide | omega | (simp only [List.length_cons, List.length_nil] <;> omega)) only [lgt_0, lgt_s, lset_0, lset_s, lst1_0, lst1_s, lst2_0, lst2_s, ev_iconst, ev_lconst, ev_ldc, ev_null, ev_iload, ev_lload, ev_aload, ev_istore, ev_lstore, ev_astore, ev_iinc, ev_iadd, ev_isub, ev_imul, ev_iand, ev_ior, ev_ishl, ev_ishr, ev_idiv, ev_irem, ev_ineg, ev_ladd, ev_lsub, ev_lmul, ev_land, ev_lor, ev_ldiv, ev_lrem, ev_lshl, ev_i2l, ev_l2i, ev_i2b, ev_i2s, ev_lcmp, ev_dupI, ev_dupR, ev_dup2, ev_popI, ev_popR, ev_alen, ev_xlen, ev_xald, ev_iald, ev_lald, ev_bald, ev_zald, ev_aald, ev_iast, ev_last, ev_bast, ev_zast, ev_aast, ev_gfI, ev_gfL, ev_gfR, ev_pfI, ev_pfZ, ev_pfL, ev_pfR, ev_new, ev_newa, ev_newq, ev_copy, ev_slen, ev_schr, ev_obj, ev_mmin, ev_mabs, ev_mmax, ev_goto, ev_jsr, ev_icmp_eq, ev_if_eq, ev_icmp_ne, ev_if_ne, ev_icmp_lt, ev_if_lt, ev_icmp_ge, ev_if_ge, ev_icmp_gt, ev_if_gt, ev_icmp_le, ev_if_le, ev_ifnull0, ev_ifnull1, ev_ifnn0, ev_ifnn1, ev_tsw, ev_lsw, ev_iret, ev_zret, ev_lret, ev_aret, ev_ret, ev_call0, ev_call1, ev_call2, ev_call3, ev_call4, ev_call5, ev_call6, Option.toList_some, Option.toList_none, List.cons_append, List.nil_append, List.length_cons, List.length_nil, Nat.reduceMod, Nat.reduceDiv, Nat.reduceAdd, Nat.reduceLeDiff, nc, ↓reduceIte, Nat.zero_le, reduceCtorEq, w32_id, Int.reduceEq, Int.reduceNe, Int.reduceLT, Int.reduceLE, Int.reduceGT, Int.reduceGE, Int.reduceAdd, Int.reduceSub, Int.reduceMul, Int.reduceNeg, ne_eq, not_true_eq_false, not_false_eq_true, eq_self, r_distances, r_reached, k_149_4, J_149_0, k_149_0, J_149_38, k_149_38, J_149_44, k_149_44, q0, q1, q2, nc_s]
    · refine ⟨_, _, ⟨rfl, t, rfl, by omega, hr, fun c h1 h2 h3 => ?_⟩, ?_⟩
      · by_cases z : c = (i : Int) + 1
        · rw [z] at h3; exact absurd h3 q1
        · exact hd c h1 (by omega) h3
      · simp (disch := first | assumption | decide | omega | (simp only [List.length_cons, List.length_nil] <;> omega)) only [lgt_0, lgt_s, lset_0, lset_s, lst1_0, lst1_s, lst2_0, lst2_s, ev_iconst, ev_lconst, ev_ldc, ev_null, ev_iload, ev_lload, ev_aload, ev_istore, ev_lstore, ev_astore, ev_iinc, ev_iadd, ev_isub, ev_imul, ev_iand, ev_ior, ev_ishl, ev_ishr, ev_idiv, ev_irem, ev_ineg, ev_ladd, ev_lsub, ev_lmul, ev_land, ev_lor, ev_ldiv, ev_lrem, ev_lshl, ev_i2l, ev_l2i, ev_i2b, ev_i2s, ev_lcmp, ev_dupI, ev_dupR, ev_dup2, ev_popI, ev_popR, ev_alen, ev_xlen, ev_xald, ev_iald, ev_lald, ev_bald, ev_zald, ev_aald, ev_iast, ev_last, ev_bast, ev_zast, ev_aast, ev_gfI, ev_gfL, ev_gfR, ev_pfI, ev_pfZ, ev_pfL, ev_pfR, ev_new, ev_newa, ev_newq, ev_copy, ev_slen, ev_schr, ev_obj, ev_mmin, ev_mabs, ev_mmax, ev_goto, ev_jsr, ev_icmp_eq, ev_if_eq, ev_icmp_ne, ev_if_ne, ev_icmp_lt, ev_if_lt, ev_icmp_ge, ev_if_ge, ev_icmp_gt, ev_if_gt, ev_icmp_le, ev_if_le, ev_ifnull0, ev_ifnull1, ev_ifnn0, ev_ifnn1, ev_tsw, ev_lsw, ev_iret, ev_zret, ev_lret, ev_aret, ev_ret, ev_call0, ev_call1, ev_call2, ev_call3, ev_call4, ev_call5, ev_call6, Option.toList_some, Option.toList_none, List.cons_append, List.nil_append, List.length_cons, List.length_nil, Nat.reduceMod, Nat.reduceDiv, Nat.reduceAdd, Nat.reduceLeDiff, nc, ↓reduceIte, Nat.zero_le, reduceCtorEq, w32_id, Int.reduceEq, Int.reduceNe, Int.reduceLT, Int.reduceLE, Int.reduceGT, Int.reduceGE, Int.reduceAdd, Int.reduceSub, Int.reduceMul, Int.reduceNeg, ne_eq, not_true_eq_false, not_false_eq_true, eq_self, r_distances, r_reached, k_149_4, J_149_0, k_149_0, J_149_38, k_149_38, J_149_44, k_149_44, q0, q1, nc_s]) [some (vR (some p)), some (vI 0), some (vI 1)] M ⟨rfl, 0, rfl, by omega, h0, fun c h1 h2 _ => by
        have : c = 0 := by omega
        rw [this]; exact Int.le_refl _⟩
  subst hM hls
  have e : ((M' p 2).toNat : Int) = M' p 2 := by omega
  rw [e] at ht hd
  refine ⟨t, ht, hr, hd, ?_⟩
  rw [E_149 hk0]
  simp (disch := first | assumption | decide | omega | (simp only [List.length_cons, List.length_nil] <;> omega)) only [lgt_0, lgt_s, lset_0, lset_s, lst1_0, lst1_s, lst2_0, lst2_s, ev_iconst, ev_lconst, ev_ldc, ev_null, ev_iload, ev_lload, ev_aload, ev_istore, ev_lstore, ev_astore, ev_iinc, ev_iadd, ev_isub, ev_imul, ev_iand, ev_ior, ev_ishl, ev_ishr, ev_idiv, ev_irem, ev_ineg, ev_ladd, ev_lsub, ev_lmul, ev_land, ev_lor, ev_ldiv, ev_lrem, ev_lshl, ev_i2l, ev_l2i, ev_i2b, ev_i2s, ev_lcmp, ev_dupI, ev_dupR, ev_dup2, ev_popI, ev_popR, ev_alen, ev_xlen, ev_xald, ev_iald, ev_lald, ev_bald, ev_zald, ev_aald, ev_iast, ev_last, ev_bast, ev_zast, ev_aast, ev_gfI, ev_gfL, ev_gfR, ev_pfI, ev_pfZ, ev_pfL, ev_pfR, ev_new, ev_newa, ev_newq, ev_copy, ev_slen, ev_schr, ev_obj, ev_mmin, ev_mabs, ev_mmax, ev_goto, ev_jsr, ev_icmp_eq, ev_if_eq, ev_icmp_ne, ev_if_ne, ev_icmp_lt, ev_if_lt, ev_icmp_ge, ev_if_ge, ev_icmp_gt, ev_if_gt, ev_icmp_le, ev_if_le, ev_ifnull0, ev_ifnull1, ev_ifnn0, ev_ifnn1, ev_tsw, ev_lsw, ev_iret, ev_zret, ev_lret, ev_aret, ev_ret, ev_call0, ev_call1, ev_call2, ev_call3, ev_call4, ev_call5, ev_call6, Option.toList_some, Option.toList_none, List.cons_append, List.nil_append, List.length_cons, List.length_nil, Nat.reduceMod, Nat.reduceDiv, Nat.reduceAdd, Nat.reduceLeDiff, nc, ↓reduceIte, Nat.zero_le, reduceCtorEq, w32_id, Int.reduceEq, Int.reduceNe, Int.reduceLT, Int.reduceLE, Int.reduceGT, Int.reduceGE, Int.reduceAdd, Int.reduceSub, Int.reduceMul, Int.reduceNeg, ne_eq, not_true_eq_false, not_false_eq_true, eq_self, J_149_0, k_149_0, J_149_38, k_149_38, J_149_44, k_149_44]
  rw [he, e]
  have q0 : M' p 2 < M' p 2 + 1 := by omega
  simp (disch := first | assumption | decide | omega | (simp only [List.length_cons, List.length_nil] <;> omega)) only [lgt_0, lgt_s, lset_0, lset_s, lst1_0, lst1_s, lst2_0, lst2_s, ev_iconst, ev_lconst, ev_ldc, ev_null, ev_iload, ev_lload, ev_aload, ev_istore, ev_lstore, ev_astore, ev_iinc, ev_iadd, ev_isub, ev_imul, ev_iand, ev_ior, ev_ishl, ev_ishr, ev_idiv, ev_irem, ev_ineg, ev_ladd, ev_lsub, ev_lmul, ev_land, ev_lor, ev_ldiv, ev_lrem, ev_lshl, ev_i2l, ev_l2i, ev_i2b, ev_i2s, ev_lcmp, ev_dupI, ev_dupR, ev_dup2, ev_popI, ev_popR, ev_alen, ev_xlen, ev_xald, ev_iald, ev_lald, ev_bald, ev_zald, ev_aald, ev_iast, ev_last, ev_bast, ev_zast, ev_aast, ev_gfI, ev_gfL, ev_gfR, ev_pfI, ev_pfZ, ev_pfL, ev_pfR, ev_new, ev_newa, ev_newq, ev_copy, ev_slen, ev_schr, ev_obj, ev_mmin, ev_mabs, ev_mmax, ev_goto, ev_jsr, ev_icmp_eq, ev_if_eq, ev_icmp_ne, ev_if_ne, ev_icmp_lt, ev_if_lt, ev_icmp_ge, ev_if_ge, ev_icmp_gt, ev_if_gt, ev_icmp_le, ev_if_le, ev_ifnull0, ev_ifnull1, ev_ifnn0, ev_ifnn1, ev_tsw, ev_lsw, ev_iret, ev_zret, ev_lret, ev_aret, ev_ret, ev_call0, ev_call1, ev_call2, ev_call3, ev_call4, ev_call5, ev_call6, Option.toList_some, Option.toList_none, List.cons_append, List.nil_append, List.length_cons, List.length_nil, Nat.reduceMod, Nat.reduceDiv, Nat.reduceAdd, Nat.reduceLeDiff, nc, ↓reduceIte, Nat.zero_le, reduceCtorEq, w32_id, Int.reduceEq, Int.reduceNe, Int.reduceLT, Int.reduceLE, Int.reduceGT, Int.reduceGE, Int.reduceAdd, Int.reduceSub, Int.reduceMul, Int.reduceNeg, ne_eq, not_true_eq_false, not_false_eq_true, eq_self, k_149_4, J_149_0, k_149_0, J_149_38, k_149_38, J_149_44, k_149_44, q0]
/-- shifting: T reached, h holders -/
theorem s_shift (h : PA Sh p) {t r : Int} (ht : 0 ≤ t ∧ t < 50) (hr : 0 ≤ r ∧ r < 50) (hs : -10000000 ≤ M (p + 8) t ∧ M (p + 8) t ≤ 10000000) (hd : ∀ c, 0 ≤ c → c ≤ r → M (p + 9) c = 0 → -10000000 ≤ M (p + 8) c ∧ M (p + 8) c ≤ 10000000) (hv : ∀ c, 0 ≤ c → c ≤ r → -10000000 ≤ M (p + 5) c ∧ M (p + 5) c ≤ 10000000) (hu : ∀ x, 0 ≤ x → x < 48 → -10000000 ≤ M (p + 4) x ∧ M (p + 4) x ≤ 10000000)
    (hh : ∀ c, 0 ≤ c → c ≤ r → M (p + 9) c ≠ 0 → 0 ≤ M (p + 6) c ∧ M (p + 6) c < 48) (hi : ∀ c e, 0 ≤ c → c ≤ r → 0 ≤ e → e ≤ r → M (p + 9) c ≠ 0 → M (p + 9) e ≠ 0 → M (p + 6) c = M (p + 6) e → c = e) :
    ∃ M', (∀ b, b ≠ p + 4 → b ≠ p + 5 → b ≠ p + 8 → M' b = M b) ∧ (∀ c, 0 ≤ c → c ≤ r → M (p + 9) c ≠ 0 → M' (p + 4) (M (p + 6) c) = M (p + 4) (M (p + 6) c) + M (p + 8) t) ∧ (∀ x, (∀ c, 0 ≤ c → c ≤ r → M (p + 9) c ≠ 0 → M (p + 6) c ≠ x) → M' (p + 4) x = M (p + 4) x) ∧
      (∀ c, 0 ≤ c → c ≤ r → M' (p + 5) c = if M (p + 9) c = 0 then M (p + 5) c else M (p + 5) c - M (p + 8) t) ∧ (∀ c, 0 ≤ c → c ≤ r → M' (p + 8) c = if M (p + 9) c = 0 then M (p + 8) c - M (p + 8) t else M (p + 8) c) ∧
      evc X 150 [vR (some p), vI t, vI r] Sh M = some (none, Sh, M') := by
  have hk0 := h.1; obtain ⟨r_goalShares, k_goalShares, l_goalShares⟩ := pa_goalShares h; obtain ⟨r_columnShares, k_columnShares, l_columnShares⟩ := pa_columnShares h; obtain ⟨r_holders, k_holders, l_holders⟩ := pa_holders h; obtain ⟨r_distances, k_distances, l_distances⟩ := pa_distances h; obtain ⟨r_reached, k_reached, l_reached⟩ := pa_reached h
  generalize hss : M (p + 8) t = s at hs
  obtain ⟨ls', M', ⟨w, hls, f, a1, a2, a3, a4, a5, a6⟩, he⟩ := ev_for (X := X) (y := 150) (Sh := Sh) (fun i ls M' => ∃ w, ls = [some (vR (some p)), some (vI t), some (vI r), some (vI s), some (vI (i : Int)), w] ∧ (∀ b, b ≠ p + 4 → b ≠ p + 5 → b ≠ p + 8 → M' b = M b) ∧
      (∀ c : Int, 0 ≤ c → c < i → M (p + 9) c ≠ 0 → M' (p + 4) (M (p + 6) c) = M (p + 4) (M (p + 6) c) + s) ∧ (∀ x, (∀ c : Int, 0 ≤ c → c < i → M (p + 9) c ≠ 0 → M (p + 6) c ≠ x) → M' (p + 4) x = M (p + 4) x) ∧
      (∀ c : Int, 0 ≤ c → c < i → M' (p + 5) c = if M (p + 9) c = 0 then M (p + 5) c else M (p + 5) c - s) ∧ (∀ c : Int, (i : Int) ≤ c → M' (p + 5) c = M (p + 5) c) ∧
      (∀ c : Int, 0 ≤ c → c < i → M' (p + 8) c = if M (p + 9) c = 0 then M (p + 8) c - s else M (p + 8) c) ∧ (∀ c : Int, (i : Int) ≤ c → M' (p + 8) c = M (p + 8) c)) J_150_10 (r + 1).toNat (fun i hlt ls M' hI => by
    obtain ⟨w, hls, f, a1, a2, a3, a4, a5, a6⟩ := hI
    subst hls
    have f6 := f (p + 6) (by omega) (by omega) (by omega)
    have f9 := f (p + 9) (by omega) (by omega) (by omega)
    have q0 : ¬ r < (i : Int) := by omega
    have i5 := a4 i (Int.le_refl _)
    have i8 := a6 i (Int.le_refl _)
    have b5 := hv i (by omega) (by omega)
    by_cases q1 : M (p + 9) i = 0
    · have b8 := hd i (by omega) (by omega) q1
      refine ⟨_, up M' (p + 8) i (M (p + 8) i - s), ⟨some (vI (M (p + 6) i)), rfl, fun b b4 b5 b8 => ?_, fun c c0 c1 c2 => ?_, fun x hx => ?_, fun c c0 c1 => ?_, fun c c0 => ?_, fun c c0 c1 => ?_, fun c c0 => ?_⟩, ?_⟩
      rotate_left 7
      · simp (disch := first | assumption | decide | omega | (simp only [List.length_cons, List.length_nil] <;> omega)) only [lgt_0, lgt_s, lset_0, lset_s, lst1_0, lst1_s, lst2_0, lst2_s, ev_iconst, ev_lconst, ev_ldc, ev_null, ev_iload, ev_lload, ev_aload, ev_istore, ev_lstore, ev_astore, ev_iinc, ev_iadd, ev_isub, ev_imul, ev_iand, ev_ior, ev_ishl, ev_ishr, ev_idiv, ev_irem, ev_ineg, ev_ladd, ev_lsub, ev_lmul, ev_land, ev_lor, ev_ldiv, ev_lrem, ev_lshl, ev_i2l, ev_l2i, ev_i2b, ev_i2s, ev_lcmp, ev_dupI, ev_dupR, ev_dup2, ev_popI, ev_popR, ev_alen, ev_xlen, ev_xald, ev_iald, ev_lald, ev_bald, ev_zald, ev_aald, ev_iast, ev_last, ev_bast, ev_zast, ev_aast, ev_gfI, ev_gfL, ev_gfR, ev_pfI, ev_pfZ, ev_pfL, ev_pfR, ev_new, ev_newa, ev_newq, ev_copy, ev_slen, ev_schr, ev_obj, ev_mmin, ev_mabs, ev_mmax, ev_goto, ev_jsr, ev_icmp_eq, ev_if_eq, ev_icmp_ne, ev_if_ne, ev_icmp_lt, ev_if_lt, ev_icmp_ge, ev_if_ge, ev_icmp_gt, ev_if_gt, ev_icmp_le, ev_if_le, ev_ifnull0, ev_ifnull1, ev_ifnn0, ev_ifnn1, ev_tsw, ev_lsw, ev_iret, ev_zret, ev_lret, ev_aret, ev_ret, ev_call0, ev_call1, ev_call2, ev_call3, ev_call4, ev_call5, ev_call6, Option.toList_some, Option.toList_none, List.cons_append, List.nil_append, List.length_cons, List.length_nil, Nat.reduceMod, Nat.reduceDiv, Nat.reduceAdd, Nat.reduceLeDiff, nc, ↓reduceIte, Nat.zero_le, reduceCtorEq, w32_id, Int.reduceEq, Int.reduceNe, Int.reduceLT, Int.reduceLE, Int.reduceGT, Int.reduceGE, Int.reduceAdd, Int.reduceSub, Int.reduceMul, Int.reduceNeg, ne_eq, not_true_eq_false, not_false_eq_true, eq_self, r_goalShares, r_columnShares, r_holders, r_distances, r_reached, k_150_10, J_150_0, k_150_0, J_150_66, k_150_66, J_150_77, k_150_77, J_150_83, k_150_83, q0, f6, f9, q1, i8, nc_s]
      · rw [up_ne b8]; exact f b b4 b5 b8
      · rw [up_ne (by omega)]
        have z : c ≠ i := fun e => c2 (by rw [e]; exact q1)
        exact a1 c c0 (by omega) c2
      · rw [up_ne (by omega)]
        exact a2 x fun c c0 c1 c2 => hx c c0 (by omega) c2
      · rw [up_ne (by omega)]
        by_cases z : c = i
        · rw [z, if_pos q1]; exact i5
        · exact a3 c c0 (by omega)
      · rw [up_ne (by omega)]
        exact a4 c (by omega)
      · by_cases z : c = i
        · rw [z, up_eq, if_pos q1]
        · rw [up_ne2 z]; exact a5 c c0 (by omega)
      · rw [up_ne2 (by omega)]
        exact a6 c (by omega)
    · obtain ⟨g0, g1⟩ := hh i (by omega) (by omega) q1
      have bu := hu _ g0 g1
      have iu := a2 (M (p + 6) i) (fun c c0 c1 c2 e => by
        have := hi c i c0 (by omega) (by omega) (by omega) c2 q1 e
        omega)
      have q2 : ¬ M (p + 6) i = -1 := by omega
      refine ⟨_, up (up M' (p + 4) (M (p + 6) i) (M (p + 4) (M (p + 6) i) + s)) (p + 5) i (M (p + 5) i - s), ⟨some (vI (M (p + 6) i)), rfl, fun b b4 b5 b8 => ?_, fun c c0 c1 c2 => ?_, fun x hx => ?_, fun c c0 c1 => ?_, fun c c0 => ?_, fun c c0 c1 => ?_, fun c c0 => ?_⟩, ?_⟩
      rotate_left 7
      · have e5 : up M' (p + 4) (M (p + 6) i) (M (p + 4) (M (p + 6) i) + s) (p + 5) = M' (p + 5) := by rw [up_ne (by omega)]
        simp (disch := first | assumption | decide | omega | (simp only [List.length_cons, List.length_nil] <;> omega)) only [lgt_0, lgt_s, lset_0, lset_s, lst1_0, lst1_s, lst2_0, lst2_s, ev_iconst, ev_lconst, ev_ldc, ev_null, ev_iload, ev_lload, ev_aload, ev_istore, ev_lstore, ev_astore, ev_iinc, ev_iadd, ev_isub, ev_imul, ev_iand, ev_ior, ev_ishl, ev_ishr, ev_idiv, ev_irem, ev_ineg, ev_ladd, ev_lsub, ev_lmul, ev_land, ev_lor, ev_ldiv, ev_lrem, ev_lshl, ev_i2l, ev_l2i, ev_i2b, ev_i2s, ev_lcmp, ev_dupI, ev_dupR, ev_dup2, ev_popI, ev_popR, ev_alen, ev_xlen, ev_xald, ev_iald, ev_lald, ev_bald, ev_zald, ev_aald, ev_iast, ev_last, ev_bast, ev_zast, ev_aast, ev_gfI, ev_gfL, ev_gfR, ev_pfI, ev_pfZ, ev_pfL, ev_pfR, ev_new, ev_newa, ev_newq, ev_copy, ev_slen, ev_schr, ev_obj, ev_mmin, ev_mabs, ev_mmax, ev_goto, ev_jsr, ev_icmp_eq, ev_if_eq, ev_icmp_ne, ev_if_ne, ev_icmp_lt, ev_if_lt, ev_icmp_ge, ev_if_ge, ev_icmp_gt, ev_if_gt, ev_icmp_le, ev_if_le, ev_ifnull0, ev_ifnull1, ev_ifnn0, ev_ifnn1, ev_tsw, ev_lsw, ev_iret, ev_zret, ev_lret, ev_aret, ev_ret, ev_call0, ev_call1, ev_call2, ev_call3, ev_call4, ev_call5, ev_call6, Option.toList_some, Option.toList_none, List.cons_append, List.nil_append, List.length_cons, List.length_nil, Nat.reduceMod, Nat.reduceDiv, Nat.reduceAdd, Nat.reduceLeDiff, nc, ↓reduceIte, Nat.zero_le, reduceCtorEq, w32_id, Int.reduceEq, Int.reduceNe, Int.reduceLT, Int.reduceLE, Int.reduceGT, Int.reduceGE, Int.reduceAdd, Int.reduceSub, Int.reduceMul, Int.reduceNeg, ne_eq, not_true_eq_false, not_false_eq_true, eq_self, r_goalShares, r_columnShares, r_holders, r_distances, r_reached, k_150_10, J_150_0, k_150_0, J_150_66, k_150_66, J_150_77, k_150_77, J_150_83, k_150_83, q0, f6, f9, q1, q2, iu, e5, i5, nc_s]
      · rw [up_ne b5, up_ne b4]; exact f b b4 b5 b8
      · rw [up_ne (by omega)]
        by_cases z : c = i
        · rw [z, up_eq]
        · have z2 : M (p + 6) c ≠ M (p + 6) i := fun e => z (hi c i c0 (by omega) (by omega) (by omega) c2 q1 e)
          rw [up_ne2 z2]
          exact a1 c c0 (by omega) c2
      · have z := hx i (by omega) (by omega) q1
        rw [up_ne (by omega), up_ne2 (fun e => z e.symm)]
        exact a2 x fun c c0 c1 c2 => hx c c0 (by omega) c2
      · by_cases z : c = i
        · rw [z, up_eq, if_neg q1]
        · rw [up_ne2 z, up_ne (by omega)]; exact a3 c c0 (by omega)
      · rw [up_ne2 (by omega), up_ne (by omega)]
        exact a4 c (by omega)
      · rw [up_ne (by omega), up_ne (by omega)]
        by_cases z : c = i
        · rw [z, if_neg q1]; exact i8
        · exact a5 c c0 (by omega)
      · rw [up_ne (by omega), up_ne (by omega)]
        exact a6 c (by omega)) [some (vR (some p)), some (vI t), some (vI r), some (vI s), some (vI 0), none] M ⟨none, rfl, fun _ _ _ _ => rfl, fun c c0 c1 => by omega, fun _ _ => rfl, fun c c0 c1 => by omega, fun _ _ => rfl, fun c c0 c1 => by omega, fun _ _ => rfl⟩
  subst hls
  have e : (((r + 1).toNat : Nat) : Int) = r + 1 := by omega
  rw [e] at a1 a2 a3 a4 a5 a6 he
  refine ⟨M', f, fun c c0 c1 c2 => a1 c c0 (by omega) c2, fun x hx => a2 x (fun c c0 c1 c2 => hx c c0 (by omega) c2), fun c c0 c1 => a3 c c0 (by omega), fun c c0 c1 => a5 c c0 (by omega), ?_⟩
  rw [E_150 hk0]
  simp (disch := first | assumption | decide | omega | (simp only [List.length_cons, List.length_nil] <;> omega)) only [lgt_0, lgt_s, lset_0, lset_s, lst1_0, lst1_s, lst2_0, lst2_s, ev_iconst, ev_lconst, ev_ldc, ev_null, ev_iload, ev_lload, ev_aload, ev_istore, ev_lstore, ev_astore, ev_iinc, ev_iadd, ev_isub, ev_imul, ev_iand, ev_ior, ev_ishl, ev_ishr, ev_idiv, ev_irem, ev_ineg, ev_ladd, ev_lsub, ev_lmul, ev_land, ev_lor, ev_ldiv, ev_lrem, ev_lshl, ev_i2l, ev_l2i, ev_i2b, ev_i2s, ev_lcmp, ev_dupI, ev_dupR, ev_dup2, ev_popI, ev_popR, ev_alen, ev_xlen, ev_xald, ev_iald, ev_lald, ev_bald, ev_zald, ev_aald, ev_iast, ev_last, ev_bast, ev_zast, ev_aast, ev_gfI, ev_gfL, ev_gfR, ev_pfI, ev_pfZ, ev_pfL, ev_pfR, ev_new, ev_newa, ev_newq, ev_copy, ev_slen, ev_schr, ev_obj, ev_mmin, ev_mabs, ev_mmax, ev_goto, ev_jsr, ev_icmp_eq, ev_if_eq, ev_icmp_ne, ev_if_ne, ev_icmp_lt, ev_if_lt, ev_icmp_ge, ev_if_ge, ev_icmp_gt, ev_if_gt, ev_icmp_le, ev_if_le, ev_ifnull0, ev_ifnull1, ev_ifnn0, ev_ifnn1, ev_tsw, ev_lsw, ev_iret, ev_zret, ev_lret, ev_aret, ev_ret, ev_call0, ev_call1, ev_call2, ev_call3, ev_call4, ev_call5, ev_call6, Option.toList_some, Option.toList_none, List.cons_append, List.nil_append, List.length_cons, List.length_nil, Nat.reduceMod, Nat.reduceDiv, Nat.reduceAdd, Nat.reduceLeDiff, nc, ↓reduceIte, Nat.zero_le, reduceCtorEq, w32_id, Int.reduceEq, Int.reduceNe, Int.reduceLT, Int.reduceLE, Int.reduceGT, Int.reduceGE, Int.reduceAdd, Int.reduceSub, Int.reduceMul, Int.reduceNeg, ne_eq, not_true_eq_false, not_false_eq_true, eq_self, r_distances, J_150_0, k_150_0, J_150_66, k_150_66, J_150_77, k_150_77, J_150_83, k_150_83, hss]
  rw [he]
  have q0 : r < r + 1 := by omega
  simp (disch := first | assumption | decide | omega | (simp only [List.length_cons, List.length_nil] <;> omega)) only [lgt_0, lgt_s, lset_0, lset_s, lst1_0, lst1_s, lst2_0, lst2_s, ev_iconst, ev_lconst, ev_ldc, ev_null, ev_iload, ev_lload, ev_aload, ev_istore, ev_lstore, ev_astore, ev_iinc, ev_iadd, ev_isub, ev_imul, ev_iand, ev_ior, ev_ishl, ev_ishr, ev_idiv, ev_irem, ev_ineg, ev_ladd, ev_lsub, ev_lmul, ev_land, ev_lor, ev_ldiv, ev_lrem, ev_lshl, ev_i2l, ev_l2i, ev_i2b, ev_i2s, ev_lcmp, ev_dupI, ev_dupR, ev_dup2, ev_popI, ev_popR, ev_alen, ev_xlen, ev_xald, ev_iald, ev_lald, ev_bald, ev_zald, ev_aald, ev_iast, ev_last, ev_bast, ev_zast, ev_aast, ev_gfI, ev_gfL, ev_gfR, ev_pfI, ev_pfZ, ev_pfL, ev_pfR, ev_new, ev_newa, ev_newq, ev_copy, ev_slen, ev_schr, ev_obj, ev_mmin, ev_mabs, ev_mmax, ev_goto, ev_jsr, ev_icmp_eq, ev_if_eq, ev_icmp_ne, ev_if_ne, ev_icmp_lt, ev_if_lt, ev_icmp_ge, ev_if_ge, ev_icmp_gt, ev_if_gt, ev_icmp_le, ev_if_le, ev_ifnull0, ev_ifnull1, ev_ifnn0, ev_ifnn1, ev_tsw, ev_lsw, ev_iret, ev_zret, ev_lret, ev_aret, ev_ret, ev_call0, ev_call1, ev_call2, ev_call3, ev_call4, ev_call5, ev_call6, Option.toList_some, Option.toList_none, List.cons_append, List.nil_append, List.length_cons, List.length_nil, Nat.reduceMod, Nat.reduceDiv, Nat.reduceAdd, Nat.reduceLeDiff, nc, ↓reduceIte, Nat.zero_le, reduceCtorEq, w32_id, Int.reduceEq, Int.reduceNe, Int.reduceLT, Int.reduceLE, Int.reduceGT, Int.reduceGE, Int.reduceAdd, Int.reduceSub, Int.reduceMul, Int.reduceNeg, ne_eq, not_true_eq_false, not_false_eq_true, eq_self, k_150_10, J_150_0, k_150_0, J_150_66, k_150_66, J_150_77, k_150_77, J_150_83, k_150_83, q0]
end TRE
