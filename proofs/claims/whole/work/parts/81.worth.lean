/-! OPERATIONS: worth. -/
theorem l_div_id {a b : Int} (ha : 0 ≤ a) (ha2 : a < 2147483648) (hb : 0 < b) (hb2 : b < 2147483648) : l_div a b = a / b := by
  unfold l_div o64
  rw [Int64.toInt_div, n_ofL (by omega), n_ofL (by omega), Int.tdiv_eq_ediv_of_nonneg ha]
  have h1 : 0 ≤ a / b := Int.ediv_nonneg ha (by omega)
  have h2 : a / b ≤ a := Int.ediv_le_self b ha
  exact Int.bmod_eq_of_le (by omega) (by omega)
theorem l_rem_id {a b : Int} (ha : 0 ≤ a) (ha2 : a < 2147483648) (hb : 0 < b) (hb2 : b < 2147483648) : l_rem a b = a % b := by
  have h0 := l_div_id ha ha2 hb hb2
  unfold l_div o64 at h0
  unfold l_rem o64
  have h1 : 0 ≤ a / b := Int.ediv_nonneg ha (by omega)
  have h2 : a / b ≤ a := Int.ediv_le_self b ha
  have h3 : 0 ≤ a % b := Int.emod_nonneg a (by omega)
  have h4 : a % b < b := Int.emod_lt_of_pos a hb
  have h5 : a / b * b = a - a % b := by
    have := Int.mul_ediv_add_emod a b
    rw [Int.mul_comm] at this
    omega
  rw [Int64.toInt_sub, Int64.toInt_mul, h0, n_ofL (by omega), n_ofL (by omega), h5, Int.bmod_eq_of_le (n := a - a % b) (by omega) (by omega), show a - (a - a % b) = a % b by omega]
  exact Int.bmod_eq_of_le (by omega) (by omega)
def gcI (a b : Int) : Int := (Nat.gcd a.toNat b.toNat : Nat)
theorem gcI_z {a : Int} (h : 0 ≤ a) : gcI a 0 = a := by
  unfold gcI
  rw [show (0 : Int).toNat = 0 from rfl, Nat.gcd_zero_right]
  omega
theorem gcI_s {a b : Int} (ha : 0 ≤ a) (hb : 0 < b) : gcI b (a % b) = gcI a b := by
  unfold gcI
  rw [Int.toNat_emod ha (by omega), Nat.gcd_comm a.toNat, Nat.gcd_rec b.toNat a.toNat, Nat.gcd_comm]
theorem gcI_comm {a b : Int} : gcI a b = gcI b a := by
  unfold gcI
  rw [Nat.gcd_comm]
theorem gcI_rng {a b : Int} (ha : 0 < a) : 0 < gcI a b ∧ gcI a b ≤ a := by
  unfold gcI
  have h1 := Nat.gcd_pos_of_pos_left b.toNat (show 0 < a.toNat from by omega)
  have h2 := Nat.gcd_le_left b.toNat (show 0 < a.toNat from by omega)
  omega
section WTH
variable {X : Int → Int} {M : Mem}
theorem s_divisor {a b : Int} (ha : 0 ≤ a) (ha2 : a < 1000000) (hb : 0 ≤ b) (hb2 : b < 1000000) : evc X 157 [vI a, vI b] SH0 M = some (some (vI (gcI a b)), SH0, M) := by
  have key := ev_while (X := X) (y := 157) (Sh := SH0) (fun m ls M' => M' = M ∧ ∃ (h l g : Int) (e : Nat) (z : Option PV), ls = [some (vI a), some (vI b), some (vI h), some (vI l), some (vI g), z] ∧ (0 ≤ h ∧ h < 1000000) ∧ (0 ≤ l ∧ l < 1000000) ∧ 0 ≤ g ∧ gcI h l = gcI a b ∧ ((l < 2 ^ e ∧ g + 2 * e ≤ 100) ∨ (h < 2 ^ e ∧ l < h ∧ g + 2 * e ≤ 101)) ∧ m = l.toNat)
    (fun o => o = some (some (vI (gcI a b)), SH0, M)) J_157_7 (fun m ls M' hI => by
    obtain ⟨hM, h, l, g, e, z, hls, hh, hl, hg, hc, hx, hm⟩ := hI
    subst hM hls
    by_cases q : l = 0
    · refine Or.inr ?_
      subst q
      rw [gcI_z hh.1] at hc
      rw [← hc]
      by_cases q2 : 1000 ≤ g
      · simp (disch := first | assumption | decide | omega | (simp only [List.length_cons, List.length_nil] <;> omega)) only [lgt_0, lgt_s, lset_0, lset_s, lst1_0, lst1_s, lst2_0, lst2_s, ev_iconst, ev_lconst, ev_ldc, ev_null, ev_iload, ev_lload, ev_aload, ev_istore, ev_lstore, ev_astore, ev_iinc, ev_iadd, ev_isub, ev_imul, ev_iand, ev_ior, ev_ishl, ev_ishr, ev_idiv, ev_irem, ev_ineg, ev_ladd, ev_lsub, ev_lmul, ev_land, ev_lor, ev_ldiv, ev_lrem, ev_lshl, ev_i2l, ev_l2i, ev_i2b, ev_i2s, ev_lcmp, ev_dupI, ev_dupR, ev_dup2, ev_popI, ev_popR, ev_alen, ev_xlen, ev_xald, ev_iald, ev_lald, ev_bald, ev_zald, ev_aald, ev_iast, ev_last, ev_bast, ev_zast, ev_aast, ev_gfI, ev_gfL, ev_gfR, ev_pfI, ev_pfZ, ev_pfL, ev_pfR, ev_new, ev_newa, ev_newq, ev_copy, ev_slen, ev_schr, ev_obj, ev_mmin, ev_mabs, ev_mmax, ev_goto, ev_jsr, ev_icmp_eq, ev_if_eq, ev_icmp_ne, ev_if_ne, ev_icmp_lt, ev_if_lt, ev_icmp_ge, ev_if_ge, ev_icmp_gt, ev_if_gt, ev_icmp_le, ev_if_le, ev_ifnull0, ev_ifnull1, ev_ifnn0, ev_ifnn1, ev_tsw, ev_lsw, ev_iret, ev_zret, ev_lret, ev_aret, ev_ret, ev_call0, ev_call1, ev_call2, ev_call3, ev_call4, ev_call5, ev_call6, Option.toList_some, Option.toList_none, List.cons_append, List.nil_append, List.length_cons, List.length_nil, Nat.reduceMod, Nat.reduceDiv, Nat.reduceLeDiff, nc, ↓reduceIte, Nat.zero_le, reduceCtorEq, w32_id, Int.reduceEq, Int.reduceNe, Int.reduceLT, Int.reduceLE, Int.reduceGT, Int.reduceGE, Int.reduceAdd, Int.reduceSub, Int.reduceMul, Int.reduceNeg, ne_eq, not_true_eq_false, not_false_eq_true, eq_self, ↓if_pos, ↓if_neg, J_157_0, k_157_0, J_157_35, k_157_35, k_157_7]
      · simp (disch := first | assumption | decide | omega | (simp only [List.length_cons, List.length_nil] <;> omega)) only [lgt_0, lgt_s, lset_0, lset_s, lst1_0, lst1_s, lst2_0, lst2_s, ev_iconst, ev_lconst, ev_ldc, ev_null, ev_iload, ev_lload, ev_aload, ev_istore, ev_lstore, ev_astore, ev_iinc, ev_iadd, ev_isub, ev_imul, ev_iand, ev_ior, ev_ishl, ev_ishr, ev_idiv, ev_irem, ev_ineg, ev_ladd, ev_lsub, ev_lmul, ev_land, ev_lor, ev_ldiv, ev_lrem, ev_lshl, ev_i2l, ev_l2i, ev_i2b, ev_i2s, ev_lcmp, ev_dupI, ev_dupR, ev_dup2, ev_popI, ev_popR, ev_alen, ev_xlen, ev_xald, ev_iald, ev_lald, ev_bald, ev_zald, ev_aald, ev_iast, ev_last, ev_bast, ev_zast, ev_aast, ev_gfI, ev_gfL, ev_gfR, ev_pfI, ev_pfZ, ev_pfL, ev_pfR, ev_new, ev_newa, ev_newq, ev_copy, ev_slen, ev_schr, ev_obj, ev_mmin, ev_mabs, ev_mmax, ev_goto, ev_jsr, ev_icmp_eq, ev_if_eq, ev_icmp_ne, ev_if_ne, ev_icmp_lt, ev_if_lt, ev_icmp_ge, ev_if_ge, ev_icmp_gt, ev_if_gt, ev_icmp_le, ev_if_le, ev_ifnull0, ev_ifnull1, ev_ifnn0, ev_ifnn1, ev_tsw, ev_lsw, ev_iret, ev_zret, ev_lret, ev_aret, ev_ret, ev_call0, ev_call1, ev_call2, ev_call3, ev_call4, ev_call5, ev_call6, Option.toList_some, Option.toList_none, List.cons_append, List.nil_append, List.length_cons, List.length_nil, Nat.reduceMod, Nat.reduceDiv, Nat.reduceLeDiff, nc, ↓reduceIte, Nat.zero_le, reduceCtorEq, w32_id, Int.reduceEq, Int.reduceNe, Int.reduceLT, Int.reduceLE, Int.reduceGT, Int.reduceGE, Int.reduceAdd, Int.reduceSub, Int.reduceMul, Int.reduceNeg, ne_eq, not_true_eq_false, not_false_eq_true, eq_self, ↓if_pos, ↓if_neg, J_157_0, k_157_0, J_157_35, k_157_35, k_157_7]
    · have r0 : 0 ≤ h % l := Int.emod_nonneg h (by omega)
      have r1 : h % l < l := Int.emod_lt_of_pos h (by omega)
      have ei := i_rem_id (a := h) (b := l) hh.1 (by omega) (by omega) (by omega)
      have gs := gcI_s (a := h) (b := l) hh.1 (by omega)
      have nx : ∃ e' : Nat, (h % l < 2 ^ e' ∧ g + 1 + 2 * e' ≤ 100) ∨ (l < 2 ^ e' ∧ h % l < l ∧ g + 1 + 2 * e' ≤ 101) := by
        rcases hx with ⟨x1, x2⟩ | ⟨x1, x2, x3⟩
        · exact ⟨e, Or.inr ⟨x1, r1, by omega⟩⟩
        · cases e with
          | zero => rw [Int.pow_zero] at x1; omega
          | succ e =>
            refine ⟨e, Or.inl ⟨?_, by omega⟩⟩
            have p : (2 : Int) ^ (e + 1) = 2 ^ e * 2 := Int.pow_succ 2 e
            have d := Int.mul_ediv_add_emod h l
            have dq : 1 ≤ h / l := Int.le_ediv_of_mul_le (by omega) (by omega)
            have dm : l * 1 ≤ l * (h / l) := Int.mul_le_mul_of_nonneg_left dq (by omega)
            omega
      obtain ⟨e', nx⟩ := nx
      have g1000 : g < 1000 := by omega
      refine Or.inl ⟨_, _, M', ?_, ⟨rfl, l, h % l, g + 1, e', some (vI (h % l)), rfl, by omega, by omega, by omega, by rw [gs]; exact hc, nx, rfl⟩, ?_⟩
      · omega
      · simp (disch := first | assumption | decide | omega | (simp only [List.length_cons, List.length_nil] <;> omega)) only [lgt_0, lgt_s, lset_0, lset_s, lst1_0, lst1_s, lst2_0, lst2_s, ev_iconst, ev_lconst, ev_ldc, ev_null, ev_iload, ev_lload, ev_aload, ev_istore, ev_lstore, ev_astore, ev_iinc, ev_iadd, ev_isub, ev_imul, ev_iand, ev_ior, ev_ishl, ev_ishr, ev_idiv, ev_irem, ev_ineg, ev_ladd, ev_lsub, ev_lmul, ev_land, ev_lor, ev_ldiv, ev_lrem, ev_lshl, ev_i2l, ev_l2i, ev_i2b, ev_i2s, ev_lcmp, ev_dupI, ev_dupR, ev_dup2, ev_popI, ev_popR, ev_alen, ev_xlen, ev_xald, ev_iald, ev_lald, ev_bald, ev_zald, ev_aald, ev_iast, ev_last, ev_bast, ev_zast, ev_aast, ev_gfI, ev_gfL, ev_gfR, ev_pfI, ev_pfZ, ev_pfL, ev_pfR, ev_new, ev_newa, ev_newq, ev_copy, ev_slen, ev_schr, ev_obj, ev_mmin, ev_mabs, ev_mmax, ev_goto, ev_jsr, ev_icmp_eq, ev_if_eq, ev_icmp_ne, ev_if_ne, ev_icmp_lt, ev_if_lt, ev_icmp_ge, ev_if_ge, ev_icmp_gt, ev_if_gt, ev_icmp_le, ev_if_le, ev_ifnull0, ev_ifnull1, ev_ifnn0, ev_ifnn1, ev_tsw, ev_lsw, ev_iret, ev_zret, ev_lret, ev_aret, ev_ret, ev_call0, ev_call1, ev_call2, ev_call3, ev_call4, ev_call5, ev_call6, Option.toList_some, Option.toList_none, List.cons_append, List.nil_append, List.length_cons, List.length_nil, Nat.reduceMod, Nat.reduceDiv, Nat.reduceLeDiff, nc, ↓reduceIte, Nat.zero_le, reduceCtorEq, w32_id, Int.reduceEq, Int.reduceNe, Int.reduceLT, Int.reduceLE, Int.reduceGT, Int.reduceGE, Int.reduceAdd, Int.reduceSub, Int.reduceMul, Int.reduceNeg, ne_eq, not_true_eq_false, not_false_eq_true, eq_self, ↓if_pos, ↓if_neg, J_157_0, k_157_0, J_157_35, k_157_35, k_157_7, ei]) _ [some (vI a), some (vI b), some (vI a), some (vI b), some (vI 0), none] M ⟨rfl, a, b, 0, 20, none, rfl, by omega, by omega, by omega, rfl, Or.inl ⟨by omega, by omega⟩, rfl⟩
  rw [E_157]
  simp (disch := first | assumption | decide | omega | (simp only [List.length_cons, List.length_nil] <;> omega)) only [lgt_0, lgt_s, lset_0, lset_s, lst1_0, lst1_s, lst2_0, lst2_s, ev_iconst, ev_lconst, ev_ldc, ev_null, ev_iload, ev_lload, ev_aload, ev_istore, ev_lstore, ev_astore, ev_iinc, ev_iadd, ev_isub, ev_imul, ev_iand, ev_ior, ev_ishl, ev_ishr, ev_idiv, ev_irem, ev_ineg, ev_ladd, ev_lsub, ev_lmul, ev_land, ev_lor, ev_ldiv, ev_lrem, ev_lshl, ev_i2l, ev_l2i, ev_i2b, ev_i2s, ev_lcmp, ev_dupI, ev_dupR, ev_dup2, ev_popI, ev_popR, ev_alen, ev_xlen, ev_xald, ev_iald, ev_lald, ev_bald, ev_zald, ev_aald, ev_iast, ev_last, ev_bast, ev_zast, ev_aast, ev_gfI, ev_gfL, ev_gfR, ev_pfI, ev_pfZ, ev_pfL, ev_pfR, ev_new, ev_newa, ev_newq, ev_copy, ev_slen, ev_schr, ev_obj, ev_mmin, ev_mabs, ev_mmax, ev_goto, ev_jsr, ev_icmp_eq, ev_if_eq, ev_icmp_ne, ev_if_ne, ev_icmp_lt, ev_if_lt, ev_icmp_ge, ev_if_ge, ev_icmp_gt, ev_if_gt, ev_icmp_le, ev_if_le, ev_ifnull0, ev_ifnull1, ev_ifnn0, ev_ifnn1, ev_tsw, ev_lsw, ev_iret, ev_zret, ev_lret, ev_aret, ev_ret, ev_call0, ev_call1, ev_call2, ev_call3, ev_call4, ev_call5, ev_call6, Option.toList_some, Option.toList_none, List.cons_append, List.nil_append, List.length_cons, List.length_nil, Nat.reduceMod, Nat.reduceDiv, Nat.reduceLeDiff, nc, ↓reduceIte, Nat.zero_le, reduceCtorEq, w32_id, Int.reduceEq, Int.reduceNe, Int.reduceLT, Int.reduceLE, Int.reduceGT, Int.reduceGE, Int.reduceAdd, Int.reduceSub, Int.reduceMul, Int.reduceNeg, ne_eq, not_true_eq_false, not_false_eq_true, eq_self, ↓if_pos, ↓if_neg, J_157_0, k_157_0, J_157_35, k_157_35, ]
  exact key
theorem m_tellsBy {a b : Int} (ha : 0 ≤ a) (ha2 : a < 1000000) (hb : 0 < b) (hb2 : b < 1000000) : evc X 318 [vR (some 140), vL a, vL b] SH0 M = some (some (vI 1), SH0, up (up (up M 140 3 (a / gcI a b)) 140 4 (b / gcI a b)) 140 2 0) := by
  have hmd := w0_md140
  have mk0 := w0_k140
  have gr := gcI_rng (a := b) (b := a) hb
  rw [gcI_comm] at gr
  have key := ev_while (X := X) (y := 318) (Sh := SH0) (fun m ls M' => M' = M ∧ ∃ (h l : Int) (z : Option PV), ls = [some (vR (some 140)), some (vL a), none, some (vL b), none, some (vL h), none, some (vL l), none, z, none] ∧ (0 ≤ h ∧ h < 1000000) ∧ (0 ≤ l ∧ l < 1000000) ∧ gcI h l = gcI a b ∧ m = l.toNat)
    (fun o => o = some (some (vI 1), SH0, up (up (up M 140 3 (a / gcI a b)) 140 4 (b / gcI a b)) 140 2 0)) J_318_6 (fun m ls M' hI => by
    obtain ⟨hM, h, l, z, hls, hh, hl, hc, hm⟩ := hI
    subst hM hls
    by_cases q : l = 0
    · refine Or.inr ?_
      subst q
      rw [gcI_z hh.1] at hc
      rw [← hc] at gr ⊢
      have d1 := l_div_id (a := a) (b := h) ha (by omega) (by omega) (by omega)
      have d2 := l_div_id (a := b) (b := h) (by omega) (by omega) (by omega) (by omega)
      simp (disch := first | assumption | decide | omega | (simp only [List.length_cons, List.length_nil] <;> omega)) only [lgt_0, lgt_s, lset_0, lset_s, lst1_0, lst1_s, lst2_0, lst2_s, ev_iconst, ev_lconst, ev_ldc, ev_null, ev_iload, ev_lload, ev_aload, ev_istore, ev_lstore, ev_astore, ev_iinc, ev_iadd, ev_isub, ev_imul, ev_iand, ev_ior, ev_ishl, ev_ishr, ev_idiv, ev_irem, ev_ineg, ev_ladd, ev_lsub, ev_lmul, ev_land, ev_lor, ev_ldiv, ev_lrem, ev_lshl, ev_i2l, ev_l2i, ev_i2b, ev_i2s, ev_lcmp, ev_dupI, ev_dupR, ev_dup2, ev_popI, ev_popR, ev_alen, ev_xlen, ev_xald, ev_iald, ev_lald, ev_bald, ev_zald, ev_aald, ev_iast, ev_last, ev_bast, ev_zast, ev_aast, ev_gfI, ev_gfL, ev_gfR, ev_pfI, ev_pfZ, ev_pfL, ev_pfR, ev_new, ev_newa, ev_newq, ev_copy, ev_slen, ev_schr, ev_obj, ev_mmin, ev_mabs, ev_mmax, ev_goto, ev_jsr, ev_icmp_eq, ev_if_eq, ev_icmp_ne, ev_if_ne, ev_icmp_lt, ev_if_lt, ev_icmp_ge, ev_if_ge, ev_icmp_gt, ev_if_gt, ev_icmp_le, ev_if_le, ev_ifnull0, ev_ifnull1, ev_ifnn0, ev_ifnn1, ev_tsw, ev_lsw, ev_iret, ev_zret, ev_lret, ev_aret, ev_ret, ev_call0, ev_call1, ev_call2, ev_call3, ev_call4, ev_call5, ev_call6, Option.toList_some, Option.toList_none, List.cons_append, List.nil_append, List.length_cons, List.length_nil, Nat.reduceMod, Nat.reduceDiv, Nat.reduceLeDiff, nc, ↓reduceIte, Nat.zero_le, reduceCtorEq, w32_id, Int.reduceEq, Int.reduceNe, Int.reduceLT, Int.reduceLE, Int.reduceGT, Int.reduceGE, Int.reduceAdd, Int.reduceSub, Int.reduceMul, Int.reduceNeg, ne_eq, not_true_eq_false, not_false_eq_true, eq_self, ↓if_pos, ↓if_neg, J_318_0, k_318_0, J_318_31, k_318_31, k_318_6, d1, d2, m_is hmd]
    · have r0 : 0 ≤ h % l := Int.emod_nonneg h (by omega)
      have r1 : h % l < l := Int.emod_lt_of_pos h (by omega)
      have ei := l_rem_id (a := h) (b := l) hh.1 (by omega) (by omega) (by omega)
      have gs := gcI_s (a := h) (b := l) hh.1 (by omega)
      have nq : ¬ l < 0 := by omega
      refine Or.inl ⟨_, _, M', ?_, ⟨rfl, l, h % l, some (vL (h % l)), rfl, by omega, by omega, by rw [gs]; exact hc, rfl⟩, ?_⟩
      · omega
      · simp (disch := first | assumption | decide | omega | (simp only [List.length_cons, List.length_nil] <;> omega)) only [lgt_0, lgt_s, lset_0, lset_s, lst1_0, lst1_s, lst2_0, lst2_s, ev_iconst, ev_lconst, ev_ldc, ev_null, ev_iload, ev_lload, ev_aload, ev_istore, ev_lstore, ev_astore, ev_iinc, ev_iadd, ev_isub, ev_imul, ev_iand, ev_ior, ev_ishl, ev_ishr, ev_idiv, ev_irem, ev_ineg, ev_ladd, ev_lsub, ev_lmul, ev_land, ev_lor, ev_ldiv, ev_lrem, ev_lshl, ev_i2l, ev_l2i, ev_i2b, ev_i2s, ev_lcmp, ev_dupI, ev_dupR, ev_dup2, ev_popI, ev_popR, ev_alen, ev_xlen, ev_xald, ev_iald, ev_lald, ev_bald, ev_zald, ev_aald, ev_iast, ev_last, ev_bast, ev_zast, ev_aast, ev_gfI, ev_gfL, ev_gfR, ev_pfI, ev_pfZ, ev_pfL, ev_pfR, ev_new, ev_newa, ev_newq, ev_copy, ev_slen, ev_schr, ev_obj, ev_mmin, ev_mabs, ev_mmax, ev_goto, ev_jsr, ev_icmp_eq, ev_if_eq, ev_icmp_ne, ev_if_ne, ev_icmp_lt, ev_if_lt, ev_icmp_ge, ev_if_ge, ev_icmp_gt, ev_if_gt, ev_icmp_le, ev_if_le, ev_ifnull0, ev_ifnull1, ev_ifnn0, ev_ifnn1, ev_tsw, ev_lsw, ev_iret, ev_zret, ev_lret, ev_aret, ev_ret, ev_call0, ev_call1, ev_call2, ev_call3, ev_call4, ev_call5, ev_call6, Option.toList_some, Option.toList_none, List.cons_append, List.nil_append, List.length_cons, List.length_nil, Nat.reduceMod, Nat.reduceDiv, Nat.reduceLeDiff, nc, ↓reduceIte, Nat.zero_le, reduceCtorEq, w32_id, Int.reduceEq, Int.reduceNe, Int.reduceLT, Int.reduceLE, Int.reduceGT, Int.reduceGE, Int.reduceAdd, Int.reduceSub, Int.reduceMul, Int.reduceNeg, ne_eq, not_true_eq_false, not_false_eq_true, eq_self, ↓if_pos, ↓if_neg, J_318_0, k_318_0, J_318_31, k_318_31, k_318_6, ei, nq, q]) _ [some (vR (some 140)), some (vL a), none, some (vL b), none, some (vL a), none, some (vL b), none, none, none] M ⟨rfl, a, b, none, rfl, by omega, by omega, rfl, rfl⟩
  rw [E_318 mk0]
  simp (disch := first | assumption | decide | omega | (simp only [List.length_cons, List.length_nil] <;> omega)) only [lgt_0, lgt_s, lset_0, lset_s, lst1_0, lst1_s, lst2_0, lst2_s, ev_iconst, ev_lconst, ev_ldc, ev_null, ev_iload, ev_lload, ev_aload, ev_istore, ev_lstore, ev_astore, ev_iinc, ev_iadd, ev_isub, ev_imul, ev_iand, ev_ior, ev_ishl, ev_ishr, ev_idiv, ev_irem, ev_ineg, ev_ladd, ev_lsub, ev_lmul, ev_land, ev_lor, ev_ldiv, ev_lrem, ev_lshl, ev_i2l, ev_l2i, ev_i2b, ev_i2s, ev_lcmp, ev_dupI, ev_dupR, ev_dup2, ev_popI, ev_popR, ev_alen, ev_xlen, ev_xald, ev_iald, ev_lald, ev_bald, ev_zald, ev_aald, ev_iast, ev_last, ev_bast, ev_zast, ev_aast, ev_gfI, ev_gfL, ev_gfR, ev_pfI, ev_pfZ, ev_pfL, ev_pfR, ev_new, ev_newa, ev_newq, ev_copy, ev_slen, ev_schr, ev_obj, ev_mmin, ev_mabs, ev_mmax, ev_goto, ev_jsr, ev_icmp_eq, ev_if_eq, ev_icmp_ne, ev_if_ne, ev_icmp_lt, ev_if_lt, ev_icmp_ge, ev_if_ge, ev_icmp_gt, ev_if_gt, ev_icmp_le, ev_if_le, ev_ifnull0, ev_ifnull1, ev_ifnn0, ev_ifnn1, ev_tsw, ev_lsw, ev_iret, ev_zret, ev_lret, ev_aret, ev_ret, ev_call0, ev_call1, ev_call2, ev_call3, ev_call4, ev_call5, ev_call6, Option.toList_some, Option.toList_none, List.cons_append, List.nil_append, List.length_cons, List.length_nil, Nat.reduceMod, Nat.reduceDiv, Nat.reduceLeDiff, nc, ↓reduceIte, Nat.zero_le, reduceCtorEq, w32_id, Int.reduceEq, Int.reduceNe, Int.reduceLT, Int.reduceLE, Int.reduceGT, Int.reduceGE, Int.reduceAdd, Int.reduceSub, Int.reduceMul, Int.reduceNeg, ne_eq, not_true_eq_false, not_false_eq_true, eq_self, ↓if_pos, ↓if_neg, J_318_0, k_318_0, J_318_31, k_318_31, ]
  exact key
theorem RR_tb {M M' : Mem} (h0 : ∀ i, 2 < i → M' 0 i = M 0 i) (h1 : ∀ b, 0 < b → (b < 36 ∨ 45 < b) → (b < 67 ∨ 80 < b) → b ≠ 140 → (b < 151 ∨ (159 < b ∧ b < 161) ∨ 163 < b) → M' b = M b) (h2 : ∀ i, (i < 36 ∨ 40 ≤ i) → i ≠ 2 → i ≠ 3 → i ≠ 4 → M' 140 i = M 140 i) (ht : RTb M') (hs : M' 0 0 = M' 140 2) (r : RR' M) : RR M' := by
  obtain ⟨r1, r2, r3, r4, r5, r6, r7, r8, r9, r10⟩ := r
  have ha : M' (140 + 1) = M (140 + 1) := h1 _ (by omega) (by omega) (by omega) (by omega) (by omega)
  have hn : M' (140 + 2) = M (140 + 2) := h1 _ (by omega) (by omega) (by omega) (by omega) (by omega)
  exact ⟨⟨ht, RTr_c (fun c hc => h1 c (by omega) (by omega) (by omega) (by omega) (by omega)) r2, RTp_c (fun c hc => h1 c (by omega) (by omega) (by omega) (by omega) (by omega)) (fun i hi => h2 i (by omega) (by omega) (by omega) (by omega)) r3, RC_c (fun c hc => h1 c (by omega) (by omega) (by omega) (by omega) (by omega)) (fun k _ _ => by rw [ha]) (fun k _ _ => by rw [hn]) r4, RN_c (fun c hc => h1 c (by omega) (by omega) (by omega) (by omega) (by omega)) (fun k _ _ => by rw [ha]) r5, RP_c (fun c hc => h1 c (by omega) (by omega) (by omega) (by omega) (by omega)) (fun k _ _ => by rw [ha]) r6, RD_c (fun c hc => h1 c (by omega) (by omega) (by omega) (by omega) (by omega)) (fun k _ _ _ => by rw [ha]) r7, RM_c (h0 9 (by omega)) (h2 55 (by omega) (by omega) (by omega) (by omega)) (fun c hc => h1 c (by omega) (by omega) (by omega) (by omega) (by omega)) (fun k _ _ => by rw [ha]) (fun k _ _ => by rw [hn]) r8, RF_c (fun c hc => h1 c (by omega) (by omega) (by omega) (by omega) (by omega)) (h2 54 (by omega) (by omega) (by omega) (by omega)) (h2 21 (by omega) (by omega) (by omega) (by omega)) (fun k _ _ => by rw [ha]) r9, RA_c (fun c hc => h1 c (by omega) (by omega) (by omega) (by omega) (by omega)) (h2 41 (by omega) (by omega) (by omega) (by omega)) (fun k _ _ => by rw [ha]) r10⟩, hs⟩
theorem op_worth (h : RR' M) : OP X 156 [] 317 [] M := by
  have k0 := w0_k0; have hc4 := w0_ch4; have hmd := w0_md140; have mk0 := hmd.1; have hc4' := w0_ch4; obtain ⟨ck0, cr0, cr1, cr2, cr3, cr4, cr5, cr6, cr7, ck1, ck2, ck3, ck4, ck5, ck6, ck7, ck8, cl1, cl2, cl3, cl4, cl5, cl6, cl7, cl8⟩ := hc4'
  have ec := k_costOn (X := X) (rr_kv h)
  have cr := cos_rng (L := M (13 + 1)) (E := M (13 + 2)) (rr_gwy h)
  have em := fun M1 (hm : mds M M1) => v_costOfPlan (X := X) (rr_qv h hm)
  generalize cosF (M (13 + 1)) (M (13 + 2)) (AA M) = cv at ec em cr
  by_cases q : cv = 0
  · subst q
    refine op_ro3 (v := vI 0) (st := 6) h ?_ ?_
    · rw [E_156 k0]
      simp (disch := first | assumption | decide | omega | (simp only [List.length_cons, List.length_nil] <;> omega)) only [lgt_0, lgt_s, lset_0, lset_s, lst1_0, lst1_s, lst2_0, lst2_s, ev_iconst, ev_lconst, ev_ldc, ev_null, ev_iload, ev_lload, ev_aload, ev_istore, ev_lstore, ev_astore, ev_iinc, ev_iadd, ev_isub, ev_imul, ev_iand, ev_ior, ev_ishl, ev_ishr, ev_idiv, ev_irem, ev_ineg, ev_ladd, ev_lsub, ev_lmul, ev_land, ev_lor, ev_ldiv, ev_lrem, ev_lshl, ev_i2l, ev_l2i, ev_i2b, ev_i2s, ev_lcmp, ev_dupI, ev_dupR, ev_dup2, ev_popI, ev_popR, ev_alen, ev_xlen, ev_xald, ev_iald, ev_lald, ev_bald, ev_zald, ev_aald, ev_iast, ev_last, ev_bast, ev_zast, ev_aast, ev_gfI, ev_gfL, ev_gfR, ev_pfI, ev_pfZ, ev_pfL, ev_pfR, ev_new, ev_newa, ev_newq, ev_copy, ev_slen, ev_schr, ev_obj, ev_mmin, ev_mabs, ev_mmax, ev_goto, ev_jsr, ev_icmp_eq, ev_if_eq, ev_icmp_ne, ev_if_ne, ev_icmp_lt, ev_if_lt, ev_icmp_ge, ev_if_ge, ev_icmp_gt, ev_if_gt, ev_icmp_le, ev_if_le, ev_ifnull0, ev_ifnull1, ev_ifnn0, ev_ifnn1, ev_tsw, ev_lsw, ev_iret, ev_zret, ev_lret, ev_aret, ev_ret, ev_call0, ev_call1, ev_call2, ev_call3, ev_call4, ev_call5, ev_call6, Option.toList_some, Option.toList_none, List.cons_append, List.nil_append, List.length_cons, List.length_nil, Nat.reduceMod, Nat.reduceDiv, Nat.reduceLeDiff, nc, ↓reduceIte, Nat.zero_le, reduceCtorEq, w32_id, Int.reduceEq, Int.reduceNe, Int.reduceLT, Int.reduceLE, Int.reduceGT, Int.reduceGE, Int.reduceAdd, Int.reduceSub, Int.reduceMul, Int.reduceNeg, ne_eq, not_true_eq_false, not_false_eq_true, eq_self, ↓if_pos, ↓if_neg, w0_r0_3, w0_r0_4, w0_r0_5, w0_r0_6, w0_r0_7, w0_r0_8, w0_r0_10, w0_r0_11, w0_r0_12, w0_r0_13, w0_r0_14, w0_r0_15, w0_r0_16, w0_r0_17, w0_r0_18, J_156_0, k_156_0, J_156_23, k_156_23, J_156_61, k_156_61, ec, s_refuse]
    · intro M1 h1 hm
      have e := em M1 (mds_of hm)
      rw [E_317 mk0]
      simp (disch := first | assumption | decide | omega | (simp only [List.length_cons, List.length_nil] <;> omega)) only [lgt_0, lgt_s, lset_0, lset_s, lst1_0, lst1_s, lst2_0, lst2_s, ev_iconst, ev_lconst, ev_ldc, ev_null, ev_iload, ev_lload, ev_aload, ev_istore, ev_lstore, ev_astore, ev_iinc, ev_iadd, ev_isub, ev_imul, ev_iand, ev_ior, ev_ishl, ev_ishr, ev_idiv, ev_irem, ev_ineg, ev_ladd, ev_lsub, ev_lmul, ev_land, ev_lor, ev_ldiv, ev_lrem, ev_lshl, ev_i2l, ev_l2i, ev_i2b, ev_i2s, ev_lcmp, ev_dupI, ev_dupR, ev_dup2, ev_popI, ev_popR, ev_alen, ev_xlen, ev_xald, ev_iald, ev_lald, ev_bald, ev_zald, ev_aald, ev_iast, ev_last, ev_bast, ev_zast, ev_aast, ev_gfI, ev_gfL, ev_gfR, ev_pfI, ev_pfZ, ev_pfL, ev_pfR, ev_new, ev_newa, ev_newq, ev_copy, ev_slen, ev_schr, ev_obj, ev_mmin, ev_mabs, ev_mmax, ev_goto, ev_jsr, ev_icmp_eq, ev_if_eq, ev_icmp_ne, ev_if_ne, ev_icmp_lt, ev_if_lt, ev_icmp_ge, ev_if_ge, ev_icmp_gt, ev_if_gt, ev_icmp_le, ev_if_le, ev_ifnull0, ev_ifnull1, ev_ifnn0, ev_ifnn1, ev_tsw, ev_lsw, ev_iret, ev_zret, ev_lret, ev_aret, ev_ret, ev_call0, ev_call1, ev_call2, ev_call3, ev_call4, ev_call5, ev_call6, Option.toList_some, Option.toList_none, List.cons_append, List.nil_append, List.length_cons, List.length_nil, Nat.reduceMod, Nat.reduceDiv, Nat.reduceLeDiff, nc, ↓reduceIte, Nat.zero_le, reduceCtorEq, w32_id, Int.reduceEq, Int.reduceNe, Int.reduceLT, Int.reduceLE, Int.reduceGT, Int.reduceGE, Int.reduceAdd, Int.reduceSub, Int.reduceMul, Int.reduceNeg, ne_eq, not_true_eq_false, not_false_eq_true, eq_self, ↓if_pos, ↓if_neg, J_317_0, k_317_0, J_317_18, k_317_18, J_317_29, k_317_29, e, m_is hmd]
  · obtain ⟨M', f, e, l0, l1⟩ := c_leastAll (X := X) h
    have hg := s_divisor (X := X) (M := M') (a := cv) (b := lsA (AA M) (xH (AA M))) (by omega) (by omega) (by omega) (by omega)
    have gr := gcI_rng (a := cv) (b := lsA (AA M) (xH (AA M))) (by omega)
    have d1 := i_div_id (a := lsA (AA M) (xH (AA M))) (b := gcI cv (lsA (AA M) (xH (AA M)))) (by omega) (by omega) (by omega) (by omega)
    have d2 := i_div_id (a := cv) (b := gcI cv (lsA (AA M) (xH (AA M)))) (by omega) (by omega) (by omega) (by omega)
    generalize hM1 : up (up (up M' 0 1 (lsA (AA M) (xH (AA M)) / gcI cv (lsA (AA M) (xH (AA M))))) 0 2 (cv / gcI cv (lsA (AA M) (xH (AA M))))) 0 0 0 = M1
    have hm : mds M M1 := fun b hb => by rw [← hM1, up_ne (by omega), up_ne (by omega), up_ne (by omega), f b (by omega)]
    obtain ⟨M2, f2, e2, -, -⟩ := q_leastAll (X := X) h hm
    have ev1 := em M1 hm
    have et := m_tellsBy (X := X) (M := M2) (a := lsA (AA M) (xH (AA M))) (b := cv) (by omega) (by omega) (by omega) (by omega)
    rw [gcI_comm] at et
    refine ⟨vI 1, M1, up (up (up M2 140 3 (lsA (AA M) (xH (AA M)) / gcI cv (lsA (AA M) (xH (AA M))))) 140 4 (cv / gcI cv (lsA (AA M) (xH (AA M))))) 140 2 0, ?_, ?_, ?_⟩
    rotate_left
    · rw [E_317 mk0]
      generalize lsA (AA M) (xH (AA M)) = lv at *
      simp (disch := first | assumption | decide | omega | (simp only [List.length_cons, List.length_nil] <;> omega)) only [lgt_0, lgt_s, lset_0, lset_s, lst1_0, lst1_s, lst2_0, lst2_s, ev_iconst, ev_lconst, ev_ldc, ev_null, ev_iload, ev_lload, ev_aload, ev_istore, ev_lstore, ev_astore, ev_iinc, ev_iadd, ev_isub, ev_imul, ev_iand, ev_ior, ev_ishl, ev_ishr, ev_idiv, ev_irem, ev_ineg, ev_ladd, ev_lsub, ev_lmul, ev_land, ev_lor, ev_ldiv, ev_lrem, ev_lshl, ev_i2l, ev_l2i, ev_i2b, ev_i2s, ev_lcmp, ev_dupI, ev_dupR, ev_dup2, ev_popI, ev_popR, ev_alen, ev_xlen, ev_xald, ev_iald, ev_lald, ev_bald, ev_zald, ev_aald, ev_iast, ev_last, ev_bast, ev_zast, ev_aast, ev_gfI, ev_gfL, ev_gfR, ev_pfI, ev_pfZ, ev_pfL, ev_pfR, ev_new, ev_newa, ev_newq, ev_copy, ev_slen, ev_schr, ev_obj, ev_mmin, ev_mabs, ev_mmax, ev_goto, ev_jsr, ev_icmp_eq, ev_if_eq, ev_icmp_ne, ev_if_ne, ev_icmp_lt, ev_if_lt, ev_icmp_ge, ev_if_ge, ev_icmp_gt, ev_if_gt, ev_icmp_le, ev_if_le, ev_ifnull0, ev_ifnull1, ev_ifnn0, ev_ifnn1, ev_tsw, ev_lsw, ev_iret, ev_zret, ev_lret, ev_aret, ev_ret, ev_call0, ev_call1, ev_call2, ev_call3, ev_call4, ev_call5, ev_call6, Option.toList_some, Option.toList_none, List.cons_append, List.nil_append, List.length_cons, List.length_nil, Nat.reduceMod, Nat.reduceDiv, Nat.reduceLeDiff, nc, ↓reduceIte, Nat.zero_le, reduceCtorEq, w32_id, Int.reduceEq, Int.reduceNe, Int.reduceLT, Int.reduceLE, Int.reduceGT, Int.reduceGE, Int.reduceAdd, Int.reduceSub, Int.reduceMul, Int.reduceNeg, ne_eq, not_true_eq_false, not_false_eq_true, eq_self, ↓if_pos, ↓if_neg, J_317_0, k_317_0, J_317_18, k_317_18, J_317_29, k_317_29, ev1, q, e2, et]
    · generalize lsA (AA M) (xH (AA M)) = lv at *
      generalize gcI cv lv = gv at *
      refine RR_tb (M := M) (fun i hi => ?_) (fun b b0 b1 b2 b3 b4 => ?_) (fun i i0 i1 i2 i3 => ?_) ⟨?_, ?_⟩ ?_ h
      · rw [up_ne (by omega), up_ne (by omega), up_ne (by omega), f2.1 0 (by omega) (by omega), ← hM1, up_ne2 (by omega), up_ne2 (by omega), up_ne2 (by omega), f 0 (by omega)]
      · rw [up_ne b3, up_ne b3, up_ne b3, f2.1 b b3 (by omega), ← hM1, up_ne (by omega), up_ne (by omega), up_ne (by omega), f b (by omega)]
      · rw [up_ne2 i1, up_ne2 i3, up_ne2 i2, f2.2 i (by omega), ← hM1, up_ne (by omega), up_ne (by omega), up_ne (by omega), f 140 (by omega)]
      · rw [up_ne (by omega), up_ne (by omega), up_ne (by omega), up_ne2 (by omega), up_ne2 (by omega), up_eq, f2.1 0 (by omega) (by omega), ← hM1, up_ne2 (by omega), up_ne2 (by omega), up_eq]
      · rw [up_ne (by omega), up_ne (by omega), up_ne (by omega), up_ne2 (by omega), up_eq, f2.1 0 (by omega) (by omega), ← hM1, up_ne2 (by omega), up_eq]
      · rw [up_eq, up_ne (by omega), up_ne (by omega), up_ne (by omega), f2.1 0 (by omega) (by omega), ← hM1, up_eq]
    · generalize lsA (AA M) (xH (AA M)) = lv at *
      generalize gcI cv lv = gv at *
      rw [E_156 k0]
      simp (disch := first | assumption | decide | omega | (simp only [List.length_cons, List.length_nil] <;> omega)) only [lgt_0, lgt_s, lset_0, lset_s, lst1_0, lst1_s, lst2_0, lst2_s, ev_iconst, ev_lconst, ev_ldc, ev_null, ev_iload, ev_lload, ev_aload, ev_istore, ev_lstore, ev_astore, ev_iinc, ev_iadd, ev_isub, ev_imul, ev_iand, ev_ior, ev_ishl, ev_ishr, ev_idiv, ev_irem, ev_ineg, ev_ladd, ev_lsub, ev_lmul, ev_land, ev_lor, ev_ldiv, ev_lrem, ev_lshl, ev_i2l, ev_l2i, ev_i2b, ev_i2s, ev_lcmp, ev_dupI, ev_dupR, ev_dup2, ev_popI, ev_popR, ev_alen, ev_xlen, ev_xald, ev_iald, ev_lald, ev_bald, ev_zald, ev_aald, ev_iast, ev_last, ev_bast, ev_zast, ev_aast, ev_gfI, ev_gfL, ev_gfR, ev_pfI, ev_pfZ, ev_pfL, ev_pfR, ev_new, ev_newa, ev_newq, ev_copy, ev_slen, ev_schr, ev_obj, ev_mmin, ev_mabs, ev_mmax, ev_goto, ev_jsr, ev_icmp_eq, ev_if_eq, ev_icmp_ne, ev_if_ne, ev_icmp_lt, ev_if_lt, ev_icmp_ge, ev_if_ge, ev_icmp_gt, ev_if_gt, ev_icmp_le, ev_if_le, ev_ifnull0, ev_ifnull1, ev_ifnn0, ev_ifnn1, ev_tsw, ev_lsw, ev_iret, ev_zret, ev_lret, ev_aret, ev_ret, ev_call0, ev_call1, ev_call2, ev_call3, ev_call4, ev_call5, ev_call6, Option.toList_some, Option.toList_none, List.cons_append, List.nil_append, List.length_cons, List.length_nil, Nat.reduceMod, Nat.reduceDiv, Nat.reduceLeDiff, nc, ↓reduceIte, Nat.zero_le, reduceCtorEq, w32_id, Int.reduceEq, Int.reduceNe, Int.reduceLT, Int.reduceLE, Int.reduceGT, Int.reduceGE, Int.reduceAdd, Int.reduceSub, Int.reduceMul, Int.reduceNeg, ne_eq, not_true_eq_false, not_false_eq_true, eq_self, ↓if_pos, ↓if_neg, w0_r0_3, w0_r0_4, w0_r0_5, w0_r0_6, w0_r0_7, w0_r0_8, w0_r0_10, w0_r0_11, w0_r0_12, w0_r0_13, w0_r0_14, w0_r0_15, w0_r0_16, w0_r0_17, w0_r0_18, J_156_0, k_156_0, J_156_23, k_156_23, J_156_61, k_156_61, ec, e, hg, d1, d2, s_agree, hM1]
end WTH
