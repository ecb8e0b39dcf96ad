/-! TOKENS: the class's go, words, signs, numbers. -/
def cTc (M : Mem) (b : Int → Int) (n p : Int) : Prop := cTp M b n p ∧ M 2 2 = 0 ∧ M 2 3 = -1
def cAt (M : Mem) (b : Int → Int) (n p : Int) : Prop := cTc M b n (tE b n p) ∧ M 2 8 = tQ b n p ∧ M 2 4 = ckF (tK b n p) ∧ (tK b n p = 3 → M 2 5 = tV b n p) ∧ (tK b n p = 2 → M 2 6 = wc (tW b n p))
def fT (M M' : Mem) : Prop := (∀ c, c ≠ 2 → M' c = M c) ∧ M' 2 1 = M 2 1
theorem fT_t {M M' M'' : Mem} (h : fT M M') (h' : fT M' M'') : fT M M'' := ⟨fun c hc => by rw [h'.1 c hc, h.1 c hc], by rw [h'.2, h.2]⟩
def kl (k : Nat) : List Int := (strb.getD k []).map (fun c => c - 96)
def kcF (k : Nat) : Nat → Int
  | 0 => 0
  | j + 1 => kcF k j * 32 + schr k j - 96
theorem kc_b : ∀ k : Nat, k < 19 → (slen k ≤ 6 ∧ (kl k).length ≤ 6 ∧ kl k ≠ [] ∧ kcF k (slen k).toNat = c32 (kl k)) ∧ ∀ j : Nat, j < 7 → (0 ≤ kcF k j ∧ kcF k j < 1099511627776) ∧ 0 ≤ schr k j ∧ schr k j < 128 := by decide +kernel
theorem kl_lts : ∀ k : Nat, k < 19 → ∀ c ∈ kl k, 1 ≤ c ∧ c ≤ 26 := by decide +kernel
abbrev PE (α : Type) : Type := Except (Int × Int) α
def pWord (b : Int → Int) (n : Int) (w : List Int) (p : Int) : PE Int := if tK b n p = 1 then .error (1, tQ b n p) else if tK b n p = 2 ∧ tW b n p = w then .ok (tE b n p) else .error (2, tQ b n p)
def pSign (b : Int → Int) (n : Int) (p : Int) : PE Int := if tK b n p = 1 then .error (1, tQ b n p) else if tK b n p = 4 then .ok (tE b n p) else .error (2, tQ b n p)
def pNum (b : Int → Int) (n : Int) (lo hi p : Int) : PE (Int × Int) := if tK b n p = 1 then .error (1, tQ b n p) else if tK b n p = 3 then (if lo ≤ tV b n p ∧ tV b n p ≤ hi then .ok (tE b n p, tV b n p) else .error (4, tQ b n p)) else .error (2, tQ b n p)
/-- what a call on the tape says, and where the tape is then -/
def cO (b : Int → Int) (n : Int) (r : PE Int) (v : Int) (M : Mem) : Prop := (∀ e, r = .error e → v = 0 ∧ M 2 2 = e.1 ∧ M 2 3 = e.2) ∧ ∀ p, r = .ok p → v = 1 ∧ cTc M b n p
section GOO
variable {X : Int → Int} {M : Mem} {b : Int → Int} {n p : Int}
theorem ck_id {k : Int} (h0 : 0 ≤ k) (h4 : k ≤ 4) : (ckF k = 4 ↔ k = 2) ∧ (ckF k = 2 ↔ k = 4) ∧ (ckF k = 3 ↔ k = 3) ∧ (ckF k = 0 ↔ k = 0) ∧ (ckF k = 1 ↔ k = 1) := by
  unfold ckF
  have z : k = 0 ∨ k = 1 ∨ k = 2 ∨ k = 3 ∨ k = 4 := by omega
  rcases z with z | z | z | z | z <;> subst z <;> decide
theorem tK_rng : 0 ≤ tK b n p ∧ tK b n p ≤ 4 := tKq_rng
theorem tW_lts (h : tK b n p = 2) : lts (tW b n p) := by
  unfold tW
  refine wl_lts fun j a c => ?_
  unfold tK tKq at h
  unfold tE tEq at c
  have s := tEnd_spec (P := ltB) (b := b) (n := n) (p := tQ b n p)
  by_cases z : n ≤ tQ b n p
  · rw [if_pos z] at h
    omega
  · rw [if_neg z] at h c
    by_cases y : ltB (b (tQ b n p)) = true
    · rw [if_pos y] at c
      exact (s.2.1 j a (by omega)).2
    · rw [if_neg y] at h
      split at h
      · split at h <;> omega
      · split at h <;> omega
theorem c_wrong {w : Int} : evc X 45 [vR (some 2), vI w] SH0 M = some (some (vI 0), SH0, up (up M 2 2 w) 2 3 (M 2 8)) := by
  have k2 := w0_k2
  rw [E_45 k2]
  simp (disch := first | assumption | decide | omega | (simp only [List.length_cons, List.length_nil] <;> omega)) only [lgt_0, lgt_s, lset_0, lset_s, lst1_0, lst1_s, lst2_0, lst2_s, ev_iconst, ev_lconst, ev_ldc, ev_null, ev_iload, ev_lload, ev_aload, ev_istore, ev_lstore, ev_astore, ev_iinc, ev_iadd, ev_isub, ev_imul, ev_iand, ev_ior, ev_ishl, ev_ishr, ev_idiv, ev_irem, ev_ineg, ev_ladd, ev_lsub, ev_lmul, ev_land, ev_lor, ev_ldiv, ev_lrem, ev_lshl, ev_i2l, ev_l2i, ev_i2b, ev_i2s, ev_lcmp, ev_dupI, ev_dupR, ev_dup2, ev_popI, ev_popR, ev_alen, ev_xlen, ev_xald, ev_iald, ev_lald, ev_bald, ev_zald, ev_aald, ev_iast, ev_last, ev_bast, ev_zast, ev_aast, ev_gfI, ev_gfL, ev_gfR, ev_pfI, ev_pfZ, ev_pfL, ev_pfR, ev_new, ev_newa, ev_newq, ev_copy, ev_slen, ev_schr, ev_obj, ev_mmin, ev_mabs, ev_mmax, ev_goto, ev_jsr, ev_icmp_eq, ev_if_eq, ev_icmp_ne, ev_if_ne, ev_icmp_lt, ev_if_lt, ev_icmp_ge, ev_if_ge, ev_icmp_gt, ev_if_gt, ev_icmp_le, ev_if_le, ev_ifnull0, ev_ifnull1, ev_ifnn0, ev_ifnn1, ev_tsw, ev_lsw, ev_iret, ev_zret, ev_lret, ev_aret, ev_ret, ev_call0, ev_call1, ev_call2, ev_call3, ev_call4, ev_call5, ev_call6, Option.toList_some, Option.toList_none, List.cons_append, List.nil_append, List.length_cons, List.length_nil, Nat.reduceMod, Nat.reduceDiv, Nat.reduceLeDiff, nc, ↓reduceIte, Nat.zero_le, reduceCtorEq, w32_id, Int.reduceEq, Int.reduceNe, Int.reduceLT, Int.reduceLE, Int.reduceGT, Int.reduceGE, Int.reduceAdd, Int.reduceSub, Int.reduceMul, Int.reduceNeg, ne_eq, not_true_eq_false, not_false_eq_true, eq_self, ↓if_pos, ↓if_neg, J_45_0, k_45_0, up_ne2]
theorem c_go (g : gT b n) (h : cTc M b n p) (p0 : 0 ≤ p) (p1 : p ≤ n) : ∃ v M', fT M M' ∧ ((tK b n p = 1 ∧ v = 0 ∧ M' 2 2 = 1 ∧ M' 2 3 = tQ b n p) ∨ (tK b n p ≠ 1 ∧ v = 1 ∧ cAt M' b n p)) ∧ evc X 42 [vR (some 2)] SH0 M = some (some (vI v), SH0, M') := by
  have k2 := w0_k2
  have k3 := w0_k3
  have l3 := w0_l3
  have r20 := w0_r2_0
  have n8 := g.1
  obtain ⟨⟨h7, h9, hb⟩, h2, h3⟩ := h
  have qr := tQ_rng (b := b) p1
  -- the white space
  have key := ev_while (X := X) (y := 42) (Sh := SH0) (fun m ls M' => ∃ j, ls = [some (vR (some 2)), none] ∧ (p ≤ j ∧ j ≤ n) ∧ m = (n - j).toNat ∧ (∀ c, c ≠ 2 → M' c = M c) ∧ (∀ i, i ≠ 9 → M' 2 i = M 2 i) ∧ M' 2 9 = j ∧ ∀ i, p ≤ i → i < j → i < n ∧ wsB (b i) = true) (fun r => ∃ M', (∀ c, c ≠ 2 → M' c = M c) ∧ (∀ i, i ≠ 9 → M' 2 i = M 2 i) ∧ M' 2 9 = tQ b n p ∧ r = ev X 42 (jmp 42 52) [some (vR (some 2)), none] [] SH0 M') J_42_0 (fun m ls M' hI => by
    obtain ⟨j, hls, hj, hm, fr, f2, i9, hr⟩ := hI
    subst hls
    have e7 : M' 2 7 = n := by rw [f2 7 (by omega)]; exact h7
    by_cases z : j < n
    · have e3 : M' 3 j = b j := by rw [fr 3 (by omega)]; exact hb j (by omega) z
      by_cases y : wsB (b j) = true
      · left
        have y' := of_decide_eq_true y
        refine ⟨(n - (j + 1)).toNat, _, up M' 2 9 (j + 1), by omega, ⟨j + 1, rfl, by omega, rfl, fun c hc => by rw [up_ne hc]; exact fr c hc, fun i i9 => by rw [up_ne2 i9]; exact f2 i i9, up_eq, fun i i0 i1 => ?_⟩, ?_⟩
        · by_cases w : i = j
          · rw [w]; exact ⟨z, y⟩
          · exact hr i i0 (by omega)
        · by_cases u : b j = 10
          · simp (disch := first | assumption | decide | omega | (simp only [List.length_cons, List.length_nil] <;> omega)) only [lgt_0, lgt_s, lset_0, lset_s, lst1_0, lst1_s, lst2_0, lst2_s, ev_iconst, ev_lconst, ev_ldc, ev_null, ev_iload, ev_lload, ev_aload, ev_istore, ev_lstore, ev_astore, ev_iinc, ev_iadd, ev_isub, ev_imul, ev_iand, ev_ior, ev_ishl, ev_ishr, ev_idiv, ev_irem, ev_ineg, ev_ladd, ev_lsub, ev_lmul, ev_land, ev_lor, ev_ldiv, ev_lrem, ev_lshl, ev_i2l, ev_l2i, ev_i2b, ev_i2s, ev_lcmp, ev_dupI, ev_dupR, ev_dup2, ev_popI, ev_popR, ev_alen, ev_xlen, ev_xald, ev_iald, ev_lald, ev_bald, ev_zald, ev_aald, ev_iast, ev_last, ev_bast, ev_zast, ev_aast, ev_gfI, ev_gfL, ev_gfR, ev_pfI, ev_pfZ, ev_pfL, ev_pfR, ev_new, ev_newa, ev_newq, ev_copy, ev_slen, ev_schr, ev_obj, ev_mmin, ev_mabs, ev_mmax, ev_goto, ev_jsr, ev_icmp_eq, ev_if_eq, ev_icmp_ne, ev_if_ne, ev_icmp_lt, ev_if_lt, ev_icmp_ge, ev_if_ge, ev_icmp_gt, ev_if_gt, ev_icmp_le, ev_if_le, ev_ifnull0, ev_ifnull1, ev_ifnn0, ev_ifnn1, ev_tsw, ev_lsw, ev_iret, ev_zret, ev_lret, ev_aret, ev_ret, ev_call0, ev_call1, ev_call2, ev_call3, ev_call4, ev_call5, ev_call6, Option.toList_some, Option.toList_none, List.cons_append, List.nil_append, List.length_cons, List.length_nil, Nat.reduceMod, Nat.reduceDiv, Nat.reduceLeDiff, nc, ↓reduceIte, Nat.zero_le, reduceCtorEq, w32_id, Int.reduceEq, Int.reduceNe, Int.reduceLT, Int.reduceLE, Int.reduceGT, Int.reduceGE, Int.reduceAdd, Int.reduceSub, Int.reduceMul, Int.reduceNeg, ne_eq, not_true_eq_false, not_false_eq_true, eq_self, ↓if_pos, ↓if_neg, J_42_39, k_42_39, J_42_83, k_42_83, J_42_84, k_42_84, J_42_109, k_42_109, J_42_128, k_42_128, J_42_147, k_42_147, J_42_168, k_42_168, J_42_184, k_42_184, J_42_188, k_42_188, J_42_189, k_42_189, k_42_0, k_42_0, i9, e7, r20, e3, u]
          · have u2 : b j = 32 := y'.resolve_left u
            simp (disch := first | assumption | decide | omega | (simp only [List.length_cons, List.length_nil] <;> omega)) only [lgt_0, lgt_s, lset_0, lset_s, lst1_0, lst1_s, lst2_0, lst2_s, ev_iconst, ev_lconst, ev_ldc, ev_null, ev_iload, ev_lload, ev_aload, ev_istore, ev_lstore, ev_astore, ev_iinc, ev_iadd, ev_isub, ev_imul, ev_iand, ev_ior, ev_ishl, ev_ishr, ev_idiv, ev_irem, ev_ineg, ev_ladd, ev_lsub, ev_lmul, ev_land, ev_lor, ev_ldiv, ev_lrem, ev_lshl, ev_i2l, ev_l2i, ev_i2b, ev_i2s, ev_lcmp, ev_dupI, ev_dupR, ev_dup2, ev_popI, ev_popR, ev_alen, ev_xlen, ev_xald, ev_iald, ev_lald, ev_bald, ev_zald, ev_aald, ev_iast, ev_last, ev_bast, ev_zast, ev_aast, ev_gfI, ev_gfL, ev_gfR, ev_pfI, ev_pfZ, ev_pfL, ev_pfR, ev_new, ev_newa, ev_newq, ev_copy, ev_slen, ev_schr, ev_obj, ev_mmin, ev_mabs, ev_mmax, ev_goto, ev_jsr, ev_icmp_eq, ev_if_eq, ev_icmp_ne, ev_if_ne, ev_icmp_lt, ev_if_lt, ev_icmp_ge, ev_if_ge, ev_icmp_gt, ev_if_gt, ev_icmp_le, ev_if_le, ev_ifnull0, ev_ifnull1, ev_ifnn0, ev_ifnn1, ev_tsw, ev_lsw, ev_iret, ev_zret, ev_lret, ev_aret, ev_ret, ev_call0, ev_call1, ev_call2, ev_call3, ev_call4, ev_call5, ev_call6, Option.toList_some, Option.toList_none, List.cons_append, List.nil_append, List.length_cons, List.length_nil, Nat.reduceMod, Nat.reduceDiv, Nat.reduceLeDiff, nc, ↓reduceIte, Nat.zero_le, reduceCtorEq, w32_id, Int.reduceEq, Int.reduceNe, Int.reduceLT, Int.reduceLE, Int.reduceGT, Int.reduceGE, Int.reduceAdd, Int.reduceSub, Int.reduceMul, Int.reduceNeg, ne_eq, not_true_eq_false, not_false_eq_true, eq_self, ↓if_pos, ↓if_neg, J_42_39, k_42_39, J_42_83, k_42_83, J_42_84, k_42_84, J_42_109, k_42_109, J_42_128, k_42_128, J_42_147, k_42_147, J_42_168, k_42_168, J_42_184, k_42_184, J_42_188, k_42_188, J_42_189, k_42_189, k_42_0, k_42_0, i9, e7, r20, e3, u2]
      · right
        have y' := of_decide_eq_false (by simpa using y : wsB (b j) = false)
        refine ⟨M', fr, f2, by rw [i9]; exact (tEnd_uq hj.1 hr (fun w => y w.2)).symm, ?_⟩
        have u1 : ¬ b j = 10 := fun w => y' (Or.inl w)
        have u2 : ¬ b j = 32 := fun w => y' (Or.inr w)
        simp (disch := first | assumption | decide | omega | (simp only [List.length_cons, List.length_nil] <;> omega)) only [lgt_0, lgt_s, lset_0, lset_s, lst1_0, lst1_s, lst2_0, lst2_s, ev_iconst, ev_lconst, ev_ldc, ev_null, ev_iload, ev_lload, ev_aload, ev_istore, ev_lstore, ev_astore, ev_iinc, ev_iadd, ev_isub, ev_imul, ev_iand, ev_ior, ev_ishl, ev_ishr, ev_idiv, ev_irem, ev_ineg, ev_ladd, ev_lsub, ev_lmul, ev_land, ev_lor, ev_ldiv, ev_lrem, ev_lshl, ev_i2l, ev_l2i, ev_i2b, ev_i2s, ev_lcmp, ev_dupI, ev_dupR, ev_dup2, ev_popI, ev_popR, ev_alen, ev_xlen, ev_xald, ev_iald, ev_lald, ev_bald, ev_zald, ev_aald, ev_iast, ev_last, ev_bast, ev_zast, ev_aast, ev_gfI, ev_gfL, ev_gfR, ev_pfI, ev_pfZ, ev_pfL, ev_pfR, ev_new, ev_newa, ev_newq, ev_copy, ev_slen, ev_schr, ev_obj, ev_mmin, ev_mabs, ev_mmax, ev_goto, ev_jsr, ev_icmp_eq, ev_if_eq, ev_icmp_ne, ev_if_ne, ev_icmp_lt, ev_if_lt, ev_icmp_ge, ev_if_ge, ev_icmp_gt, ev_if_gt, ev_icmp_le, ev_if_le, ev_ifnull0, ev_ifnull1, ev_ifnn0, ev_ifnn1, ev_tsw, ev_lsw, ev_iret, ev_zret, ev_lret, ev_aret, ev_ret, ev_call0, ev_call1, ev_call2, ev_call3, ev_call4, ev_call5, ev_call6, Option.toList_some, Option.toList_none, List.cons_append, List.nil_append, List.length_cons, List.length_nil, Nat.reduceMod, Nat.reduceDiv, Nat.reduceLeDiff, nc, ↓reduceIte, Nat.zero_le, reduceCtorEq, w32_id, Int.reduceEq, Int.reduceNe, Int.reduceLT, Int.reduceLE, Int.reduceGT, Int.reduceGE, Int.reduceAdd, Int.reduceSub, Int.reduceMul, Int.reduceNeg, ne_eq, not_true_eq_false, not_false_eq_true, eq_self, ↓if_pos, ↓if_neg, J_42_39, k_42_39, J_42_83, k_42_83, J_42_84, k_42_84, J_42_109, k_42_109, J_42_128, k_42_128, J_42_147, k_42_147, J_42_168, k_42_168, J_42_184, k_42_184, J_42_188, k_42_188, J_42_189, k_42_189, k_42_0, k_42_0, i9, e7, r20, e3, u1, u2]
    · right
      refine ⟨M', fr, f2, by rw [i9]; exact (tEnd_uq hj.1 hr (fun w => z w.1)).symm, ?_⟩
      simp (disch := first | assumption | decide | omega | (simp only [List.length_cons, List.length_nil] <;> omega)) only [lgt_0, lgt_s, lset_0, lset_s, lst1_0, lst1_s, lst2_0, lst2_s, ev_iconst, ev_lconst, ev_ldc, ev_null, ev_iload, ev_lload, ev_aload, ev_istore, ev_lstore, ev_astore, ev_iinc, ev_iadd, ev_isub, ev_imul, ev_iand, ev_ior, ev_ishl, ev_ishr, ev_idiv, ev_irem, ev_ineg, ev_ladd, ev_lsub, ev_lmul, ev_land, ev_lor, ev_ldiv, ev_lrem, ev_lshl, ev_i2l, ev_l2i, ev_i2b, ev_i2s, ev_lcmp, ev_dupI, ev_dupR, ev_dup2, ev_popI, ev_popR, ev_alen, ev_xlen, ev_xald, ev_iald, ev_lald, ev_bald, ev_zald, ev_aald, ev_iast, ev_last, ev_bast, ev_zast, ev_aast, ev_gfI, ev_gfL, ev_gfR, ev_pfI, ev_pfZ, ev_pfL, ev_pfR, ev_new, ev_newa, ev_newq, ev_copy, ev_slen, ev_schr, ev_obj, ev_mmin, ev_mabs, ev_mmax, ev_goto, ev_jsr, ev_icmp_eq, ev_if_eq, ev_icmp_ne, ev_if_ne, ev_icmp_lt, ev_if_lt, ev_icmp_ge, ev_if_ge, ev_icmp_gt, ev_if_gt, ev_icmp_le, ev_if_le, ev_ifnull0, ev_ifnull1, ev_ifnn0, ev_ifnn1, ev_tsw, ev_lsw, ev_iret, ev_zret, ev_lret, ev_aret, ev_ret, ev_call0, ev_call1, ev_call2, ev_call3, ev_call4, ev_call5, ev_call6, Option.toList_some, Option.toList_none, List.cons_append, List.nil_append, List.length_cons, List.length_nil, Nat.reduceMod, Nat.reduceDiv, Nat.reduceLeDiff, nc, ↓reduceIte, Nat.zero_le, reduceCtorEq, w32_id, Int.reduceEq, Int.reduceNe, Int.reduceLT, Int.reduceLE, Int.reduceGT, Int.reduceGE, Int.reduceAdd, Int.reduceSub, Int.reduceMul, Int.reduceNeg, ne_eq, not_true_eq_false, not_false_eq_true, eq_self, ↓if_pos, ↓if_neg, J_42_39, k_42_39, J_42_83, k_42_83, J_42_84, k_42_84, J_42_109, k_42_109, J_42_128, k_42_128, J_42_147, k_42_147, J_42_168, k_42_168, J_42_184, k_42_184, J_42_188, k_42_188, J_42_189, k_42_189, k_42_0, k_42_0, i9, e7]) (n - p).toNat [some (vR (some 2)), none] M ⟨p, rfl, by omega, rfl, fun _ _ => rfl, fun _ _ => rfl, h9, fun i a c => by omega⟩
  obtain ⟨Ma, fa, f2, a9, ea⟩ := key
  rw [J_42_0] at ea
  have a7 : Ma 2 7 = n := by rw [f2 7 (by omega)]; exact h7
  have a1 : Ma 2 1 = M 2 1 := f2 1 (by omega)
  have a2 : Ma 2 2 = 0 := by rw [f2 2 (by omega)]; exact h2
  have a3 : Ma 2 3 = -1 := by rw [f2 3 (by omega)]; exact h3
  have ab : ∀ k, 0 ≤ k → k < n → Ma 3 k = b k := fun k k0 k1 => by rw [fa 3 (by omega)]; exact hb k k0 k1
  unfold cAt tK tE tV tW
  unfold tE
  generalize tQ b n p = q at qr a9 ⊢
  generalize hMb : up (up Ma 2 8 q) 2 4 1 = Mb
  have mb : ∀ c, c ≠ 2 → Mb c = M c := fun c hc => by rw [← hMb, up_ne hc, up_ne hc]; exact fa c hc
  have m2 : ∀ i, i ≠ 8 → i ≠ 4 → Mb 2 i = Ma 2 i := fun i i8 i4 => by rw [← hMb, up_ne2 i4, up_ne2 i8]
  have m8 : Mb 2 8 = q := by rw [← hMb, up_ne2 (by omega), up_eq]
  have m4 : Mb 2 4 = 1 := by rw [← hMb, up_eq]
  have m7 : Mb 2 7 = n := by rw [m2 7 (by omega) (by omega)]; exact a7
  have m9 : Mb 2 9 = q := by rw [m2 9 (by omega) (by omega)]; exact a9
  have m1 : Mb 2 1 = M 2 1 := by rw [m2 1 (by omega) (by omega)]; exact a1
  have m22 : Mb 2 2 = 0 := by rw [m2 2 (by omega) (by omega)]; exact a2
  have m23 : Mb 2 3 = -1 := by rw [m2 3 (by omega) (by omega)]; exact a3
  have mB : ∀ k, 0 ≤ k → k < n → Mb 3 k = b k := fun k k0 k1 => by rw [mb 3 (by omega)]; exact hb k k0 k1
  have ctb : cTp Mb b n q := ⟨m7, m9, mB⟩
  rw [E_42 k2]
  by_cases z : n ≤ q
  · have kk : tKq b n q = 0 := if_pos z
    have ke : tEq b n q = q := if_pos z
    rw [kk, ke]
    refine ⟨1, up Mb 2 4 0, ⟨fun c hc => by rw [up_ne hc]; exact mb c hc, by rw [up_ne2 (by omega)]; exact m1⟩, Or.inr ⟨by omega, rfl, ⟨⟨by rw [up_ne2 (by omega)]; exact m7, by rw [up_ne2 (by omega)]; exact m9, fun k k0 k1 => by rw [up_ne (by omega)]; exact mB k k0 k1⟩, by rw [up_ne2 (by omega)]; exact m22, by rw [up_ne2 (by omega)]; exact m23⟩, by rw [up_ne2 (by omega)]; exact m8, up_eq, fun w => by omega, fun w => by omega⟩, ?_⟩
    rw [ea]
    simp (disch := first | assumption | decide | omega | (simp only [List.length_cons, List.length_nil] <;> omega)) only [lgt_0, lgt_s, lset_0, lset_s, lst1_0, lst1_s, lst2_0, lst2_s, ev_iconst, ev_lconst, ev_ldc, ev_null, ev_iload, ev_lload, ev_aload, ev_istore, ev_lstore, ev_astore, ev_iinc, ev_iadd, ev_isub, ev_imul, ev_iand, ev_ior, ev_ishl, ev_ishr, ev_idiv, ev_irem, ev_ineg, ev_ladd, ev_lsub, ev_lmul, ev_land, ev_lor, ev_ldiv, ev_lrem, ev_lshl, ev_i2l, ev_l2i, ev_i2b, ev_i2s, ev_lcmp, ev_dupI, ev_dupR, ev_dup2, ev_popI, ev_popR, ev_alen, ev_xlen, ev_xald, ev_iald, ev_lald, ev_bald, ev_zald, ev_aald, ev_iast, ev_last, ev_bast, ev_zast, ev_aast, ev_gfI, ev_gfL, ev_gfR, ev_pfI, ev_pfZ, ev_pfL, ev_pfR, ev_new, ev_newa, ev_newq, ev_copy, ev_slen, ev_schr, ev_obj, ev_mmin, ev_mabs, ev_mmax, ev_goto, ev_jsr, ev_icmp_eq, ev_if_eq, ev_icmp_ne, ev_if_ne, ev_icmp_lt, ev_if_lt, ev_icmp_ge, ev_if_ge, ev_icmp_gt, ev_if_gt, ev_icmp_le, ev_if_le, ev_ifnull0, ev_ifnull1, ev_ifnn0, ev_ifnn1, ev_tsw, ev_lsw, ev_iret, ev_zret, ev_lret, ev_aret, ev_ret, ev_call0, ev_call1, ev_call2, ev_call3, ev_call4, ev_call5, ev_call6, Option.toList_some, Option.toList_none, List.cons_append, List.nil_append, List.length_cons, List.length_nil, Nat.reduceMod, Nat.reduceDiv, Nat.reduceLeDiff, nc, ↓reduceIte, Nat.zero_le, reduceCtorEq, w32_id, Int.reduceEq, Int.reduceNe, Int.reduceLT, Int.reduceLE, Int.reduceGT, Int.reduceGE, Int.reduceAdd, Int.reduceSub, Int.reduceMul, Int.reduceNeg, ne_eq, not_true_eq_false, not_false_eq_true, eq_self, ↓if_pos, ↓if_neg, J_42_39, k_42_39, J_42_52, k_42_52, J_42_83, k_42_83, J_42_84, k_42_84, J_42_109, k_42_109, J_42_128, k_42_128, J_42_147, k_42_147, J_42_168, k_42_168, J_42_184, k_42_184, J_42_188, k_42_188, J_42_189, k_42_189, k_42_0, a9, a7, up_ne2, up_eq, z, hMb, m8, m7]
  have z' : q < n := by omega
  have e3 : Ma 3 q = b q := ab q (by omega) z'
  have gb := g.2 q (by omega) z'
  by_cases y : ltB (b q) = true
  · have y' := of_decide_eq_true y
    have kk : tKq b n q = 2 := by unfold tKq; rw [if_neg z, if_pos y]
    have ke : tEq b n q = tEnd ltB b n q := by unfold tEq; rw [if_neg z, if_pos y]
    rw [kk, ke]
    obtain ⟨Mc, c1, c2, c4, c9, c6, ec⟩ := c_readWord (X := X) g ctb m8 (by omega) (by omega)
    refine ⟨1, Mc, ⟨fun c hc => by rw [c1 c hc]; exact mb c hc, by rw [c2 1 (by omega) (by omega) (by omega)]; exact m1⟩, Or.inr ⟨by omega, rfl, ⟨⟨by rw [c2 7 (by omega) (by omega) (by omega)]; exact m7, c9, fun k k0 k1 => by rw [c1 3 (by omega)]; exact mB k k0 k1⟩, by rw [c2 2 (by omega) (by omega) (by omega)]; exact m22, by rw [c2 3 (by omega) (by omega) (by omega)]; exact m23⟩, by rw [c2 8 (by omega) (by omega) (by omega)]; exact m8, c4, fun w => by omega, fun w => c6⟩, ?_⟩
    rw [ea]
    simp (disch := first | assumption | decide | omega | (simp only [List.length_cons, List.length_nil] <;> omega)) only [lgt_0, lgt_s, lset_0, lset_s, lst1_0, lst1_s, lst2_0, lst2_s, ev_iconst, ev_lconst, ev_ldc, ev_null, ev_iload, ev_lload, ev_aload, ev_istore, ev_lstore, ev_astore, ev_iinc, ev_iadd, ev_isub, ev_imul, ev_iand, ev_ior, ev_ishl, ev_ishr, ev_idiv, ev_irem, ev_ineg, ev_ladd, ev_lsub, ev_lmul, ev_land, ev_lor, ev_ldiv, ev_lrem, ev_lshl, ev_i2l, ev_l2i, ev_i2b, ev_i2s, ev_lcmp, ev_dupI, ev_dupR, ev_dup2, ev_popI, ev_popR, ev_alen, ev_xlen, ev_xald, ev_iald, ev_lald, ev_bald, ev_zald, ev_aald, ev_iast, ev_last, ev_bast, ev_zast, ev_aast, ev_gfI, ev_gfL, ev_gfR, ev_pfI, ev_pfZ, ev_pfL, ev_pfR, ev_new, ev_newa, ev_newq, ev_copy, ev_slen, ev_schr, ev_obj, ev_mmin, ev_mabs, ev_mmax, ev_goto, ev_jsr, ev_icmp_eq, ev_if_eq, ev_icmp_ne, ev_if_ne, ev_icmp_lt, ev_if_lt, ev_icmp_ge, ev_if_ge, ev_icmp_gt, ev_if_gt, ev_icmp_le, ev_if_le, ev_ifnull0, ev_ifnull1, ev_ifnn0, ev_ifnn1, ev_tsw, ev_lsw, ev_iret, ev_zret, ev_lret, ev_aret, ev_ret, ev_call0, ev_call1, ev_call2, ev_call3, ev_call4, ev_call5, ev_call6, Option.toList_some, Option.toList_none, List.cons_append, List.nil_append, List.length_cons, List.length_nil, Nat.reduceMod, Nat.reduceDiv, Nat.reduceLeDiff, nc, ↓reduceIte, Nat.zero_le, reduceCtorEq, w32_id, Int.reduceEq, Int.reduceNe, Int.reduceLT, Int.reduceLE, Int.reduceGT, Int.reduceGE, Int.reduceAdd, Int.reduceSub, Int.reduceMul, Int.reduceNeg, ne_eq, not_true_eq_false, not_false_eq_true, eq_self, ↓if_pos, ↓if_neg, J_42_39, k_42_39, J_42_52, k_42_52, J_42_83, k_42_83, J_42_84, k_42_84, J_42_109, k_42_109, J_42_128, k_42_128, J_42_147, k_42_147, J_42_168, k_42_168, J_42_184, k_42_184, J_42_188, k_42_188, J_42_189, k_42_189, k_42_0, a9, a7, r20, e3, up_ne, up_ne2, up_eq, z, hMb, m8, m7, ec, c4]
  have y' := of_decide_eq_false (by simpa using y : ltB (b q) = false)
  by_cases x : dgB (b q) = true
  · have x' := of_decide_eq_true x
    have kk : tKq b n q = if 4 < tEnd dgB b n q - q then 1 else 3 := by unfold tKq; rw [if_neg z, if_neg y, if_pos x]
    have ke : tEq b n q = tEnd dgB b n q := by unfold tEq; rw [if_neg z, if_neg y, if_pos x]
    rw [kk, ke]
    obtain ⟨Mc, c1, c2, c4, c9, c5, ec⟩ := c_readNumber (X := X) g ctb m8 (by omega) (by omega)
    by_cases d : 4 < tEnd dgB b n q - q
    · rw [if_pos d] at c4 ⊢
      have w1 := c_wrong (X := X) (M := Mc) (w := 1)
      rw [c2 8 (by omega) (by omega) (by omega), m8] at w1
      refine ⟨0, up (up Mc 2 2 1) 2 3 q, ⟨fun c hc => by rw [up_ne hc, up_ne hc, c1 c hc]; exact mb c hc, by rw [up_ne2 (by omega), up_ne2 (by omega), c2 1 (by omega) (by omega) (by omega)]; exact m1⟩, Or.inl ⟨rfl, rfl, by rw [up_ne2 (by omega), up_eq], up_eq⟩, ?_⟩
      rw [ea]
      simp (disch := first | assumption | decide | omega | (simp only [List.length_cons, List.length_nil] <;> omega)) only [lgt_0, lgt_s, lset_0, lset_s, lst1_0, lst1_s, lst2_0, lst2_s, ev_iconst, ev_lconst, ev_ldc, ev_null, ev_iload, ev_lload, ev_aload, ev_istore, ev_lstore, ev_astore, ev_iinc, ev_iadd, ev_isub, ev_imul, ev_iand, ev_ior, ev_ishl, ev_ishr, ev_idiv, ev_irem, ev_ineg, ev_ladd, ev_lsub, ev_lmul, ev_land, ev_lor, ev_ldiv, ev_lrem, ev_lshl, ev_i2l, ev_l2i, ev_i2b, ev_i2s, ev_lcmp, ev_dupI, ev_dupR, ev_dup2, ev_popI, ev_popR, ev_alen, ev_xlen, ev_xald, ev_iald, ev_lald, ev_bald, ev_zald, ev_aald, ev_iast, ev_last, ev_bast, ev_zast, ev_aast, ev_gfI, ev_gfL, ev_gfR, ev_pfI, ev_pfZ, ev_pfL, ev_pfR, ev_new, ev_newa, ev_newq, ev_copy, ev_slen, ev_schr, ev_obj, ev_mmin, ev_mabs, ev_mmax, ev_goto, ev_jsr, ev_icmp_eq, ev_if_eq, ev_icmp_ne, ev_if_ne, ev_icmp_lt, ev_if_lt, ev_icmp_ge, ev_if_ge, ev_icmp_gt, ev_if_gt, ev_icmp_le, ev_if_le, ev_ifnull0, ev_ifnull1, ev_ifnn0, ev_ifnn1, ev_tsw, ev_lsw, ev_iret, ev_zret, ev_lret, ev_aret, ev_ret, ev_call0, ev_call1, ev_call2, ev_call3, ev_call4, ev_call5, ev_call6, Option.toList_some, Option.toList_none, List.cons_append, List.nil_append, List.length_cons, List.length_nil, Nat.reduceMod, Nat.reduceDiv, Nat.reduceLeDiff, nc, ↓reduceIte, Nat.zero_le, reduceCtorEq, w32_id, Int.reduceEq, Int.reduceNe, Int.reduceLT, Int.reduceLE, Int.reduceGT, Int.reduceGE, Int.reduceAdd, Int.reduceSub, Int.reduceMul, Int.reduceNeg, ne_eq, not_true_eq_false, not_false_eq_true, eq_self, ↓if_pos, ↓if_neg, J_42_39, k_42_39, J_42_52, k_42_52, J_42_83, k_42_83, J_42_84, k_42_84, J_42_109, k_42_109, J_42_128, k_42_128, J_42_147, k_42_147, J_42_168, k_42_168, J_42_184, k_42_184, J_42_188, k_42_188, J_42_189, k_42_189, k_42_0, a9, a7, r20, e3, up_ne, up_ne2, up_eq, z, hMb, m8, m7, ec, c4, w1]
    · rw [if_neg d] at c4 ⊢
      refine ⟨1, Mc, ⟨fun c hc => by rw [c1 c hc]; exact mb c hc, by rw [c2 1 (by omega) (by omega) (by omega)]; exact m1⟩, Or.inr ⟨by omega, rfl, ⟨⟨by rw [c2 7 (by omega) (by omega) (by omega)]; exact m7, c9, fun k k0 k1 => by rw [c1 3 (by omega)]; exact mB k k0 k1⟩, by rw [c2 2 (by omega) (by omega) (by omega)]; exact m22, by rw [c2 3 (by omega) (by omega) (by omega)]; exact m23⟩, by rw [c2 8 (by omega) (by omega) (by omega)]; exact m8, c4, fun w => c5 (by omega), fun w => by omega⟩, ?_⟩
      rw [ea]
      simp (disch := first | assumption | decide | omega | (simp only [List.length_cons, List.length_nil] <;> omega)) only [lgt_0, lgt_s, lset_0, lset_s, lst1_0, lst1_s, lst2_0, lst2_s, ev_iconst, ev_lconst, ev_ldc, ev_null, ev_iload, ev_lload, ev_aload, ev_istore, ev_lstore, ev_astore, ev_iinc, ev_iadd, ev_isub, ev_imul, ev_iand, ev_ior, ev_ishl, ev_ishr, ev_idiv, ev_irem, ev_ineg, ev_ladd, ev_lsub, ev_lmul, ev_land, ev_lor, ev_ldiv, ev_lrem, ev_lshl, ev_i2l, ev_l2i, ev_i2b, ev_i2s, ev_lcmp, ev_dupI, ev_dupR, ev_dup2, ev_popI, ev_popR, ev_alen, ev_xlen, ev_xald, ev_iald, ev_lald, ev_bald, ev_zald, ev_aald, ev_iast, ev_last, ev_bast, ev_zast, ev_aast, ev_gfI, ev_gfL, ev_gfR, ev_pfI, ev_pfZ, ev_pfL, ev_pfR, ev_new, ev_newa, ev_newq, ev_copy, ev_slen, ev_schr, ev_obj, ev_mmin, ev_mabs, ev_mmax, ev_goto, ev_jsr, ev_icmp_eq, ev_if_eq, ev_icmp_ne, ev_if_ne, ev_icmp_lt, ev_if_lt, ev_icmp_ge, ev_if_ge, ev_icmp_gt, ev_if_gt, ev_icmp_le, ev_if_le, ev_ifnull0, ev_ifnull1, ev_ifnn0, ev_ifnn1, ev_tsw, ev_lsw, ev_iret, ev_zret, ev_lret, ev_aret, ev_ret, ev_call0, ev_call1, ev_call2, ev_call3, ev_call4, ev_call5, ev_call6, Option.toList_some, Option.toList_none, List.cons_append, List.nil_append, List.length_cons, List.length_nil, Nat.reduceMod, Nat.reduceDiv, Nat.reduceLeDiff, nc, ↓reduceIte, Nat.zero_le, reduceCtorEq, w32_id, Int.reduceEq, Int.reduceNe, Int.reduceLT, Int.reduceLE, Int.reduceGT, Int.reduceGE, Int.reduceAdd, Int.reduceSub, Int.reduceMul, Int.reduceNeg, ne_eq, not_true_eq_false, not_false_eq_true, eq_self, ↓if_pos, ↓if_neg, J_42_39, k_42_39, J_42_52, k_42_52, J_42_83, k_42_83, J_42_84, k_42_84, J_42_109, k_42_109, J_42_128, k_42_128, J_42_147, k_42_147, J_42_168, k_42_168, J_42_184, k_42_184, J_42_188, k_42_188, J_42_189, k_42_189, k_42_0, a9, a7, r20, e3, up_ne, up_ne2, up_eq, z, hMb, m8, m7, ec, c4]
  have x' := of_decide_eq_false (by simpa using x : dgB (b q) = false)
  have ke : tEq b n q = q + 1 := by unfold tEq; rw [if_neg z, if_neg y, if_neg x]
  by_cases s : b q = 59
  · have kk : tKq b n q = 4 := by unfold tKq; rw [if_neg z, if_neg y, if_neg x, if_pos s]
    rw [kk, ke]
    refine ⟨1, up (up Mb 2 4 2) 2 9 (q + 1), ⟨fun c hc => by rw [up_ne hc, up_ne hc]; exact mb c hc, by rw [up_ne2 (by omega), up_ne2 (by omega)]; exact m1⟩, Or.inr ⟨by omega, rfl, ⟨⟨by rw [up_ne2 (by omega), up_ne2 (by omega)]; exact m7, up_eq, fun k k0 k1 => by rw [up_ne (by omega), up_ne (by omega)]; exact mB k k0 k1⟩, by rw [up_ne2 (by omega), up_ne2 (by omega)]; exact m22, by rw [up_ne2 (by omega), up_ne2 (by omega)]; exact m23⟩, by rw [up_ne2 (by omega), up_ne2 (by omega)]; exact m8, by rw [up_ne2 (by omega), up_eq]; rfl, fun w => by omega, fun w => by omega⟩, ?_⟩
    rw [ea]
    simp (disch := first | assumption | decide | omega | (simp only [List.length_cons, List.length_nil] <;> omega)) only [lgt_0, lgt_s, lset_0, lset_s, lst1_0, lst1_s, lst2_0, lst2_s, ev_iconst, ev_lconst, ev_ldc, ev_null, ev_iload, ev_lload, ev_aload, ev_istore, ev_lstore, ev_astore, ev_iinc, ev_iadd, ev_isub, ev_imul, ev_iand, ev_ior, ev_ishl, ev_ishr, ev_idiv, ev_irem, ev_ineg, ev_ladd, ev_lsub, ev_lmul, ev_land, ev_lor, ev_ldiv, ev_lrem, ev_lshl, ev_i2l, ev_l2i, ev_i2b, ev_i2s, ev_lcmp, ev_dupI, ev_dupR, ev_dup2, ev_popI, ev_popR, ev_alen, ev_xlen, ev_xald, ev_iald, ev_lald, ev_bald, ev_zald, ev_aald, ev_iast, ev_last, ev_bast, ev_zast, ev_aast, ev_gfI, ev_gfL, ev_gfR, ev_pfI, ev_pfZ, ev_pfL, ev_pfR, ev_new, ev_newa, ev_newq, ev_copy, ev_slen, ev_schr, ev_obj, ev_mmin, ev_mabs, ev_mmax, ev_goto, ev_jsr, ev_icmp_eq, ev_if_eq, ev_icmp_ne, ev_if_ne, ev_icmp_lt, ev_if_lt, ev_icmp_ge, ev_if_ge, ev_icmp_gt, ev_if_gt, ev_icmp_le, ev_if_le, ev_ifnull0, ev_ifnull1, ev_ifnn0, ev_ifnn1, ev_tsw, ev_lsw, ev_iret, ev_zret, ev_lret, ev_aret, ev_ret, ev_call0, ev_call1, ev_call2, ev_call3, ev_call4, ev_call5, ev_call6, Option.toList_some, Option.toList_none, List.cons_append, List.nil_append, List.length_cons, List.length_nil, Nat.reduceMod, Nat.reduceDiv, Nat.reduceLeDiff, nc, ↓reduceIte, Nat.zero_le, reduceCtorEq, w32_id, Int.reduceEq, Int.reduceNe, Int.reduceLT, Int.reduceLE, Int.reduceGT, Int.reduceGE, Int.reduceAdd, Int.reduceSub, Int.reduceMul, Int.reduceNeg, ne_eq, not_true_eq_false, not_false_eq_true, eq_self, ↓if_pos, ↓if_neg, J_42_39, k_42_39, J_42_52, k_42_52, J_42_83, k_42_83, J_42_84, k_42_84, J_42_109, k_42_109, J_42_128, k_42_128, J_42_147, k_42_147, J_42_168, k_42_168, J_42_184, k_42_184, J_42_188, k_42_188, J_42_189, k_42_189, k_42_0, a9, a7, r20, e3, up_ne, up_ne2, up_eq, z, hMb, m8, m7, m9, s]
  · have kk : tKq b n q = 1 := by unfold tKq; rw [if_neg z, if_neg y, if_neg x, if_neg s]
    rw [kk]
    have w1 := c_wrong (X := X) (M := Mb) (w := 1)
    rw [m8] at w1
    refine ⟨0, up (up Mb 2 2 1) 2 3 q, ⟨fun c hc => by rw [up_ne hc, up_ne hc]; exact mb c hc, by rw [up_ne2 (by omega), up_ne2 (by omega)]; exact m1⟩, Or.inl ⟨rfl, rfl, by rw [up_ne2 (by omega), up_eq], up_eq⟩, ?_⟩
    rw [ea]
    by_cases u : b q < 97
    · by_cases v : b q < 48
      · simp (disch := first | assumption | decide | omega | (simp only [List.length_cons, List.length_nil] <;> omega)) only [lgt_0, lgt_s, lset_0, lset_s, lst1_0, lst1_s, lst2_0, lst2_s, ev_iconst, ev_lconst, ev_ldc, ev_null, ev_iload, ev_lload, ev_aload, ev_istore, ev_lstore, ev_astore, ev_iinc, ev_iadd, ev_isub, ev_imul, ev_iand, ev_ior, ev_ishl, ev_ishr, ev_idiv, ev_irem, ev_ineg, ev_ladd, ev_lsub, ev_lmul, ev_land, ev_lor, ev_ldiv, ev_lrem, ev_lshl, ev_i2l, ev_l2i, ev_i2b, ev_i2s, ev_lcmp, ev_dupI, ev_dupR, ev_dup2, ev_popI, ev_popR, ev_alen, ev_xlen, ev_xald, ev_iald, ev_lald, ev_bald, ev_zald, ev_aald, ev_iast, ev_last, ev_bast, ev_zast, ev_aast, ev_gfI, ev_gfL, ev_gfR, ev_pfI, ev_pfZ, ev_pfL, ev_pfR, ev_new, ev_newa, ev_newq, ev_copy, ev_slen, ev_schr, ev_obj, ev_mmin, ev_mabs, ev_mmax, ev_goto, ev_jsr, ev_icmp_eq, ev_if_eq, ev_icmp_ne, ev_if_ne, ev_icmp_lt, ev_if_lt, ev_icmp_ge, ev_if_ge, ev_icmp_gt, ev_if_gt, ev_icmp_le, ev_if_le, ev_ifnull0, ev_ifnull1, ev_ifnn0, ev_ifnn1, ev_tsw, ev_lsw, ev_iret, ev_zret, ev_lret, ev_aret, ev_ret, ev_call0, ev_call1, ev_call2, ev_call3, ev_call4, ev_call5, ev_call6, Option.toList_some, Option.toList_none, List.cons_append, List.nil_append, List.length_cons, List.length_nil, Nat.reduceMod, Nat.reduceDiv, Nat.reduceLeDiff, nc, ↓reduceIte, Nat.zero_le, reduceCtorEq, w32_id, Int.reduceEq, Int.reduceNe, Int.reduceLT, Int.reduceLE, Int.reduceGT, Int.reduceGE, Int.reduceAdd, Int.reduceSub, Int.reduceMul, Int.reduceNeg, ne_eq, not_true_eq_false, not_false_eq_true, eq_self, ↓if_pos, ↓if_neg, J_42_39, k_42_39, J_42_52, k_42_52, J_42_83, k_42_83, J_42_84, k_42_84, J_42_109, k_42_109, J_42_128, k_42_128, J_42_147, k_42_147, J_42_168, k_42_168, J_42_184, k_42_184, J_42_188, k_42_188, J_42_189, k_42_189, k_42_0, a9, a7, r20, e3, up_ne, up_ne2, up_eq, z, hMb, m8, m7, m4, s, w1]
      · simp (disch := first | assumption | decide | omega | (simp only [List.length_cons, List.length_nil] <;> omega)) only [lgt_0, lgt_s, lset_0, lset_s, lst1_0, lst1_s, lst2_0, lst2_s, ev_iconst, ev_lconst, ev_ldc, ev_null, ev_iload, ev_lload, ev_aload, ev_istore, ev_lstore, ev_astore, ev_iinc, ev_iadd, ev_isub, ev_imul, ev_iand, ev_ior, ev_ishl, ev_ishr, ev_idiv, ev_irem, ev_ineg, ev_ladd, ev_lsub, ev_lmul, ev_land, ev_lor, ev_ldiv, ev_lrem, ev_lshl, ev_i2l, ev_l2i, ev_i2b, ev_i2s, ev_lcmp, ev_dupI, ev_dupR, ev_dup2, ev_popI, ev_popR, ev_alen, ev_xlen, ev_xald, ev_iald, ev_lald, ev_bald, ev_zald, ev_aald, ev_iast, ev_last, ev_bast, ev_zast, ev_aast, ev_gfI, ev_gfL, ev_gfR, ev_pfI, ev_pfZ, ev_pfL, ev_pfR, ev_new, ev_newa, ev_newq, ev_copy, ev_slen, ev_schr, ev_obj, ev_mmin, ev_mabs, ev_mmax, ev_goto, ev_jsr, ev_icmp_eq, ev_if_eq, ev_icmp_ne, ev_if_ne, ev_icmp_lt, ev_if_lt, ev_icmp_ge, ev_if_ge, ev_icmp_gt, ev_if_gt, ev_icmp_le, ev_if_le, ev_ifnull0, ev_ifnull1, ev_ifnn0, ev_ifnn1, ev_tsw, ev_lsw, ev_iret, ev_zret, ev_lret, ev_aret, ev_ret, ev_call0, ev_call1, ev_call2, ev_call3, ev_call4, ev_call5, ev_call6, Option.toList_some, Option.toList_none, List.cons_append, List.nil_append, List.length_cons, List.length_nil, Nat.reduceMod, Nat.reduceDiv, Nat.reduceLeDiff, nc, ↓reduceIte, Nat.zero_le, reduceCtorEq, w32_id, Int.reduceEq, Int.reduceNe, Int.reduceLT, Int.reduceLE, Int.reduceGT, Int.reduceGE, Int.reduceAdd, Int.reduceSub, Int.reduceMul, Int.reduceNeg, ne_eq, not_true_eq_false, not_false_eq_true, eq_self, ↓if_pos, ↓if_neg, J_42_39, k_42_39, J_42_52, k_42_52, J_42_83, k_42_83, J_42_84, k_42_84, J_42_109, k_42_109, J_42_128, k_42_128, J_42_147, k_42_147, J_42_168, k_42_168, J_42_184, k_42_184, J_42_188, k_42_188, J_42_189, k_42_189, k_42_0, a9, a7, r20, e3, up_ne, up_ne2, up_eq, z, hMb, m8, m7, m4, s, w1]
    · simp (disch := first | assumption | decide | omega | (simp only [List.length_cons, List.length_nil] <;> omega)) only [lgt_0, lgt_s, lset_0, lset_s, lst1_0, lst1_s, lst2_0, lst2_s, ev_iconst, ev_lconst, ev_ldc, ev_null, ev_iload, ev_lload, ev_aload, ev_istore, ev_lstore, ev_astore, ev_iinc, ev_iadd, ev_isub, ev_imul, ev_iand, ev_ior, ev_ishl, ev_ishr, ev_idiv, ev_irem, ev_ineg, ev_ladd, ev_lsub, ev_lmul, ev_land, ev_lor, ev_ldiv, ev_lrem, ev_lshl, ev_i2l, ev_l2i, ev_i2b, ev_i2s, ev_lcmp, ev_dupI, ev_dupR, ev_dup2, ev_popI, ev_popR, ev_alen, ev_xlen, ev_xald, ev_iald, ev_lald, ev_bald, ev_zald, ev_aald, ev_iast, ev_last, ev_bast, ev_zast, ev_aast, ev_gfI, ev_gfL, ev_gfR, ev_pfI, ev_pfZ, ev_pfL, ev_pfR, ev_new, ev_newa, ev_newq, ev_copy, ev_slen, ev_schr, ev_obj, ev_mmin, ev_mabs, ev_mmax, ev_goto, ev_jsr, ev_icmp_eq, ev_if_eq, ev_icmp_ne, ev_if_ne, ev_icmp_lt, ev_if_lt, ev_icmp_ge, ev_if_ge, ev_icmp_gt, ev_if_gt, ev_icmp_le, ev_if_le, ev_ifnull0, ev_ifnull1, ev_ifnn0, ev_ifnn1, ev_tsw, ev_lsw, ev_iret, ev_zret, ev_lret, ev_aret, ev_ret, ev_call0, ev_call1, ev_call2, ev_call3, ev_call4, ev_call5, ev_call6, Option.toList_some, Option.toList_none, List.cons_append, List.nil_append, List.length_cons, List.length_nil, Nat.reduceMod, Nat.reduceDiv, Nat.reduceLeDiff, nc, ↓reduceIte, Nat.zero_le, reduceCtorEq, w32_id, Int.reduceEq, Int.reduceNe, Int.reduceLT, Int.reduceLE, Int.reduceGT, Int.reduceGE, Int.reduceAdd, Int.reduceSub, Int.reduceMul, Int.reduceNeg, ne_eq, not_true_eq_false, not_false_eq_true, eq_self, ↓if_pos, ↓if_neg, J_42_39, k_42_39, J_42_52, k_42_52, J_42_83, k_42_83, J_42_84, k_42_84, J_42_109, k_42_109, J_42_128, k_42_128, J_42_147, k_42_147, J_42_168, k_42_168, J_42_184, k_42_184, J_42_188, k_42_188, J_42_189, k_42_189, k_42_0, a9, a7, r20, e3, up_ne, up_ne2, up_eq, z, hMb, m8, m7, m4, s, w1]
/-- the words, by the string constants -/
theorem s_isWord {k : Nat} (hk : k < 19) : evc X 46 [vR (some 2), vS k] SH0 M = some (some (vI (if M 2 4 = 4 ∧ M 2 6 = c32 (kl k) then 1 else 0)), SH0, M) := by
  have k2 := w0_k2
  obtain ⟨⟨l6, _, _, le⟩, kb⟩ := kc_b k hk
  have l0 : 0 ≤ slen k := by unfold slen; omega
  have en : (((slen k).toNat : Nat) : Int) = slen k := by omega
  have hk21 : k < 21 := by omega
  obtain ⟨ls', M', ⟨hls, hM⟩, he⟩ := ev_for (X := X) (y := 46) (Sh := SH0) (fun i ls M' => ls = [some (vR (some 2)), some (vS k), some (vL (kcF k i)), none, some (vI (i : Int))] ∧ M' = M) J_46_5 (slen k).toNat (fun i hi ls M' hI => by
    obtain ⟨hls, hM⟩ := hI
    subst hls hM
    refine ⟨_, M', ⟨rfl, rfl⟩, ?_⟩
    have b1 := kb i (by omega)
    have hlt : (i : Int) < slen k := by omega
    have es : kcF k (i + 1) = kcF k i * 32 + schr k i - 96 := rfl
    rw [es]
    have q0 : ¬ slen k ≤ (i : Int) := by omega
    have e1 := w64_id (z := kcF k i * 32) (by omega) (by omega)
    have e2 := w64_id (z := kcF k i * 32 + schr k i) (by omega) (by omega)
    have e3 := w64_id (z := kcF k i * 32 + schr k i - 97) (by omega) (by omega)
    have e4 := w64_id (z := kcF k i * 32 + schr k i - 97 + 1) (by omega) (by omega)
    have e5 : kcF k i * 32 + schr k i - 97 + 1 = kcF k i * 32 + schr k i - 96 := by omega
    rw [e5] at e4
    simp (disch := first | assumption | decide | omega | (simp only [List.length_cons, List.length_nil] <;> omega)) only [lgt_0, lgt_s, lset_0, lset_s, lst1_0, lst1_s, lst2_0, lst2_s, ev_iconst, ev_lconst, ev_ldc, ev_null, ev_iload, ev_lload, ev_aload, ev_istore, ev_lstore, ev_astore, ev_iinc, ev_iadd, ev_isub, ev_imul, ev_iand, ev_ior, ev_ishl, ev_ishr, ev_idiv, ev_irem, ev_ineg, ev_ladd, ev_lsub, ev_lmul, ev_land, ev_lor, ev_ldiv, ev_lrem, ev_lshl, ev_i2l, ev_l2i, ev_i2b, ev_i2s, ev_lcmp, ev_dupI, ev_dupR, ev_dup2, ev_popI, ev_popR, ev_alen, ev_xlen, ev_xald, ev_iald, ev_lald, ev_bald, ev_zald, ev_aald, ev_iast, ev_last, ev_bast, ev_zast, ev_aast, ev_gfI, ev_gfL, ev_gfR, ev_pfI, ev_pfZ, ev_pfL, ev_pfR, ev_new, ev_newa, ev_newq, ev_copy, ev_slen, ev_schr, ev_obj, ev_mmin, ev_mabs, ev_mmax, ev_goto, ev_jsr, ev_icmp_eq, ev_if_eq, ev_icmp_ne, ev_if_ne, ev_icmp_lt, ev_if_lt, ev_icmp_ge, ev_if_ge, ev_icmp_gt, ev_if_gt, ev_icmp_le, ev_if_le, ev_ifnull0, ev_ifnull1, ev_ifnn0, ev_ifnn1, ev_tsw, ev_lsw, ev_iret, ev_zret, ev_lret, ev_aret, ev_ret, ev_call0, ev_call1, ev_call2, ev_call3, ev_call4, ev_call5, ev_call6, Option.toList_some, Option.toList_none, List.cons_append, List.nil_append, List.length_cons, List.length_nil, Nat.reduceMod, Nat.reduceDiv, Nat.reduceLeDiff, nc, ↓reduceIte, Nat.zero_le, reduceCtorEq, w32_id, Int.reduceEq, Int.reduceNe, Int.reduceLT, Int.reduceLE, Int.reduceGT, Int.reduceGE, Int.reduceAdd, Int.reduceSub, Int.reduceMul, Int.reduceNeg, ne_eq, not_true_eq_false, not_false_eq_true, eq_self, ↓if_pos, ↓if_neg, J_46_0, k_46_0, J_46_40, k_46_40, J_46_61, k_46_61, J_46_62, k_46_62, k_46_5, q0, e1, e2, e3, e5, e4, nc_s]) [some (vR (some 2)), some (vS k), some (vL 0), none, some (vI 0)] M ⟨rfl, rfl⟩
  subst hls hM
  rw [en, le] at he
  have q1 : slen k ≤ slen k := Int.le_refl _
  rw [E_46 k2 hk21]
  simp (disch := first | assumption | decide | omega | (simp only [List.length_cons, List.length_nil] <;> omega)) only [lgt_0, lgt_s, lset_0, lset_s, lst1_0, lst1_s, lst2_0, lst2_s, ev_iconst, ev_lconst, ev_ldc, ev_null, ev_iload, ev_lload, ev_aload, ev_istore, ev_lstore, ev_astore, ev_iinc, ev_iadd, ev_isub, ev_imul, ev_iand, ev_ior, ev_ishl, ev_ishr, ev_idiv, ev_irem, ev_ineg, ev_ladd, ev_lsub, ev_lmul, ev_land, ev_lor, ev_ldiv, ev_lrem, ev_lshl, ev_i2l, ev_l2i, ev_i2b, ev_i2s, ev_lcmp, ev_dupI, ev_dupR, ev_dup2, ev_popI, ev_popR, ev_alen, ev_xlen, ev_xald, ev_iald, ev_lald, ev_bald, ev_zald, ev_aald, ev_iast, ev_last, ev_bast, ev_zast, ev_aast, ev_gfI, ev_gfL, ev_gfR, ev_pfI, ev_pfZ, ev_pfL, ev_pfR, ev_new, ev_newa, ev_newq, ev_copy, ev_slen, ev_schr, ev_obj, ev_mmin, ev_mabs, ev_mmax, ev_goto, ev_jsr, ev_icmp_eq, ev_if_eq, ev_icmp_ne, ev_if_ne, ev_icmp_lt, ev_if_lt, ev_icmp_ge, ev_if_ge, ev_icmp_gt, ev_if_gt, ev_icmp_le, ev_if_le, ev_ifnull0, ev_ifnull1, ev_ifnn0, ev_ifnn1, ev_tsw, ev_lsw, ev_iret, ev_zret, ev_lret, ev_aret, ev_ret, ev_call0, ev_call1, ev_call2, ev_call3, ev_call4, ev_call5, ev_call6, Option.toList_some, Option.toList_none, List.cons_append, List.nil_append, List.length_cons, List.length_nil, Nat.reduceMod, Nat.reduceDiv, Nat.reduceLeDiff, nc, ↓reduceIte, Nat.zero_le, reduceCtorEq, w32_id, Int.reduceEq, Int.reduceNe, Int.reduceLT, Int.reduceLE, Int.reduceGT, Int.reduceGE, Int.reduceAdd, Int.reduceSub, Int.reduceMul, Int.reduceNeg, ne_eq, not_true_eq_false, not_false_eq_true, eq_self, ↓if_pos, ↓if_neg, J_46_0, k_46_0, J_46_40, k_46_40, J_46_61, k_46_61, J_46_62, k_46_62, ]
  rw [he]
  by_cases q4 : M' 2 4 = 4
  · by_cases q6 : M' 2 6 = c32 (kl k)
    · rw [if_pos ⟨q4, q6⟩]
      simp (disch := first | assumption | decide | omega | (simp only [List.length_cons, List.length_nil] <;> omega)) only [lgt_0, lgt_s, lset_0, lset_s, lst1_0, lst1_s, lst2_0, lst2_s, ev_iconst, ev_lconst, ev_ldc, ev_null, ev_iload, ev_lload, ev_aload, ev_istore, ev_lstore, ev_astore, ev_iinc, ev_iadd, ev_isub, ev_imul, ev_iand, ev_ior, ev_ishl, ev_ishr, ev_idiv, ev_irem, ev_ineg, ev_ladd, ev_lsub, ev_lmul, ev_land, ev_lor, ev_ldiv, ev_lrem, ev_lshl, ev_i2l, ev_l2i, ev_i2b, ev_i2s, ev_lcmp, ev_dupI, ev_dupR, ev_dup2, ev_popI, ev_popR, ev_alen, ev_xlen, ev_xald, ev_iald, ev_lald, ev_bald, ev_zald, ev_aald, ev_iast, ev_last, ev_bast, ev_zast, ev_aast, ev_gfI, ev_gfL, ev_gfR, ev_pfI, ev_pfZ, ev_pfL, ev_pfR, ev_new, ev_newa, ev_newq, ev_copy, ev_slen, ev_schr, ev_obj, ev_mmin, ev_mabs, ev_mmax, ev_goto, ev_jsr, ev_icmp_eq, ev_if_eq, ev_icmp_ne, ev_if_ne, ev_icmp_lt, ev_if_lt, ev_icmp_ge, ev_if_ge, ev_icmp_gt, ev_if_gt, ev_icmp_le, ev_if_le, ev_ifnull0, ev_ifnull1, ev_ifnn0, ev_ifnn1, ev_tsw, ev_lsw, ev_iret, ev_zret, ev_lret, ev_aret, ev_ret, ev_call0, ev_call1, ev_call2, ev_call3, ev_call4, ev_call5, ev_call6, Option.toList_some, Option.toList_none, List.cons_append, List.nil_append, List.length_cons, List.length_nil, Nat.reduceMod, Nat.reduceDiv, Nat.reduceLeDiff, nc, ↓reduceIte, Nat.zero_le, reduceCtorEq, w32_id, Int.reduceEq, Int.reduceNe, Int.reduceLT, Int.reduceLE, Int.reduceGT, Int.reduceGE, Int.reduceAdd, Int.reduceSub, Int.reduceMul, Int.reduceNeg, ne_eq, not_true_eq_false, not_false_eq_true, eq_self, ↓if_pos, ↓if_neg, J_46_0, k_46_0, J_46_40, k_46_40, J_46_61, k_46_61, J_46_62, k_46_62, k_46_5, q1, q4, q6, Int.lt_irrefl]
    · rw [if_neg (fun z => q6 z.2)]
      have q7 : ¬ (if M' 2 6 < c32 (kl k) then (-1 : Int) else if M' 2 6 = c32 (kl k) then 0 else 1) = 0 := by
        rw [if_neg (c := M' 2 6 = c32 (kl k)) q6]
        split <;> omega
      simp (disch := first | assumption | decide | omega | (simp only [List.length_cons, List.length_nil] <;> omega)) only [lgt_0, lgt_s, lset_0, lset_s, lst1_0, lst1_s, lst2_0, lst2_s, ev_iconst, ev_lconst, ev_ldc, ev_null, ev_iload, ev_lload, ev_aload, ev_istore, ev_lstore, ev_astore, ev_iinc, ev_iadd, ev_isub, ev_imul, ev_iand, ev_ior, ev_ishl, ev_ishr, ev_idiv, ev_irem, ev_ineg, ev_ladd, ev_lsub, ev_lmul, ev_land, ev_lor, ev_ldiv, ev_lrem, ev_lshl, ev_i2l, ev_l2i, ev_i2b, ev_i2s, ev_lcmp, ev_dupI, ev_dupR, ev_dup2, ev_popI, ev_popR, ev_alen, ev_xlen, ev_xald, ev_iald, ev_lald, ev_bald, ev_zald, ev_aald, ev_iast, ev_last, ev_bast, ev_zast, ev_aast, ev_gfI, ev_gfL, ev_gfR, ev_pfI, ev_pfZ, ev_pfL, ev_pfR, ev_new, ev_newa, ev_newq, ev_copy, ev_slen, ev_schr, ev_obj, ev_mmin, ev_mabs, ev_mmax, ev_goto, ev_jsr, ev_icmp_eq, ev_if_eq, ev_icmp_ne, ev_if_ne, ev_icmp_lt, ev_if_lt, ev_icmp_ge, ev_if_ge, ev_icmp_gt, ev_if_gt, ev_icmp_le, ev_if_le, ev_ifnull0, ev_ifnull1, ev_ifnn0, ev_ifnn1, ev_tsw, ev_lsw, ev_iret, ev_zret, ev_lret, ev_aret, ev_ret, ev_call0, ev_call1, ev_call2, ev_call3, ev_call4, ev_call5, ev_call6, Option.toList_some, Option.toList_none, List.cons_append, List.nil_append, List.length_cons, List.length_nil, Nat.reduceMod, Nat.reduceDiv, Nat.reduceLeDiff, nc, ↓reduceIte, Nat.zero_le, reduceCtorEq, w32_id, Int.reduceEq, Int.reduceNe, Int.reduceLT, Int.reduceLE, Int.reduceGT, Int.reduceGE, Int.reduceAdd, Int.reduceSub, Int.reduceMul, Int.reduceNeg, ne_eq, not_true_eq_false, not_false_eq_true, eq_self, ↓if_pos, ↓if_neg, J_46_0, k_46_0, J_46_40, k_46_40, J_46_61, k_46_61, J_46_62, k_46_62, k_46_5, q1, q4, q7]
  · rw [if_neg (fun z => q4 z.1)]
    simp (disch := first | assumption | decide | omega | (simp only [List.length_cons, List.length_nil] <;> omega)) only [lgt_0, lgt_s, lset_0, lset_s, lst1_0, lst1_s, lst2_0, lst2_s, ev_iconst, ev_lconst, ev_ldc, ev_null, ev_iload, ev_lload, ev_aload, ev_istore, ev_lstore, ev_astore, ev_iinc, ev_iadd, ev_isub, ev_imul, ev_iand, ev_ior, ev_ishl, ev_ishr, ev_idiv, ev_irem, ev_ineg, ev_ladd, ev_lsub, ev_lmul, ev_land, ev_lor, ev_ldiv, ev_lrem, ev_lshl, ev_i2l, ev_l2i, ev_i2b, ev_i2s, ev_lcmp, ev_dupI, ev_dupR, ev_dup2, ev_popI, ev_popR, ev_alen, ev_xlen, ev_xald, ev_iald, ev_lald, ev_bald, ev_zald, ev_aald, ev_iast, ev_last, ev_bast, ev_zast, ev_aast, ev_gfI, ev_gfL, ev_gfR, ev_pfI, ev_pfZ, ev_pfL, ev_pfR, ev_new, ev_newa, ev_newq, ev_copy, ev_slen, ev_schr, ev_obj, ev_mmin, ev_mabs, ev_mmax, ev_goto, ev_jsr, ev_icmp_eq, ev_if_eq, ev_icmp_ne, ev_if_ne, ev_icmp_lt, ev_if_lt, ev_icmp_ge, ev_if_ge, ev_icmp_gt, ev_if_gt, ev_icmp_le, ev_if_le, ev_ifnull0, ev_ifnull1, ev_ifnn0, ev_ifnn1, ev_tsw, ev_lsw, ev_iret, ev_zret, ev_lret, ev_aret, ev_ret, ev_call0, ev_call1, ev_call2, ev_call3, ev_call4, ev_call5, ev_call6, Option.toList_some, Option.toList_none, List.cons_append, List.nil_append, List.length_cons, List.length_nil, Nat.reduceMod, Nat.reduceDiv, Nat.reduceLeDiff, nc, ↓reduceIte, Nat.zero_le, reduceCtorEq, w32_id, Int.reduceEq, Int.reduceNe, Int.reduceLT, Int.reduceLE, Int.reduceGT, Int.reduceGE, Int.reduceAdd, Int.reduceSub, Int.reduceMul, Int.reduceNeg, ne_eq, not_true_eq_false, not_false_eq_true, eq_self, ↓if_pos, ↓if_neg, J_46_0, k_46_0, J_46_40, k_46_40, J_46_61, k_46_61, J_46_62, k_46_62, k_46_5, q1, q4]
theorem w_is {k : Nat} (hk : k < 19) (h : cAt M b n p) : (M 2 4 = 4 ∧ M 2 6 = c32 (kl k)) ↔ (tK b n p = 2 ∧ tW b n p = kl k) := by
  have r := tK_rng (b := b) (n := n) (p := p)
  have i := ck_id r.1 r.2
  obtain ⟨_, _, h4, _, h6⟩ := h
  obtain ⟨⟨_, l6, ne, _⟩, _⟩ := kc_b k hk
  rw [h4, i.1]
  constructor
  · rintro ⟨z, y⟩
    refine ⟨z, ?_⟩
    rw [h6 z] at y
    have lt := tW_lts z
    unfold wc at y
    by_cases d : 8 < (tW b n p).length
    · rw [if_pos d] at y
      have := (c32_nn (kl k).length (Nat.le_refl _) (kl_lts k hk)).2 ne
      omega
    · rw [if_neg d] at y
      exact c32_inj (tW b n p).length (Nat.le_refl _) lt (kl_lts k hk) y
  · rintro ⟨z, y⟩
    refine ⟨z, ?_⟩
    rw [h6 z, y]
    unfold wc
    rw [if_neg (by omega)]
theorem c_isWord {k : Nat} (hk : k < 19) (h : cAt M b n p) : evc X 46 [vR (some 2), vS k] SH0 M = some (some (vI (if tK b n p = 2 ∧ tW b n p = kl k then 1 else 0)), SH0, M) := by
  rw [s_isWord hk]
  have i := w_is hk h
  by_cases z : tK b n p = 2 ∧ tW b n p = kl k
  · rw [if_pos z, if_pos (i.mpr z)]
  · rw [if_neg z, if_neg (fun y => z (i.mp y))]
theorem fT_w {M' : Mem} {w q : Int} (h : fT M M') : fT M (up (up M' 2 2 w) 2 3 q) := ⟨fun c hc => by rw [up_ne hc, up_ne hc]; exact h.1 c hc, by rw [up_ne2 (by omega), up_ne2 (by omega)]; exact h.2⟩
theorem cO_e {e : Int × Int} {r : PE Int} (hr : r = .error e) (h2 : M 2 2 = e.1) (h3 : M 2 3 = e.2) : cO b n r 0 M := ⟨fun e' h => by
  rw [hr] at h
  injection h with h
  subst h
  exact ⟨rfl, h2, h3⟩, fun q h => by
  rw [hr] at h
  injection h⟩
theorem cO_o {q : Int} {r : PE Int} (hr : r = .ok q) (h : cTc M b n q) : cO b n r 1 M := ⟨fun e h' => by
  rw [hr] at h'
  injection h', fun q' h' => by
  rw [hr] at h'
  injection h' with h'
  subst h'
  exact ⟨rfl, h⟩⟩
theorem c_goWord (g : gT b n) (h : cTc M b n p) (p0 : 0 ≤ p) (p1 : p ≤ n) {k : Nat} (hk : k < 19) : ∃ v M', fT M M' ∧ cO b n (pWord b n (kl k) p) v M' ∧ evc X 41 [vR (some 2), vS k] SH0 M = some (some (vI v), SH0, M') := by
  have k2 := w0_k2
  have hk21 : k < 21 := by omega
  obtain ⟨v, Ma, fa, hv, e⟩ := c_go (X := X) g h p0 p1
  rw [E_41 k2 hk21]
  rcases hv with ⟨z, hv, y2, y3⟩ | ⟨z, hv, ca⟩
  · subst hv
    refine ⟨0, Ma, fa, cO_e (e := (1, tQ b n p)) (if_pos z) y2 y3, ?_⟩
    simp (disch := first | assumption | decide | omega | (simp only [List.length_cons, List.length_nil] <;> omega)) only [lgt_0, lgt_s, lset_0, lset_s, lst1_0, lst1_s, lst2_0, lst2_s, ev_iconst, ev_lconst, ev_ldc, ev_null, ev_iload, ev_lload, ev_aload, ev_istore, ev_lstore, ev_astore, ev_iinc, ev_iadd, ev_isub, ev_imul, ev_iand, ev_ior, ev_ishl, ev_ishr, ev_idiv, ev_irem, ev_ineg, ev_ladd, ev_lsub, ev_lmul, ev_land, ev_lor, ev_ldiv, ev_lrem, ev_lshl, ev_i2l, ev_l2i, ev_i2b, ev_i2s, ev_lcmp, ev_dupI, ev_dupR, ev_dup2, ev_popI, ev_popR, ev_alen, ev_xlen, ev_xald, ev_iald, ev_lald, ev_bald, ev_zald, ev_aald, ev_iast, ev_last, ev_bast, ev_zast, ev_aast, ev_gfI, ev_gfL, ev_gfR, ev_pfI, ev_pfZ, ev_pfL, ev_pfR, ev_new, ev_newa, ev_newq, ev_copy, ev_slen, ev_schr, ev_obj, ev_mmin, ev_mabs, ev_mmax, ev_goto, ev_jsr, ev_icmp_eq, ev_if_eq, ev_icmp_ne, ev_if_ne, ev_icmp_lt, ev_if_lt, ev_icmp_ge, ev_if_ge, ev_icmp_gt, ev_if_gt, ev_icmp_le, ev_if_le, ev_ifnull0, ev_ifnull1, ev_ifnn0, ev_ifnn1, ev_tsw, ev_lsw, ev_iret, ev_zret, ev_lret, ev_aret, ev_ret, ev_call0, ev_call1, ev_call2, ev_call3, ev_call4, ev_call5, ev_call6, Option.toList_some, Option.toList_none, List.cons_append, List.nil_append, List.length_cons, List.length_nil, Nat.reduceMod, Nat.reduceDiv, Nat.reduceLeDiff, nc, ↓reduceIte, Nat.zero_le, reduceCtorEq, w32_id, Int.reduceEq, Int.reduceNe, Int.reduceLT, Int.reduceLE, Int.reduceGT, Int.reduceGE, Int.reduceAdd, Int.reduceSub, Int.reduceMul, Int.reduceNeg, ne_eq, not_true_eq_false, not_false_eq_true, eq_self, ↓if_pos, ↓if_neg, J_41_0, k_41_0, J_41_23, k_41_23, J_41_27, k_41_27, J_41_28, k_41_28, e]
  · subst hv
    have ei := c_isWord (X := X) hk ca
    by_cases y : tK b n p = 2 ∧ tW b n p = kl k
    · rw [if_pos y] at ei
      refine ⟨1, Ma, fa, cO_o (by unfold pWord; rw [if_neg z, if_pos y]) ca.1, ?_⟩
      simp (disch := first | assumption | decide | omega | (simp only [List.length_cons, List.length_nil] <;> omega)) only [lgt_0, lgt_s, lset_0, lset_s, lst1_0, lst1_s, lst2_0, lst2_s, ev_iconst, ev_lconst, ev_ldc, ev_null, ev_iload, ev_lload, ev_aload, ev_istore, ev_lstore, ev_astore, ev_iinc, ev_iadd, ev_isub, ev_imul, ev_iand, ev_ior, ev_ishl, ev_ishr, ev_idiv, ev_irem, ev_ineg, ev_ladd, ev_lsub, ev_lmul, ev_land, ev_lor, ev_ldiv, ev_lrem, ev_lshl, ev_i2l, ev_l2i, ev_i2b, ev_i2s, ev_lcmp, ev_dupI, ev_dupR, ev_dup2, ev_popI, ev_popR, ev_alen, ev_xlen, ev_xald, ev_iald, ev_lald, ev_bald, ev_zald, ev_aald, ev_iast, ev_last, ev_bast, ev_zast, ev_aast, ev_gfI, ev_gfL, ev_gfR, ev_pfI, ev_pfZ, ev_pfL, ev_pfR, ev_new, ev_newa, ev_newq, ev_copy, ev_slen, ev_schr, ev_obj, ev_mmin, ev_mabs, ev_mmax, ev_goto, ev_jsr, ev_icmp_eq, ev_if_eq, ev_icmp_ne, ev_if_ne, ev_icmp_lt, ev_if_lt, ev_icmp_ge, ev_if_ge, ev_icmp_gt, ev_if_gt, ev_icmp_le, ev_if_le, ev_ifnull0, ev_ifnull1, ev_ifnn0, ev_ifnn1, ev_tsw, ev_lsw, ev_iret, ev_zret, ev_lret, ev_aret, ev_ret, ev_call0, ev_call1, ev_call2, ev_call3, ev_call4, ev_call5, ev_call6, Option.toList_some, Option.toList_none, List.cons_append, List.nil_append, List.length_cons, List.length_nil, Nat.reduceMod, Nat.reduceDiv, Nat.reduceLeDiff, nc, ↓reduceIte, Nat.zero_le, reduceCtorEq, w32_id, Int.reduceEq, Int.reduceNe, Int.reduceLT, Int.reduceLE, Int.reduceGT, Int.reduceGE, Int.reduceAdd, Int.reduceSub, Int.reduceMul, Int.reduceNeg, ne_eq, not_true_eq_false, not_false_eq_true, eq_self, ↓if_pos, ↓if_neg, J_41_0, k_41_0, J_41_23, k_41_23, J_41_27, k_41_27, J_41_28, k_41_28, e, ei]
    · rw [if_neg y] at ei
      have w := c_wrong (X := X) (M := Ma) (w := 2)
      rw [ca.2.1] at w
      refine ⟨0, _, fT_w fa, cO_e (e := (2, tQ b n p)) (by unfold pWord; rw [if_neg z, if_neg y]) (by rw [up_ne2 (by omega), up_eq]) up_eq, ?_⟩
      simp (disch := first | assumption | decide | omega | (simp only [List.length_cons, List.length_nil] <;> omega)) only [lgt_0, lgt_s, lset_0, lset_s, lst1_0, lst1_s, lst2_0, lst2_s, ev_iconst, ev_lconst, ev_ldc, ev_null, ev_iload, ev_lload, ev_aload, ev_istore, ev_lstore, ev_astore, ev_iinc, ev_iadd, ev_isub, ev_imul, ev_iand, ev_ior, ev_ishl, ev_ishr, ev_idiv, ev_irem, ev_ineg, ev_ladd, ev_lsub, ev_lmul, ev_land, ev_lor, ev_ldiv, ev_lrem, ev_lshl, ev_i2l, ev_l2i, ev_i2b, ev_i2s, ev_lcmp, ev_dupI, ev_dupR, ev_dup2, ev_popI, ev_popR, ev_alen, ev_xlen, ev_xald, ev_iald, ev_lald, ev_bald, ev_zald, ev_aald, ev_iast, ev_last, ev_bast, ev_zast, ev_aast, ev_gfI, ev_gfL, ev_gfR, ev_pfI, ev_pfZ, ev_pfL, ev_pfR, ev_new, ev_newa, ev_newq, ev_copy, ev_slen, ev_schr, ev_obj, ev_mmin, ev_mabs, ev_mmax, ev_goto, ev_jsr, ev_icmp_eq, ev_if_eq, ev_icmp_ne, ev_if_ne, ev_icmp_lt, ev_if_lt, ev_icmp_ge, ev_if_ge, ev_icmp_gt, ev_if_gt, ev_icmp_le, ev_if_le, ev_ifnull0, ev_ifnull1, ev_ifnn0, ev_ifnn1, ev_tsw, ev_lsw, ev_iret, ev_zret, ev_lret, ev_aret, ev_ret, ev_call0, ev_call1, ev_call2, ev_call3, ev_call4, ev_call5, ev_call6, Option.toList_some, Option.toList_none, List.cons_append, List.nil_append, List.length_cons, List.length_nil, Nat.reduceMod, Nat.reduceDiv, Nat.reduceLeDiff, nc, ↓reduceIte, Nat.zero_le, reduceCtorEq, w32_id, Int.reduceEq, Int.reduceNe, Int.reduceLT, Int.reduceLE, Int.reduceGT, Int.reduceGE, Int.reduceAdd, Int.reduceSub, Int.reduceMul, Int.reduceNeg, ne_eq, not_true_eq_false, not_false_eq_true, eq_self, ↓if_pos, ↓if_neg, J_41_0, k_41_0, J_41_23, k_41_23, J_41_27, k_41_27, J_41_28, k_41_28, e, ei, w]
theorem c_goSign (g : gT b n) (h : cTc M b n p) (p0 : 0 ≤ p) (p1 : p ≤ n) : ∃ v M', fT M M' ∧ cO b n (pSign b n p) v M' ∧ evc X 59 [vR (some 2)] SH0 M = some (some (vI v), SH0, M') := by
  have k2 := w0_k2
  have r := tK_rng (b := b) (n := n) (p := p)
  have i := ck_id r.1 r.2
  obtain ⟨v, Ma, fa, hv, e⟩ := c_go (X := X) g h p0 p1
  rw [E_59 k2]
  rcases hv with ⟨z, hv, y2, y3⟩ | ⟨z, hv, ca⟩
  · subst hv
    refine ⟨0, Ma, fa, cO_e (e := (1, tQ b n p)) (if_pos z) y2 y3, ?_⟩
    simp (disch := first | assumption | decide | omega | (simp only [List.length_cons, List.length_nil] <;> omega)) only [lgt_0, lgt_s, lset_0, lset_s, lst1_0, lst1_s, lst2_0, lst2_s, ev_iconst, ev_lconst, ev_ldc, ev_null, ev_iload, ev_lload, ev_aload, ev_istore, ev_lstore, ev_astore, ev_iinc, ev_iadd, ev_isub, ev_imul, ev_iand, ev_ior, ev_ishl, ev_ishr, ev_idiv, ev_irem, ev_ineg, ev_ladd, ev_lsub, ev_lmul, ev_land, ev_lor, ev_ldiv, ev_lrem, ev_lshl, ev_i2l, ev_l2i, ev_i2b, ev_i2s, ev_lcmp, ev_dupI, ev_dupR, ev_dup2, ev_popI, ev_popR, ev_alen, ev_xlen, ev_xald, ev_iald, ev_lald, ev_bald, ev_zald, ev_aald, ev_iast, ev_last, ev_bast, ev_zast, ev_aast, ev_gfI, ev_gfL, ev_gfR, ev_pfI, ev_pfZ, ev_pfL, ev_pfR, ev_new, ev_newa, ev_newq, ev_copy, ev_slen, ev_schr, ev_obj, ev_mmin, ev_mabs, ev_mmax, ev_goto, ev_jsr, ev_icmp_eq, ev_if_eq, ev_icmp_ne, ev_if_ne, ev_icmp_lt, ev_if_lt, ev_icmp_ge, ev_if_ge, ev_icmp_gt, ev_if_gt, ev_icmp_le, ev_if_le, ev_ifnull0, ev_ifnull1, ev_ifnn0, ev_ifnn1, ev_tsw, ev_lsw, ev_iret, ev_zret, ev_lret, ev_aret, ev_ret, ev_call0, ev_call1, ev_call2, ev_call3, ev_call4, ev_call5, ev_call6, Option.toList_some, Option.toList_none, List.cons_append, List.nil_append, List.length_cons, List.length_nil, Nat.reduceMod, Nat.reduceDiv, Nat.reduceLeDiff, nc, ↓reduceIte, Nat.zero_le, reduceCtorEq, w32_id, Int.reduceEq, Int.reduceNe, Int.reduceLT, Int.reduceLE, Int.reduceGT, Int.reduceGE, Int.reduceAdd, Int.reduceSub, Int.reduceMul, Int.reduceNeg, ne_eq, not_true_eq_false, not_false_eq_true, eq_self, ↓if_pos, ↓if_neg, J_59_0, k_59_0, J_59_23, k_59_23, J_59_27, k_59_27, J_59_28, k_59_28, e]
  · subst hv
    have c4 := ca.2.2.1
    by_cases y : tK b n p = 4
    · rw [i.2.1.mpr y] at c4
      refine ⟨1, Ma, fa, cO_o (by unfold pSign; rw [if_neg z, if_pos y]) ca.1, ?_⟩
      simp (disch := first | assumption | decide | omega | (simp only [List.length_cons, List.length_nil] <;> omega)) only [lgt_0, lgt_s, lset_0, lset_s, lst1_0, lst1_s, lst2_0, lst2_s, ev_iconst, ev_lconst, ev_ldc, ev_null, ev_iload, ev_lload, ev_aload, ev_istore, ev_lstore, ev_astore, ev_iinc, ev_iadd, ev_isub, ev_imul, ev_iand, ev_ior, ev_ishl, ev_ishr, ev_idiv, ev_irem, ev_ineg, ev_ladd, ev_lsub, ev_lmul, ev_land, ev_lor, ev_ldiv, ev_lrem, ev_lshl, ev_i2l, ev_l2i, ev_i2b, ev_i2s, ev_lcmp, ev_dupI, ev_dupR, ev_dup2, ev_popI, ev_popR, ev_alen, ev_xlen, ev_xald, ev_iald, ev_lald, ev_bald, ev_zald, ev_aald, ev_iast, ev_last, ev_bast, ev_zast, ev_aast, ev_gfI, ev_gfL, ev_gfR, ev_pfI, ev_pfZ, ev_pfL, ev_pfR, ev_new, ev_newa, ev_newq, ev_copy, ev_slen, ev_schr, ev_obj, ev_mmin, ev_mabs, ev_mmax, ev_goto, ev_jsr, ev_icmp_eq, ev_if_eq, ev_icmp_ne, ev_if_ne, ev_icmp_lt, ev_if_lt, ev_icmp_ge, ev_if_ge, ev_icmp_gt, ev_if_gt, ev_icmp_le, ev_if_le, ev_ifnull0, ev_ifnull1, ev_ifnn0, ev_ifnn1, ev_tsw, ev_lsw, ev_iret, ev_zret, ev_lret, ev_aret, ev_ret, ev_call0, ev_call1, ev_call2, ev_call3, ev_call4, ev_call5, ev_call6, Option.toList_some, Option.toList_none, List.cons_append, List.nil_append, List.length_cons, List.length_nil, Nat.reduceMod, Nat.reduceDiv, Nat.reduceLeDiff, nc, ↓reduceIte, Nat.zero_le, reduceCtorEq, w32_id, Int.reduceEq, Int.reduceNe, Int.reduceLT, Int.reduceLE, Int.reduceGT, Int.reduceGE, Int.reduceAdd, Int.reduceSub, Int.reduceMul, Int.reduceNeg, ne_eq, not_true_eq_false, not_false_eq_true, eq_self, ↓if_pos, ↓if_neg, J_59_0, k_59_0, J_59_23, k_59_23, J_59_27, k_59_27, J_59_28, k_59_28, e, c4]
    · have c4' : ¬ Ma 2 4 = 2 := by rw [c4, i.2.1]; exact y
      have w := c_wrong (X := X) (M := Ma) (w := 2)
      rw [ca.2.1] at w
      refine ⟨0, _, fT_w fa, cO_e (e := (2, tQ b n p)) (by unfold pSign; rw [if_neg z, if_neg y]) (by rw [up_ne2 (by omega), up_eq]) up_eq, ?_⟩
      simp (disch := first | assumption | decide | omega | (simp only [List.length_cons, List.length_nil] <;> omega)) only [lgt_0, lgt_s, lset_0, lset_s, lst1_0, lst1_s, lst2_0, lst2_s, ev_iconst, ev_lconst, ev_ldc, ev_null, ev_iload, ev_lload, ev_aload, ev_istore, ev_lstore, ev_astore, ev_iinc, ev_iadd, ev_isub, ev_imul, ev_iand, ev_ior, ev_ishl, ev_ishr, ev_idiv, ev_irem, ev_ineg, ev_ladd, ev_lsub, ev_lmul, ev_land, ev_lor, ev_ldiv, ev_lrem, ev_lshl, ev_i2l, ev_l2i, ev_i2b, ev_i2s, ev_lcmp, ev_dupI, ev_dupR, ev_dup2, ev_popI, ev_popR, ev_alen, ev_xlen, ev_xald, ev_iald, ev_lald, ev_bald, ev_zald, ev_aald, ev_iast, ev_last, ev_bast, ev_zast, ev_aast, ev_gfI, ev_gfL, ev_gfR, ev_pfI, ev_pfZ, ev_pfL, ev_pfR, ev_new, ev_newa, ev_newq, ev_copy, ev_slen, ev_schr, ev_obj, ev_mmin, ev_mabs, ev_mmax, ev_goto, ev_jsr, ev_icmp_eq, ev_if_eq, ev_icmp_ne, ev_if_ne, ev_icmp_lt, ev_if_lt, ev_icmp_ge, ev_if_ge, ev_icmp_gt, ev_if_gt, ev_icmp_le, ev_if_le, ev_ifnull0, ev_ifnull1, ev_ifnn0, ev_ifnn1, ev_tsw, ev_lsw, ev_iret, ev_zret, ev_lret, ev_aret, ev_ret, ev_call0, ev_call1, ev_call2, ev_call3, ev_call4, ev_call5, ev_call6, Option.toList_some, Option.toList_none, List.cons_append, List.nil_append, List.length_cons, List.length_nil, Nat.reduceMod, Nat.reduceDiv, Nat.reduceLeDiff, nc, ↓reduceIte, Nat.zero_le, reduceCtorEq, w32_id, Int.reduceEq, Int.reduceNe, Int.reduceLT, Int.reduceLE, Int.reduceGT, Int.reduceGE, Int.reduceAdd, Int.reduceSub, Int.reduceMul, Int.reduceNeg, ne_eq, not_true_eq_false, not_false_eq_true, eq_self, ↓if_pos, ↓if_neg, J_59_0, k_59_0, J_59_23, k_59_23, J_59_27, k_59_27, J_59_28, k_59_28, e, c4', w]
theorem c_goNumber (g : gT b n) (h : cTc M b n p) (p0 : 0 ≤ p) (p1 : p ≤ n) {lo hi : Int} : ∃ v M', fT M M' ∧ (∀ e, pNum b n lo hi p = .error e → v = 0 ∧ M' 2 2 = e.1 ∧ M' 2 3 = e.2) ∧ (∀ r, pNum b n lo hi p = .ok r → v = 1 ∧ cTc M' b n r.1 ∧ M' 2 5 = r.2) ∧ evc X 58 [vR (some 2), vI lo, vI hi] SH0 M = some (some (vI v), SH0, M') := by
  have k2 := w0_k2
  have r := tK_rng (b := b) (n := n) (p := p)
  have i := ck_id r.1 r.2
  obtain ⟨v, Ma, fa, hv, e⟩ := c_go (X := X) g h p0 p1
  rw [E_58 k2]
  unfold pNum
  rcases hv with ⟨z, hv, y2, y3⟩ | ⟨z, hv, ca⟩
  · subst hv
    rw [if_pos z]
    refine ⟨0, Ma, fa, fun e' h' => ?_, fun r h' => ?_, ?_⟩
    · injection h' with h'
      subst h'
      exact ⟨rfl, y2, y3⟩
    · injection h'
    · simp (disch := first | assumption | decide | omega | (simp only [List.length_cons, List.length_nil] <;> omega)) only [lgt_0, lgt_s, lset_0, lset_s, lst1_0, lst1_s, lst2_0, lst2_s, ev_iconst, ev_lconst, ev_ldc, ev_null, ev_iload, ev_lload, ev_aload, ev_istore, ev_lstore, ev_astore, ev_iinc, ev_iadd, ev_isub, ev_imul, ev_iand, ev_ior, ev_ishl, ev_ishr, ev_idiv, ev_irem, ev_ineg, ev_ladd, ev_lsub, ev_lmul, ev_land, ev_lor, ev_ldiv, ev_lrem, ev_lshl, ev_i2l, ev_l2i, ev_i2b, ev_i2s, ev_lcmp, ev_dupI, ev_dupR, ev_dup2, ev_popI, ev_popR, ev_alen, ev_xlen, ev_xald, ev_iald, ev_lald, ev_bald, ev_zald, ev_aald, ev_iast, ev_last, ev_bast, ev_zast, ev_aast, ev_gfI, ev_gfL, ev_gfR, ev_pfI, ev_pfZ, ev_pfL, ev_pfR, ev_new, ev_newa, ev_newq, ev_copy, ev_slen, ev_schr, ev_obj, ev_mmin, ev_mabs, ev_mmax, ev_goto, ev_jsr, ev_icmp_eq, ev_if_eq, ev_icmp_ne, ev_if_ne, ev_icmp_lt, ev_if_lt, ev_icmp_ge, ev_if_ge, ev_icmp_gt, ev_if_gt, ev_icmp_le, ev_if_le, ev_ifnull0, ev_ifnull1, ev_ifnn0, ev_ifnn1, ev_tsw, ev_lsw, ev_iret, ev_zret, ev_lret, ev_aret, ev_ret, ev_call0, ev_call1, ev_call2, ev_call3, ev_call4, ev_call5, ev_call6, Option.toList_some, Option.toList_none, List.cons_append, List.nil_append, List.length_cons, List.length_nil, Nat.reduceMod, Nat.reduceDiv, Nat.reduceLeDiff, nc, ↓reduceIte, Nat.zero_le, reduceCtorEq, w32_id, Int.reduceEq, Int.reduceNe, Int.reduceLT, Int.reduceLE, Int.reduceGT, Int.reduceGE, Int.reduceAdd, Int.reduceSub, Int.reduceMul, Int.reduceNeg, ne_eq, not_true_eq_false, not_false_eq_true, eq_self, ↓if_pos, ↓if_neg, J_58_0, k_58_0, J_58_9, k_58_9, J_58_23, k_58_23, J_58_39, k_58_39, J_58_47, k_58_47, J_58_51, k_58_51, J_58_52, k_58_52, e]
  · subst hv
    rw [if_neg z]
    have c4 := ca.2.2.1
    by_cases y : tK b n p = 3
    · rw [if_pos y]
      rw [i.2.2.1.mpr y] at c4
      have c5 := ca.2.2.2.1 y
      by_cases x : lo ≤ tV b n p ∧ tV b n p ≤ hi
      · rw [if_pos x]
        refine ⟨1, Ma, fa, fun e' h' => ?_, fun r h' => ?_, ?_⟩
        · injection h'
        · injection h' with h'
          subst h'
          exact ⟨rfl, ca.1, c5⟩
        · obtain ⟨x1, x2⟩ := x
          simp (disch := first | assumption | decide | omega | (simp only [List.length_cons, List.length_nil] <;> omega)) only [lgt_0, lgt_s, lset_0, lset_s, lst1_0, lst1_s, lst2_0, lst2_s, ev_iconst, ev_lconst, ev_ldc, ev_null, ev_iload, ev_lload, ev_aload, ev_istore, ev_lstore, ev_astore, ev_iinc, ev_iadd, ev_isub, ev_imul, ev_iand, ev_ior, ev_ishl, ev_ishr, ev_idiv, ev_irem, ev_ineg, ev_ladd, ev_lsub, ev_lmul, ev_land, ev_lor, ev_ldiv, ev_lrem, ev_lshl, ev_i2l, ev_l2i, ev_i2b, ev_i2s, ev_lcmp, ev_dupI, ev_dupR, ev_dup2, ev_popI, ev_popR, ev_alen, ev_xlen, ev_xald, ev_iald, ev_lald, ev_bald, ev_zald, ev_aald, ev_iast, ev_last, ev_bast, ev_zast, ev_aast, ev_gfI, ev_gfL, ev_gfR, ev_pfI, ev_pfZ, ev_pfL, ev_pfR, ev_new, ev_newa, ev_newq, ev_copy, ev_slen, ev_schr, ev_obj, ev_mmin, ev_mabs, ev_mmax, ev_goto, ev_jsr, ev_icmp_eq, ev_if_eq, ev_icmp_ne, ev_if_ne, ev_icmp_lt, ev_if_lt, ev_icmp_ge, ev_if_ge, ev_icmp_gt, ev_if_gt, ev_icmp_le, ev_if_le, ev_ifnull0, ev_ifnull1, ev_ifnn0, ev_ifnn1, ev_tsw, ev_lsw, ev_iret, ev_zret, ev_lret, ev_aret, ev_ret, ev_call0, ev_call1, ev_call2, ev_call3, ev_call4, ev_call5, ev_call6, Option.toList_some, Option.toList_none, List.cons_append, List.nil_append, List.length_cons, List.length_nil, Nat.reduceMod, Nat.reduceDiv, Nat.reduceLeDiff, nc, ↓reduceIte, Nat.zero_le, reduceCtorEq, w32_id, Int.reduceEq, Int.reduceNe, Int.reduceLT, Int.reduceLE, Int.reduceGT, Int.reduceGE, Int.reduceAdd, Int.reduceSub, Int.reduceMul, Int.reduceNeg, ne_eq, not_true_eq_false, not_false_eq_true, eq_self, ↓if_pos, ↓if_neg, J_58_0, k_58_0, J_58_9, k_58_9, J_58_23, k_58_23, J_58_39, k_58_39, J_58_47, k_58_47, J_58_51, k_58_51, J_58_52, k_58_52, e, c4, c5]
      · rw [if_neg x]
        have w := c_wrong (X := X) (M := Ma) (w := 4)
        rw [ca.2.1] at w
        refine ⟨0, up (up Ma 2 2 4) 2 3 (tQ b n p), fT_w fa, fun e' h' => ?_, fun r h' => ?_, ?_⟩
        rotate_left 2
        · by_cases x1 : lo ≤ tV b n p
          · have x2 : ¬ tV b n p ≤ hi := fun x2 => x ⟨x1, x2⟩
            simp (disch := first | assumption | decide | omega | (simp only [List.length_cons, List.length_nil] <;> omega)) only [lgt_0, lgt_s, lset_0, lset_s, lst1_0, lst1_s, lst2_0, lst2_s, ev_iconst, ev_lconst, ev_ldc, ev_null, ev_iload, ev_lload, ev_aload, ev_istore, ev_lstore, ev_astore, ev_iinc, ev_iadd, ev_isub, ev_imul, ev_iand, ev_ior, ev_ishl, ev_ishr, ev_idiv, ev_irem, ev_ineg, ev_ladd, ev_lsub, ev_lmul, ev_land, ev_lor, ev_ldiv, ev_lrem, ev_lshl, ev_i2l, ev_l2i, ev_i2b, ev_i2s, ev_lcmp, ev_dupI, ev_dupR, ev_dup2, ev_popI, ev_popR, ev_alen, ev_xlen, ev_xald, ev_iald, ev_lald, ev_bald, ev_zald, ev_aald, ev_iast, ev_last, ev_bast, ev_zast, ev_aast, ev_gfI, ev_gfL, ev_gfR, ev_pfI, ev_pfZ, ev_pfL, ev_pfR, ev_new, ev_newa, ev_newq, ev_copy, ev_slen, ev_schr, ev_obj, ev_mmin, ev_mabs, ev_mmax, ev_goto, ev_jsr, ev_icmp_eq, ev_if_eq, ev_icmp_ne, ev_if_ne, ev_icmp_lt, ev_if_lt, ev_icmp_ge, ev_if_ge, ev_icmp_gt, ev_if_gt, ev_icmp_le, ev_if_le, ev_ifnull0, ev_ifnull1, ev_ifnn0, ev_ifnn1, ev_tsw, ev_lsw, ev_iret, ev_zret, ev_lret, ev_aret, ev_ret, ev_call0, ev_call1, ev_call2, ev_call3, ev_call4, ev_call5, ev_call6, Option.toList_some, Option.toList_none, List.cons_append, List.nil_append, List.length_cons, List.length_nil, Nat.reduceMod, Nat.reduceDiv, Nat.reduceLeDiff, nc, ↓reduceIte, Nat.zero_le, reduceCtorEq, w32_id, Int.reduceEq, Int.reduceNe, Int.reduceLT, Int.reduceLE, Int.reduceGT, Int.reduceGE, Int.reduceAdd, Int.reduceSub, Int.reduceMul, Int.reduceNeg, ne_eq, not_true_eq_false, not_false_eq_true, eq_self, ↓if_pos, ↓if_neg, J_58_0, k_58_0, J_58_9, k_58_9, J_58_23, k_58_23, J_58_39, k_58_39, J_58_47, k_58_47, J_58_51, k_58_51, J_58_52, k_58_52, e, c4, c5, w]
          · simp (disch := first | assumption | decide | omega | (simp only [List.length_cons, List.length_nil] <;> omega)) only [lgt_0, lgt_s, lset_0, lset_s, lst1_0, lst1_s, lst2_0, lst2_s, ev_iconst, ev_lconst, ev_ldc, ev_null, ev_iload, ev_lload, ev_aload, ev_istore, ev_lstore, ev_astore, ev_iinc, ev_iadd, ev_isub, ev_imul, ev_iand, ev_ior, ev_ishl, ev_ishr, ev_idiv, ev_irem, ev_ineg, ev_ladd, ev_lsub, ev_lmul, ev_land, ev_lor, ev_ldiv, ev_lrem, ev_lshl, ev_i2l, ev_l2i, ev_i2b, ev_i2s, ev_lcmp, ev_dupI, ev_dupR, ev_dup2, ev_popI, ev_popR, ev_alen, ev_xlen, ev_xald, ev_iald, ev_lald, ev_bald, ev_zald, ev_aald, ev_iast, ev_last, ev_bast, ev_zast, ev_aast, ev_gfI, ev_gfL, ev_gfR, ev_pfI, ev_pfZ, ev_pfL, ev_pfR, ev_new, ev_newa, ev_newq, ev_copy, ev_slen, ev_schr, ev_obj, ev_mmin, ev_mabs, ev_mmax, ev_goto, ev_jsr, ev_icmp_eq, ev_if_eq, ev_icmp_ne, ev_if_ne, ev_icmp_lt, ev_if_lt, ev_icmp_ge, ev_if_ge, ev_icmp_gt, ev_if_gt, ev_icmp_le, ev_if_le, ev_ifnull0, ev_ifnull1, ev_ifnn0, ev_ifnn1, ev_tsw, ev_lsw, ev_iret, ev_zret, ev_lret, ev_aret, ev_ret, ev_call0, ev_call1, ev_call2, ev_call3, ev_call4, ev_call5, ev_call6, Option.toList_some, Option.toList_none, List.cons_append, List.nil_append, List.length_cons, List.length_nil, Nat.reduceMod, Nat.reduceDiv, Nat.reduceLeDiff, nc, ↓reduceIte, Nat.zero_le, reduceCtorEq, w32_id, Int.reduceEq, Int.reduceNe, Int.reduceLT, Int.reduceLE, Int.reduceGT, Int.reduceGE, Int.reduceAdd, Int.reduceSub, Int.reduceMul, Int.reduceNeg, ne_eq, not_true_eq_false, not_false_eq_true, eq_self, ↓if_pos, ↓if_neg, J_58_0, k_58_0, J_58_9, k_58_9, J_58_23, k_58_23, J_58_39, k_58_39, J_58_47, k_58_47, J_58_51, k_58_51, J_58_52, k_58_52, e, c4, c5, w]
        · injection h' with h'
          subst h'
          exact ⟨rfl, by rw [up_ne2 (by omega), up_eq], up_eq⟩
        · injection h'
    · rw [if_neg y]
      have c4' : ¬ Ma 2 4 = 3 := by rw [c4, i.2.2.1]; exact y
      have w := c_wrong (X := X) (M := Ma) (w := 2)
      rw [ca.2.1] at w
      refine ⟨0, up (up Ma 2 2 2) 2 3 (tQ b n p), fT_w fa, fun e' h' => ?_, fun r h' => ?_, ?_⟩
      rotate_left 2
      · simp (disch := first | assumption | decide | omega | (simp only [List.length_cons, List.length_nil] <;> omega)) only [lgt_0, lgt_s, lset_0, lset_s, lst1_0, lst1_s, lst2_0, lst2_s, ev_iconst, ev_lconst, ev_ldc, ev_null, ev_iload, ev_lload, ev_aload, ev_istore, ev_lstore, ev_astore, ev_iinc, ev_iadd, ev_isub, ev_imul, ev_iand, ev_ior, ev_ishl, ev_ishr, ev_idiv, ev_irem, ev_ineg, ev_ladd, ev_lsub, ev_lmul, ev_land, ev_lor, ev_ldiv, ev_lrem, ev_lshl, ev_i2l, ev_l2i, ev_i2b, ev_i2s, ev_lcmp, ev_dupI, ev_dupR, ev_dup2, ev_popI, ev_popR, ev_alen, ev_xlen, ev_xald, ev_iald, ev_lald, ev_bald, ev_zald, ev_aald, ev_iast, ev_last, ev_bast, ev_zast, ev_aast, ev_gfI, ev_gfL, ev_gfR, ev_pfI, ev_pfZ, ev_pfL, ev_pfR, ev_new, ev_newa, ev_newq, ev_copy, ev_slen, ev_schr, ev_obj, ev_mmin, ev_mabs, ev_mmax, ev_goto, ev_jsr, ev_icmp_eq, ev_if_eq, ev_icmp_ne, ev_if_ne, ev_icmp_lt, ev_if_lt, ev_icmp_ge, ev_if_ge, ev_icmp_gt, ev_if_gt, ev_icmp_le, ev_if_le, ev_ifnull0, ev_ifnull1, ev_ifnn0, ev_ifnn1, ev_tsw, ev_lsw, ev_iret, ev_zret, ev_lret, ev_aret, ev_ret, ev_call0, ev_call1, ev_call2, ev_call3, ev_call4, ev_call5, ev_call6, Option.toList_some, Option.toList_none, List.cons_append, List.nil_append, List.length_cons, List.length_nil, Nat.reduceMod, Nat.reduceDiv, Nat.reduceLeDiff, nc, ↓reduceIte, Nat.zero_le, reduceCtorEq, w32_id, Int.reduceEq, Int.reduceNe, Int.reduceLT, Int.reduceLE, Int.reduceGT, Int.reduceGE, Int.reduceAdd, Int.reduceSub, Int.reduceMul, Int.reduceNeg, ne_eq, not_true_eq_false, not_false_eq_true, eq_self, ↓if_pos, ↓if_neg, J_58_0, k_58_0, J_58_9, k_58_9, J_58_23, k_58_23, J_58_39, k_58_39, J_58_47, k_58_47, J_58_51, k_58_51, J_58_52, k_58_52, e, c4', w]
      · injection h' with h'
        subst h'
        exact ⟨rfl, by rw [up_ne2 (by omega), up_eq], up_eq⟩
      · injection h'
end GOO
