/-! PAIRING: the change along the tree. -/
section BRI
variable {X : Int → Int} {Sh : List SE} {M : Mem} {p : Nat}
def paC (n : Int) : Int → Prop := fun c => 0 ≤ c ∧ c ≤ n
def paG (t : Int) : Int → Prop := fun x => 0 ≤ x ∧ x < t
def paA (M : Mem) (p : Nat) : Int → Int → Int := fun x c => M (p + 3) (x * 50 + c)
theorem s_changeAlong (h : PA Sh p) {n : Int} (hn : 0 ≤ n ∧ n ≤ 48) {G Pl : Int → Prop} {a : Int → Int → Int} {u v T f rk : Int → Int} {t : Int} (hf : M (p + 7) = f)
    (hj : HJ (paC n) G Pl (fun x => u x = a x 0) (-1) a (n + 1) u v T f rk t (M (p + 6)) t) (hk : 0 ≤ rk t ∧ rk t ≤ 49) (h0 : M (p + 6) 0 = -1)
    (h1 : ∀ x c, G x → paC n c → u x + v c ≤ a x c) (h3 : ∀ c, paC n c → v c ≤ 0) (h5 : ∀ x, G x → 0 ≤ u x) :
    ∃ M', (∀ b, b ≠ p + 6 → M' b = M b) ∧ HB (paC n) G (-1) a u v (M' (p + 6)) ∧ (∀ x, Pl x → (∃ c, paC n c ∧ M' (p + 6) c = x) ∨ u x = a x 0) ∧ M' (p + 6) 0 = -1 ∧ evc X 151 [vR (some p), vI t, vI (n + 1)] Sh M = some (none, Sh, M') := by
  have hk0 := h.1; obtain ⟨r_holders, k_holders, l_holders⟩ := pa_holders h; obtain ⟨r_comeFrom, k_comeFrom, l_comeFrom⟩ := pa_comeFrom h
  have key := ev_while (X := X) (y := 151) (Sh := Sh) (fun m ls M' => ∃ q k w, ls = [some (vR (some p)), some (vI t), some (vI (n + 1)), some (vI q), some (vI k), w] ∧ (∀ b, b ≠ p + 6 → M' b = M b) ∧ HJ (paC n) G Pl (fun x => u x = a x 0) (-1) a (n + 1) u v T f rk t (M' (p + 6)) q ∧ M' (p + 6) 0 = -1 ∧ 0 ≤ k ∧ 0 ≤ rk q ∧ k + rk q ≤ 49 ∧ m = (rk q).toNat)
    (fun o => ∃ M', (∀ b, b ≠ p + 6 → M' b = M b) ∧ HB (paC n) G (-1) a u v (M' (p + 6)) ∧ (∀ x, Pl x → (∃ c, paC n c ∧ M' (p + 6) c = x) ∨ u x = a x 0) ∧ M' (p + 6) 0 = -1 ∧ o = some (none, Sh, M')) J_151_5 (fun m ls M' hI => by
    obtain ⟨q, k, w, hls, fr, hj, h0, k0, k1, k2, hm⟩ := hI
    subst hls
    have f7 := fr (p + 7) (by omega)
    rw [hf] at f7
    have hq2 := hj.1.2
    by_cases q1 : q = n + 1
    · refine Or.inr ?_
      rw [q1] at hj ⊢
      have e := hj_end hj (fun z => by have := z.2; omega) h1 h3 h5 (h' := up M' (p + 6) (n + 1) (-1) (p + 6)) (fun c hc => up_ne2 (by have := hc.2; omega))
      refine ⟨up M' (p + 6) (n + 1) (-1), fun b hb => by rw [up_ne hb]; exact fr b hb, e.1, e.2, by rw [up_ne2 (by omega)]; exact h0, ?_⟩
      have q0 : ¬ 50 ≤ k := by omega
      simp (disch := first | assumption | decide | omega | (simp only [List.length_cons, List.length_nil] <;> omega)) only [lgt_0, lgt_s, lset_0, lset_s, lst1_0, lst1_s, lst2_0, lst2_s, ev_iconst, ev_lconst, ev_ldc, ev_null, ev_iload, ev_lload, ev_aload, ev_istore, ev_lstore, ev_astore, ev_iinc, ev_iadd, ev_isub, ev_imul, ev_iand, ev_ior, ev_ishl, ev_ishr, ev_idiv, ev_irem, ev_ineg, ev_ladd, ev_lsub, ev_lmul, ev_land, ev_lor, ev_ldiv, ev_lrem, ev_lshl, ev_i2l, ev_l2i, ev_i2b, ev_i2s, ev_lcmp, ev_dupI, ev_dupR, ev_dup2, ev_popI, ev_popR, ev_alen, ev_xlen, ev_xald, ev_iald, ev_lald, ev_bald, ev_zald, ev_aald, ev_iast, ev_last, ev_bast, ev_zast, ev_aast, ev_gfI, ev_gfL, ev_gfR, ev_pfI, ev_pfZ, ev_pfL, ev_pfR, ev_new, ev_newa, ev_newq, ev_copy, ev_slen, ev_schr, ev_obj, ev_mmin, ev_mabs, ev_mmax, ev_goto, ev_jsr, ev_icmp_eq, ev_if_eq, ev_icmp_ne, ev_if_ne, ev_icmp_lt, ev_if_lt, ev_icmp_ge, ev_if_ge, ev_icmp_gt, ev_if_gt, ev_icmp_le, ev_if_le, ev_ifnull0, ev_ifnull1, ev_ifnn0, ev_ifnn1, ev_tsw, ev_lsw, ev_iret, ev_zret, ev_lret, ev_aret, ev_ret, ev_call0, ev_call1, ev_call2, ev_call3, ev_call4, ev_call5, ev_call6, Option.toList_some, Option.toList_none, List.cons_append, List.nil_append, List.length_cons, List.length_nil, Nat.reduceMod, Nat.reduceDiv, Nat.reduceAdd, Nat.reduceLeDiff, nc, ↓reduceIte, Nat.zero_le, reduceCtorEq, w32_id, Int.reduceEq, Int.reduceNe, Int.reduceLT, Int.reduceLE, Int.reduceGT, Int.reduceGE, Int.reduceAdd, Int.reduceSub, Int.reduceMul, Int.reduceNeg, ne_eq, not_true_eq_false, not_false_eq_true, eq_self, r_holders, r_comeFrom, k_151_5, J_151_0, k_151_0, J_151_42, k_151_42, J_151_51, k_151_51, q0]
    · have hq : 0 ≤ q ∧ q ≤ n := by
        rcases hq2 with z | z
        · exact z
        · exact absurd z q1
      have e5 := hj.2.2.2.2.2 q hj.1.1 q1 (Int.le_refl _)
      have hfq : 0 ≤ f q ∧ f q ≤ n + 1 := by
        rcases e5.1.2 with z | z
        · have := z.1; have := z.2; omega
        · omega
      have q0 : ¬ 50 ≤ k := by omega
      refine Or.inl ?_
      by_cases q2 : q = 0
      · subst q2
        have e6 := hj_s hj q1 (h' := M' (p + 6)) (Or.inr ⟨by
          have := hj.2.2.2.2.1 0 hq h0
          omega, h0, fun _ => rfl⟩)
        refine ⟨_, _, _, ?_, ⟨f 0, k + 1, some (vI (f 0)), rfl, fr, e6.1, h0, by omega, e6.2.1, by omega, rfl⟩, ?_⟩
        · have := e6.2; omega
        · simp (disch := first | assumption | decide | omega | (simp only [List.length_cons, List.length_nil] <;> omega)) only [lgt_0, lgt_s, lset_0, lset_s, lst1_0, lst1_s, lst2_0, lst2_s, ev_iconst, ev_lconst, ev_ldc, ev_null, ev_iload, ev_lload, ev_aload, ev_istore, ev_lstore, ev_astore, ev_iinc, ev_iadd, ev_isub, ev_imul, ev_iand, ev_ior, ev_ishl, ev_ishr, ev_idiv, ev_irem, ev_ineg, ev_ladd, ev_lsub, ev_lmul, ev_land, ev_lor, ev_ldiv, ev_lrem, ev_lshl, ev_i2l, ev_l2i, ev_i2b, ev_i2s, ev_lcmp, ev_dupI, ev_dupR, ev_dup2, ev_popI, ev_popR, ev_alen, ev_xlen, ev_xald, ev_iald, ev_lald, ev_bald, ev_zald, ev_aald, ev_iast, ev_last, ev_bast, ev_zast, ev_aast, ev_gfI, ev_gfL, ev_gfR, ev_pfI, ev_pfZ, ev_pfL, ev_pfR, ev_new, ev_newa, ev_newq, ev_copy, ev_slen, ev_schr, ev_obj, ev_mmin, ev_mabs, ev_mmax, ev_goto, ev_jsr, ev_icmp_eq, ev_if_eq, ev_icmp_ne, ev_if_ne, ev_icmp_lt, ev_if_lt, ev_icmp_ge, ev_if_ge, ev_icmp_gt, ev_if_gt, ev_icmp_le, ev_if_le, ev_ifnull0, ev_ifnull1, ev_ifnn0, ev_ifnn1, ev_tsw, ev_lsw, ev_iret, ev_zret, ev_lret, ev_aret, ev_ret, ev_call0, ev_call1, ev_call2, ev_call3, ev_call4, ev_call5, ev_call6, Option.toList_some, Option.toList_none, List.cons_append, List.nil_append, List.length_cons, List.length_nil, Nat.reduceMod, Nat.reduceDiv, Nat.reduceAdd, Nat.reduceLeDiff, nc, ↓reduceIte, Nat.zero_le, reduceCtorEq, w32_id, Int.reduceEq, Int.reduceNe, Int.reduceLT, Int.reduceLE, Int.reduceGT, Int.reduceGE, Int.reduceAdd, Int.reduceSub, Int.reduceMul, Int.reduceNeg, ne_eq, not_true_eq_false, not_false_eq_true, eq_self, r_holders, r_comeFrom, k_151_5, J_151_0, k_151_0, J_151_42, k_151_42, J_151_51, k_151_51, q0, q1, f7]
      · have e6 := hj_s hj q1 (h' := up M' (p + 6) q (M' (p + 6) (f q)) (p + 6)) (Or.inl ⟨up_eq, fun c hc => up_ne2 hc⟩)
        refine ⟨_, _, _, ?_, ⟨f q, k + 1, some (vI (f q)), rfl, fun b hb => by rw [up_ne hb]; exact fr b hb, e6.1, by rw [up_ne2 (fun z => q2 z.symm)]; exact h0, by omega, e6.2.1, by omega, rfl⟩, ?_⟩
        · have := e6.2; omega
        · simp (disch := first | assumption | decide | omega | (simp only [List.length_cons, List.length_nil] <;> omega)) only [lgt_0, lgt_s, lset_0, lset_s, lst1_0, lst1_s, lst2_0, lst2_s, ev_iconst, ev_lconst, ev_ldc, ev_null, ev_iload, ev_lload, ev_aload, ev_istore, ev_lstore, ev_astore, ev_iinc, ev_iadd, ev_isub, ev_imul, ev_iand, ev_ior, ev_ishl, ev_ishr, ev_idiv, ev_irem, ev_ineg, ev_ladd, ev_lsub, ev_lmul, ev_land, ev_lor, ev_ldiv, ev_lrem, ev_lshl, ev_i2l, ev_l2i, ev_i2b, ev_i2s, ev_lcmp, ev_dupI, ev_dupR, ev_dup2, ev_popI, ev_popR, ev_alen, ev_xlen, ev_xald, ev_iald, ev_lald, ev_bald, ev_zald, ev_aald, ev_iast, ev_last, ev_bast, ev_zast, ev_aast, ev_gfI, ev_gfL, ev_gfR, ev_pfI, ev_pfZ, ev_pfL, ev_pfR, ev_new, ev_newa, ev_newq, ev_copy, ev_slen, ev_schr, ev_obj, ev_mmin, ev_mabs, ev_mmax, ev_goto, ev_jsr, ev_icmp_eq, ev_if_eq, ev_icmp_ne, ev_if_ne, ev_icmp_lt, ev_if_lt, ev_icmp_ge, ev_if_ge, ev_icmp_gt, ev_if_gt, ev_icmp_le, ev_if_le, ev_ifnull0, ev_ifnull1, ev_ifnn0, ev_ifnn1, ev_tsw, ev_lsw, ev_iret, ev_zret, ev_lret, ev_aret, ev_ret, ev_call0, ev_call1, ev_call2, ev_call3, ev_call4, ev_call5, ev_call6, Option.toList_some, Option.toList_none, List.cons_append, List.nil_append, List.length_cons, List.length_nil, Nat.reduceMod, Nat.reduceDiv, Nat.reduceAdd, Nat.reduceLeDiff, nc, ↓reduceIte, Nat.zero_le, reduceCtorEq, w32_id, Int.reduceEq, Int.reduceNe, Int.reduceLT, Int.reduceLE, Int.reduceGT, Int.reduceGE, Int.reduceAdd, Int.reduceSub, Int.reduceMul, Int.reduceNeg, ne_eq, not_true_eq_false, not_false_eq_true, eq_self, r_holders, r_comeFrom, k_151_5, J_151_0, k_151_0, J_151_42, k_151_42, J_151_51, k_151_51, q0, q1, q2, f7])
  have e := key (rk t).toNat [some (vR (some p)), some (vI t), some (vI (n + 1)), some (vI t), some (vI 0), none] M ⟨t, 0, none, rfl, fun _ _ => rfl, hj, h0, by omega, hk.1, by omega, rfl⟩
  obtain ⟨M', a1, a2, a3, a4, a5⟩ := e
  refine ⟨M', a1, a2, a3, a4, ?_⟩
  rw [E_151 hk0]
  simp (disch := first | assumption | decide | omega | (simp only [List.length_cons, List.length_nil] <;> omega)) only [lgt_0, lgt_s, lset_0, lset_s, lst1_0, lst1_s, lst2_0, lst2_s, ev_iconst, ev_lconst, ev_ldc, ev_null, ev_iload, ev_lload, ev_aload, ev_istore, ev_lstore, ev_astore, ev_iinc, ev_iadd, ev_isub, ev_imul, ev_iand, ev_ior, ev_ishl, ev_ishr, ev_idiv, ev_irem, ev_ineg, ev_ladd, ev_lsub, ev_lmul, ev_land, ev_lor, ev_ldiv, ev_lrem, ev_lshl, ev_i2l, ev_l2i, ev_i2b, ev_i2s, ev_lcmp, ev_dupI, ev_dupR, ev_dup2, ev_popI, ev_popR, ev_alen, ev_xlen, ev_xald, ev_iald, ev_lald, ev_bald, ev_zald, ev_aald, ev_iast, ev_last, ev_bast, ev_zast, ev_aast, ev_gfI, ev_gfL, ev_gfR, ev_pfI, ev_pfZ, ev_pfL, ev_pfR, ev_new, ev_newa, ev_newq, ev_copy, ev_slen, ev_schr, ev_obj, ev_mmin, ev_mabs, ev_mmax, ev_goto, ev_jsr, ev_icmp_eq, ev_if_eq, ev_icmp_ne, ev_if_ne, ev_icmp_lt, ev_if_lt, ev_icmp_ge, ev_if_ge, ev_icmp_gt, ev_if_gt, ev_icmp_le, ev_if_le, ev_ifnull0, ev_ifnull1, ev_ifnn0, ev_ifnn1, ev_tsw, ev_lsw, ev_iret, ev_zret, ev_lret, ev_aret, ev_ret, ev_call0, ev_call1, ev_call2, ev_call3, ev_call4, ev_call5, ev_call6, Option.toList_some, Option.toList_none, List.cons_append, List.nil_append, List.length_cons, List.length_nil, Nat.reduceMod, Nat.reduceDiv, Nat.reduceAdd, Nat.reduceLeDiff, nc, ↓reduceIte, Nat.zero_le, reduceCtorEq, w32_id, Int.reduceEq, Int.reduceNe, Int.reduceLT, Int.reduceLE, Int.reduceGT, Int.reduceGE, Int.reduceAdd, Int.reduceSub, Int.reduceMul, Int.reduceNeg, ne_eq, not_true_eq_false, not_false_eq_true, eq_self, J_151_0, k_151_0, J_151_42, k_151_42, J_151_51, k_151_51]
  exact a5
end BRI
