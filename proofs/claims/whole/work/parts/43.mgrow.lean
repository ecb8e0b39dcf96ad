/-! THE MODEL: givesOne. -/
section MGR
variable {X : Int → Int} {Sh : List SE} {M : Mem} {m : Nat}
theorem m_shift (h : MD Sh m) {N s r j0 x t' : Int} (hN : 1 ≤ N ∧ N ≤ 48) (hs : -100000 ≤ s ∧ s ≤ 100000) (hd : ∀ c, 0 ≤ c → c ≤ N → M (m + 18) c = 0 → -10000000 ≤ M (m + 17) c ∧ M (m + 17) c ≤ 10000000) (hv : ∀ c, 0 ≤ c → c ≤ N → -10000000 ≤ M (m + 14) c ∧ M (m + 14) c ≤ 10000000) (hu : ∀ c, 0 ≤ c → c ≤ N → M (m + 18) c ≠ 0 → -10000000 ≤ M (m + 13) (M (m + 15) c) ∧ M (m + 13) (M (m + 15) c) ≤ 10000000)
    (hh : ∀ c, 0 ≤ c → c ≤ N → M (m + 18) c ≠ 0 → 0 ≤ M (m + 15) c ∧ M (m + 15) c < 64) (hi : ∀ c e, 0 ≤ c → c ≤ N → 0 ≤ e → e ≤ N → M (m + 18) c ≠ 0 → M (m + 18) e ≠ 0 → M (m + 15) c = M (m + 15) e → c = e) {w6 w7 w8 : Option PV} :
    ∃ M' w7', (∀ b, b ≠ m + 13 → b ≠ m + 14 → b ≠ m + 17 → M' b = M b) ∧ (∀ c, 0 ≤ c → c ≤ N → M (m + 18) c ≠ 0 → M' (m + 13) (M (m + 15) c) = M (m + 13) (M (m + 15) c) + s) ∧ (∀ x, (∀ c, 0 ≤ c → c ≤ N → M (m + 18) c ≠ 0 → M (m + 15) c ≠ x) → M' (m + 13) x = M (m + 13) x) ∧
      (∀ c, 0 ≤ c → c ≤ N → M' (m + 14) c = if M (m + 18) c = 0 then M (m + 14) c else M (m + 14) c - s) ∧ (∀ c, 0 ≤ c → c ≤ N → M' (m + 17) c = if M (m + 18) c = 0 then M (m + 17) c - s else M (m + 17) c) ∧
      ev X 313 (jmp 313 191) [some (vR (some m)), some (vI r), some (vI N), some (vI j0), some (vI x), some (vI s), some (vI t'), w7, w8] [] Sh M = ev X 313 (jmp 313 42) [some (vR (some m)), some (vI r), some (vI N), some (vI t'), some (vI x), some (vI s), some (vI t'), w7', w8] [] Sh M' := by
  have hk0 := h.1; obtain ⟨r_price, k_price, l_price⟩ := md_price h; obtain ⟨r_worthOf, k_worthOf, l_worthOf⟩ := md_worthOf h; obtain ⟨r_given, k_given, l_given⟩ := md_given h; obtain ⟨r_nearest, k_nearest, l_nearest⟩ := md_nearest h; obtain ⟨r_used, k_used, l_used⟩ := md_used h
  obtain ⟨ls', M', ⟨hls, f, a1, a2, a3, a4, a5, a6⟩, he⟩ := ev_for (X := X) (y := 313) (Sh := Sh) (fun i ls M' => ls = [some (vR (some m)), some (vI r), some (vI N), some (vI j0), some (vI x), some (vI s), some (vI t'), some (vI (i : Int)), w8] ∧ (∀ b, b ≠ m + 13 → b ≠ m + 14 → b ≠ m + 17 → M' b = M b) ∧
      (∀ c : Int, 0 ≤ c → c < i → M (m + 18) c ≠ 0 → M' (m + 13) (M (m + 15) c) = M (m + 13) (M (m + 15) c) + s) ∧ (∀ x, (∀ c : Int, 0 ≤ c → c < i → M (m + 18) c ≠ 0 → M (m + 15) c ≠ x) → M' (m + 13) x = M (m + 13) x) ∧
      (∀ c : Int, 0 ≤ c → c < i → M' (m + 14) c = if M (m + 18) c = 0 then M (m + 14) c else M (m + 14) c - s) ∧ (∀ c : Int, (i : Int) ≤ c → M' (m + 14) c = M (m + 14) c) ∧
      (∀ c : Int, 0 ≤ c → c < i → M' (m + 17) c = if M (m + 18) c = 0 then M (m + 17) c - s else M (m + 17) c) ∧ (∀ c : Int, (i : Int) ≤ c → M' (m + 17) c = M (m + 17) c)) J_313_194 (N + 1).toNat (fun i hlt ls M' hI => by
    obtain ⟨hls, f, a1, a2, a3, a4, a5, a6⟩ := hI
    subst hls
    have f6 := f (m + 15) (by omega) (by omega) (by omega)
    have f9 := f (m + 18) (by omega) (by omega) (by omega)
    have q0 : ¬ N < (i : Int) := by omega
    have i5 := a4 i (Int.le_refl _)
    have i8 := a6 i (Int.le_refl _)
    have b5 := hv i (by omega) (by omega)
    by_cases q1 : M (m + 18) i = 0
    · have b8 := hd i (by omega) (by omega) q1
      refine ⟨_, up M' (m + 17) i (M (m + 17) i - s), ⟨rfl, fun b b4 b5 b8 => ?_, fun c c0 c1 c2 => ?_, fun x hx => ?_, fun c c0 c1 => ?_, fun c c0 => ?_, fun c c0 c1 => ?_, fun c c0 => ?_⟩, ?_⟩
      rotate_left 7
      · simp (disch := first | assumption | decide | omega | (simp only [List.length_cons, List.length_nil] <;> omega)) only [lgt_0, lgt_s, lset_0, lset_s, lst1_0, lst1_s, lst2_0, lst2_s, ev_iconst, ev_lconst, ev_ldc, ev_null, ev_iload, ev_lload, ev_aload, ev_istore, ev_lstore, ev_astore, ev_iinc, ev_iadd, ev_isub, ev_imul, ev_iand, ev_ior, ev_ishl, ev_ishr, ev_idiv, ev_irem, ev_ineg, ev_ladd, ev_lsub, ev_lmul, ev_land, ev_lor, ev_ldiv, ev_lrem, ev_lshl, ev_i2l, ev_l2i, ev_i2b, ev_i2s, ev_lcmp, ev_dupI, ev_dupR, ev_dup2, ev_popI, ev_popR, ev_alen, ev_xlen, ev_xald, ev_iald, ev_lald, ev_bald, ev_zald, ev_aald, ev_iast, ev_last, ev_bast, ev_zast, ev_aast, ev_gfI, ev_gfL, ev_gfR, ev_pfI, ev_pfZ, ev_pfL, ev_pfR, ev_new, ev_newa, ev_newq, ev_copy, ev_slen, ev_schr, ev_obj, ev_mmin, ev_mabs, ev_mmax, ev_goto, ev_jsr, ev_icmp_eq, ev_if_eq, ev_icmp_ne, ev_if_ne, ev_icmp_lt, ev_if_lt, ev_icmp_ge, ev_if_ge, ev_icmp_gt, ev_if_gt, ev_icmp_le, ev_if_le, ev_ifnull0, ev_ifnull1, ev_ifnn0, ev_ifnn1, ev_tsw, ev_lsw, ev_iret, ev_zret, ev_lret, ev_aret, ev_ret, ev_call0, ev_call1, ev_call2, ev_call3, ev_call4, ev_call5, ev_call6, Option.toList_some, Option.toList_none, List.cons_append, List.nil_append, List.length_cons, List.length_nil, Nat.reduceMod, Nat.reduceDiv, Nat.reduceAdd, Nat.reduceLeDiff, nc, ↓reduceIte, Nat.zero_le, reduceCtorEq, w32_id, Int.reduceEq, Int.reduceNe, Int.reduceLT, Int.reduceLE, Int.reduceGT, Int.reduceGE, Int.reduceAdd, Int.reduceSub, Int.reduceMul, Int.reduceNeg, ne_eq, not_true_eq_false, not_false_eq_true, eq_self, r_price, r_worthOf, r_given, r_nearest, r_used, k_313_194, J_313_0, k_313_0, J_313_96, k_313_96, J_313_160, k_313_160, J_313_185, k_313_185, J_313_191, k_313_191, J_313_242, k_313_242, J_313_254, k_313_254, J_313_260, k_313_260, J_313_297, k_313_297, q0, f6, f9, q1, i8, nc_s]
      · rw [up_ne b8]; exact f b b4 b5 b8
      · rw [up_ne (by omega)]
        have z : c ≠ i := fun e => c2 (by rw [e]; exact q1)
        exact a1 c c0 (by omega) c2
      · rw [up_ne (by omega)]
        exact a2 x fun c c0 c1 c2 => hx c c0 (by omega) c2
      · rw [up_ne (by omega)]
        by_cases z : c = i
        · rw [z, if_pos q1]; exact i5
        · exact a3 c c0 (by omega)
      · rw [up_ne (by omega)]
        exact a4 c (by omega)
      · by_cases z : c = i
        · rw [z, up_eq, if_pos q1]
        · rw [up_ne2 z]; exact a5 c c0 (by omega)
      · rw [up_ne2 (by omega)]
        exact a6 c (by omega)
    · obtain ⟨g0, g1⟩ := hh i (by omega) (by omega) q1
      have bu := hu i (by omega) (by omega) q1
      have iu := a2 (M (m + 15) i) (fun c c0 c1 c2 e => by
        have := hi c i c0 (by omega) (by omega) (by omega) c2 q1 e
        omega)
      refine ⟨_, up (up M' (m + 13) (M (m + 15) i) (M (m + 13) (M (m + 15) i) + s)) (m + 14) i (M (m + 14) i - s), ⟨rfl, fun b b4 b5 b8 => ?_, fun c c0 c1 c2 => ?_, fun x hx => ?_, fun c c0 c1 => ?_, fun c c0 => ?_, fun c c0 c1 => ?_, fun c c0 => ?_⟩, ?_⟩
      rotate_left 7
      · have e5 : up M' (m + 13) (M (m + 15) i) (M (m + 13) (M (m + 15) i) + s) (m + 14) = M' (m + 14) := by rw [up_ne (by omega)]
        simp (disch := first | assumption | decide | omega | (simp only [List.length_cons, List.length_nil] <;> omega)) only [lgt_0, lgt_s, lset_0, lset_s, lst1_0, lst1_s, lst2_0, lst2_s, ev_iconst, ev_lconst, ev_ldc, ev_null, ev_iload, ev_lload, ev_aload, ev_istore, ev_lstore, ev_astore, ev_iinc, ev_iadd, ev_isub, ev_imul, ev_iand, ev_ior, ev_ishl, ev_ishr, ev_idiv, ev_irem, ev_ineg, ev_ladd, ev_lsub, ev_lmul, ev_land, ev_lor, ev_ldiv, ev_lrem, ev_lshl, ev_i2l, ev_l2i, ev_i2b, ev_i2s, ev_lcmp, ev_dupI, ev_dupR, ev_dup2, ev_popI, ev_popR, ev_alen, ev_xlen, ev_xald, ev_iald, ev_lald, ev_bald, ev_zald, ev_aald, ev_iast, ev_last, ev_bast, ev_zast, ev_aast, ev_gfI, ev_gfL, ev_gfR, ev_pfI, ev_pfZ, ev_pfL, ev_pfR, ev_new, ev_newa, ev_newq, ev_copy, ev_slen, ev_schr, ev_obj, ev_mmin, ev_mabs, ev_mmax, ev_goto, ev_jsr, ev_icmp_eq, ev_if_eq, ev_icmp_ne, ev_if_ne, ev_icmp_lt, ev_if_lt, ev_icmp_ge, ev_if_ge, ev_icmp_gt, ev_if_gt, ev_icmp_le, ev_if_le, ev_ifnull0, ev_ifnull1, ev_ifnn0, ev_ifnn1, ev_tsw, ev_lsw, ev_iret, ev_zret, ev_lret, ev_aret, ev_ret, ev_call0, ev_call1, ev_call2, ev_call3, ev_call4, ev_call5, ev_call6, Option.toList_some, Option.toList_none, List.cons_append, List.nil_append, List.length_cons, List.length_nil, Nat.reduceMod, Nat.reduceDiv, Nat.reduceAdd, Nat.reduceLeDiff, nc, ↓reduceIte, Nat.zero_le, reduceCtorEq, w32_id, Int.reduceEq, Int.reduceNe, Int.reduceLT, Int.reduceLE, Int.reduceGT, Int.reduceGE, Int.reduceAdd, Int.reduceSub, Int.reduceMul, Int.reduceNeg, ne_eq, not_true_eq_false, not_false_eq_true, eq_self, r_price, r_worthOf, r_given, r_nearest, r_used, k_313_194, J_313_0, k_313_0, J_313_96, k_313_96, J_313_160, k_313_160, J_313_185, k_313_185, J_313_191, k_313_191, J_313_242, k_313_242, J_313_254, k_313_254, J_313_260, k_313_260, J_313_297, k_313_297, q0, f6, f9, q1, iu, e5, i5, nc_s]
      · rw [up_ne b5, up_ne b4]; exact f b b4 b5 b8
      · rw [up_ne (by omega)]
        by_cases z : c = i
        · rw [z, up_eq]
        · have z2 : M (m + 15) c ≠ M (m + 15) i := fun e => z (hi c i c0 (by omega) (by omega) (by omega) c2 q1 e)
          rw [up_ne2 z2]
          exact a1 c c0 (by omega) c2
      · have z := hx i (by omega) (by omega) q1
        rw [up_ne (by omega), up_ne2 (fun e => z e.symm)]
        exact a2 x fun c c0 c1 c2 => hx c c0 (by omega) c2
      · by_cases z : c = i
        · rw [z, up_eq, if_neg q1]
        · rw [up_ne2 z, up_ne (by omega)]; exact a3 c c0 (by omega)
      · rw [up_ne2 (by omega), up_ne (by omega)]
        exact a4 c (by omega)
      · rw [up_ne (by omega), up_ne (by omega)]
        by_cases z : c = i
        · rw [z, if_neg q1]; exact i8
        · exact a5 c c0 (by omega)
      · rw [up_ne (by omega), up_ne (by omega)]
        exact a6 c (by omega)) [some (vR (some m)), some (vI r), some (vI N), some (vI j0), some (vI x), some (vI s), some (vI t'), some (vI 0), w8] M ⟨rfl, fun _ _ _ _ => rfl, fun c c0 c1 => by omega, fun _ _ => rfl, fun c c0 c1 => by omega, fun _ _ => rfl, fun c c0 c1 => by omega, fun _ _ => rfl⟩
  subst hls
  have e : (((N + 1).toNat : Nat) : Int) = N + 1 := by omega
  rw [e] at a1 a2 a3 a4 a5 a6 he
  refine ⟨M', some (vI (N + 1)), f, fun c c0 c1 c2 => a1 c c0 (by omega) c2, fun x hx => a2 x (fun c c0 c1 c2 => hx c c0 (by omega) c2), fun c c0 c1 => a3 c c0 (by omega), fun c c0 c1 => a5 c c0 (by omega), ?_⟩
  simp (disch := first | assumption | decide | omega | (simp only [List.length_cons, List.length_nil] <;> omega)) only [lgt_0, lgt_s, lset_0, lset_s, lst1_0, lst1_s, lst2_0, lst2_s, ev_iconst, ev_lconst, ev_ldc, ev_null, ev_iload, ev_lload, ev_aload, ev_istore, ev_lstore, ev_astore, ev_iinc, ev_iadd, ev_isub, ev_imul, ev_iand, ev_ior, ev_ishl, ev_ishr, ev_idiv, ev_irem, ev_ineg, ev_ladd, ev_lsub, ev_lmul, ev_land, ev_lor, ev_ldiv, ev_lrem, ev_lshl, ev_i2l, ev_l2i, ev_i2b, ev_i2s, ev_lcmp, ev_dupI, ev_dupR, ev_dup2, ev_popI, ev_popR, ev_alen, ev_xlen, ev_xald, ev_iald, ev_lald, ev_bald, ev_zald, ev_aald, ev_iast, ev_last, ev_bast, ev_zast, ev_aast, ev_gfI, ev_gfL, ev_gfR, ev_pfI, ev_pfZ, ev_pfL, ev_pfR, ev_new, ev_newa, ev_newq, ev_copy, ev_slen, ev_schr, ev_obj, ev_mmin, ev_mabs, ev_mmax, ev_goto, ev_jsr, ev_icmp_eq, ev_if_eq, ev_icmp_ne, ev_if_ne, ev_icmp_lt, ev_if_lt, ev_icmp_ge, ev_if_ge, ev_icmp_gt, ev_if_gt, ev_icmp_le, ev_if_le, ev_ifnull0, ev_ifnull1, ev_ifnn0, ev_ifnn1, ev_tsw, ev_lsw, ev_iret, ev_zret, ev_lret, ev_aret, ev_ret, ev_call0, ev_call1, ev_call2, ev_call3, ev_call4, ev_call5, ev_call6, Option.toList_some, Option.toList_none, List.cons_append, List.nil_append, List.length_cons, List.length_nil, Nat.reduceMod, Nat.reduceDiv, Nat.reduceAdd, Nat.reduceLeDiff, nc, ↓reduceIte, Nat.zero_le, reduceCtorEq, w32_id, Int.reduceEq, Int.reduceNe, Int.reduceLT, Int.reduceLE, Int.reduceGT, Int.reduceGE, Int.reduceAdd, Int.reduceSub, Int.reduceMul, Int.reduceNeg, ne_eq, not_true_eq_false, not_false_eq_true, eq_self, J_313_0, k_313_0, J_313_96, k_313_96, J_313_160, k_313_160, J_313_185, k_313_185, J_313_191, k_313_191, J_313_242, k_313_242, J_313_254, k_313_254, J_313_260, k_313_260, J_313_297, k_313_297]
  rw [he]
  have q0 : N < N + 1 := by omega
  simp (disch := first | assumption | decide | omega | (simp only [List.length_cons, List.length_nil] <;> omega)) only [lgt_0, lgt_s, lset_0, lset_s, lst1_0, lst1_s, lst2_0, lst2_s, ev_iconst, ev_lconst, ev_ldc, ev_null, ev_iload, ev_lload, ev_aload, ev_istore, ev_lstore, ev_astore, ev_iinc, ev_iadd, ev_isub, ev_imul, ev_iand, ev_ior, ev_ishl, ev_ishr, ev_idiv, ev_irem, ev_ineg, ev_ladd, ev_lsub, ev_lmul, ev_land, ev_lor, ev_ldiv, ev_lrem, ev_lshl, ev_i2l, ev_l2i, ev_i2b, ev_i2s, ev_lcmp, ev_dupI, ev_dupR, ev_dup2, ev_popI, ev_popR, ev_alen, ev_xlen, ev_xald, ev_iald, ev_lald, ev_bald, ev_zald, ev_aald, ev_iast, ev_last, ev_bast, ev_zast, ev_aast, ev_gfI, ev_gfL, ev_gfR, ev_pfI, ev_pfZ, ev_pfL, ev_pfR, ev_new, ev_newa, ev_newq, ev_copy, ev_slen, ev_schr, ev_obj, ev_mmin, ev_mabs, ev_mmax, ev_goto, ev_jsr, ev_icmp_eq, ev_if_eq, ev_icmp_ne, ev_if_ne, ev_icmp_lt, ev_if_lt, ev_icmp_ge, ev_if_ge, ev_icmp_gt, ev_if_gt, ev_icmp_le, ev_if_le, ev_ifnull0, ev_ifnull1, ev_ifnn0, ev_ifnn1, ev_tsw, ev_lsw, ev_iret, ev_zret, ev_lret, ev_aret, ev_ret, ev_call0, ev_call1, ev_call2, ev_call3, ev_call4, ev_call5, ev_call6, Option.toList_some, Option.toList_none, List.cons_append, List.nil_append, List.length_cons, List.length_nil, Nat.reduceMod, Nat.reduceDiv, Nat.reduceAdd, Nat.reduceLeDiff, nc, ↓reduceIte, Nat.zero_le, reduceCtorEq, w32_id, Int.reduceEq, Int.reduceNe, Int.reduceLT, Int.reduceLE, Int.reduceGT, Int.reduceGE, Int.reduceAdd, Int.reduceSub, Int.reduceMul, Int.reduceNeg, ne_eq, not_true_eq_false, not_false_eq_true, eq_self, k_313_194, J_313_0, k_313_0, J_313_96, k_313_96, J_313_160, k_313_160, J_313_185, k_313_185, J_313_191, k_313_191, J_313_242, k_313_242, J_313_254, k_313_254, J_313_260, k_313_260, J_313_297, k_313_297, q0]
/-- the change along the tree -/
theorem m_change (h : MD Sh m) {N : Int} (hN : 1 ≤ N ∧ N ≤ 48) {G Pl : Int → Prop} {a : Int → Int → Int} {u v T f rk : Int → Int} {t : Int} (hf : M (m + 16) = f)
    (hj : HJ (zC N) G Pl (fun _ => False) 0 a 0 u v T f rk t (M (m + 15)) t) (hk : 0 ≤ rk t)
    (h1 : ∀ x c, G x → zC N c → u x + v c ≤ a x c) (h3 : ∀ c, zC N c → v c ≤ 0) (h5 : ∀ x, G x → 0 ≤ u x) {r : Int} {w4 w5 w6 w7 w8 : Option PV} :
    ∃ M', (∀ b, b ≠ m + 15 → M' b = M b) ∧ HB (zC N) G 0 a u v (M' (m + 15)) ∧ (∀ x, Pl x → (∃ c, zC N c ∧ M' (m + 15) c = x)) ∧ ev X 313 (jmp 313 266) [some (vR (some m)), some (vI r), some (vI N), some (vI t), w4, w5, w6, w7, w8] [] Sh M = some (none, Sh, M') := by
  have hk0 := h.1; obtain ⟨r_given, k_given, l_given⟩ := md_given h; obtain ⟨r_by, k_by, l_by⟩ := md_by h
  have key := ev_while (X := X) (y := 313) (Sh := Sh) (fun n ls M' => ∃ q w4, ls = [some (vR (some m)), some (vI r), some (vI N), some (vI q), w4, w5, w6, w7, w8] ∧ (∀ b, b ≠ m + 15 → M' b = M b) ∧ HJ (zC N) G Pl (fun _ => False) 0 a 0 u v T f rk t (M' (m + 15)) q ∧ 0 ≤ rk q ∧ n = (rk q).toNat)
    (fun o => ∃ M', (∀ b, b ≠ m + 15 → M' b = M b) ∧ HB (zC N) G 0 a u v (M' (m + 15)) ∧ (∀ x, Pl x → (∃ c, zC N c ∧ M' (m + 15) c = x)) ∧ o = some (none, Sh, M')) J_313_266 (fun n ls M' hI => by
    obtain ⟨q, w4, hls, fr, hj, k0, hm⟩ := hI
    subst hls
    have f7 := fr (m + 16) (by omega)
    rw [hf] at f7
    have hq2 := hj.1.2
    by_cases q1 : q = 0
    · refine Or.inr ?_
      subst q1
      have e := hj_end hj (fun z => by have := z.1; omega) h1 h3 h5 (h' := M' (m + 15)) (fun c hc => rfl)
      refine ⟨M', fr, e.1, fun x hx => ?_, ?_⟩
      · rcases e.2 x hx with z | z
        · exact z
        · exact z.elim
      · simp (disch := first | assumption | decide | omega | (simp only [List.length_cons, List.length_nil] <;> omega)) only [lgt_0, lgt_s, lset_0, lset_s, lst1_0, lst1_s, lst2_0, lst2_s, ev_iconst, ev_lconst, ev_ldc, ev_null, ev_iload, ev_lload, ev_aload, ev_istore, ev_lstore, ev_astore, ev_iinc, ev_iadd, ev_isub, ev_imul, ev_iand, ev_ior, ev_ishl, ev_ishr, ev_idiv, ev_irem, ev_ineg, ev_ladd, ev_lsub, ev_lmul, ev_land, ev_lor, ev_ldiv, ev_lrem, ev_lshl, ev_i2l, ev_l2i, ev_i2b, ev_i2s, ev_lcmp, ev_dupI, ev_dupR, ev_dup2, ev_popI, ev_popR, ev_alen, ev_xlen, ev_xald, ev_iald, ev_lald, ev_bald, ev_zald, ev_aald, ev_iast, ev_last, ev_bast, ev_zast, ev_aast, ev_gfI, ev_gfL, ev_gfR, ev_pfI, ev_pfZ, ev_pfL, ev_pfR, ev_new, ev_newa, ev_newq, ev_copy, ev_slen, ev_schr, ev_obj, ev_mmin, ev_mabs, ev_mmax, ev_goto, ev_jsr, ev_icmp_eq, ev_if_eq, ev_icmp_ne, ev_if_ne, ev_icmp_lt, ev_if_lt, ev_icmp_ge, ev_if_ge, ev_icmp_gt, ev_if_gt, ev_icmp_le, ev_if_le, ev_ifnull0, ev_ifnull1, ev_ifnn0, ev_ifnn1, ev_tsw, ev_lsw, ev_iret, ev_zret, ev_lret, ev_aret, ev_ret, ev_call0, ev_call1, ev_call2, ev_call3, ev_call4, ev_call5, ev_call6, Option.toList_some, Option.toList_none, List.cons_append, List.nil_append, List.length_cons, List.length_nil, Nat.reduceMod, Nat.reduceDiv, Nat.reduceAdd, Nat.reduceLeDiff, nc, ↓reduceIte, Nat.zero_le, reduceCtorEq, w32_id, Int.reduceEq, Int.reduceNe, Int.reduceLT, Int.reduceLE, Int.reduceGT, Int.reduceGE, Int.reduceAdd, Int.reduceSub, Int.reduceMul, Int.reduceNeg, ne_eq, not_true_eq_false, not_false_eq_true, eq_self, k_313_266, J_313_0, k_313_0, J_313_96, k_313_96, J_313_160, k_313_160, J_313_185, k_313_185, J_313_191, k_313_191, J_313_242, k_313_242, J_313_254, k_313_254, J_313_260, k_313_260, J_313_297, k_313_297]
    · have hq : 1 ≤ q ∧ q ≤ N := by
        rcases hq2 with z | z
        · exact z
        · exact absurd z q1
      have e5 := hj.2.2.2.2.2 q hj.1.1 q1 (Int.le_refl _)
      have hfq : 0 ≤ f q ∧ f q ≤ N := by
        rcases e5.1.2 with z | z
        · have := z.1; have := z.2; omega
        · omega
      refine Or.inl ?_
      have e6 := hj_s hj q1 (h' := up M' (m + 15) q (M' (m + 15) (f q)) (m + 15)) (Or.inl ⟨up_eq, fun c hc => up_ne2 hc⟩)
      refine ⟨_, _, up M' (m + 15) q (M' (m + 15) (f q)), ?_, ⟨f q, some (vI (f q)), rfl, fun b hb => by rw [up_ne hb]; exact fr b hb, e6.1, e6.2.1, rfl⟩, ?_⟩
      · have := e6.2; omega
      · simp (disch := first | assumption | decide | omega | (simp only [List.length_cons, List.length_nil] <;> omega)) only [lgt_0, lgt_s, lset_0, lset_s, lst1_0, lst1_s, lst2_0, lst2_s, ev_iconst, ev_lconst, ev_ldc, ev_null, ev_iload, ev_lload, ev_aload, ev_istore, ev_lstore, ev_astore, ev_iinc, ev_iadd, ev_isub, ev_imul, ev_iand, ev_ior, ev_ishl, ev_ishr, ev_idiv, ev_irem, ev_ineg, ev_ladd, ev_lsub, ev_lmul, ev_land, ev_lor, ev_ldiv, ev_lrem, ev_lshl, ev_i2l, ev_l2i, ev_i2b, ev_i2s, ev_lcmp, ev_dupI, ev_dupR, ev_dup2, ev_popI, ev_popR, ev_alen, ev_xlen, ev_xald, ev_iald, ev_lald, ev_bald, ev_zald, ev_aald, ev_iast, ev_last, ev_bast, ev_zast, ev_aast, ev_gfI, ev_gfL, ev_gfR, ev_pfI, ev_pfZ, ev_pfL, ev_pfR, ev_new, ev_newa, ev_newq, ev_copy, ev_slen, ev_schr, ev_obj, ev_mmin, ev_mabs, ev_mmax, ev_goto, ev_jsr, ev_icmp_eq, ev_if_eq, ev_icmp_ne, ev_if_ne, ev_icmp_lt, ev_if_lt, ev_icmp_ge, ev_if_ge, ev_icmp_gt, ev_if_gt, ev_icmp_le, ev_if_le, ev_ifnull0, ev_ifnull1, ev_ifnn0, ev_ifnn1, ev_tsw, ev_lsw, ev_iret, ev_zret, ev_lret, ev_aret, ev_ret, ev_call0, ev_call1, ev_call2, ev_call3, ev_call4, ev_call5, ev_call6, Option.toList_some, Option.toList_none, List.cons_append, List.nil_append, List.length_cons, List.length_nil, Nat.reduceMod, Nat.reduceDiv, Nat.reduceAdd, Nat.reduceLeDiff, nc, ↓reduceIte, Nat.zero_le, reduceCtorEq, w32_id, Int.reduceEq, Int.reduceNe, Int.reduceLT, Int.reduceLE, Int.reduceGT, Int.reduceGE, Int.reduceAdd, Int.reduceSub, Int.reduceMul, Int.reduceNeg, ne_eq, not_true_eq_false, not_false_eq_true, eq_self, r_given, r_by, k_313_266, J_313_0, k_313_0, J_313_96, k_313_96, J_313_160, k_313_160, J_313_185, k_313_185, J_313_191, k_313_191, J_313_242, k_313_242, J_313_254, k_313_254, J_313_260, k_313_260, J_313_297, k_313_297, q1, f7])
  have e := key (rk t).toNat [some (vR (some m)), some (vI r), some (vI N), some (vI t), w4, w5, w6, w7, w8] M ⟨t, w4, rfl, fun _ _ => rfl, hj, hk, rfl⟩
  exact e
end MGR
