/-! BLOCKS (chart, plan, directions) copied: for marks. -/
def DI (d : Nat) : Prop := knd SH0 d = 4 ∧ (rfs SH0 d 0 = some (d + 1) ∧ rfs SH0 d 1 = some (d + 2) ∧ rfs SH0 d 2 = some (d + 3)) ∧ (knd SH0 (d + 1) = 100 ∧ knd SH0 (d + 2) = 100 ∧ knd SH0 (d + 3) = 100) ∧ len SH0 (d + 1) = 80 ∧ len SH0 (d + 2) = 80 ∧ len SH0 (d + 3) = 80
theorem di16 : DI 16 := by unfold DI; refine ⟨?_, ⟨?_, ?_, ?_⟩, ⟨?_, ?_, ?_⟩, ?_, ?_, ?_⟩ <;> rfl
theorem di102 : DI 102 := by unfold DI; refine ⟨?_, ⟨?_, ?_, ?_⟩, ⟨?_, ?_, ?_⟩, ?_, ?_, ?_⟩ <;> rfl
theorem di119 : DI 119 := by unfold DI; refine ⟨?_, ⟨?_, ?_, ?_⟩, ⟨?_, ?_, ?_⟩, ?_, ?_, ?_⟩ <;> rfl
theorem di136 : DI 136 := by unfold DI; refine ⟨?_, ⟨?_, ?_, ?_⟩, ⟨?_, ?_, ?_⟩, ?_, ?_, ?_⟩ <;> rfl
theorem stk_congr {K K' : Int → Int} : ∀ {l : Nat}, (∀ j : Nat, j < l → K' j = K j) → stk K' l = stk K l
  | 0, _ => rfl
  | l + 1, h => by
    have e := stk_congr (K := K) (K' := K') (l := l) (fun j hj => h j (by omega))
    show (if K' l = 2 then l :: stk K' l else if K' l = 3 then (stk K' l).tail else stk K' l) = (if K l = 2 then l :: stk K l else if K l = 3 then (stk K l).tail else stk K l)
    rw [h l (by omega), e]
theorem RDi_copy {K C N K' C' N' D : Int → Int} {li th li' th' nc : Int} (h : ∀ k, 0 ≤ k → k < 80 → K' k = K k ∧ C' k = C k ∧ N' k = N k) (h1 : li' = li) (h2 : th' = th) (r : RDi K C N li th D nc) : RDi K' C' N' li' th' D nc := by
  subst h1 h2
  rcases r with r | ⟨r1, r2, r3, r4, r5, r6, r7, r8⟩
  · exact Or.inl r
  · refine Or.inr ⟨r1, r2, r3, r4, fun l l0 l1 => ?_, fun l l1 l2 => ?_, fun l l1 => ?_, ?_⟩
    · have e := h l l0 (by omega)
      rw [e.1, e.2.1, e.2.2]
      exact r5 l l0 l1
    · have e := stk_congr (K := K) (K' := K') (l := l) (fun j hj => (h j (by omega) (by omega)).1)
      rw [(h l (by omega) (by omega)).1] at l2
      rw [e]
      exact r6 l l1 l2
    · have e := stk_congr (K := K) (K' := K') (l := l) (fun j hj => (h j (by omega) (by omega)).1)
      rw [e]
      exact r7 l l1
    · have e := stk_congr (K := K) (K' := K') (l := li'.toNat) (fun j hj => (h j (by omega) (by omega)).1)
      rw [e]
      exact r8
section BLK
variable {X : Int → Int} {M : Mem}
theorem s_dcopy {d e : Nat} (hd : DI d) (he : DI e) (hde : d + 3 < e ∨ e + 3 < d) (hb : M e 5 = 0 ∨ M e 5 = 1) : ∃ M', (∀ b, (b < d ∨ d + 3 < b) → M' b = M b) ∧ (∀ k, 0 ≤ k → k < 80 → M' (d + 1) k = M (e + 1) k ∧ M' (d + 2) k = M (e + 2) k ∧ M' (d + 3) k = M (e + 3) k) ∧ M' d 3 = M e 3 ∧ M' d 5 = M e 5 ∧ evc X 88 [vR (some d), vR (some e)] SH0 M = some (none, SH0, M') := by
  obtain ⟨dk, ⟨dr0, dr1, dr2⟩, ⟨dk1, dk2, dk3⟩, dl1, dl2, dl3⟩ := hd
  obtain ⟨ek, ⟨er0, er1, er2⟩, ⟨ek1, ek2, ek3⟩, el1, el2, el3⟩ := he
  have k1 : knd SH0 (e + 1) = knd SH0 (d + 1) := by rw [dk1, ek1]
  have k2 : knd SH0 (e + 2) = knd SH0 (d + 2) := by rw [dk2, ek2]
  have k3 : knd SH0 (e + 3) = knd SH0 (d + 3) := by rw [dk3, ek3]
  have o1 : knd SH0 (d + 1) = 100 ∨ knd SH0 (d + 1) = 101 := Or.inl dk1
  have o2 : knd SH0 (d + 2) = 100 ∨ knd SH0 (d + 2) = 101 := Or.inl dk2
  have o3 : knd SH0 (d + 3) = 100 ∨ knd SH0 (d + 3) = 101 := Or.inl dk3
  generalize hM3 : cpy (cpy (cpy M (e + 1) 0 (d + 1) 0 80) (e + 2) 0 (d + 2) 0 80) (e + 3) 0 (d + 3) 0 80 = M3
  have e0 : M3 e = M e := by rw [← hM3]; simp (disch := omega) only [cpy_no]
  have f3 : ∀ n z, up M3 d n z e = M e := fun n z => by rw [up_ne (by omega)]; exact e0
  have f4 : ∀ n z n' z', up (up M3 d n z) d n' z' e = M e := fun n z n' z' => by rw [up_ne (by omega), up_ne (by omega)]; exact e0
  refine ⟨up (up (up M3 d 3 (M e 3)) d 4 (M e 4)) d 5 (M e 5), fun b hb => ?_, fun k k0 k1 => ?_, ?_, ?_, ?_⟩
  · rw [up_ne (by omega), up_ne (by omega), up_ne (by omega), ← hM3]
    simp (disch := omega) only [cpy_no]
  · rw [up_ne (by omega), up_ne (by omega), up_ne (by omega), up_ne (by omega), up_ne (by omega), up_ne (by omega), up_ne (by omega), up_ne (by omega), up_ne (by omega), ← hM3]
    refine ⟨?_, ?_, ?_⟩ <;> simp (disch := omega) only [cpy_no, cpy_in]
  · rw [up_ne2 (by omega), up_ne2 (by omega), up_eq]
  · rw [up_eq]
  · rw [E_88 dk]
    rcases hb with hb | hb
    · rw [hb]
      simp (disch := first | assumption | decide | omega | (simp only [List.length_cons, List.length_nil] <;> omega)) only [lgt_0, lgt_s, lset_0, lset_s, lst1_0, lst1_s, lst2_0, lst2_s, ev_iconst, ev_lconst, ev_ldc, ev_null, ev_iload, ev_lload, ev_aload, ev_istore, ev_lstore, ev_astore, ev_iinc, ev_iadd, ev_isub, ev_imul, ev_iand, ev_ior, ev_ishl, ev_ishr, ev_idiv, ev_irem, ev_ineg, ev_ladd, ev_lsub, ev_lmul, ev_land, ev_lor, ev_ldiv, ev_lrem, ev_lshl, ev_i2l, ev_l2i, ev_i2b, ev_i2s, ev_lcmp, ev_dupI, ev_dupR, ev_dup2, ev_popI, ev_popR, ev_alen, ev_xlen, ev_xald, ev_iald, ev_lald, ev_bald, ev_zald, ev_aald, ev_iast, ev_last, ev_bast, ev_zast, ev_aast, ev_gfI, ev_gfL, ev_gfR, ev_pfI, ev_pfZ, ev_pfL, ev_pfR, ev_new, ev_newa, ev_newq, ev_copy, ev_slen, ev_schr, ev_obj, ev_mmin, ev_mabs, ev_mmax, ev_goto, ev_jsr, ev_icmp_eq, ev_if_eq, ev_icmp_ne, ev_if_ne, ev_icmp_lt, ev_if_lt, ev_icmp_ge, ev_if_ge, ev_icmp_gt, ev_if_gt, ev_icmp_le, ev_if_le, ev_ifnull0, ev_ifnull1, ev_ifnn0, ev_ifnn1, ev_tsw, ev_lsw, ev_iret, ev_zret, ev_lret, ev_aret, ev_ret, ev_call0, ev_call1, ev_call2, ev_call3, ev_call4, ev_call5, ev_call6, Option.toList_some, Option.toList_none, List.cons_append, List.nil_append, List.length_cons, List.length_nil, Nat.reduceMod, Nat.reduceDiv, Nat.reduceLeDiff, nc, ↓reduceIte, Nat.zero_le, reduceCtorEq, w32_id, Int.reduceEq, Int.reduceNe, Int.reduceLT, Int.reduceLE, Int.reduceGT, Int.reduceGE, Int.reduceAdd, Int.reduceSub, Int.reduceMul, Int.reduceNeg, ne_eq, not_true_eq_false, not_false_eq_true, eq_self, ↓if_pos, ↓if_neg, J_88_0, k_88_0, ev_copy, dr0, dr1, dr2, er0, er1, er2, hM3, e0, f3, f4, hb]
    · rw [hb]
      simp (disch := first | assumption | decide | omega | (simp only [List.length_cons, List.length_nil] <;> omega)) only [lgt_0, lgt_s, lset_0, lset_s, lst1_0, lst1_s, lst2_0, lst2_s, ev_iconst, ev_lconst, ev_ldc, ev_null, ev_iload, ev_lload, ev_aload, ev_istore, ev_lstore, ev_astore, ev_iinc, ev_iadd, ev_isub, ev_imul, ev_iand, ev_ior, ev_ishl, ev_ishr, ev_idiv, ev_irem, ev_ineg, ev_ladd, ev_lsub, ev_lmul, ev_land, ev_lor, ev_ldiv, ev_lrem, ev_lshl, ev_i2l, ev_l2i, ev_i2b, ev_i2s, ev_lcmp, ev_dupI, ev_dupR, ev_dup2, ev_popI, ev_popR, ev_alen, ev_xlen, ev_xald, ev_iald, ev_lald, ev_bald, ev_zald, ev_aald, ev_iast, ev_last, ev_bast, ev_zast, ev_aast, ev_gfI, ev_gfL, ev_gfR, ev_pfI, ev_pfZ, ev_pfL, ev_pfR, ev_new, ev_newa, ev_newq, ev_copy, ev_slen, ev_schr, ev_obj, ev_mmin, ev_mabs, ev_mmax, ev_goto, ev_jsr, ev_icmp_eq, ev_if_eq, ev_icmp_ne, ev_if_ne, ev_icmp_lt, ev_if_lt, ev_icmp_ge, ev_if_ge, ev_icmp_gt, ev_if_gt, ev_icmp_le, ev_if_le, ev_ifnull0, ev_ifnull1, ev_ifnn0, ev_ifnn1, ev_tsw, ev_lsw, ev_iret, ev_zret, ev_lret, ev_aret, ev_ret, ev_call0, ev_call1, ev_call2, ev_call3, ev_call4, ev_call5, ev_call6, Option.toList_some, Option.toList_none, List.cons_append, List.nil_append, List.length_cons, List.length_nil, Nat.reduceMod, Nat.reduceDiv, Nat.reduceLeDiff, nc, ↓reduceIte, Nat.zero_le, reduceCtorEq, w32_id, Int.reduceEq, Int.reduceNe, Int.reduceLT, Int.reduceLE, Int.reduceGT, Int.reduceGE, Int.reduceAdd, Int.reduceSub, Int.reduceMul, Int.reduceNeg, ne_eq, not_true_eq_false, not_false_eq_true, eq_self, ↓if_pos, ↓if_neg, J_88_0, k_88_0, ev_copy, dr0, dr1, dr2, er0, er1, er2, hM3, e0, f3, f4, hb]
/-- a chart at s, a plan at s + 9, directions at s + 12 -/
def BL (s : Nat) : Prop := CH SH0 s ∧ PL SH0 (s + 9) ∧ DI (s + 12)
def BK (M : Mem) (s : Nat) (A NM G D : Int → Int) : Prop := RC1 M s A NM ∧ RPl (M (s + 9 + 1)) (M (s + 9 + 2)) G A ∧ RDi (M (s + 12 + 1)) (M (s + 12 + 2)) (M (s + 12 + 3)) (M (s + 12) 3) (M (s + 12) 5) D (A 2)
theorem bl_copy {s t : Nat} {A NM G D : Int → Int} (hs : BL s) (ht : BL t) (hst : s + 15 < t ∨ t + 15 < s) (r : BK M s A NM G D) : ∃ M1 M2 M3, evc X 74 [vR (some t), vR (some s)] SH0 M = some (none, SH0, M1) ∧ evc X 118 [vR (some (t + 9)), vR (some (s + 9))] SH0 M1 = some (none, SH0, M2) ∧ evc X 88 [vR (some (t + 12)), vR (some (s + 12))] SH0 M2 = some (none, SH0, M3) ∧ (∀ b, (b < t ∨ t + 15 < b) → M3 b = M b) ∧ BK M3 t A NM G D := by
  obtain ⟨r1, r2, r3⟩ := r
  have n := (rch_A r1).2.1
  obtain ⟨M1, f1, a1, a2, a3, a4, e1⟩ := s_chcopy (X := X) (M := M) ht.1 hs.1 (by omega)
  have e2 := s_pcopy (X := X) (M := M1) ht.2.1 hs.2.1
  generalize hM2 : cpy (cpy M1 (s + 9 + 1) 0 (t + 9 + 1) 0 48) (s + 9 + 2) 0 (t + 9 + 2) 0 48 = M2 at e2
  have f2 : ∀ b, b ≠ t + 9 + 1 → b ≠ t + 9 + 2 → M2 b = M1 b := fun b b1 b2 => by rw [← hM2, cpy_no b2, cpy_no b1]
  have p1 : ∀ i, 0 ≤ i → i < 48 → M2 (t + 9 + 1) i = M (s + 9 + 1) i := fun i a b => by rw [← hM2, cpy_no (by omega), cpy_in ⟨a, b⟩, f1 _ (by omega)]
  have p2 : ∀ i, 0 ≤ i → i < 48 → M2 (t + 9 + 2) i = M (s + 9 + 2) i := fun i a b => by rw [← hM2, cpy_in ⟨a, b⟩, cpy_no (by omega), f1 _ (by omega)]
  have g : ∀ b, s + 9 < b → b ≤ s + 15 → M2 b = M b := fun b b0 b1 => by rw [f2 b (by omega) (by omega), f1 b (by omega)]
  obtain ⟨M3, f3, d1, d2, d3, e3⟩ := s_dcopy (X := X) (M := M2) ht.2.2 hs.2.2 (by omega) (by
    rw [g (s + 12) (by omega) (by omega)]
    rcases r3 with z | z
    · exact Or.inl z.2
    · exact Or.inr z.1)
  refine ⟨M1, M2, M3, e1, e2, e3, fun b hb => by rw [f3 b (by omega), f2 b (by omega) (by omega), f1 b (by omega)], ?_, ⟨fun i a b => ?_, ?_⟩, ?_⟩
  · exact RC1_c (fun b x y => by rw [f3 b (by omega), f2 b (by omega) (by omega)]) (RC1_copy r1 a1 a2 a3 a4)
  · rw [f3 (t + 9 + 1) (by omega), p1 i a b]
    exact r2.1 i a b
  · rw [f3 (t + 9 + 1) (by omega), f3 (t + 9 + 2) (by omega)]
    exact pl_ext r2.2 n.2 p1 p2
  · rw [d2, d3, g (s + 12) (by omega) (by omega)]
    refine RDi_copy (fun k a b => ?_) rfl rfl r3
    have e := d1 k a b
    rw [e.1, e.2.1, e.2.2, g (s + 12 + 1) (by omega) (by omega), g (s + 12 + 2) (by omega) (by omega), g (s + 12 + 3) (by omega) (by omega)]
    exact ⟨rfl, rfl, rfl⟩
theorem m_copies {a b : Int} (ha : 0 ≤ a ∧ a ≤ 3) (hb : 0 ≤ b ∧ b ≤ 3) (hab : a ≠ b) : ∃ M', (∀ c, c ≠ 140 + 1 → c ≠ 140 + 2 → M' c = M c) ∧ (∀ j, (j < 480 * b ∨ 480 * b + 480 ≤ j) → M' (140 + 1) j = M (140 + 1) j) ∧ (∀ k, 0 ≤ k → k < 480 → M' (140 + 1) (480 * b + k) = M (140 + 1) (480 * a + k)) ∧ (∀ j, (j < 5 * b ∨ 5 * b + 5 ≤ j) → M' (140 + 2) j = M (140 + 2) j) ∧ (∀ k, 0 ≤ k → k < 5 → M' (140 + 2) (5 * b + k) = M (140 + 2) (5 * a + k)) ∧ evc X 363 [vR (some 140), vI a, vI b] SH0 M = some (none, SH0, M') := by
  have mk0 := w0_k140
  obtain ⟨r_at, k_at, l_at⟩ := md_at w0_md140; obtain ⟨r_names, k_names, l_names⟩ := md_names w0_md140
  obtain ⟨ls', M1, ⟨hls, fr, i1, i2⟩, he⟩ := ev_for (X := X) (y := 363) (Sh := SH0) (fun i ls M' => ls = [some (vR (some 140)), some (vI a), some (vI b), some (vI (i : Int))] ∧ (∀ c, c ≠ 140 + 1 → M' c = M c) ∧ (∀ j, (j < 480 * b ∨ 480 * b + (i : Int) ≤ j) → M' (140 + 1) j = M (140 + 1) j) ∧ (∀ k : Int, 0 ≤ k → k < i → M' (140 + 1) (480 * b + k) = M (140 + 1) (480 * a + k))) J_363_2 480 (fun i hi ls M' hI => by
    obtain ⟨hls, fr, i1, i2⟩ := hI
    subst hls
    have e := i1 (480 * a + (i : Int)) (by omega)
    refine ⟨_, up M' (140 + 1) (480 * b + (i : Int)) (M (140 + 1) (480 * a + (i : Int))), ⟨rfl, fun c hc => by simp (disch := omega) only [up_ne, up_eq, up_ne2]; exact fr c hc, fun j hj => by simp (disch := omega) only [up_ne, up_eq, up_ne2]; exact i1 j (by omega), fun k k0 k1 => ?_⟩, ?_⟩
    · by_cases z : k = i
      · subst z; simp (disch := omega) only [up_ne, up_eq, up_ne2]
      · simp (disch := omega) only [up_ne, up_eq, up_ne2]; exact i2 k k0 (by omega)
    · simp (disch := first | assumption | decide | omega | (simp only [List.length_cons, List.length_nil] <;> omega)) only [lgt_0, lgt_s, lset_0, lset_s, lst1_0, lst1_s, lst2_0, lst2_s, ev_iconst, ev_lconst, ev_ldc, ev_null, ev_iload, ev_lload, ev_aload, ev_istore, ev_lstore, ev_astore, ev_iinc, ev_iadd, ev_isub, ev_imul, ev_iand, ev_ior, ev_ishl, ev_ishr, ev_idiv, ev_irem, ev_ineg, ev_ladd, ev_lsub, ev_lmul, ev_land, ev_lor, ev_ldiv, ev_lrem, ev_lshl, ev_i2l, ev_l2i, ev_i2b, ev_i2s, ev_lcmp, ev_dupI, ev_dupR, ev_dup2, ev_popI, ev_popR, ev_alen, ev_xlen, ev_xald, ev_iald, ev_lald, ev_bald, ev_zald, ev_aald, ev_iast, ev_last, ev_bast, ev_zast, ev_aast, ev_gfI, ev_gfL, ev_gfR, ev_pfI, ev_pfZ, ev_pfL, ev_pfR, ev_new, ev_newa, ev_newq, ev_copy, ev_slen, ev_schr, ev_obj, ev_mmin, ev_mabs, ev_mmax, ev_goto, ev_jsr, ev_icmp_eq, ev_if_eq, ev_icmp_ne, ev_if_ne, ev_icmp_lt, ev_if_lt, ev_icmp_ge, ev_if_ge, ev_icmp_gt, ev_if_gt, ev_icmp_le, ev_if_le, ev_ifnull0, ev_ifnull1, ev_ifnn0, ev_ifnn1, ev_tsw, ev_lsw, ev_iret, ev_zret, ev_lret, ev_aret, ev_ret, ev_call0, ev_call1, ev_call2, ev_call3, ev_call4, ev_call5, ev_call6, Option.toList_some, Option.toList_none, List.cons_append, List.nil_append, List.length_cons, List.length_nil, Nat.reduceMod, Nat.reduceDiv, Nat.reduceLeDiff, nc, ↓reduceIte, Nat.zero_le, reduceCtorEq, w32_id, Int.reduceEq, Int.reduceNe, Int.reduceLT, Int.reduceLE, Int.reduceGT, Int.reduceGE, Int.reduceAdd, Int.reduceSub, Int.reduceMul, Int.reduceNeg, ne_eq, not_true_eq_false, not_false_eq_true, eq_self, ↓if_pos, ↓if_neg, J_363_0, k_363_0, J_363_39, k_363_39, J_363_72, k_363_72, k_363_2, r_at, e, nc_s]) [some (vR (some 140)), some (vI a), some (vI b), some (vI 0)] M ⟨rfl, fun _ _ => rfl, fun _ _ => rfl, fun j a b => by omega⟩
  subst hls
  obtain ⟨ls', M2, ⟨hls, fr2, j1, j2⟩, he2⟩ := ev_for (X := X) (y := 363) (Sh := SH0) (fun i ls M' => ls = [some (vR (some 140)), some (vI a), some (vI b), some (vI (i : Int))] ∧ (∀ c, c ≠ 140 + 2 → M' c = M1 c) ∧ (∀ j, (j < 5 * b ∨ 5 * b + (i : Int) ≤ j) → M' (140 + 2) j = M (140 + 2) j) ∧ (∀ k : Int, 0 ≤ k → k < i → M' (140 + 2) (5 * b + k) = M (140 + 2) (5 * a + k))) J_363_41 5 (fun i hi ls M' hI => by
    obtain ⟨hls, fr2, i1, i2⟩ := hI
    subst hls
    have e := i1 (5 * a + (i : Int)) (by omega)
    refine ⟨_, up M' (140 + 2) (5 * b + (i : Int)) (M (140 + 2) (5 * a + (i : Int))), ⟨rfl, fun c hc => by simp (disch := omega) only [up_ne, up_eq, up_ne2]; exact fr2 c hc, fun j hj => by simp (disch := omega) only [up_ne, up_eq, up_ne2]; exact i1 j (by omega), fun k k0 k1 => ?_⟩, ?_⟩
    · by_cases z : k = i
      · subst z; simp (disch := omega) only [up_ne, up_eq, up_ne2]
      · simp (disch := omega) only [up_ne, up_eq, up_ne2]; exact i2 k k0 (by omega)
    · simp (disch := first | assumption | decide | omega | (simp only [List.length_cons, List.length_nil] <;> omega)) only [lgt_0, lgt_s, lset_0, lset_s, lst1_0, lst1_s, lst2_0, lst2_s, ev_iconst, ev_lconst, ev_ldc, ev_null, ev_iload, ev_lload, ev_aload, ev_istore, ev_lstore, ev_astore, ev_iinc, ev_iadd, ev_isub, ev_imul, ev_iand, ev_ior, ev_ishl, ev_ishr, ev_idiv, ev_irem, ev_ineg, ev_ladd, ev_lsub, ev_lmul, ev_land, ev_lor, ev_ldiv, ev_lrem, ev_lshl, ev_i2l, ev_l2i, ev_i2b, ev_i2s, ev_lcmp, ev_dupI, ev_dupR, ev_dup2, ev_popI, ev_popR, ev_alen, ev_xlen, ev_xald, ev_iald, ev_lald, ev_bald, ev_zald, ev_aald, ev_iast, ev_last, ev_bast, ev_zast, ev_aast, ev_gfI, ev_gfL, ev_gfR, ev_pfI, ev_pfZ, ev_pfL, ev_pfR, ev_new, ev_newa, ev_newq, ev_copy, ev_slen, ev_schr, ev_obj, ev_mmin, ev_mabs, ev_mmax, ev_goto, ev_jsr, ev_icmp_eq, ev_if_eq, ev_icmp_ne, ev_if_ne, ev_icmp_lt, ev_if_lt, ev_icmp_ge, ev_if_ge, ev_icmp_gt, ev_if_gt, ev_icmp_le, ev_if_le, ev_ifnull0, ev_ifnull1, ev_ifnn0, ev_ifnn1, ev_tsw, ev_lsw, ev_iret, ev_zret, ev_lret, ev_aret, ev_ret, ev_call0, ev_call1, ev_call2, ev_call3, ev_call4, ev_call5, ev_call6, Option.toList_some, Option.toList_none, List.cons_append, List.nil_append, List.length_cons, List.length_nil, Nat.reduceMod, Nat.reduceDiv, Nat.reduceLeDiff, nc, ↓reduceIte, Nat.zero_le, reduceCtorEq, w32_id, Int.reduceEq, Int.reduceNe, Int.reduceLT, Int.reduceLE, Int.reduceGT, Int.reduceGE, Int.reduceAdd, Int.reduceSub, Int.reduceMul, Int.reduceNeg, ne_eq, not_true_eq_false, not_false_eq_true, eq_self, ↓if_pos, ↓if_neg, J_363_0, k_363_0, J_363_39, k_363_39, J_363_72, k_363_72, k_363_41, r_names, e, nc_s]) [some (vR (some 140)), some (vI a), some (vI b), some (vI 0)] M1 ⟨rfl, fun _ _ => rfl, fun j _ => by rw [fr (140 + 2) (by omega)], fun j a b => by omega⟩
  subst hls
  refine ⟨M2, fun c c1 c2 => by rw [fr2 c c2, fr c c1], fun j hj => by rw [fr2 (140 + 1) (by omega)]; exact i1 j (by omega), fun k a b => by rw [fr2 (140 + 1) (by omega)]; exact i2 k a (by omega), fun j hj => j1 j (by omega), fun k a b => j2 k a (by omega), ?_⟩
  rw [E_363 mk0]
  simp (disch := first | assumption | decide | omega | (simp only [List.length_cons, List.length_nil] <;> omega)) only [lgt_0, lgt_s, lset_0, lset_s, lst1_0, lst1_s, lst2_0, lst2_s, ev_iconst, ev_lconst, ev_ldc, ev_null, ev_iload, ev_lload, ev_aload, ev_istore, ev_lstore, ev_astore, ev_iinc, ev_iadd, ev_isub, ev_imul, ev_iand, ev_ior, ev_ishl, ev_ishr, ev_idiv, ev_irem, ev_ineg, ev_ladd, ev_lsub, ev_lmul, ev_land, ev_lor, ev_ldiv, ev_lrem, ev_lshl, ev_i2l, ev_l2i, ev_i2b, ev_i2s, ev_lcmp, ev_dupI, ev_dupR, ev_dup2, ev_popI, ev_popR, ev_alen, ev_xlen, ev_xald, ev_iald, ev_lald, ev_bald, ev_zald, ev_aald, ev_iast, ev_last, ev_bast, ev_zast, ev_aast, ev_gfI, ev_gfL, ev_gfR, ev_pfI, ev_pfZ, ev_pfL, ev_pfR, ev_new, ev_newa, ev_newq, ev_copy, ev_slen, ev_schr, ev_obj, ev_mmin, ev_mabs, ev_mmax, ev_goto, ev_jsr, ev_icmp_eq, ev_if_eq, ev_icmp_ne, ev_if_ne, ev_icmp_lt, ev_if_lt, ev_icmp_ge, ev_if_ge, ev_icmp_gt, ev_if_gt, ev_icmp_le, ev_if_le, ev_ifnull0, ev_ifnull1, ev_ifnn0, ev_ifnn1, ev_tsw, ev_lsw, ev_iret, ev_zret, ev_lret, ev_aret, ev_ret, ev_call0, ev_call1, ev_call2, ev_call3, ev_call4, ev_call5, ev_call6, Option.toList_some, Option.toList_none, List.cons_append, List.nil_append, List.length_cons, List.length_nil, Nat.reduceMod, Nat.reduceDiv, Nat.reduceLeDiff, nc, ↓reduceIte, Nat.zero_le, reduceCtorEq, w32_id, Int.reduceEq, Int.reduceNe, Int.reduceLT, Int.reduceLE, Int.reduceGT, Int.reduceGE, Int.reduceAdd, Int.reduceSub, Int.reduceMul, Int.reduceNeg, ne_eq, not_true_eq_false, not_false_eq_true, eq_self, ↓if_pos, ↓if_neg, J_363_0, k_363_0, J_363_39, k_363_39, J_363_72, k_363_72, ]
  rw [he]
  simp (disch := first | assumption | decide | omega | (simp only [List.length_cons, List.length_nil] <;> omega)) only [lgt_0, lgt_s, lset_0, lset_s, lst1_0, lst1_s, lst2_0, lst2_s, ev_iconst, ev_lconst, ev_ldc, ev_null, ev_iload, ev_lload, ev_aload, ev_istore, ev_lstore, ev_astore, ev_iinc, ev_iadd, ev_isub, ev_imul, ev_iand, ev_ior, ev_ishl, ev_ishr, ev_idiv, ev_irem, ev_ineg, ev_ladd, ev_lsub, ev_lmul, ev_land, ev_lor, ev_ldiv, ev_lrem, ev_lshl, ev_i2l, ev_l2i, ev_i2b, ev_i2s, ev_lcmp, ev_dupI, ev_dupR, ev_dup2, ev_popI, ev_popR, ev_alen, ev_xlen, ev_xald, ev_iald, ev_lald, ev_bald, ev_zald, ev_aald, ev_iast, ev_last, ev_bast, ev_zast, ev_aast, ev_gfI, ev_gfL, ev_gfR, ev_pfI, ev_pfZ, ev_pfL, ev_pfR, ev_new, ev_newa, ev_newq, ev_copy, ev_slen, ev_schr, ev_obj, ev_mmin, ev_mabs, ev_mmax, ev_goto, ev_jsr, ev_icmp_eq, ev_if_eq, ev_icmp_ne, ev_if_ne, ev_icmp_lt, ev_if_lt, ev_icmp_ge, ev_if_ge, ev_icmp_gt, ev_if_gt, ev_icmp_le, ev_if_le, ev_ifnull0, ev_ifnull1, ev_ifnn0, ev_ifnn1, ev_tsw, ev_lsw, ev_iret, ev_zret, ev_lret, ev_aret, ev_ret, ev_call0, ev_call1, ev_call2, ev_call3, ev_call4, ev_call5, ev_call6, Option.toList_some, Option.toList_none, List.cons_append, List.nil_append, List.length_cons, List.length_nil, Nat.reduceMod, Nat.reduceDiv, Nat.reduceLeDiff, nc, ↓reduceIte, Nat.zero_le, reduceCtorEq, w32_id, Int.reduceEq, Int.reduceNe, Int.reduceLT, Int.reduceLE, Int.reduceGT, Int.reduceGE, Int.reduceAdd, Int.reduceSub, Int.reduceMul, Int.reduceNeg, ne_eq, not_true_eq_false, not_false_eq_true, eq_self, ↓if_pos, ↓if_neg, J_363_0, k_363_0, J_363_39, k_363_39, J_363_72, k_363_72, k_363_2]
  rw [he2]
  simp (disch := first | assumption | decide | omega | (simp only [List.length_cons, List.length_nil] <;> omega)) only [lgt_0, lgt_s, lset_0, lset_s, lst1_0, lst1_s, lst2_0, lst2_s, ev_iconst, ev_lconst, ev_ldc, ev_null, ev_iload, ev_lload, ev_aload, ev_istore, ev_lstore, ev_astore, ev_iinc, ev_iadd, ev_isub, ev_imul, ev_iand, ev_ior, ev_ishl, ev_ishr, ev_idiv, ev_irem, ev_ineg, ev_ladd, ev_lsub, ev_lmul, ev_land, ev_lor, ev_ldiv, ev_lrem, ev_lshl, ev_i2l, ev_l2i, ev_i2b, ev_i2s, ev_lcmp, ev_dupI, ev_dupR, ev_dup2, ev_popI, ev_popR, ev_alen, ev_xlen, ev_xald, ev_iald, ev_lald, ev_bald, ev_zald, ev_aald, ev_iast, ev_last, ev_bast, ev_zast, ev_aast, ev_gfI, ev_gfL, ev_gfR, ev_pfI, ev_pfZ, ev_pfL, ev_pfR, ev_new, ev_newa, ev_newq, ev_copy, ev_slen, ev_schr, ev_obj, ev_mmin, ev_mabs, ev_mmax, ev_goto, ev_jsr, ev_icmp_eq, ev_if_eq, ev_icmp_ne, ev_if_ne, ev_icmp_lt, ev_if_lt, ev_icmp_ge, ev_if_ge, ev_icmp_gt, ev_if_gt, ev_icmp_le, ev_if_le, ev_ifnull0, ev_ifnull1, ev_ifnn0, ev_ifnn1, ev_tsw, ev_lsw, ev_iret, ev_zret, ev_lret, ev_aret, ev_ret, ev_call0, ev_call1, ev_call2, ev_call3, ev_call4, ev_call5, ev_call6, Option.toList_some, Option.toList_none, List.cons_append, List.nil_append, List.length_cons, List.length_nil, Nat.reduceMod, Nat.reduceDiv, Nat.reduceLeDiff, nc, ↓reduceIte, Nat.zero_le, reduceCtorEq, w32_id, Int.reduceEq, Int.reduceNe, Int.reduceLT, Int.reduceLE, Int.reduceGT, Int.reduceGE, Int.reduceAdd, Int.reduceSub, Int.reduceMul, Int.reduceNeg, ne_eq, not_true_eq_false, not_false_eq_true, eq_self, ↓if_pos, ↓if_neg, J_363_0, k_363_0, J_363_39, k_363_39, J_363_72, k_363_72, k_363_41]
end BLK
