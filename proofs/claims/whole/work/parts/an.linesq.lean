/-! DIRECTIONS: names on both sides; the draft copied. -/
theorem pick {P : Int → List Int → Prop} : ∀ n : Nat, (∀ k : Int, 0 ≤ k → k < n → ∃ w, P k w) → ∃ f : Int → List Int, ∀ k : Int, 0 ≤ k → k < n → P k (f k)
  | 0, _ => ⟨fun _ => [], fun k a b => by omega⟩
  | n + 1, h => by
    obtain ⟨f, hf⟩ := pick n (fun k a b => h k a (by omega))
    obtain ⟨w, hw⟩ := h n (by omega) (by omega)
    refine ⟨upL f n w, fun k a b => ?_⟩
    unfold upL
    by_cases z : k = (n : Int)
    · rw [if_pos z, z]; exact hw
    · rw [if_neg z]; exact hf k a (by omega)
theorem di32 : DI 32 := by unfold DI; refine ⟨?_, ⟨?_, ?_, ?_⟩, ⟨?_, ?_, ?_⟩, ?_, ?_, ?_⟩ <;> rfl
section LNQ
variable {X : Int → Int} {M : Mem}
theorem rr_nam (h : RR' M) : ∃ NW : Int → List Int, cNm M NW (M 141 2) ∧ mNm M NW (M 141 2) := by
  obtain ⟨s, gs, _, _, _, nm, _⟩ := h.2.2.2.1
  have e2 : cA (M (140 + 1)) 0 2 = M 141 2 := cA_0 (by omega) (by omega)
  have g2 := gs.2.2.1
  rw [e2] at nm g2
  obtain ⟨NW, hn⟩ := pick (P := fun k w => M 6 k = c32 w ∧ M 142 k = c256 w ∧ lts w) (M 141 2).toNat (fun k a b => by
    obtain ⟨_, _, w, w1, w8, wl, ea, eb⟩ := nm k a (by omega)
    unfold nA at eb
    rw [if_pos ⟨a, by omega⟩, Int.zero_add] at eb
    exact ⟨w, ea, eb, wl⟩)
  refine ⟨NW, ⟨?_, ?_, fun k a b => ?_⟩, rfl, ⟨g2.1, g2.2⟩, fun k a b => ?_⟩
  · have gg := gs
    unfold goodS at gg ⊢
    show (0 ≤ M (4 + 1) 0 ∧ _) ∧ _
    rw [show M 5 = M (4 + 1) from rfl, s 0 (by omega) (by omega), s 1 (by omega) (by omega), s 2 (by omega) (by omega), s 3 (by omega) (by omega), s 4 (by omega) (by omega), s 5 (by omega) (by omega), s 6 (by omega) (by omega), s 7 (by omega) (by omega), s 8 (by omega) (by omega), s 9 (by omega) (by omega), s 10 (by omega) (by omega), s 11 (by omega) (by omega), s 12 (by omega) (by omega), s 13 (by omega) (by omega), s 14 (by omega) (by omega)]
    exact gg
  · rw [show M 5 = M (4 + 1) from rfl, s 2 (by omega) (by omega)]
    exact e2
  · have x := hn k a (by omega)
    exact ⟨x.1, x.2.2⟩
  · have x := hn k a (by omega)
    exact ⟨x.2.1, x.2.2⟩
/-- the draft copied, its steps with it -/
theorem s_dcopyS {d e : Nat} (hd : DI d) (he : DI e) (hde : d + 3 < e ∨ e + 3 < d) (hb : M e 5 = 0 ∨ M e 5 = 1) : ∃ M', (∀ b, (b < d ∨ d + 3 < b) → M' b = M b) ∧ (∀ k, 0 ≤ k → k < 80 → M' (d + 1) k = M (e + 1) k ∧ M' (d + 2) k = M (e + 2) k ∧ M' (d + 3) k = M (e + 3) k) ∧ M' d 3 = M e 3 ∧ M' d 4 = M e 4 ∧ M' d 5 = M e 5 ∧ evc X 88 [vR (some d), vR (some e)] SH0 M = some (none, SH0, M') := by
  obtain ⟨dk, ⟨dr0, dr1, dr2⟩, ⟨dk1, dk2, dk3⟩, dl1, dl2, dl3⟩ := hd
  obtain ⟨ek, ⟨er0, er1, er2⟩, ⟨ek1, ek2, ek3⟩, el1, el2, el3⟩ := he
  have k1 : knd SH0 (e + 1) = knd SH0 (d + 1) := by rw [dk1, ek1]
  have k2 : knd SH0 (e + 2) = knd SH0 (d + 2) := by rw [dk2, ek2]
  have k3 : knd SH0 (e + 3) = knd SH0 (d + 3) := by rw [dk3, ek3]
  have o1 : knd SH0 (d + 1) = 100 ∨ knd SH0 (d + 1) = 101 := Or.inl dk1
  have o2 : knd SH0 (d + 2) = 100 ∨ knd SH0 (d + 2) = 101 := Or.inl dk2
  have o3 : knd SH0 (d + 3) = 100 ∨ knd SH0 (d + 3) = 101 := Or.inl dk3
  generalize hM3 : cpy (cpy (cpy M (e + 1) 0 (d + 1) 0 80) (e + 2) 0 (d + 2) 0 80) (e + 3) 0 (d + 3) 0 80 = M3
  have e0 : M3 e = M e := by rw [← hM3]; simp (disch := omega) only [cpy_no]
  have f3 : ∀ n z, up M3 d n z e = M e := fun n z => by rw [up_ne (by omega)]; exact e0
  have f4 : ∀ n z n' z', up (up M3 d n z) d n' z' e = M e := fun n z n' z' => by rw [up_ne (by omega), up_ne (by omega)]; exact e0
  refine ⟨up (up (up M3 d 3 (M e 3)) d 4 (M e 4)) d 5 (M e 5), fun b hb => ?_, fun k k0 k1 => ?_, ?_, ?_, ?_, ?_⟩
  · rw [up_ne (by omega), up_ne (by omega), up_ne (by omega), ← hM3]
    simp (disch := omega) only [cpy_no]
  · rw [up_ne (by omega), up_ne (by omega), up_ne (by omega), up_ne (by omega), up_ne (by omega), up_ne (by omega), up_ne (by omega), up_ne (by omega), up_ne (by omega), ← hM3]
    refine ⟨?_, ?_, ?_⟩ <;> simp (disch := omega) only [cpy_no, cpy_in]
  · rw [up_ne2 (by omega), up_ne2 (by omega), up_eq]
  · rw [up_ne2 (by omega), up_eq]
  · rw [up_eq]
  · rw [E_88 dk]
    rcases hb with hb | hb
    · rw [hb]
      simp (disch := first | assumption | decide | omega | (simp only [List.length_cons, List.length_nil] <;> omega)) only [lgt_0, lgt_s, lset_0, lset_s, lst1_0, lst1_s, lst2_0, lst2_s, ev_iconst, ev_lconst, ev_ldc, ev_null, ev_iload, ev_lload, ev_aload, ev_istore, ev_lstore, ev_astore, ev_iinc, ev_iadd, ev_isub, ev_imul, ev_iand, ev_ior, ev_ishl, ev_ishr, ev_idiv, ev_irem, ev_ineg, ev_ladd, ev_lsub, ev_lmul, ev_land, ev_lor, ev_ldiv, ev_lrem, ev_lshl, ev_i2l, ev_l2i, ev_i2b, ev_i2s, ev_lcmp, ev_dupI, ev_dupR, ev_dup2, ev_popI, ev_popR, ev_alen, ev_xlen, ev_xald, ev_iald, ev_lald, ev_bald, ev_zald, ev_aald, ev_iast, ev_last, ev_bast, ev_zast, ev_aast, ev_gfI, ev_gfL, ev_gfR, ev_pfI, ev_pfZ, ev_pfL, ev_pfR, ev_new, ev_newa, ev_newq, ev_copy, ev_slen, ev_schr, ev_obj, ev_mmin, ev_mabs, ev_mmax, ev_goto, ev_jsr, ev_icmp_eq, ev_if_eq, ev_icmp_ne, ev_if_ne, ev_icmp_lt, ev_if_lt, ev_icmp_ge, ev_if_ge, ev_icmp_gt, ev_if_gt, ev_icmp_le, ev_if_le, ev_ifnull0, ev_ifnull1, ev_ifnn0, ev_ifnn1, ev_tsw, ev_lsw, ev_iret, ev_zret, ev_lret, ev_aret, ev_ret, ev_call0, ev_call1, ev_call2, ev_call3, ev_call4, ev_call5, ev_call6, Option.toList_some, Option.toList_none, List.cons_append, List.nil_append, List.length_cons, List.length_nil, Nat.reduceMod, Nat.reduceDiv, Nat.reduceLeDiff, nc, ↓reduceIte, Nat.zero_le, reduceCtorEq, w32_id, Int.reduceEq, Int.reduceNe, Int.reduceLT, Int.reduceLE, Int.reduceGT, Int.reduceGE, Int.reduceAdd, Int.reduceSub, Int.reduceMul, Int.reduceNeg, ne_eq, not_true_eq_false, not_false_eq_true, eq_self, ↓if_pos, ↓if_neg, J_88_0, k_88_0, ev_copy, dr0, dr1, dr2, er0, er1, er2, hM3, e0, f3, f4, hb]
    · rw [hb]
      simp (disch := first | assumption | decide | omega | (simp only [List.length_cons, List.length_nil] <;> omega)) only [lgt_0, lgt_s, lset_0, lset_s, lst1_0, lst1_s, lst2_0, lst2_s, ev_iconst, ev_lconst, ev_ldc, ev_null, ev_iload, ev_lload, ev_aload, ev_istore, ev_lstore, ev_astore, ev_iinc, ev_iadd, ev_isub, ev_imul, ev_iand, ev_ior, ev_ishl, ev_ishr, ev_idiv, ev_irem, ev_ineg, ev_ladd, ev_lsub, ev_lmul, ev_land, ev_lor, ev_ldiv, ev_lrem, ev_lshl, ev_i2l, ev_l2i, ev_i2b, ev_i2s, ev_lcmp, ev_dupI, ev_dupR, ev_dup2, ev_popI, ev_popR, ev_alen, ev_xlen, ev_xald, ev_iald, ev_lald, ev_bald, ev_zald, ev_aald, ev_iast, ev_last, ev_bast, ev_zast, ev_aast, ev_gfI, ev_gfL, ev_gfR, ev_pfI, ev_pfZ, ev_pfL, ev_pfR, ev_new, ev_newa, ev_newq, ev_copy, ev_slen, ev_schr, ev_obj, ev_mmin, ev_mabs, ev_mmax, ev_goto, ev_jsr, ev_icmp_eq, ev_if_eq, ev_icmp_ne, ev_if_ne, ev_icmp_lt, ev_if_lt, ev_icmp_ge, ev_if_ge, ev_icmp_gt, ev_if_gt, ev_icmp_le, ev_if_le, ev_ifnull0, ev_ifnull1, ev_ifnn0, ev_ifnn1, ev_tsw, ev_lsw, ev_iret, ev_zret, ev_lret, ev_aret, ev_ret, ev_call0, ev_call1, ev_call2, ev_call3, ev_call4, ev_call5, ev_call6, Option.toList_some, Option.toList_none, List.cons_append, List.nil_append, List.length_cons, List.length_nil, Nat.reduceMod, Nat.reduceDiv, Nat.reduceLeDiff, nc, ↓reduceIte, Nat.zero_le, reduceCtorEq, w32_id, Int.reduceEq, Int.reduceNe, Int.reduceLT, Int.reduceLE, Int.reduceGT, Int.reduceGE, Int.reduceAdd, Int.reduceSub, Int.reduceMul, Int.reduceNeg, ne_eq, not_true_eq_false, not_false_eq_true, eq_self, ↓if_pos, ↓if_neg, J_88_0, k_88_0, ev_copy, dr0, dr1, dr2, er0, er1, er2, hM3, e0, f3, f4, hb]
end LNQ
