/-! THE BEST alteration, by both sides. -/
def prc (A H : Int → Int) (i c i' c' : Int) : Prop := (0 ≤ i' ∧ i' < xn A) ∧ (0 ≤ c' ∧ c' < A 2) ∧ c' ≠ H i' ∧ (i' < i ∨ (i' = i ∧ c' < c))
def BSn (A H : Int → Int) (i c : Int) : Prop := ∀ i' c', ¬ prc A H i c i' c'
def BSy (A H : Int → Int) (i c s t o : Int) : Prop := prc A H i c t o ∧ s = savF A H t o ∧ ∀ i' c', prc A H i c i' c' → savF A H i' c' ≤ s ∧ (i' < t ∨ (i' = t ∧ c' < o) → savF A H i' c' < s)
theorem bs_new {A H : Int → Int} {i c s t o : Int} (h : BSn A H i c ∨ (BSy A H i c s t o ∧ s < savF A H i c)) (hi : 0 ≤ i ∧ i < xn A) (hc : 0 ≤ c ∧ c < A 2) (hne : c ≠ H i) : BSy A H i (c + 1) (savF A H i c) i c := by
  refine ⟨⟨hi, hc, hne, Or.inr ⟨rfl, by omega⟩⟩, rfl, fun i' c' p => ?_⟩
  by_cases q : i' = i ∧ c' = c
  · rw [q.1, q.2]
    exact ⟨Int.le_refl _, fun z => by omega⟩
  · have p2 : prc A H i c i' c' := ⟨p.1, p.2.1, p.2.2.1, by have := p.2.2.2; omega⟩
    rcases h with h | h
    · exact absurd p2 (h i' c')
    · have e := h.1.2.2 i' c' p2
      exact ⟨by omega, fun _ => by omega⟩
theorem bs_keep {A H : Int → Int} {i c s t o : Int} (h : BSy A H i c s t o) (hk : c ≠ H i → savF A H i c ≤ s) : BSy A H i (c + 1) s t o := by
  obtain ⟨a, b, d⟩ := h
  have a4 := a.2.2.2
  refine ⟨⟨a.1, a.2.1, a.2.2.1, by omega⟩, b, fun i' c' p => ?_⟩
  by_cases q : i' = i ∧ c' = c
  · obtain ⟨q1, q2⟩ := q
    subst q1 q2
    exact ⟨hk p.2.2.1, fun z => by omega⟩
  · exact d i' c' ⟨p.1, p.2.1, p.2.2.1, by have := p.2.2.2; omega⟩
theorem bsn_skip {A H : Int → Int} {i c : Int} (h : BSn A H i c) (hc : c = H i) : BSn A H i (c + 1) := fun i' c' p => by
  by_cases q : i' = i ∧ c' = c
  · obtain ⟨q1, q2⟩ := q
    subst q1 q2
    exact p.2.2.1 hc
  · exact h i' c' ⟨p.1, p.2.1, p.2.2.1, by have := p.2.2.2; omega⟩
theorem prc_row {A H : Int → Int} {i i' c' : Int} : prc A H (i + 1) 0 i' c' ↔ prc A H i (A 2) i' c' := by
  constructor
  · intro p; exact ⟨p.1, p.2.1, p.2.2.1, by have := p.2.2.2; have := p.2.1; omega⟩
  · intro p; exact ⟨p.1, p.2.1, p.2.2.1, by have := p.2.2.2; omega⟩
theorem bsn_row {A H : Int → Int} {i : Int} (h : BSn A H i (A 2)) : BSn A H (i + 1) 0 := fun i' c' p => h i' c' (prc_row.mp p)
theorem bsy_row {A H : Int → Int} {i s t o : Int} (h : BSy A H i (A 2) s t o) : BSy A H (i + 1) 0 s t o := ⟨prc_row.mpr h.1, h.2.1, fun i' c' p => h.2.2 i' c' (prc_row.mp p)⟩
theorem bsn_0 {A H : Int → Int} : BSn A H 0 0 := fun i' c' p => by
  have := p.2.2.2
  have := p.1
  have := p.2.1
  omega
theorem bsy_end {A H : Int → Int} {s t o : Int} (h : BSy A H (xn A) 0 s t o) : isB A H t o s := ⟨⟨h.1.1, h.1.2.1, h.1.2.2.1⟩, h.2.1, fun i' c' a b ne => h.2.2 i' c' ⟨a, b, ne, Or.inl a.2⟩⟩
theorem bsn_no {A H : Int → Int} (h : BSn A H (xn A) 0) (hn : 0 < xn A ∧ 1 < A 2) : False := by
  by_cases q : H 0 = 0
  · exact h 0 1 ⟨by omega, by omega, by omega, Or.inl hn.1⟩
  · exact h 0 0 ⟨by omega, by omega, fun z => q z.symm, Or.inl hn.1⟩
theorem isB_uniq {A H : Int → Int} {i c s i' c' s' : Int} (h : isB A H i c s) (h' : isB A H i' c' s') : i = i' ∧ c = c' ∧ s = s' := by
  obtain ⟨⟨a1, a2, a3⟩, b, d⟩ := h
  obtain ⟨⟨a1', a2', a3'⟩, b', d'⟩ := h'
  have e1 := d i' c' a1' a2' a3'
  have e2 := d' i c a1 a2 a3
  have e3 : ¬ (i' < i ∨ (i' = i ∧ c' < c)) := fun z => by have := e1.2 z; omega
  have e4 : ¬ (i < i' ∨ (i = i' ∧ c < c')) := fun z => by have := e2.2 z; omega
  omega
theorem upH_own {H : Int → Int} {i : Int} : upH H i (H i) = H := by
  funext j
  unfold upH
  by_cases z : j = i
  · rw [if_pos z, z]
  · rw [if_neg z]
theorem upH_upH {H : Int → Int} {i c d : Int} : upH (upH H i c) i d = upH H i d := by
  funext j
  unfold upH
  by_cases z : j = i
  · rw [if_pos z, if_pos z]
  · rw [if_neg z, if_neg z, if_neg z]
theorem savF_u {A H : Int → Int} {i c : Int} : savF A H i c = lsA A H - lsA A (upH H i c) - A 13 := rfl
section BES
variable {X : Int → Int} {M M' : Mem} {A H : Int → Int}
theorem s_findOne (hH : HC M 51 A H) (hn : 0 < xn A ∧ 1 < A 2) {k : Int} (hk : 0 ≤ k ∧ k < 4) : ∃ M', (∀ b, b < 36 ∨ (45 < b ∧ b ≠ 47 ∧ b ≠ 48 ∧ b ≠ 49 ∧ b ≠ 51 + 6) → M' b = M b) ∧ (∀ j, j ≠ k → M' 47 j = M 47 j ∧ M' 48 j = M 48 j ∧ M' 49 j = M 49 j) ∧ HC M' 51 A H ∧ isB A H (M' 47 k) (M' 48 k) (M' 49 k) ∧ evc X 166 [vR (some 46), vI k] SH0 M = some (none, SH0, M') := by
  have k46 := w0_k46
  have a0 := w0_r46_0
  have a1 := w0_r46_1
  have a2 := w0_r46_2
  have a6 := w0_r46_6
  have a7 := w0_r46_7
  have k47 := w0_k47
  have k48 := w0_k48
  have k49 := w0_k49
  have l47 := w0_l47
  have l48 := w0_l48
  have l49 := w0_l49
  have ct := w0_ch51
  obtain ⟨tk0, tr0, tr1, tr2, tr3, tr4, tr5, tr6, tr7, tk1, tk2, tk3, tk4, tk5, tk6, tk7, tk8, tl1, tl2, tl3, tl4, tl5, tl6, tl7, tl8⟩ := ct
  have gN := hH.2.2.1.1.2.1
  have g2 := hH.2.2.1.1.1.2.2.1
  have g13 := hH.2.2.1.1.1.2.2.2.2.2.2.2.2.2.2.2.2.2.1
  obtain ⟨Ma, fa, ea, b0, b1⟩ := hc_lA (X := X) w0_ch51 (by omega) hH
  have hHa : HC Ma 51 A H := hc_f hH (fun b x y => fa b (by omega))
  have lr : ∀ H', okH A H' → 0 ≤ lsA A H' ∧ lsA A H' ≤ 47520 := fun H' ok => by
    have hc' : ∃ N : Mem, HC N 51 A H' := ⟨fun b => if b = 51 + 6 then H' else Ma b, by
      refine ⟨?_, ?_, hH.2.2.1, ok⟩
      · intro j x y
        show 0 ≤ (if (51 + 3 : Nat) = 51 + 6 then H' else Ma (51 + 3)) j ∧ _
        rw [if_neg (by omega)]
        exact hHa.1 j x y
      · obtain ⟨v1, v2, v3, v4⟩ := hHa.2.1
        refine ⟨?_, ?_, ?_, ?_⟩
        · show (if (51 : Nat) = 51 + 6 then H' else Ma 51) 8 = _
          rw [if_neg (by omega)]; exact v1
        · intro j x y
          show (if (51 + 1 : Nat) = 51 + 6 then H' else Ma (51 + 1)) j = _
          rw [if_neg (by omega)]; exact v2 j x y
        · intro j x y
          have y2 : j < Ma 51 8 := by
            have y3 : j < (if (51 : Nat) = 51 + 6 then H' else Ma 51) 8 := y
            rw [if_neg (by omega)] at y3; exact y3
          have e := v3 j x y2
          refine ⟨?_, ?_, ?_⟩
          · show (if (51 + 6 : Nat) = 51 + 6 then H' else Ma (51 + 6)) j = _
            rw [if_pos rfl]
          · show (if (51 + 7 : Nat) = 51 + 6 then H' else Ma (51 + 7)) j = _
            rw [if_neg (by omega)]; exact e.2.1
          · show (if (51 + 8 : Nat) = 51 + 6 then H' else Ma (51 + 8)) j = _
            rw [if_neg (by omega)]; exact e.2.2
        · intro j x y
          show (if (51 + 3 : Nat) = 51 + 6 then H' else Ma (51 + 3)) j = _
          have y2 : j < Ma (51 + 1) 2 := by
            have y3 : j < (if (51 + 1 : Nat) = 51 + 6 then H' else Ma (51 + 1)) 2 := y
            rw [if_neg (by omega)] at y3; exact y3
          rw [if_neg (by omega)]; exact v4 j x y2⟩
    obtain ⟨N, hN⟩ := hc'
    obtain ⟨N2, f2, e2, x, y⟩ := hc_lA (X := X) w0_ch51 (by omega) hN
    exact ⟨x, y⟩
  have sr : ∀ i c, (0 ≤ c ∧ c < A 2) → -100000 ≤ savF A H i c ∧ savF A H i c ≤ 100000 := fun i c hc => by
    have e := lr (upH H i c) (okH_up hH.2.2.2 hc)
    rw [savF_u]
    omega
  let ST : Mem → Int → Int → Prop := fun M' i c => (BSn A H i c ∧ M' 49 k = -1000000) ∨ (BSy A H i c (M' 49 k) (M' 47 k) (M' 48 k))
  let FR : Mem → Prop := fun M' => (∀ b, b < 36 ∨ (45 < b ∧ b ≠ 47 ∧ b ≠ 48 ∧ b ≠ 49 ∧ b ≠ 51 + 6) → M' b = M b) ∧ ∀ j, j ≠ k → M' 47 j = M 47 j ∧ M' 48 j = M 48 j ∧ M' 49 j = M 49 j
  have hu : ∀ i, 0 ≤ i → i < xn A → (0 ≤ H i ∧ H i < A 2) := hH.2.2.2
  generalize hNow : lsA A H - A 13 = now
  obtain ⟨ls', M2, ⟨w4, w5, w6, hls, fr, hcM, st⟩, he⟩ := ev_for (X := X) (y := 166) (Sh := SH0) (fun i ls M' => ∃ w4 w5 w6, ls = [some (vR (some 46)), some (vI k), some (vI now), some (vI (i : Int)), w4, w5, w6] ∧ FR M' ∧ HC M' 51 A H ∧ ST M' i 0) J_166_33 (xn A).toNat (fun i hi ls M' hI => by
    obtain ⟨w4, w5, w6, hls, fr, hcM, st⟩ := hI
    subst hls
    have n8 := hcM.2.1.1
    have q0 : ¬ xn A ≤ (i : Int) := by omega
    have hHi := (hcM.2.1.2.2.1 i (by omega) (by omega)).1
    have hr := hu i (by omega) (by omega)
    obtain ⟨ls2, M3, ⟨v6, cc, hls2, fr2, hcc, hc2, st2⟩, he2⟩ := ev_for (X := X) (y := 166) (Sh := SH0) (fun c ls M' => ∃ v6 cc, ls = [some (vR (some 46)), some (vI k), some (vI now), some (vI (i : Int)), some (vI (H i)), some (vI (c : Int)), v6] ∧ FR M' ∧ (0 ≤ cc ∧ cc < A 2) ∧ HC M' 51 A (upH H i cc) ∧ ST M' i c) J_166_58 (A 2).toNat (fun c hc ls M3 hI => by
      obtain ⟨v6, cc, hls, fr2, hcc, hc2, st2⟩ := hI
      subst hls
      have s2 := hc2.2.1.2.1 2 (by omega) (by omega)
      have q1 : ¬ A 2 ≤ (c : Int) := by omega
      by_cases y : (c : Int) = H i
      · refine ⟨_, M3, ⟨v6, cc, rfl, fr2, hcc, hc2, ?_⟩, ?_⟩
        · rcases st2 with z | z
          · exact Or.inl ⟨bsn_skip z.1 y, z.2⟩
          · exact Or.inr (bs_keep z (fun u => absurd y u))
        · simp (disch := first | assumption | decide | omega | (simp only [List.length_cons, List.length_nil] <;> omega)) only [lgt_0, lgt_s, lset_0, lset_s, lst1_0, lst1_s, lst2_0, lst2_s, ev_iconst, ev_lconst, ev_ldc, ev_null, ev_iload, ev_lload, ev_aload, ev_istore, ev_lstore, ev_astore, ev_iinc, ev_iadd, ev_isub, ev_imul, ev_iand, ev_ior, ev_ishl, ev_ishr, ev_idiv, ev_irem, ev_ineg, ev_ladd, ev_lsub, ev_lmul, ev_land, ev_lor, ev_ldiv, ev_lrem, ev_lshl, ev_i2l, ev_l2i, ev_i2b, ev_i2s, ev_lcmp, ev_dupI, ev_dupR, ev_dup2, ev_popI, ev_popR, ev_alen, ev_xlen, ev_xald, ev_iald, ev_lald, ev_bald, ev_zald, ev_aald, ev_iast, ev_last, ev_bast, ev_zast, ev_aast, ev_gfI, ev_gfL, ev_gfR, ev_pfI, ev_pfZ, ev_pfL, ev_pfR, ev_new, ev_newa, ev_newq, ev_copy, ev_slen, ev_schr, ev_obj, ev_mmin, ev_mabs, ev_mmax, ev_goto, ev_jsr, ev_icmp_eq, ev_if_eq, ev_icmp_ne, ev_if_ne, ev_icmp_lt, ev_if_lt, ev_icmp_ge, ev_if_ge, ev_icmp_gt, ev_if_gt, ev_icmp_le, ev_if_le, ev_ifnull0, ev_ifnull1, ev_ifnn0, ev_ifnn1, ev_tsw, ev_lsw, ev_iret, ev_zret, ev_lret, ev_aret, ev_ret, ev_call0, ev_call1, ev_call2, ev_call3, ev_call4, ev_call5, ev_call6, Option.toList_some, Option.toList_none, List.cons_append, List.nil_append, List.length_cons, List.length_nil, Nat.reduceMod, Nat.reduceDiv, Nat.reduceLeDiff, nc, ↓reduceIte, Nat.zero_le, reduceCtorEq, w32_id, Int.reduceEq, Int.reduceNe, Int.reduceLT, Int.reduceLE, Int.reduceGT, Int.reduceGE, Int.reduceAdd, Int.reduceSub, Int.reduceMul, Int.reduceNeg, ne_eq, not_true_eq_false, not_false_eq_true, eq_self, ↓if_pos, ↓if_neg, J_166_0, k_166_0, J_166_138, k_166_138, J_166_144, k_166_144, J_166_160, k_166_160, k_166_58, a6, tr0, tr1, tr2, tr3, tr4, tr5, tr6, tr7, s2, y, nc_s]
      · obtain ⟨er, hcU⟩ := hc_up (X := X) w0_ch51 hc2 (i := i) (k := c) (by omega) (by omega)
        rw [upH_upH] at hcU
        obtain ⟨M4, f4, e4, x0, x1⟩ := hc_lA (X := X) w0_ch51 (by omega) hcU
        have hcU4 : HC M4 51 A (upH H i c) := hc_f hcU (fun b u v => f4 b (by omega))
        have sv := sr i c (by omega)
        have sv2 : now - lsA A (upH H i c) = savF A H i c := by rw [savF_u]; omega
        have fr4 : FR M4 := ⟨fun b hb => by rw [f4 b (by omega), up_ne (by omega)]; exact fr2.1 b hb, fun j hj => by
          rw [f4 47 (by omega), f4 48 (by omega), f4 49 (by omega), up_ne (by omega), up_ne (by omega), up_ne (by omega)]
          exact fr2.2 j hj⟩
        have m47 : M4 47 = M3 47 := by rw [f4 47 (by omega), up_ne (by omega)]
        have m48 : M4 48 = M3 48 := by rw [f4 48 (by omega), up_ne (by omega)]
        have m49 : M4 49 = M3 49 := by rw [f4 49 (by omega), up_ne (by omega)]
        by_cases u : savF A H i c ≤ M3 49 k
        · have st3 : BSy A H i c (M3 49 k) (M3 47 k) (M3 48 k) := by
            rcases st2 with z | z
            · omega
            · exact z
          refine ⟨_, M4, ⟨some (vI (savF A H i c)), c, rfl, fr4, by omega, hcU4, ?_⟩, ?_⟩
          · show (_ ∧ M4 49 k = _) ∨ BSy A H i _ (M4 49 k) (M4 47 k) (M4 48 k)
            rw [m47, m48, m49]
            exact Or.inr (bs_keep st3 (fun _ => u))
          · generalize savF A H i c = sv' at sv sv2 u ⊢
            generalize lsA A (upH H i c) = lv at e4 x0 x1 sv2
            simp (disch := first | assumption | decide | omega | (simp only [List.length_cons, List.length_nil] <;> omega)) only [lgt_0, lgt_s, lset_0, lset_s, lst1_0, lst1_s, lst2_0, lst2_s, ev_iconst, ev_lconst, ev_ldc, ev_null, ev_iload, ev_lload, ev_aload, ev_istore, ev_lstore, ev_astore, ev_iinc, ev_iadd, ev_isub, ev_imul, ev_iand, ev_ior, ev_ishl, ev_ishr, ev_idiv, ev_irem, ev_ineg, ev_ladd, ev_lsub, ev_lmul, ev_land, ev_lor, ev_ldiv, ev_lrem, ev_lshl, ev_i2l, ev_l2i, ev_i2b, ev_i2s, ev_lcmp, ev_dupI, ev_dupR, ev_dup2, ev_popI, ev_popR, ev_alen, ev_xlen, ev_xald, ev_iald, ev_lald, ev_bald, ev_zald, ev_aald, ev_iast, ev_last, ev_bast, ev_zast, ev_aast, ev_gfI, ev_gfL, ev_gfR, ev_pfI, ev_pfZ, ev_pfL, ev_pfR, ev_new, ev_newa, ev_newq, ev_copy, ev_slen, ev_schr, ev_obj, ev_mmin, ev_mabs, ev_mmax, ev_goto, ev_jsr, ev_icmp_eq, ev_if_eq, ev_icmp_ne, ev_if_ne, ev_icmp_lt, ev_if_lt, ev_icmp_ge, ev_if_ge, ev_icmp_gt, ev_if_gt, ev_icmp_le, ev_if_le, ev_ifnull0, ev_ifnull1, ev_ifnn0, ev_ifnn1, ev_tsw, ev_lsw, ev_iret, ev_zret, ev_lret, ev_aret, ev_ret, ev_call0, ev_call1, ev_call2, ev_call3, ev_call4, ev_call5, ev_call6, Option.toList_some, Option.toList_none, List.cons_append, List.nil_append, List.length_cons, List.length_nil, Nat.reduceMod, Nat.reduceDiv, Nat.reduceLeDiff, nc, ↓reduceIte, Nat.zero_le, reduceCtorEq, w32_id, Int.reduceEq, Int.reduceNe, Int.reduceLT, Int.reduceLE, Int.reduceGT, Int.reduceGE, Int.reduceAdd, Int.reduceSub, Int.reduceMul, Int.reduceNeg, ne_eq, not_true_eq_false, not_false_eq_true, eq_self, ↓if_pos, ↓if_neg, J_166_0, k_166_0, J_166_138, k_166_138, J_166_144, k_166_144, J_166_160, k_166_160, k_166_58, a2, a6, a7, tr0, tr1, tr2, tr3, tr4, tr5, tr6, tr7, s2, y, er, e4, sv2, m49, nc_s]
        · refine ⟨_, up (up (up M4 49 k (savF A H i c)) 47 k i) 48 k c, ⟨some (vI (savF A H i c)), c, rfl, ⟨fun b hb => by simp (disch := omega) only [up_ne, up_eq, up_ne2]; exact fr4.1 b hb, fun j hj => by simp (disch := omega) only [up_ne, up_eq, up_ne2]; exact fr4.2 j hj⟩, by omega, hc_f hcU4 (fun b u v => by simp (disch := omega) only [up_ne, up_eq, up_ne2]), Or.inr ?_⟩, ?_⟩
          · simp (disch := omega) only [up_ne, up_eq, up_ne2]
            refine bs_new ?_ (by omega) (by omega) y (s := M3 49 k) (t := M3 47 k) (o := M3 48 k)
            rcases st2 with z | z
            · exact Or.inl z.1
            · exact Or.inr ⟨z, by omega⟩
          · generalize savF A H i c = sv' at sv sv2 u ⊢
            generalize lsA A (upH H i c) = lv at e4 x0 x1 sv2
            simp (disch := first | assumption | decide | omega | (simp only [List.length_cons, List.length_nil] <;> omega)) only [lgt_0, lgt_s, lset_0, lset_s, lst1_0, lst1_s, lst2_0, lst2_s, ev_iconst, ev_lconst, ev_ldc, ev_null, ev_iload, ev_lload, ev_aload, ev_istore, ev_lstore, ev_astore, ev_iinc, ev_iadd, ev_isub, ev_imul, ev_iand, ev_ior, ev_ishl, ev_ishr, ev_idiv, ev_irem, ev_ineg, ev_ladd, ev_lsub, ev_lmul, ev_land, ev_lor, ev_ldiv, ev_lrem, ev_lshl, ev_i2l, ev_l2i, ev_i2b, ev_i2s, ev_lcmp, ev_dupI, ev_dupR, ev_dup2, ev_popI, ev_popR, ev_alen, ev_xlen, ev_xald, ev_iald, ev_lald, ev_bald, ev_zald, ev_aald, ev_iast, ev_last, ev_bast, ev_zast, ev_aast, ev_gfI, ev_gfL, ev_gfR, ev_pfI, ev_pfZ, ev_pfL, ev_pfR, ev_new, ev_newa, ev_newq, ev_copy, ev_slen, ev_schr, ev_obj, ev_mmin, ev_mabs, ev_mmax, ev_goto, ev_jsr, ev_icmp_eq, ev_if_eq, ev_icmp_ne, ev_if_ne, ev_icmp_lt, ev_if_lt, ev_icmp_ge, ev_if_ge, ev_icmp_gt, ev_if_gt, ev_icmp_le, ev_if_le, ev_ifnull0, ev_ifnull1, ev_ifnn0, ev_ifnn1, ev_tsw, ev_lsw, ev_iret, ev_zret, ev_lret, ev_aret, ev_ret, ev_call0, ev_call1, ev_call2, ev_call3, ev_call4, ev_call5, ev_call6, Option.toList_some, Option.toList_none, List.cons_append, List.nil_append, List.length_cons, List.length_nil, Nat.reduceMod, Nat.reduceDiv, Nat.reduceLeDiff, nc, ↓reduceIte, Nat.zero_le, reduceCtorEq, w32_id, Int.reduceEq, Int.reduceNe, Int.reduceLT, Int.reduceLE, Int.reduceGT, Int.reduceGE, Int.reduceAdd, Int.reduceSub, Int.reduceMul, Int.reduceNeg, ne_eq, not_true_eq_false, not_false_eq_true, eq_self, ↓if_pos, ↓if_neg, J_166_0, k_166_0, J_166_138, k_166_138, J_166_144, k_166_144, J_166_160, k_166_160, k_166_58, a0, a1, a2, a6, a7, tr0, tr1, tr2, tr3, tr4, tr5, tr6, tr7, s2, y, er, e4, sv2, m49, nc_s]) [some (vR (some 46)), some (vI k), some (vI now), some (vI (i : Int)), some (vI (H i)), some (vI 0), w6] M' ⟨w6, H i, rfl, fr, hr, by rw [upH_own]; exact hcM, st⟩
    subst hls2
    have e : (((A 2).toNat : Nat) : Int) = A 2 := by omega
    rw [e] at he2
    obtain ⟨er, hcU⟩ := hc_up (X := X) w0_ch51 hc2 (i := i) (k := H i) (by omega) hr
    rw [upH_upH, upH_own] at hcU
    have s2 := hc2.2.1.2.1 2 (by omega) (by omega)
    refine ⟨_, up M3 (51 + 6) i (H i), ⟨some (vI (H i)), some (vI (A 2)), v6, rfl, ⟨fun b hb => by rw [up_ne (by omega)]; exact fr2.1 b hb, fun j hj => by simp (disch := omega) only [up_ne, up_eq, up_ne2]; exact fr2.2 j hj⟩, hcU, ?_⟩, ?_⟩
    · show (_ ∧ up M3 (51 + 6) i (H i) 49 k = _) ∨ BSy A H _ _ (up M3 (51 + 6) i (H i) 49 k) (up M3 (51 + 6) i (H i) 47 k) (up M3 (51 + 6) i (H i) 48 k)
      simp (disch := omega) only [up_ne, up_eq, up_ne2]
      rcases st2 with z | z
      · rw [e] at z
        exact Or.inl ⟨bsn_row z.1, z.2⟩
      · rw [e] at z
        exact Or.inr (bsy_row z)
    · have q2 : A 2 ≤ A 2 := Int.le_refl _
      simp (disch := first | assumption | decide | omega | (simp only [List.length_cons, List.length_nil] <;> omega)) only [lgt_0, lgt_s, lset_0, lset_s, lst1_0, lst1_s, lst2_0, lst2_s, ev_iconst, ev_lconst, ev_ldc, ev_null, ev_iload, ev_lload, ev_aload, ev_istore, ev_lstore, ev_astore, ev_iinc, ev_iadd, ev_isub, ev_imul, ev_iand, ev_ior, ev_ishl, ev_ishr, ev_idiv, ev_irem, ev_ineg, ev_ladd, ev_lsub, ev_lmul, ev_land, ev_lor, ev_ldiv, ev_lrem, ev_lshl, ev_i2l, ev_l2i, ev_i2b, ev_i2s, ev_lcmp, ev_dupI, ev_dupR, ev_dup2, ev_popI, ev_popR, ev_alen, ev_xlen, ev_xald, ev_iald, ev_lald, ev_bald, ev_zald, ev_aald, ev_iast, ev_last, ev_bast, ev_zast, ev_aast, ev_gfI, ev_gfL, ev_gfR, ev_pfI, ev_pfZ, ev_pfL, ev_pfR, ev_new, ev_newa, ev_newq, ev_copy, ev_slen, ev_schr, ev_obj, ev_mmin, ev_mabs, ev_mmax, ev_goto, ev_jsr, ev_icmp_eq, ev_if_eq, ev_icmp_ne, ev_if_ne, ev_icmp_lt, ev_if_lt, ev_icmp_ge, ev_if_ge, ev_icmp_gt, ev_if_gt, ev_icmp_le, ev_if_le, ev_ifnull0, ev_ifnull1, ev_ifnn0, ev_ifnn1, ev_tsw, ev_lsw, ev_iret, ev_zret, ev_lret, ev_aret, ev_ret, ev_call0, ev_call1, ev_call2, ev_call3, ev_call4, ev_call5, ev_call6, Option.toList_some, Option.toList_none, List.cons_append, List.nil_append, List.length_cons, List.length_nil, Nat.reduceMod, Nat.reduceDiv, Nat.reduceLeDiff, nc, ↓reduceIte, Nat.zero_le, reduceCtorEq, w32_id, Int.reduceEq, Int.reduceNe, Int.reduceLT, Int.reduceLE, Int.reduceGT, Int.reduceGE, Int.reduceAdd, Int.reduceSub, Int.reduceMul, Int.reduceNeg, ne_eq, not_true_eq_false, not_false_eq_true, eq_self, ↓if_pos, ↓if_neg, J_166_0, k_166_0, J_166_138, k_166_138, J_166_144, k_166_144, J_166_160, k_166_160, k_166_33, a6, tr0, tr1, tr2, tr3, tr4, tr5, tr6, tr7, n8, q0, hHi]
      rw [he2]
      simp (disch := first | assumption | decide | omega | (simp only [List.length_cons, List.length_nil] <;> omega)) only [lgt_0, lgt_s, lset_0, lset_s, lst1_0, lst1_s, lst2_0, lst2_s, ev_iconst, ev_lconst, ev_ldc, ev_null, ev_iload, ev_lload, ev_aload, ev_istore, ev_lstore, ev_astore, ev_iinc, ev_iadd, ev_isub, ev_imul, ev_iand, ev_ior, ev_ishl, ev_ishr, ev_idiv, ev_irem, ev_ineg, ev_ladd, ev_lsub, ev_lmul, ev_land, ev_lor, ev_ldiv, ev_lrem, ev_lshl, ev_i2l, ev_l2i, ev_i2b, ev_i2s, ev_lcmp, ev_dupI, ev_dupR, ev_dup2, ev_popI, ev_popR, ev_alen, ev_xlen, ev_xald, ev_iald, ev_lald, ev_bald, ev_zald, ev_aald, ev_iast, ev_last, ev_bast, ev_zast, ev_aast, ev_gfI, ev_gfL, ev_gfR, ev_pfI, ev_pfZ, ev_pfL, ev_pfR, ev_new, ev_newa, ev_newq, ev_copy, ev_slen, ev_schr, ev_obj, ev_mmin, ev_mabs, ev_mmax, ev_goto, ev_jsr, ev_icmp_eq, ev_if_eq, ev_icmp_ne, ev_if_ne, ev_icmp_lt, ev_if_lt, ev_icmp_ge, ev_if_ge, ev_icmp_gt, ev_if_gt, ev_icmp_le, ev_if_le, ev_ifnull0, ev_ifnull1, ev_ifnn0, ev_ifnn1, ev_tsw, ev_lsw, ev_iret, ev_zret, ev_lret, ev_aret, ev_ret, ev_call0, ev_call1, ev_call2, ev_call3, ev_call4, ev_call5, ev_call6, Option.toList_some, Option.toList_none, List.cons_append, List.nil_append, List.length_cons, List.length_nil, Nat.reduceMod, Nat.reduceDiv, Nat.reduceLeDiff, nc, ↓reduceIte, Nat.zero_le, reduceCtorEq, w32_id, Int.reduceEq, Int.reduceNe, Int.reduceLT, Int.reduceLE, Int.reduceGT, Int.reduceGE, Int.reduceAdd, Int.reduceSub, Int.reduceMul, Int.reduceNeg, ne_eq, not_true_eq_false, not_false_eq_true, eq_self, ↓if_pos, ↓if_neg, J_166_0, k_166_0, J_166_138, k_166_138, J_166_144, k_166_144, J_166_160, k_166_160, k_166_58, a6, tr0, tr1, tr2, tr3, tr4, tr5, tr6, tr7, s2, q2, er, nc_s]) [some (vR (some 46)), some (vI k), some (vI now), some (vI 0), none, none, none] (up Ma 49 k (-1000000)) ⟨none, none, none, rfl, ⟨fun b hb => by rw [up_ne (by omega)]; exact fa b (by omega), fun j hj => by rw [up_ne (by omega), up_ne (by omega), up_ne2 hj, fa 47 (by omega), fa 48 (by omega), fa 49 (by omega)]; exact ⟨rfl, rfl, rfl⟩⟩, hc_f hHa (fun b u v => by rw [up_ne (by omega)]), Or.inl ⟨bsn_0, up_eq⟩⟩
  subst hls
  have e : (((xn A).toNat : Nat) : Int) = xn A := by omega
  rw [e] at he st
  have n8 := hcM.2.1.1
  refine ⟨M2, fr.1, fr.2, hcM, ?_, ?_⟩
  · rcases st with z | z
    · exact (bsn_no z.1 hn).elim
    · exact bsy_end z
  · have s13 : Ma (51 + 1) 13 = A 13 := hHa.2.1.2.1 13 (by omega) (by omega)
    rw [E_166 k46]
    generalize lsA A H = lv at ea b0 b1 hNow
    simp (disch := first | assumption | decide | omega | (simp only [List.length_cons, List.length_nil] <;> omega)) only [lgt_0, lgt_s, lset_0, lset_s, lst1_0, lst1_s, lst2_0, lst2_s, ev_iconst, ev_lconst, ev_ldc, ev_null, ev_iload, ev_lload, ev_aload, ev_istore, ev_lstore, ev_astore, ev_iinc, ev_iadd, ev_isub, ev_imul, ev_iand, ev_ior, ev_ishl, ev_ishr, ev_idiv, ev_irem, ev_ineg, ev_ladd, ev_lsub, ev_lmul, ev_land, ev_lor, ev_ldiv, ev_lrem, ev_lshl, ev_i2l, ev_l2i, ev_i2b, ev_i2s, ev_lcmp, ev_dupI, ev_dupR, ev_dup2, ev_popI, ev_popR, ev_alen, ev_xlen, ev_xald, ev_iald, ev_lald, ev_bald, ev_zald, ev_aald, ev_iast, ev_last, ev_bast, ev_zast, ev_aast, ev_gfI, ev_gfL, ev_gfR, ev_pfI, ev_pfZ, ev_pfL, ev_pfR, ev_new, ev_newa, ev_newq, ev_copy, ev_slen, ev_schr, ev_obj, ev_mmin, ev_mabs, ev_mmax, ev_goto, ev_jsr, ev_icmp_eq, ev_if_eq, ev_icmp_ne, ev_if_ne, ev_icmp_lt, ev_if_lt, ev_icmp_ge, ev_if_ge, ev_icmp_gt, ev_if_gt, ev_icmp_le, ev_if_le, ev_ifnull0, ev_ifnull1, ev_ifnn0, ev_ifnn1, ev_tsw, ev_lsw, ev_iret, ev_zret, ev_lret, ev_aret, ev_ret, ev_call0, ev_call1, ev_call2, ev_call3, ev_call4, ev_call5, ev_call6, Option.toList_some, Option.toList_none, List.cons_append, List.nil_append, List.length_cons, List.length_nil, Nat.reduceMod, Nat.reduceDiv, Nat.reduceLeDiff, nc, ↓reduceIte, Nat.zero_le, reduceCtorEq, w32_id, Int.reduceEq, Int.reduceNe, Int.reduceLT, Int.reduceLE, Int.reduceGT, Int.reduceGE, Int.reduceAdd, Int.reduceSub, Int.reduceMul, Int.reduceNeg, ne_eq, not_true_eq_false, not_false_eq_true, eq_self, ↓if_pos, ↓if_neg, J_166_0, k_166_0, J_166_138, k_166_138, J_166_144, k_166_144, J_166_160, k_166_160, a2, a6, a7, tr0, tr1, tr2, tr3, tr4, tr5, tr6, tr7, ea, s13, hNow]
    rw [he]
    have q2 : xn A ≤ xn A := Int.le_refl _
    simp (disch := first | assumption | decide | omega | (simp only [List.length_cons, List.length_nil] <;> omega)) only [lgt_0, lgt_s, lset_0, lset_s, lst1_0, lst1_s, lst2_0, lst2_s, ev_iconst, ev_lconst, ev_ldc, ev_null, ev_iload, ev_lload, ev_aload, ev_istore, ev_lstore, ev_astore, ev_iinc, ev_iadd, ev_isub, ev_imul, ev_iand, ev_ior, ev_ishl, ev_ishr, ev_idiv, ev_irem, ev_ineg, ev_ladd, ev_lsub, ev_lmul, ev_land, ev_lor, ev_ldiv, ev_lrem, ev_lshl, ev_i2l, ev_l2i, ev_i2b, ev_i2s, ev_lcmp, ev_dupI, ev_dupR, ev_dup2, ev_popI, ev_popR, ev_alen, ev_xlen, ev_xald, ev_iald, ev_lald, ev_bald, ev_zald, ev_aald, ev_iast, ev_last, ev_bast, ev_zast, ev_aast, ev_gfI, ev_gfL, ev_gfR, ev_pfI, ev_pfZ, ev_pfL, ev_pfR, ev_new, ev_newa, ev_newq, ev_copy, ev_slen, ev_schr, ev_obj, ev_mmin, ev_mabs, ev_mmax, ev_goto, ev_jsr, ev_icmp_eq, ev_if_eq, ev_icmp_ne, ev_if_ne, ev_icmp_lt, ev_if_lt, ev_icmp_ge, ev_if_ge, ev_icmp_gt, ev_if_gt, ev_icmp_le, ev_if_le, ev_ifnull0, ev_ifnull1, ev_ifnn0, ev_ifnn1, ev_tsw, ev_lsw, ev_iret, ev_zret, ev_lret, ev_aret, ev_ret, ev_call0, ev_call1, ev_call2, ev_call3, ev_call4, ev_call5, ev_call6, Option.toList_some, Option.toList_none, List.cons_append, List.nil_append, List.length_cons, List.length_nil, Nat.reduceMod, Nat.reduceDiv, Nat.reduceLeDiff, nc, ↓reduceIte, Nat.zero_le, reduceCtorEq, w32_id, Int.reduceEq, Int.reduceNe, Int.reduceLT, Int.reduceLE, Int.reduceGT, Int.reduceGE, Int.reduceAdd, Int.reduceSub, Int.reduceMul, Int.reduceNeg, ne_eq, not_true_eq_false, not_false_eq_true, eq_self, ↓if_pos, ↓if_neg, J_166_0, k_166_0, J_166_138, k_166_138, J_166_144, k_166_144, J_166_160, k_166_160, k_166_33, a6, n8, q2]
def frmB (M M' : Mem) : Prop := (∀ b, b ≠ 140 → (b < 152 ∨ 159 < b) → M' b = M b) ∧ ∀ i, (i < 36 ∨ 39 < i) → M' 140 i = M 140 i
theorem hv_b (h : HV M A H) (f : frmB M M') : HV M' A H := by
  obtain ⟨q1, q2, q3⟩ := h
  refine ⟨fun k a b => ?_, fun i a b => ?_, q3⟩
  · rw [f.1 _ (by omega) (by omega)]; exact q1 k a b
  · rw [f.1 (140 + 9) (by omega) (by omega), f.1 (140 + 10) (by omega) (by omega)]; exact q2 i a b
theorem frmB_m {M'' : Mem} (f : frmB M M') (g : frmM 140 M' M'') : frmB M M'' := ⟨fun b b0 b1 => by rw [g.1 b b0 (by omega)]; exact f.1 b b0 b1, fun i hi => by rw [g.2 i (by omega)]; exact f.2 i hi⟩
theorem m_seeksBest (hH : HV M A H) : ∃ M', frmB M M' ∧ ((BSn A H (xn A) 0 ∧ evc X 325 [vR (some 140)] SH0 M = some (some (vI 0), SH0, M')) ∨ (isB A H (M' 140 37) (M' 140 38) (M' 140 39) ∧ evc X 325 [vR (some 140)] SH0 M = some (some (vI 1), SH0, M'))) := by
  have mk0 := w0_k140
  obtain ⟨r_at, k_at, l_at⟩ := md_at w0_md140; obtain ⟨r_colourOf, k_colourOf, l_colourOf⟩ := md_colourOf w0_md140
  have gN := hH.2.2.1.1.2.1
  have g2 := hH.2.2.1.1.1.2.2.1
  have hu : ∀ i, 0 ≤ i → i < xn A → (0 ≤ H i ∧ H i < A 2) := hH.2.2.2
  obtain ⟨Ma, fa, ea, b0, b1⟩ := hv_lA (X := X) (hv_b (M' := up M 140 37 (-1)) hH ⟨fun b x _ => by rw [up_ne x], fun i hi => by rw [up_ne2 (by omega)]⟩)
  have fra : frmB M Ma := frmB_m (M' := up M 140 37 (-1)) ⟨fun b x _ => by rw [up_ne x], fun i hi => by rw [up_ne2 (by omega)]⟩ fa
  have a37 : Ma 140 37 = -1 := by rw [fa.2 37 (by omega), up_eq]
  let ST : Mem → Int → Int → Prop := fun M' i c => (BSn A H i c ∧ M' 140 37 = -1) ∨ (BSy A H i c (M' 140 39) (M' 140 37) (M' 140 38))
  generalize hB : lsA A H = before at b0 b1 ea
  have em (M' : Mem) (f : frmB M M') : evc X 225 [vR (some 140)] SH0 M' = some (some (vI (xn A)), SH0, M') := by
    have hv := hv_b hH f
    rw [m_many w0_md140 (hv_gm hv).1.1, (hv_ve hv).1]
  obtain ⟨ls', M2, ⟨w3, w4, hls, fr, st⟩, he⟩ := ev_for (X := X) (y := 325) (Sh := SH0) (fun i ls M' => ∃ w3 w4, ls = [some (vR (some 140)), some (vI before), some (vI (i : Int)), w3, w4] ∧ frmB M M' ∧ ST M' i 0) J_325_12 (xn A).toNat (fun i hi ls M' hI => by
    obtain ⟨w3, w4, hls, fr, st⟩ := hI
    subst hls
    have q0 : ¬ xn A ≤ (i : Int) := by omega
    obtain ⟨ls2, M3, ⟨v4, hls2, fr2, st2⟩, he2⟩ := ev_for (X := X) (y := 325) (Sh := SH0) (fun c ls M' => ∃ v4, ls = [some (vR (some 140)), some (vI before), some (vI (i : Int)), some (vI (c : Int)), v4] ∧ frmB M M' ∧ ST M' i c) J_325_22 (A 2).toNat (fun c hc ls M3 hI => by
      obtain ⟨v4, hls, fr2, st2⟩ := hI
      subst hls
      have hv := hv_b hH fr2
      have s2 := hv.1 2 (by omega) (by omega)
      have q1 : ¬ A 2 ≤ (c : Int) := by omega
      have hHi := (hv.2.1 i (by omega) (by omega)).2
      by_cases y : (c : Int) = H i
      · refine ⟨_, M3, ⟨v4, rfl, fr2, ?_⟩, ?_⟩
        · rcases st2 with z | z
          · exact Or.inl ⟨bsn_skip z.1 y, z.2⟩
          · exact Or.inr (bs_keep z (fun u => absurd y u))
        · rw [← y] at hHi
          simp (disch := first | assumption | decide | omega | (simp only [List.length_cons, List.length_nil] <;> omega)) only [lgt_0, lgt_s, lset_0, lset_s, lst1_0, lst1_s, lst2_0, lst2_s, ev_iconst, ev_lconst, ev_ldc, ev_null, ev_iload, ev_lload, ev_aload, ev_istore, ev_lstore, ev_astore, ev_iinc, ev_iadd, ev_isub, ev_imul, ev_iand, ev_ior, ev_ishl, ev_ishr, ev_idiv, ev_irem, ev_ineg, ev_ladd, ev_lsub, ev_lmul, ev_land, ev_lor, ev_ldiv, ev_lrem, ev_lshl, ev_i2l, ev_l2i, ev_i2b, ev_i2s, ev_lcmp, ev_dupI, ev_dupR, ev_dup2, ev_popI, ev_popR, ev_alen, ev_xlen, ev_xald, ev_iald, ev_lald, ev_bald, ev_zald, ev_aald, ev_iast, ev_last, ev_bast, ev_zast, ev_aast, ev_gfI, ev_gfL, ev_gfR, ev_pfI, ev_pfZ, ev_pfL, ev_pfR, ev_new, ev_newa, ev_newq, ev_copy, ev_slen, ev_schr, ev_obj, ev_mmin, ev_mabs, ev_mmax, ev_goto, ev_jsr, ev_icmp_eq, ev_if_eq, ev_icmp_ne, ev_if_ne, ev_icmp_lt, ev_if_lt, ev_icmp_ge, ev_if_ge, ev_icmp_gt, ev_if_gt, ev_icmp_le, ev_if_le, ev_ifnull0, ev_ifnull1, ev_ifnn0, ev_ifnn1, ev_tsw, ev_lsw, ev_iret, ev_zret, ev_lret, ev_aret, ev_ret, ev_call0, ev_call1, ev_call2, ev_call3, ev_call4, ev_call5, ev_call6, Option.toList_some, Option.toList_none, List.cons_append, List.nil_append, List.length_cons, List.length_nil, Nat.reduceMod, Nat.reduceDiv, Nat.reduceLeDiff, nc, ↓reduceIte, Nat.zero_le, reduceCtorEq, w32_id, Int.reduceEq, Int.reduceNe, Int.reduceLT, Int.reduceLE, Int.reduceGT, Int.reduceGE, Int.reduceAdd, Int.reduceSub, Int.reduceMul, Int.reduceNeg, ne_eq, not_true_eq_false, not_false_eq_true, eq_self, ↓if_pos, ↓if_neg, J_325_0, k_325_0, J_325_45, k_325_45, J_325_74, k_325_74, J_325_90, k_325_90, J_325_96, k_325_96, J_325_102, k_325_102, J_325_114, k_325_114, J_325_115, k_325_115, k_325_22, r_at, r_colourOf, s2, hHi, nc_s]
      · obtain ⟨M4, f4, e4⟩ := m_savesBy (X := X) hv (b := before) (i := i) (k := c) (by omega) (by omega) (by omega)
        have fr4 := frmB_m fr2 f4
        have sv2 : before - lsA A (upH H i c) - A 13 = savF A H i c := by rw [savF_u, hB]
        rw [sv2] at e4
        have m37 := f4.2 37 (by omega)
        have m38 := f4.2 38 (by omega)
        have m39 := f4.2 39 (by omega)
        have y2 : ¬ H i = (c : Int) := fun z => y z.symm
        by_cases u : ¬ M3 140 37 = -1 ∧ savF A H i c ≤ M3 140 39
        · have st3 : BSy A H i c (M3 140 39) (M3 140 37) (M3 140 38) := by
            rcases st2 with z | z
            · exact absurd z.2 u.1
            · exact z
          refine ⟨_, M4, ⟨some (vI (savF A H i c)), rfl, fr4, ?_⟩, ?_⟩
          · show (_ ∧ M4 140 37 = _) ∨ BSy A H i _ (M4 140 39) (M4 140 37) (M4 140 38)
            rw [m37, m38, m39]
            exact Or.inr (bs_keep st3 (fun _ => u.2))
          · obtain ⟨u1, u2⟩ := u
            generalize savF A H i c = sv' at e4 u2 ⊢
            generalize H i = hi' at hHi y2
            simp (disch := first | assumption | decide | omega | (simp only [List.length_cons, List.length_nil] <;> omega)) only [lgt_0, lgt_s, lset_0, lset_s, lst1_0, lst1_s, lst2_0, lst2_s, ev_iconst, ev_lconst, ev_ldc, ev_null, ev_iload, ev_lload, ev_aload, ev_istore, ev_lstore, ev_astore, ev_iinc, ev_iadd, ev_isub, ev_imul, ev_iand, ev_ior, ev_ishl, ev_ishr, ev_idiv, ev_irem, ev_ineg, ev_ladd, ev_lsub, ev_lmul, ev_land, ev_lor, ev_ldiv, ev_lrem, ev_lshl, ev_i2l, ev_l2i, ev_i2b, ev_i2s, ev_lcmp, ev_dupI, ev_dupR, ev_dup2, ev_popI, ev_popR, ev_alen, ev_xlen, ev_xald, ev_iald, ev_lald, ev_bald, ev_zald, ev_aald, ev_iast, ev_last, ev_bast, ev_zast, ev_aast, ev_gfI, ev_gfL, ev_gfR, ev_pfI, ev_pfZ, ev_pfL, ev_pfR, ev_new, ev_newa, ev_newq, ev_copy, ev_slen, ev_schr, ev_obj, ev_mmin, ev_mabs, ev_mmax, ev_goto, ev_jsr, ev_icmp_eq, ev_if_eq, ev_icmp_ne, ev_if_ne, ev_icmp_lt, ev_if_lt, ev_icmp_ge, ev_if_ge, ev_icmp_gt, ev_if_gt, ev_icmp_le, ev_if_le, ev_ifnull0, ev_ifnull1, ev_ifnn0, ev_ifnn1, ev_tsw, ev_lsw, ev_iret, ev_zret, ev_lret, ev_aret, ev_ret, ev_call0, ev_call1, ev_call2, ev_call3, ev_call4, ev_call5, ev_call6, Option.toList_some, Option.toList_none, List.cons_append, List.nil_append, List.length_cons, List.length_nil, Nat.reduceMod, Nat.reduceDiv, Nat.reduceLeDiff, nc, ↓reduceIte, Nat.zero_le, reduceCtorEq, w32_id, Int.reduceEq, Int.reduceNe, Int.reduceLT, Int.reduceLE, Int.reduceGT, Int.reduceGE, Int.reduceAdd, Int.reduceSub, Int.reduceMul, Int.reduceNeg, ne_eq, not_true_eq_false, not_false_eq_true, eq_self, ↓if_pos, ↓if_neg, J_325_0, k_325_0, J_325_45, k_325_45, J_325_74, k_325_74, J_325_90, k_325_90, J_325_96, k_325_96, J_325_102, k_325_102, J_325_114, k_325_114, J_325_115, k_325_115, k_325_22, r_at, r_colourOf, s2, hHi, y2, e4, m37, m39, u1, nc_s]
        · refine ⟨_, up (up (up M4 140 37 i) 140 38 c) 140 39 (savF A H i c), ⟨some (vI (savF A H i c)), rfl, ⟨fun b x0 x1 => by simp (disch := omega) only [up_ne, up_eq, up_ne2]; exact fr4.1 b x0 x1, fun j hj => by simp (disch := omega) only [up_ne, up_eq, up_ne2]; exact fr4.2 j hj⟩, Or.inr ?_⟩, ?_⟩
          · simp (disch := omega) only [up_ne, up_eq, up_ne2]
            refine bs_new ?_ (by omega) (by omega) y (s := M3 140 39) (t := M3 140 37) (o := M3 140 38)
            rcases st2 with z | z
            · exact Or.inl z.1
            · refine Or.inr ⟨z, ?_⟩
              have : M3 140 37 ≠ -1 := by have := z.1.1; omega
              by_cases w : savF A H i c ≤ M3 140 39
              · exact absurd ⟨this, w⟩ u
              · omega
          · generalize savF A H i c = sv' at e4 u ⊢
            generalize H i = hi' at hHi y2
            by_cases u1 : M3 140 37 = -1
            · simp (disch := first | assumption | decide | omega | (simp only [List.length_cons, List.length_nil] <;> omega)) only [lgt_0, lgt_s, lset_0, lset_s, lst1_0, lst1_s, lst2_0, lst2_s, ev_iconst, ev_lconst, ev_ldc, ev_null, ev_iload, ev_lload, ev_aload, ev_istore, ev_lstore, ev_astore, ev_iinc, ev_iadd, ev_isub, ev_imul, ev_iand, ev_ior, ev_ishl, ev_ishr, ev_idiv, ev_irem, ev_ineg, ev_ladd, ev_lsub, ev_lmul, ev_land, ev_lor, ev_ldiv, ev_lrem, ev_lshl, ev_i2l, ev_l2i, ev_i2b, ev_i2s, ev_lcmp, ev_dupI, ev_dupR, ev_dup2, ev_popI, ev_popR, ev_alen, ev_xlen, ev_xald, ev_iald, ev_lald, ev_bald, ev_zald, ev_aald, ev_iast, ev_last, ev_bast, ev_zast, ev_aast, ev_gfI, ev_gfL, ev_gfR, ev_pfI, ev_pfZ, ev_pfL, ev_pfR, ev_new, ev_newa, ev_newq, ev_copy, ev_slen, ev_schr, ev_obj, ev_mmin, ev_mabs, ev_mmax, ev_goto, ev_jsr, ev_icmp_eq, ev_if_eq, ev_icmp_ne, ev_if_ne, ev_icmp_lt, ev_if_lt, ev_icmp_ge, ev_if_ge, ev_icmp_gt, ev_if_gt, ev_icmp_le, ev_if_le, ev_ifnull0, ev_ifnull1, ev_ifnn0, ev_ifnn1, ev_tsw, ev_lsw, ev_iret, ev_zret, ev_lret, ev_aret, ev_ret, ev_call0, ev_call1, ev_call2, ev_call3, ev_call4, ev_call5, ev_call6, Option.toList_some, Option.toList_none, List.cons_append, List.nil_append, List.length_cons, List.length_nil, Nat.reduceMod, Nat.reduceDiv, Nat.reduceLeDiff, nc, ↓reduceIte, Nat.zero_le, reduceCtorEq, w32_id, Int.reduceEq, Int.reduceNe, Int.reduceLT, Int.reduceLE, Int.reduceGT, Int.reduceGE, Int.reduceAdd, Int.reduceSub, Int.reduceMul, Int.reduceNeg, ne_eq, not_true_eq_false, not_false_eq_true, eq_self, ↓if_pos, ↓if_neg, J_325_0, k_325_0, J_325_45, k_325_45, J_325_74, k_325_74, J_325_90, k_325_90, J_325_96, k_325_96, J_325_102, k_325_102, J_325_114, k_325_114, J_325_115, k_325_115, k_325_22, r_at, r_colourOf, s2, hHi, y2, e4, m37, u1, nc_s]
            · have u2 : ¬ sv' ≤ M3 140 39 := fun w => u ⟨u1, w⟩
              simp (disch := first | assumption | decide | omega | (simp only [List.length_cons, List.length_nil] <;> omega)) only [lgt_0, lgt_s, lset_0, lset_s, lst1_0, lst1_s, lst2_0, lst2_s, ev_iconst, ev_lconst, ev_ldc, ev_null, ev_iload, ev_lload, ev_aload, ev_istore, ev_lstore, ev_astore, ev_iinc, ev_iadd, ev_isub, ev_imul, ev_iand, ev_ior, ev_ishl, ev_ishr, ev_idiv, ev_irem, ev_ineg, ev_ladd, ev_lsub, ev_lmul, ev_land, ev_lor, ev_ldiv, ev_lrem, ev_lshl, ev_i2l, ev_l2i, ev_i2b, ev_i2s, ev_lcmp, ev_dupI, ev_dupR, ev_dup2, ev_popI, ev_popR, ev_alen, ev_xlen, ev_xald, ev_iald, ev_lald, ev_bald, ev_zald, ev_aald, ev_iast, ev_last, ev_bast, ev_zast, ev_aast, ev_gfI, ev_gfL, ev_gfR, ev_pfI, ev_pfZ, ev_pfL, ev_pfR, ev_new, ev_newa, ev_newq, ev_copy, ev_slen, ev_schr, ev_obj, ev_mmin, ev_mabs, ev_mmax, ev_goto, ev_jsr, ev_icmp_eq, ev_if_eq, ev_icmp_ne, ev_if_ne, ev_icmp_lt, ev_if_lt, ev_icmp_ge, ev_if_ge, ev_icmp_gt, ev_if_gt, ev_icmp_le, ev_if_le, ev_ifnull0, ev_ifnull1, ev_ifnn0, ev_ifnn1, ev_tsw, ev_lsw, ev_iret, ev_zret, ev_lret, ev_aret, ev_ret, ev_call0, ev_call1, ev_call2, ev_call3, ev_call4, ev_call5, ev_call6, Option.toList_some, Option.toList_none, List.cons_append, List.nil_append, List.length_cons, List.length_nil, Nat.reduceMod, Nat.reduceDiv, Nat.reduceLeDiff, nc, ↓reduceIte, Nat.zero_le, reduceCtorEq, w32_id, Int.reduceEq, Int.reduceNe, Int.reduceLT, Int.reduceLE, Int.reduceGT, Int.reduceGE, Int.reduceAdd, Int.reduceSub, Int.reduceMul, Int.reduceNeg, ne_eq, not_true_eq_false, not_false_eq_true, eq_self, ↓if_pos, ↓if_neg, J_325_0, k_325_0, J_325_45, k_325_45, J_325_74, k_325_74, J_325_90, k_325_90, J_325_96, k_325_96, J_325_102, k_325_102, J_325_114, k_325_114, J_325_115, k_325_115, k_325_22, r_at, r_colourOf, s2, hHi, y2, e4, m37, m39, u1, nc_s]) [some (vR (some 140)), some (vI before), some (vI (i : Int)), some (vI 0), w4] M' ⟨w4, rfl, fr, st⟩
    subst hls2
    have e : (((A 2).toNat : Nat) : Int) = A 2 := by omega
    rw [e] at he2
    have s2 := (hv_b hH fr2).1 2 (by omega) (by omega)
    refine ⟨_, M3, ⟨some (vI (A 2)), v4, rfl, fr2, ?_⟩, ?_⟩
    · rcases st2 with z | z
      · rw [e] at z
        exact Or.inl ⟨bsn_row z.1, z.2⟩
      · rw [e] at z
        exact Or.inr (bsy_row z)
    · have q2 : A 2 ≤ A 2 := Int.le_refl _
      simp (disch := first | assumption | decide | omega | (simp only [List.length_cons, List.length_nil] <;> omega)) only [lgt_0, lgt_s, lset_0, lset_s, lst1_0, lst1_s, lst2_0, lst2_s, ev_iconst, ev_lconst, ev_ldc, ev_null, ev_iload, ev_lload, ev_aload, ev_istore, ev_lstore, ev_astore, ev_iinc, ev_iadd, ev_isub, ev_imul, ev_iand, ev_ior, ev_ishl, ev_ishr, ev_idiv, ev_irem, ev_ineg, ev_ladd, ev_lsub, ev_lmul, ev_land, ev_lor, ev_ldiv, ev_lrem, ev_lshl, ev_i2l, ev_l2i, ev_i2b, ev_i2s, ev_lcmp, ev_dupI, ev_dupR, ev_dup2, ev_popI, ev_popR, ev_alen, ev_xlen, ev_xald, ev_iald, ev_lald, ev_bald, ev_zald, ev_aald, ev_iast, ev_last, ev_bast, ev_zast, ev_aast, ev_gfI, ev_gfL, ev_gfR, ev_pfI, ev_pfZ, ev_pfL, ev_pfR, ev_new, ev_newa, ev_newq, ev_copy, ev_slen, ev_schr, ev_obj, ev_mmin, ev_mabs, ev_mmax, ev_goto, ev_jsr, ev_icmp_eq, ev_if_eq, ev_icmp_ne, ev_if_ne, ev_icmp_lt, ev_if_lt, ev_icmp_ge, ev_if_ge, ev_icmp_gt, ev_if_gt, ev_icmp_le, ev_if_le, ev_ifnull0, ev_ifnull1, ev_ifnn0, ev_ifnn1, ev_tsw, ev_lsw, ev_iret, ev_zret, ev_lret, ev_aret, ev_ret, ev_call0, ev_call1, ev_call2, ev_call3, ev_call4, ev_call5, ev_call6, Option.toList_some, Option.toList_none, List.cons_append, List.nil_append, List.length_cons, List.length_nil, Nat.reduceMod, Nat.reduceDiv, Nat.reduceLeDiff, nc, ↓reduceIte, Nat.zero_le, reduceCtorEq, w32_id, Int.reduceEq, Int.reduceNe, Int.reduceLT, Int.reduceLE, Int.reduceGT, Int.reduceGE, Int.reduceAdd, Int.reduceSub, Int.reduceMul, Int.reduceNeg, ne_eq, not_true_eq_false, not_false_eq_true, eq_self, ↓if_pos, ↓if_neg, J_325_0, k_325_0, J_325_45, k_325_45, J_325_74, k_325_74, J_325_90, k_325_90, J_325_96, k_325_96, J_325_102, k_325_102, J_325_114, k_325_114, J_325_115, k_325_115, k_325_12, em M' fr, q0]
      rw [he2]
      simp (disch := first | assumption | decide | omega | (simp only [List.length_cons, List.length_nil] <;> omega)) only [lgt_0, lgt_s, lset_0, lset_s, lst1_0, lst1_s, lst2_0, lst2_s, ev_iconst, ev_lconst, ev_ldc, ev_null, ev_iload, ev_lload, ev_aload, ev_istore, ev_lstore, ev_astore, ev_iinc, ev_iadd, ev_isub, ev_imul, ev_iand, ev_ior, ev_ishl, ev_ishr, ev_idiv, ev_irem, ev_ineg, ev_ladd, ev_lsub, ev_lmul, ev_land, ev_lor, ev_ldiv, ev_lrem, ev_lshl, ev_i2l, ev_l2i, ev_i2b, ev_i2s, ev_lcmp, ev_dupI, ev_dupR, ev_dup2, ev_popI, ev_popR, ev_alen, ev_xlen, ev_xald, ev_iald, ev_lald, ev_bald, ev_zald, ev_aald, ev_iast, ev_last, ev_bast, ev_zast, ev_aast, ev_gfI, ev_gfL, ev_gfR, ev_pfI, ev_pfZ, ev_pfL, ev_pfR, ev_new, ev_newa, ev_newq, ev_copy, ev_slen, ev_schr, ev_obj, ev_mmin, ev_mabs, ev_mmax, ev_goto, ev_jsr, ev_icmp_eq, ev_if_eq, ev_icmp_ne, ev_if_ne, ev_icmp_lt, ev_if_lt, ev_icmp_ge, ev_if_ge, ev_icmp_gt, ev_if_gt, ev_icmp_le, ev_if_le, ev_ifnull0, ev_ifnull1, ev_ifnn0, ev_ifnn1, ev_tsw, ev_lsw, ev_iret, ev_zret, ev_lret, ev_aret, ev_ret, ev_call0, ev_call1, ev_call2, ev_call3, ev_call4, ev_call5, ev_call6, Option.toList_some, Option.toList_none, List.cons_append, List.nil_append, List.length_cons, List.length_nil, Nat.reduceMod, Nat.reduceDiv, Nat.reduceLeDiff, nc, ↓reduceIte, Nat.zero_le, reduceCtorEq, w32_id, Int.reduceEq, Int.reduceNe, Int.reduceLT, Int.reduceLE, Int.reduceGT, Int.reduceGE, Int.reduceAdd, Int.reduceSub, Int.reduceMul, Int.reduceNeg, ne_eq, not_true_eq_false, not_false_eq_true, eq_self, ↓if_pos, ↓if_neg, J_325_0, k_325_0, J_325_45, k_325_45, J_325_74, k_325_74, J_325_90, k_325_90, J_325_96, k_325_96, J_325_102, k_325_102, J_325_114, k_325_114, J_325_115, k_325_115, k_325_22, r_at, s2, q2, nc_s]) [some (vR (some 140)), some (vI before), some (vI 0), none, none] Ma ⟨none, none, rfl, fra, Or.inl ⟨bsn_0, a37⟩⟩
  subst hls
  have e : (((xn A).toNat : Nat) : Int) = xn A := by omega
  rw [e] at he st
  have q2 : xn A ≤ xn A := Int.le_refl _
  refine ⟨M2, fr, ?_⟩
  rw [E_325 mk0]
  rcases st with z | z
  · refine Or.inl ⟨z.1, ?_⟩
    have z2 := z.2
    simp (disch := first | assumption | decide | omega | (simp only [List.length_cons, List.length_nil] <;> omega)) only [lgt_0, lgt_s, lset_0, lset_s, lst1_0, lst1_s, lst2_0, lst2_s, ev_iconst, ev_lconst, ev_ldc, ev_null, ev_iload, ev_lload, ev_aload, ev_istore, ev_lstore, ev_astore, ev_iinc, ev_iadd, ev_isub, ev_imul, ev_iand, ev_ior, ev_ishl, ev_ishr, ev_idiv, ev_irem, ev_ineg, ev_ladd, ev_lsub, ev_lmul, ev_land, ev_lor, ev_ldiv, ev_lrem, ev_lshl, ev_i2l, ev_l2i, ev_i2b, ev_i2s, ev_lcmp, ev_dupI, ev_dupR, ev_dup2, ev_popI, ev_popR, ev_alen, ev_xlen, ev_xald, ev_iald, ev_lald, ev_bald, ev_zald, ev_aald, ev_iast, ev_last, ev_bast, ev_zast, ev_aast, ev_gfI, ev_gfL, ev_gfR, ev_pfI, ev_pfZ, ev_pfL, ev_pfR, ev_new, ev_newa, ev_newq, ev_copy, ev_slen, ev_schr, ev_obj, ev_mmin, ev_mabs, ev_mmax, ev_goto, ev_jsr, ev_icmp_eq, ev_if_eq, ev_icmp_ne, ev_if_ne, ev_icmp_lt, ev_if_lt, ev_icmp_ge, ev_if_ge, ev_icmp_gt, ev_if_gt, ev_icmp_le, ev_if_le, ev_ifnull0, ev_ifnull1, ev_ifnn0, ev_ifnn1, ev_tsw, ev_lsw, ev_iret, ev_zret, ev_lret, ev_aret, ev_ret, ev_call0, ev_call1, ev_call2, ev_call3, ev_call4, ev_call5, ev_call6, Option.toList_some, Option.toList_none, List.cons_append, List.nil_append, List.length_cons, List.length_nil, Nat.reduceMod, Nat.reduceDiv, Nat.reduceLeDiff, nc, ↓reduceIte, Nat.zero_le, reduceCtorEq, w32_id, Int.reduceEq, Int.reduceNe, Int.reduceLT, Int.reduceLE, Int.reduceGT, Int.reduceGE, Int.reduceAdd, Int.reduceSub, Int.reduceMul, Int.reduceNeg, ne_eq, not_true_eq_false, not_false_eq_true, eq_self, ↓if_pos, ↓if_neg, J_325_0, k_325_0, J_325_45, k_325_45, J_325_74, k_325_74, J_325_90, k_325_90, J_325_96, k_325_96, J_325_102, k_325_102, J_325_114, k_325_114, J_325_115, k_325_115, ea]
    rw [he]
    simp (disch := first | assumption | decide | omega | (simp only [List.length_cons, List.length_nil] <;> omega)) only [lgt_0, lgt_s, lset_0, lset_s, lst1_0, lst1_s, lst2_0, lst2_s, ev_iconst, ev_lconst, ev_ldc, ev_null, ev_iload, ev_lload, ev_aload, ev_istore, ev_lstore, ev_astore, ev_iinc, ev_iadd, ev_isub, ev_imul, ev_iand, ev_ior, ev_ishl, ev_ishr, ev_idiv, ev_irem, ev_ineg, ev_ladd, ev_lsub, ev_lmul, ev_land, ev_lor, ev_ldiv, ev_lrem, ev_lshl, ev_i2l, ev_l2i, ev_i2b, ev_i2s, ev_lcmp, ev_dupI, ev_dupR, ev_dup2, ev_popI, ev_popR, ev_alen, ev_xlen, ev_xald, ev_iald, ev_lald, ev_bald, ev_zald, ev_aald, ev_iast, ev_last, ev_bast, ev_zast, ev_aast, ev_gfI, ev_gfL, ev_gfR, ev_pfI, ev_pfZ, ev_pfL, ev_pfR, ev_new, ev_newa, ev_newq, ev_copy, ev_slen, ev_schr, ev_obj, ev_mmin, ev_mabs, ev_mmax, ev_goto, ev_jsr, ev_icmp_eq, ev_if_eq, ev_icmp_ne, ev_if_ne, ev_icmp_lt, ev_if_lt, ev_icmp_ge, ev_if_ge, ev_icmp_gt, ev_if_gt, ev_icmp_le, ev_if_le, ev_ifnull0, ev_ifnull1, ev_ifnn0, ev_ifnn1, ev_tsw, ev_lsw, ev_iret, ev_zret, ev_lret, ev_aret, ev_ret, ev_call0, ev_call1, ev_call2, ev_call3, ev_call4, ev_call5, ev_call6, Option.toList_some, Option.toList_none, List.cons_append, List.nil_append, List.length_cons, List.length_nil, Nat.reduceMod, Nat.reduceDiv, Nat.reduceLeDiff, nc, ↓reduceIte, Nat.zero_le, reduceCtorEq, w32_id, Int.reduceEq, Int.reduceNe, Int.reduceLT, Int.reduceLE, Int.reduceGT, Int.reduceGE, Int.reduceAdd, Int.reduceSub, Int.reduceMul, Int.reduceNeg, ne_eq, not_true_eq_false, not_false_eq_true, eq_self, ↓if_pos, ↓if_neg, J_325_0, k_325_0, J_325_45, k_325_45, J_325_74, k_325_74, J_325_90, k_325_90, J_325_96, k_325_96, J_325_102, k_325_102, J_325_114, k_325_114, J_325_115, k_325_115, k_325_12, em M2 fr, q2, z2]
  · have z2 : ¬ M2 140 37 = -1 := by have := z.1.1; omega
    refine Or.inr ⟨bsy_end z, ?_⟩
    simp (disch := first | assumption | decide | omega | (simp only [List.length_cons, List.length_nil] <;> omega)) only [lgt_0, lgt_s, lset_0, lset_s, lst1_0, lst1_s, lst2_0, lst2_s, ev_iconst, ev_lconst, ev_ldc, ev_null, ev_iload, ev_lload, ev_aload, ev_istore, ev_lstore, ev_astore, ev_iinc, ev_iadd, ev_isub, ev_imul, ev_iand, ev_ior, ev_ishl, ev_ishr, ev_idiv, ev_irem, ev_ineg, ev_ladd, ev_lsub, ev_lmul, ev_land, ev_lor, ev_ldiv, ev_lrem, ev_lshl, ev_i2l, ev_l2i, ev_i2b, ev_i2s, ev_lcmp, ev_dupI, ev_dupR, ev_dup2, ev_popI, ev_popR, ev_alen, ev_xlen, ev_xald, ev_iald, ev_lald, ev_bald, ev_zald, ev_aald, ev_iast, ev_last, ev_bast, ev_zast, ev_aast, ev_gfI, ev_gfL, ev_gfR, ev_pfI, ev_pfZ, ev_pfL, ev_pfR, ev_new, ev_newa, ev_newq, ev_copy, ev_slen, ev_schr, ev_obj, ev_mmin, ev_mabs, ev_mmax, ev_goto, ev_jsr, ev_icmp_eq, ev_if_eq, ev_icmp_ne, ev_if_ne, ev_icmp_lt, ev_if_lt, ev_icmp_ge, ev_if_ge, ev_icmp_gt, ev_if_gt, ev_icmp_le, ev_if_le, ev_ifnull0, ev_ifnull1, ev_ifnn0, ev_ifnn1, ev_tsw, ev_lsw, ev_iret, ev_zret, ev_lret, ev_aret, ev_ret, ev_call0, ev_call1, ev_call2, ev_call3, ev_call4, ev_call5, ev_call6, Option.toList_some, Option.toList_none, List.cons_append, List.nil_append, List.length_cons, List.length_nil, Nat.reduceMod, Nat.reduceDiv, Nat.reduceLeDiff, nc, ↓reduceIte, Nat.zero_le, reduceCtorEq, w32_id, Int.reduceEq, Int.reduceNe, Int.reduceLT, Int.reduceLE, Int.reduceGT, Int.reduceGE, Int.reduceAdd, Int.reduceSub, Int.reduceMul, Int.reduceNeg, ne_eq, not_true_eq_false, not_false_eq_true, eq_self, ↓if_pos, ↓if_neg, J_325_0, k_325_0, J_325_45, k_325_45, J_325_74, k_325_74, J_325_90, k_325_90, J_325_96, k_325_96, J_325_102, k_325_102, J_325_114, k_325_114, J_325_115, k_325_115, ea]
    rw [he]
    simp (disch := first | assumption | decide | omega | (simp only [List.length_cons, List.length_nil] <;> omega)) only [lgt_0, lgt_s, lset_0, lset_s, lst1_0, lst1_s, lst2_0, lst2_s, ev_iconst, ev_lconst, ev_ldc, ev_null, ev_iload, ev_lload, ev_aload, ev_istore, ev_lstore, ev_astore, ev_iinc, ev_iadd, ev_isub, ev_imul, ev_iand, ev_ior, ev_ishl, ev_ishr, ev_idiv, ev_irem, ev_ineg, ev_ladd, ev_lsub, ev_lmul, ev_land, ev_lor, ev_ldiv, ev_lrem, ev_lshl, ev_i2l, ev_l2i, ev_i2b, ev_i2s, ev_lcmp, ev_dupI, ev_dupR, ev_dup2, ev_popI, ev_popR, ev_alen, ev_xlen, ev_xald, ev_iald, ev_lald, ev_bald, ev_zald, ev_aald, ev_iast, ev_last, ev_bast, ev_zast, ev_aast, ev_gfI, ev_gfL, ev_gfR, ev_pfI, ev_pfZ, ev_pfL, ev_pfR, ev_new, ev_newa, ev_newq, ev_copy, ev_slen, ev_schr, ev_obj, ev_mmin, ev_mabs, ev_mmax, ev_goto, ev_jsr, ev_icmp_eq, ev_if_eq, ev_icmp_ne, ev_if_ne, ev_icmp_lt, ev_if_lt, ev_icmp_ge, ev_if_ge, ev_icmp_gt, ev_if_gt, ev_icmp_le, ev_if_le, ev_ifnull0, ev_ifnull1, ev_ifnn0, ev_ifnn1, ev_tsw, ev_lsw, ev_iret, ev_zret, ev_lret, ev_aret, ev_ret, ev_call0, ev_call1, ev_call2, ev_call3, ev_call4, ev_call5, ev_call6, Option.toList_some, Option.toList_none, List.cons_append, List.nil_append, List.length_cons, List.length_nil, Nat.reduceMod, Nat.reduceDiv, Nat.reduceLeDiff, nc, ↓reduceIte, Nat.zero_le, reduceCtorEq, w32_id, Int.reduceEq, Int.reduceNe, Int.reduceLT, Int.reduceLE, Int.reduceGT, Int.reduceGE, Int.reduceAdd, Int.reduceSub, Int.reduceMul, Int.reduceNeg, ne_eq, not_true_eq_false, not_false_eq_true, eq_self, ↓if_pos, ↓if_neg, J_325_0, k_325_0, J_325_45, k_325_45, J_325_74, k_325_74, J_325_90, k_325_90, J_325_96, k_325_96, J_325_102, k_325_102, J_325_114, k_325_114, J_325_115, k_325_115, k_325_12, em M2 fr, q2, z2]
end BES
