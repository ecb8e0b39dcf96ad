/-! THE FRESH WORLD: what both constructors leave is related; the law's run. -/
section FRS
variable {X : Int → Int}
theorem HA_0 {M : Mem} {C : CL} {f : Int → Int} {j : Nat} (h : HA M 0 C) (e : C[j]? = some f) : M j = f := by
  have e2 := HA_get h e
  rw [Nat.zero_add] at e2
  exact e2
def cw_all : CL := cs_23 ++ cw_222
def f0_0 : Int → Int := upH z0 2 1
def f0_2 : Int → Int := upH (upH z0 2 (-1)) 3 (-1)
def f0_5 : Int → Int := upH (upH (upH (upH (upH (upH (upH (upH (flH z0 15 0) 3 10) 4 5) 7 3) 8 1) 9 48) 11 1) 12 5) 13 5
def f0_14 : Int → Int := flH z0 48 (-1)
def f0_81 : Int → Int := upH z0 2 (-1)
def f0_140 : Int → Int := upH (upH (upH z0 4 1) 16 (-1)) 17 (-1)
def f0_144 : Int → Int := upH (upH (upH (upH z0 0 (-1)) 1 (-1)) 2 (-1)) 3 (-1)
theorem nsF_S {k : Int} (h0 : 0 ≤ k) (h1 : k < 15) : nsF k = f0_5 k := by
  rcases (by omega : k = 0 ∨ k = 1 ∨ k = 2 ∨ k = 3 ∨ k = 4 ∨ k = 5 ∨ k = 6 ∨ k = 7 ∨ k = 8 ∨ k = 9 ∨ k = 10 ∨ k = 11 ∨ k = 12 ∨ k = 13 ∨ k = 14) with z | z | z | z | z | z | z | z | z | z | z | z | z | z | z <;> (rw [z]; decide +kernel)
theorem nsF_W {k : Int} (h0 : 0 ≤ k) (h1 : k < 5) : nsF (16 + 2 * k) = 0 ∧ nsF (17 + 2 * k) = 0 := by
  rcases (by omega : k = 0 ∨ k = 1 ∨ k = 2 ∨ k = 3 ∨ k = 4) with z | z | z | z | z <;> (rw [z]; decide +kernel)
theorem f0_5_good {A : Int → Int} (h : ∀ k, 0 ≤ k → k < 15 → A k = f0_5 k) : goodS A := by
  unfold goodS
  rw [h 0 (by omega) (by omega), h 1 (by omega) (by omega), h 2 (by omega) (by omega), h 3 (by omega) (by omega), h 4 (by omega) (by omega), h 5 (by omega) (by omega), h 6 (by omega) (by omega), h 7 (by omega) (by omega), h 8 (by omega) (by omega), h 9 (by omega) (by omega), h 10 (by omega) (by omega), h 11 (by omega) (by omega), h 12 (by omega) (by omega), h 13 (by omega) (by omega), h 14 (by omega) (by omega)]
  decide +kernel
theorem fresh_RR {M M' : Mem} (h : HA M 0 cw_all) (hc : ∀ c, c ≠ 141 → c ≠ 149 → c ≠ 150 → M' c = M c) (hn : ∀ k, 0 ≤ k → k < 480 → M' 141 k = nsF k) : RR M' := by
  have e : ∀ {j : Nat} {f : Int → Int}, cw_all[j]? = some f → j ≠ 141 → j ≠ 149 → j ≠ 150 → M' j = f := fun h1 h2 h3 h4 => (hc _ h2 h3 h4).trans (HA_0 h h1)
  have m0 : M' 0 = f0_0 := e rfl (by omega) (by omega) (by omega)
  have m2 : M' 2 = f0_2 := e rfl (by omega) (by omega) (by omega)
  have m4 : M' 4 = upH z0 8 0 := e rfl (by omega) (by omega) (by omega)
  have m5 : M' 5 = f0_5 := e rfl (by omega) (by omega) (by omega)
  have m7 : M' 7 = z0 := e rfl (by omega) (by omega) (by omega)
  have m8 : M' 8 = z0 := e rfl (by omega) (by omega) (by omega)
  have m14 : M' 14 = f0_14 := e rfl (by omega) (by omega) (by omega)
  have m15 : M' 15 = f0_14 := e rfl (by omega) (by omega) (by omega)
  have m16 : M' 16 = z0 := e rfl (by omega) (by omega) (by omega)
  have m25 : M' 25 = z0 := e rfl (by omega) (by omega) (by omega)
  have m26 : M' 26 = z0 := e rfl (by omega) (by omega) (by omega)
  have m46 : M' 46 = z0 := e rfl (by omega) (by omega) (by omega)
  have m60 : M' 60 = z0 := e rfl (by omega) (by omega) (by omega)
  have m81 : M' 81 = f0_81 := e rfl (by omega) (by omega) (by omega)
  have m83 : M' 83 = f0_81 := e rfl (by omega) (by omega) (by omega)
  have m85 : M' 85 = f0_81 := e rfl (by omega) (by omega) (by omega)
  have m87 : M' 87 = f0_81 := e rfl (by omega) (by omega) (by omega)
  have m140 : M' 140 = f0_140 := e rfl (by omega) (by omega) (by omega)
  have m143 : M' 143 = z0 := e rfl (by omega) (by omega) (by omega)
  have m144 : M' 144 = f0_144 := e rfl (by omega) (by omega) (by omega)
  have nS : ∀ k, 0 ≤ k → k < 15 → M' 141 k = f0_5 k := fun k a b => (hn k a (by omega)).trans (nsF_S a b)
  have nW : ∀ k, 0 ≤ k → k < 5 → M' 141 (16 + 2 * k) = 0 ∧ M' 141 (17 + 2 * k) = 0 := fun k a b => ⟨(hn _ (by omega) (by omega)).trans (nsF_W a b).1, (hn _ (by omega) (by omega)).trans (nsF_W a b).2⟩
  have a0 : cA (M' 141) 0 0 = 0 := by rw [cA_0 (by omega) (by omega), nS 0 (by omega) (by omega)]; decide +kernel
  have a1 : cA (M' 141) 0 1 = 0 := by rw [cA_0 (by omega) (by omega), nS 1 (by omega) (by omega)]; decide +kernel
  have a2 : cA (M' 141) 0 2 = 0 := by rw [cA_0 (by omega) (by omega), nS 2 (by omega) (by omega)]; decide +kernel
  have aS : ∀ k, 0 ≤ k → k < 15 → cA (M' 141) 0 k = f0_5 k := fun k a b => by rw [cA_0 (by omega) (by omega), nS k a b]
  have g : goodS (cA (M' 141) 0) := f0_5_good aS
  unfold RR RR'
  refine ⟨⟨?_, ?_, ?_, ?_, ?_, ?_, ?_, ?_, ?_, ?_⟩, ?_⟩
  · unfold RTb
    rw [m0, m140]
    decide +kernel
  · have t : ∀ t : Int, 0 ≤ t → t < 4 → ∀ N tr : Int → Int, RT1 f0_81 N z0 f0_144 tr t := fun t a b N tr => by
      have q : f0_144 t = -1 := by
        rcases (by omega : t = 0 ∨ t = 1 ∨ t = 2 ∨ t = 3) with z | z | z | z <;> (rw [z]; decide +kernel)
      unfold RT1
      rw [q]
      exact ⟨by decide +kernel, by show f0_81 1 = 0; decide +kernel, by decide, by show (0 : Int) ≤ 0 ∧ (0 : Int) ≤ 3; decide, fun j c d => by omega⟩
    show RT1 (M' 81) (M' 82) (M' 143) (M' 144) (M' 145) 0 ∧ RT1 (M' 83) (M' 84) (M' 143) (M' 144) (M' 145) 1 ∧ RT1 (M' 85) (M' 86) (M' 143) (M' 144) (M' 145) 2 ∧ RT1 (M' 87) (M' 88) (M' 143) (M' 144) (M' 145) 3
    rw [m81, m83, m85, m87, m143, m144]
    exact ⟨t 0 (by omega) (by omega) _ _, t 1 (by omega) (by omega) _ _, t 2 (by omega) (by omega) _ _, t 3 (by omega) (by omega) _ _⟩
  · have q1 : f0_2 1 = 0 := by decide +kernel
    have q2 : f0_2 2 = f0_140 16 := by decide +kernel
    have q3 : f0_2 3 = f0_140 17 := by decide +kernel
    have q4 : f0_140 10 = 0 := by decide +kernel
    unfold RTp RTp1 RX
    rw [m2, m140, m25, m26, q1, q2, q3, q4]
    exact ⟨⟨rfl, by decide, fun k c d => by omega, rfl, rfl⟩, fun k _ _ => by show ((0 : Int) ≤ 0 ∧ (0 : Int) ≤ 9) ∧ (0 : Int) ≤ 0 ∧ (0 : Int) ≤ 99; decide⟩
  · show RCh (M' 5) (M' 6) (M' 7) (M' 8) (M' 9) (M' 10) (M' 11) (M' 12) (M' 4 8) (cA (M' 141) 0) (nA (M' 142) 0)
    have q4 : (upH z0 8 0 : Int → Int) 8 = 0 := by decide +kernel
    unfold RCh
    rw [m5, m7, m8, m4, q4, a0, a1, a2]
    refine ⟨fun k a b => (aS k a b).symm, g, fun z => absurd z (by decide), by decide, fun k a b => ?_, fun k a b => absurd b (by omega), fun p a b => absurd b (by omega), fun i a b => absurd b (by omega)⟩
    rw [cA_0 (by omega) (by omega), cA_0 (by omega) (by omega), (nW k a b).1, (nW k a b).2]
    show ((0 : Int) ≤ 0 ∧ (0 : Int) ≤ 9) ∧ ((0 : Int) ≤ 0 ∧ (0 : Int) ≤ 9) ∧ ((0 : Int) ≤ 0 ∧ (0 : Int) ≤ 99) ∧ (0 : Int) ≤ 0 ∧ (0 : Int) ≤ 99
    decide
  · show RNu (cA (M' 141) 0) (M' 149) (M' 150)
    unfold RNu
    rw [a0, a1]
    exact fun i a b => absurd b (by omega)
  · show RPl (M' 14) (M' 15) (gA (M' 141) 0) (cA (M' 141) 0)
    have q : ∀ i, 0 ≤ i → i < 48 → f0_14 i = -1 := fun i a b => by
      unfold f0_14 flH
      rw [if_pos ⟨a, b⟩]
    unfold RPl PLok
    rw [m14, m15]
    refine ⟨fun i a b => ?_, fun i a b => Or.inl (q i a b), fun i a b => Or.inl (q i a b), fun i a b z => absurd (q i a b) z⟩
    rw [gA_0 a b, hn _ (by omega) (by omega), q i a b]
    unfold nsF
    rw [if_pos (Or.inr (by omega))]
  · show RDi (M' 17) (M' 18) (M' 19) (M' 16 3) (M' 16 5) (dA (M' 141) 0) (cA (M' 141) 0 2)
    unfold RDi
    refine Or.inl ⟨?_, ?_⟩
    · unfold dA
      rw [if_pos (Or.inl rfl), Int.zero_add, hn _ (by omega) (by omega)]
      decide +kernel
    · rw [m16]
      decide +kernel
  · have q0 : f0_0 9 = 0 := by decide +kernel
    have q1 : f0_140 55 = 0 := by decide +kernel
    unfold RM
    rw [m0, m140, q0, q1]
    exact ⟨rfl, by decide, fun z => absurd z (by decide), fun z => absurd z (by decide), fun z => absurd z (by decide)⟩
  · have q0 : f0_140 54 = 0 := by decide +kernel
    have q1 : f0_140 21 = 0 := by decide +kernel
    unfold RF RFo1
    rw [m60, m140, q0, q1]
    exact ⟨⟨by decide +kernel, by decide, fun z => absurd z (by decide)⟩, by decide +kernel, by decide, fun z => absurd z (by decide)⟩
  · have q0 : z0 3 = 0 := rfl
    have q1 : z0 4 = 0 := rfl
    have q2 : f0_140 41 = 0 := by decide +kernel
    unfold RA RAl
    rw [m46, m140, q0, q1, q2]
    exact ⟨⟨rfl, by decide, fun k a b => by omega⟩, by decide, fun z => absurd z (by decide), fun k z => by omega, fun k z => by omega⟩
  · rw [m0, m140]
    decide +kernel
theorem sh_both : bs_23 0 ++ bw_222 140 = SH0 := by decide +kernel
set_option maxRecDepth 4000 in
theorem lw_head : ∃ M', RR M' ∧ ev X 365 (jmp 365 0) ls0 [] [] M0 = ev X 365 (jmp 365 18) (lwS 0) [] SH0 M' := by
  obtain ⟨c1, M1, c2, c3, c4⟩ := nw_0 (X := X) [] M0
  have c2' : evc X 0 [vR (some 0)] [(0, cN 0, List.replicate (cN 0) none)] (clr M0 0) = some (none, bs_23 0, M1) := c2
  obtain ⟨M2, d1, d2⟩ := nw_222 (X := X) (bs_23 0) M1
  have hl : (bs_23 0).length = 140 := rfl
  have hl2 : cs_23.length = 140 := rfl
  rw [hl, sh_both] at d2
  have h2 : HA M2 0 cw_all := by
    have q1 : HA M1 0 cs_23 := c4
    have q2 := d1.2.1
    rw [hl] at q2
    exact HA_app (HA_c (fun b _ hb => d1.1 b (by rw [hl]; omega)) q1) (by rw [hl2]; exact q2)
  obtain ⟨M3, a1, a2, a3, a4⟩ := d_asNew (X := X) (M := M2) (s := 0) (by omega)
  have a5 : ∀ k, 0 ≤ k → k < 480 → M3 141 k = nsF k := fun k p q => by
    have z := a3 k p q
    rw [Int.zero_add] at z
    exact z
  have gs : goodS (M3 (140 + 1)) := f0_5_good fun k p q => (a5 k p (by omega)).trans (nsF_S p q)
  obtain ⟨M4, b1, b2, b3, b4⟩ := m_numbers (X := X) (M := M3) gs
  refine ⟨M4, fresh_RR h2 (fun c p q r => (b1 c q r).trans (a1 c p)) (fun k p q => ?_), ?_⟩
  · rw [b1 141 (by omega) (by omega)]
    exact a5 k p q
  · have d3 : evc X 222 [vR (some 140)] (bs_23 0 ++ [(12, cN 12, List.replicate (cN 12) none)]) (clr M1 140) = some (none, SH0, M4) := by
      rw [d2]
      simp (disch := first | assumption | decide | omega | (simp only [List.length_cons, List.length_nil] <;> omega)) only [lgt_0, lgt_s, lset_0, lset_s, lst1_0, lst1_s, lst2_0, lst2_s, ev_iconst, ev_lconst, ev_ldc, ev_null, ev_iload, ev_lload, ev_aload, ev_istore, ev_lstore, ev_astore, ev_iinc, ev_iadd, ev_isub, ev_imul, ev_iand, ev_ior, ev_ishl, ev_ishr, ev_idiv, ev_irem, ev_ineg, ev_ladd, ev_lsub, ev_lmul, ev_land, ev_lor, ev_ldiv, ev_lrem, ev_lshl, ev_i2l, ev_l2i, ev_i2b, ev_i2s, ev_lcmp, ev_dupI, ev_dupR, ev_dup2, ev_popI, ev_popR, ev_alen, ev_xlen, ev_xald, ev_iald, ev_lald, ev_bald, ev_zald, ev_aald, ev_iast, ev_last, ev_bast, ev_zast, ev_aast, ev_gfI, ev_gfL, ev_gfR, ev_pfI, ev_pfZ, ev_pfL, ev_pfR, ev_new, ev_newa, ev_newq, ev_copy, ev_slen, ev_schr, ev_obj, ev_mmin, ev_mabs, ev_mmax, ev_goto, ev_jsr, ev_icmp_eq, ev_if_eq, ev_icmp_ne, ev_if_ne, ev_icmp_lt, ev_if_lt, ev_icmp_ge, ev_if_ge, ev_icmp_gt, ev_if_gt, ev_icmp_le, ev_if_le, ev_ifnull0, ev_ifnull1, ev_ifnn0, ev_ifnn1, ev_tsw, ev_lsw, ev_iret, ev_zret, ev_lret, ev_aret, ev_ret, ev_call0, ev_call1, ev_call2, ev_call3, ev_call4, ev_call5, ev_call6, Option.toList_some, Option.toList_none, List.cons_append, List.nil_append, List.length_cons, List.length_nil, Nat.reduceMod, Nat.reduceDiv, Nat.reduceLeDiff, nc, ↓reduceIte, Nat.zero_le, reduceCtorEq, w32_id, Int.reduceEq, Int.reduceNe, Int.reduceLT, Int.reduceLE, Int.reduceGT, Int.reduceGE, Int.reduceAdd, Int.reduceSub, Int.reduceMul, Int.reduceNeg, ne_eq, not_true_eq_false, not_false_eq_true, eq_self, ↓if_pos, ↓if_neg, a4, b4]
    rw [show jmp 365 0 = k_365_0 from J_365_0]
    unfold ls0 lwS
    simp (disch := first | assumption | decide | omega | (simp only [List.length_cons, List.length_nil] <;> omega)) only [lgt_0, lgt_s, lset_0, lset_s, lst1_0, lst1_s, lst2_0, lst2_s, ev_iconst, ev_lconst, ev_ldc, ev_null, ev_iload, ev_lload, ev_aload, ev_istore, ev_lstore, ev_astore, ev_iinc, ev_iadd, ev_isub, ev_imul, ev_iand, ev_ior, ev_ishl, ev_ishr, ev_idiv, ev_irem, ev_ineg, ev_ladd, ev_lsub, ev_lmul, ev_land, ev_lor, ev_ldiv, ev_lrem, ev_lshl, ev_i2l, ev_l2i, ev_i2b, ev_i2s, ev_lcmp, ev_dupI, ev_dupR, ev_dup2, ev_popI, ev_popR, ev_alen, ev_xlen, ev_xald, ev_iald, ev_lald, ev_bald, ev_zald, ev_aald, ev_iast, ev_last, ev_bast, ev_zast, ev_aast, ev_gfI, ev_gfL, ev_gfR, ev_pfI, ev_pfZ, ev_pfL, ev_pfR, ev_new, ev_newa, ev_newq, ev_copy, ev_slen, ev_schr, ev_obj, ev_mmin, ev_mabs, ev_mmax, ev_goto, ev_jsr, ev_icmp_eq, ev_if_eq, ev_icmp_ne, ev_if_ne, ev_icmp_lt, ev_if_lt, ev_icmp_ge, ev_if_ge, ev_icmp_gt, ev_if_gt, ev_icmp_le, ev_if_le, ev_ifnull0, ev_ifnull1, ev_ifnn0, ev_ifnn1, ev_tsw, ev_lsw, ev_iret, ev_zret, ev_lret, ev_aret, ev_ret, ev_call0, ev_call1, ev_call2, ev_call3, ev_call4, ev_call5, ev_call6, Option.toList_some, Option.toList_none, List.cons_append, List.nil_append, List.length_cons, List.length_nil, Nat.reduceMod, Nat.reduceDiv, Nat.reduceLeDiff, nc, ↓reduceIte, Nat.zero_le, reduceCtorEq, w32_id, Int.reduceEq, Int.reduceNe, Int.reduceLT, Int.reduceLE, Int.reduceGT, Int.reduceGE, Int.reduceAdd, Int.reduceSub, Int.reduceMul, Int.reduceNeg, ne_eq, not_true_eq_false, not_false_eq_true, eq_self, ↓if_pos, ↓if_neg, k_365_0, c2', hl, d3]
theorem lw_run (hX : ∀ k, i32 (X k)) (x0 : 0 ≤ X (-1)) (x1 : X (-1) ≤ 3072) : ∃ n M', run X n 365 (jmp 365 0) ls0 [] [] M0 = some (some (vI 1), SH0, M') := by
  obtain ⟨M1, r1, e1⟩ := lw_head (X := X)
  obtain ⟨M2, r2, e2⟩ := lw_loop hX x0 x1 600 0 M1 (by omega) (by omega) x0 r1
  obtain ⟨n, hn⟩ := ev_iff.mp (e1.trans e2)
  exact ⟨n, M2, hn⟩
end FRS
