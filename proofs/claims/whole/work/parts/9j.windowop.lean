/-! OPERATIONS: window. -/
def wnB (A : Int → Int) (v u : Int) (C : Int → Int) : Int → Int := fun k => if k = 0 then v else if k = 1 then u else plB A C k
theorem wnB_0 {A C : Int → Int} {v u : Int} : wnB A v u C 0 = v := if_pos rfl
theorem wnB_1 {A C : Int → Int} {v u : Int} : wnB A v u C 1 = u := by unfold wnB; rw [if_neg (by omega), if_pos rfl]
theorem wnB_s {A C : Int → Int} {v u k : Int} (h0 : k ≠ 0) (h1 : k ≠ 1) (h : k < 28) : wnB A v u C k = A k := by unfold wnB; rw [if_neg h0, if_neg h1, plB_s h]
theorem wnB_p {A C : Int → Int} {v u p : Int} (h0 : 0 ≤ p) (h1 : p < 48) : wnB A v u C (28 + p) = C p := by unfold wnB; rw [if_neg (by omega), if_neg (by omega), plB_p h0 h1]
theorem wnB_good {A C : Int → Int} {v u : Int} (gs : goodS A) (hv : 0 ≤ v ∧ v ≤ 8) (hu : 0 ≤ u ∧ u ≤ 6) : goodS (wnB A v u C) := by
  unfold goodS at gs ⊢
  rw [wnB_0, wnB_1]
  simp (disch := omega) only [wnB_s]
  exact ⟨hv, hu, gs.2.2⟩
section WNO
variable {X : Int → Int} {M N : Mem}
/-- the model's numbers and least of a chart B -/
theorem m_least_B {B : Int → Int} (gB : goodS B) (gO : goodN B (xH B) (xP B) (xR B) (xn B)) (hW : ∀ k, 0 ≤ k → k < 5 → 0 ≤ B (16 + 2 * k) ∧ B (16 + 2 * k) ≤ 9) (n1 : ∀ k, 0 ≤ k → k < 28 → N (140 + 1) k = B k) (n2 : ∀ p, 0 ≤ p → p < xn B → N (140 + 1) (28 + p) = B (28 + p)) : ∃ N2 N3, evc X 224 [vR (some 140)] SH0 N = some (none, SH0, N2) ∧ evc X 309 [vR (some 140)] SH0 N2 = some (some (vI (lsA B (xH B))), SH0, N3) ∧ (∀ b, b ≠ 140 → b ≠ 140 + 9 → b ≠ 140 + 10 → (b < 152 ∨ 159 < b) → N3 b = N b) ∧ (∀ i, i ≠ 36 → N3 140 i = N 140 i) ∧ (∀ i, (i < 0 ∨ xn B ≤ i) → N3 (140 + 9) i = N (140 + 9) i ∧ N3 (140 + 10) i = N (140 + 10) i) ∧ 0 ≤ lsA B (xH B) ∧ lsA B (xH B) ≤ 47520 := by
  have xe : xn B = B 0 * B 1 := rfl
  have n48 := gO.2.1
  have gsn : goodS (N (140 + 1)) := by
    have g := gB
    unfold goodS at g ⊢
    rw [n1 0 (by omega) (by omega), n1 1 (by omega) (by omega), n1 2 (by omega) (by omega), n1 3 (by omega) (by omega), n1 4 (by omega) (by omega), n1 5 (by omega) (by omega), n1 6 (by omega) (by omega), n1 7 (by omega) (by omega), n1 8 (by omega) (by omega), n1 9 (by omega) (by omega), n1 10 (by omega) (by omega), n1 11 (by omega) (by omega), n1 12 (by omega) (by omega), n1 13 (by omega) (by omega), n1 14 (by omega) (by omega)]
    exact g
  have xnN : xn (N (140 + 1)) = xn B := by
    unfold xn
    rw [n1 0 (by omega) (by omega), n1 1 (by omega) (by omega)]
  have plN : ∀ i, plF (N (140 + 1)) i = plF B i := fun i => by
    unfold plF
    rw [n1 0 (by omega) (by omega), n1 14 (by omega) (by omega)]
  obtain ⟨N2, f2, i2, o2, e2⟩ := m_numbers (X := X) (M := N) gsn
  have n2' : N2 (140 + 1) = N (140 + 1) := f2 _ (by omega) (by omega)
  have rnu2 : RNu B (N2 (140 + 9)) (N2 (140 + 10)) := fun i a b => by
    have e := i2 i a (by rw [xnN]; exact b)
    rw [plN] at e
    have hw := xn_pos gB (show 0 < xn B by omega)
    have p := plF_rng (A := B) a b hw
    refine ⟨e.1, ?_⟩
    rw [e.2]
    exact n2 _ p.1 p.2.1
  have veM : VE (N2 (140 + 1)) (N2 (140 + 10)) (fun i => N2 (140 + 9) i % N2 (140 + 1) 0) (fun i => i / N2 (140 + 1) 0) (fun k => N2 (140 + 1) (16 + 2 * k)) (N2 (140 + 1) 0 * N2 (140 + 1) 1) B (xH B) (xP B) (xR B) (xW B) (xn B) := by
    obtain ⟨v1, v2, v3, v4⟩ := rnu_ve rnu2
    rw [n2']
    have e0 := n1 0 (by omega) (by omega)
    have e1 := n1 1 (by omega) (by omega)
    have t2 := n1 2 (by omega) (by omega)
    have g2 := gB.2.2.1
    refine ⟨by rw [e0, e1], fun k a b => n1 k a (by omega), fun i a b => ?_, fun k a b => n1 _ (by omega) (by omega)⟩
    rw [e0, e1] at b
    have e := v3 i a b
    rw [e0]
    exact e
  have gmN : goodM N2 140 := by
    refine ⟨ve_goodN veM gO, fun i a b => ?_⟩
    rw [n2', n1 0 (by omega) (by omega), n1 1 (by omega) (by omega)] at b
    have hw := xn_pos gB (show 0 < xn B from by omega)
    have p := plF_rng (A := B) a b hw
    have e := (rnu2 i a b).1
    rw [e]
    exact ⟨p.1, by omega⟩
  have gvN : goodV N2 140 := fun k a b => by
    rw [n2', n1 _ (by omega) (by omega)]
    exact hW k a b
  obtain ⟨N3, f3, e3, l0, l1⟩ := m_lA (X := X) gmN gvN veM
  refine ⟨N2, N3, e2, e3, fun b b0 b9 b10 b1 => by rw [f3.1 b b0 (by omega), f2 b b9 b10], fun i hi => by rw [f3.2 i hi, f2 140 (by omega) (by omega)], fun i hi => ?_, l0, l1⟩
  rw [f3.1 (140 + 9) (by omega) (by omega), f3.1 (140 + 10) (by omega) (by omega)]
  exact o2 i (by rw [xnN]; exact hi)
theorem op_window (h : RR' M) {l r f g : Int} : OP X 193 [vI l, vI r, vI f, vI g] 348 [vI l, vI r, vI f, vI g] M := by
  have k0 := w0_k0; have hc4 := w0_ch4; have hmd := w0_md140; have mk0 := hmd.1; have hc4' := w0_ch4; obtain ⟨ck0, cr0, cr1, cr2, cr3, cr4, cr5, cr6, cr7, ck1, ck2, ck3, ck4, ck5, ck6, ck7, ck8, cl1, cl2, cl3, cl4, cl5, cl6, cl7, cl8⟩ := hc4'
  have gA := rr_gA h
  have g0 := gA.1.1
  have g1 := gA.1.2.1
  have s0 := S_c h (k := 0) (by omega) (by omega)
  have s1 := S_c h (k := 1) (by omega) (by omega)
  by_cases q : ((0 ≤ l ∧ l ≤ r) ∧ r < AA M 0) ∧ (0 ≤ f ∧ f ≤ g) ∧ g < AA M 1
  · obtain ⟨⟨⟨l0, lr⟩, rw'⟩, ⟨f0, fg⟩, gh⟩ := q
    have cm : AA M 1 * AA M 0 = AA M 0 * AA M 1 := Int.mul_comm _ _
    have n48 : AA M 0 * AA M 1 ≤ 48 := gA.2.1.2
    generalize hv : r - l + 1 = v
    generalize hu : g - f + 1 = u
    obtain ⟨Ma, fa, ra, wa, ea⟩ := c_trial (X := X) h
    obtain ⟨Mb, fb, b0, b1, b2, cb, eb⟩ := k_cutLoop (X := X) (M := Ma) (w := AA M 0) (hh := AA M 1) (l := l) (r := r) (f := f) (g := g) (v := v) (u := u) (C0 := fun p => AA M (28 + p)) g0 g1.2 l0 lr rw' f0 fg gh hv.symm hu.symm (ra.1 0 (by omega) (by omega)) (fun p a b => (ra.2.2.2.2.2.2.1 p a (by omega)).1)
    generalize hC : (fun p => AA M (28 + wnS (AA M 0) l f v p)) = C
    have cb' : ∀ p, 0 ≤ p → p < u * v → Mb (67 + 5) p = C p := fun p a b => by rw [← hC]; exact cb p a b
    generalize hB : wnB (AA M) v u C = B
    have B0 : B 0 = v := by rw [← hB]; exact wnB_0
    have B1 : B 1 = u := by rw [← hB]; exact wnB_1
    have bS : ∀ k, k ≠ 0 → k ≠ 1 → k < 28 → B k = AA M k := fun k k0 k1 hk => by rw [← hB]; exact wnB_s k0 k1 hk
    have bP : ∀ p, 0 ≤ p → p < 48 → B (28 + p) = C p := fun p a b => by rw [← hB]; exact wnB_p a b
    have gB : goodS B := by rw [← hB]; exact wnB_good gA.1 (by omega) (by omega)
    have cmv : u * v = v * u := Int.mul_comm _ _
    have uv : u * v ≤ AA M 1 * AA M 0 ∧ 0 ≤ u * v := ⟨Int.mul_le_mul (by omega) (by omega) (by omega) (by omega), Int.mul_nonneg (by omega) (by omega)⟩
    have xB : xn B = v * u := by unfold xn; rw [B0, B1]
    have hCr : ∀ p, 0 ≤ p → p < u * v → 0 ≤ C p ∧ C p < AA M 2 := fun p a b => by
      have d0 : 0 ≤ p % v := Int.emod_nonneg _ (by omega)
      have d1 : p % v < v := Int.emod_lt_of_pos _ (by omega)
      have d2 : 0 ≤ p / v := Int.ediv_nonneg a (by omega)
      have d3 : p / v < u := Int.ediv_lt_of_lt_mul (by omega) b
      have rr := row_in (r := f + p / v) (w := AA M 0) (h := AA M 1) (by omega) (by omega) g0.1 g0.2 g1.2
      rw [← hC]
      show 0 ≤ AA M (28 + ((f + p / v) * AA M 0 + (l + p % v))) ∧ AA M (28 + ((f + p / v) * AA M 0 + (l + p % v))) < AA M 2
      exact rr_hH h _ (by omega) (by omega)
    have gO := good_A gB (fun p a b => by
      have b' : p < xn B := b
      rw [bP p a (by omega), bS 2 (by omega) (by omega) (by omega)]
      exact hCr p a (by omega))
    have mbS : ∀ k, 0 ≤ k → k < 15 → Mb (67 + 1) k = B k := fun k a b => by
      by_cases k0 : k = 0
      · rw [k0, b0, B0]
      · by_cases k1 : k = 1
        · rw [k1, b1, B1]
        · rw [b2 k k0 k1, bS k k0 k1 (by omega)]
          exact ra.1 k a b
    have gsb : goodS (Mb (67 + 1)) := by
      have g := gB
      unfold goodS at g ⊢
      rw [mbS 0 (by omega) (by omega), mbS 1 (by omega) (by omega), mbS 2 (by omega) (by omega), mbS 3 (by omega) (by omega), mbS 4 (by omega) (by omega), mbS 5 (by omega) (by omega), mbS 6 (by omega) (by omega), mbS 7 (by omega) (by omega), mbS 8 (by omega) (by omega), mbS 9 (by omega) (by omega), mbS 10 (by omega) (by omega), mbS 11 (by omega) (by omega), mbS 12 (by omega) (by omega), mbS 13 (by omega) (by omega), mbS 14 (by omega) (by omega)]
      exact g
    obtain ⟨Mc, fc, fc2, hc8, hci, ec⟩ := s_arrange (X := X) (M := Mb) w0_ch67 gsb
    have em := eb Mc ec
    have ve : VE (Mc (67 + 1)) (Mc (67 + 6)) (Mc (67 + 7)) (Mc (67 + 8)) (Mc (67 + 3)) (Mc 67 8) B (xH B) (xP B) (xR B) (xW B) (xn B) := by
      have c1 := fc2 (67 + 1) (by omega) (by omega)
      refine arr_ve (fun k a b => by rw [c1]; exact mbS k a b) gB (fun p a b => ?_) (fun k a b => ?_) (by rw [c1]; exact hc8) (fun i a b => ?_)
      · rw [fc2 (67 + 5) (by omega) (by omega), bP p a (by omega)]
        exact cb' p a (by omega)
      · rw [bS 2 (by omega) (by omega) (by omega)] at b
        have g2 := gA.1.2.2.1
        rw [fc2 (67 + 3) (by omega) (by omega), fb (67 + 3) (by omega) (by omega), bS _ (by omega) (by omega) (by omega)]
        exact (ra.2.2.2.2.2.1 k a b).1
      · rw [c1] at b ⊢
        rw [fc2 (67 + 5) (by omega) (by omega)]
        exact hci i a b
    have wc : goodW Mc 67 := fun k a b => by rw [fc2 (67 + 3) (by omega) (by omega), fb (67 + 3) (by omega) (by omega)]; exact wa k a b
    obtain ⟨Md, fd, ed, l0', l1'⟩ := c_lA (X := X) w0_ch67 (by omega) wc ve gO
    have r1 : RO M (up Md 0 0 0) 0 := RO_s fun b x y => by rw [fd b (by omega), fc b (by omega), fb b (by omega) (by omega), fa b (by omega)]
    have hm := mds_up r1
    generalize hM1 : up Md 0 0 0 = M1 at r1 hm
    obtain ⟨N0, f0', k0', e0⟩ := m_keepP (X := X) (M := M1)
    obtain ⟨N1, z9, f1, g1', c1, e1⟩ := m_winLoop (X := X) (M := N0) (w := AA M 0) (hh := AA M 1) (l := l) (r := r) (f := f) (g := g) (v := v) (u := u) (C0 := fun p => AA M (28 + p)) g0 g1.2 l0 lr rw' f0 fg gh hv.symm hu.symm (fun p a b => by rw [k0' p a (by omega)]; exact q_at hm (by omega) (by omega))
    have c1' : ∀ p, 0 ≤ p → p < u * v → N1 (140 + 1) (28 + p) = C p := fun p a b => by rw [← hC]; exact c1 p a b
    generalize hN2 : up (up N1 (140 + 1) 0 v) (140 + 1) 1 u = N2
    have n2s : ∀ k, 0 ≤ k → k < 28 → N2 (140 + 1) k = B k := fun k a b => by
      rw [← hN2]
      by_cases k1 : k = 1
      · rw [k1, up_eq, B1]
      · rw [up_ne2 k1]
        by_cases k0 : k = 0
        · rw [k0, up_eq, B0]
        · rw [up_ne2 k0, bS k k0 k1 b, g1' k (by omega), f0' (140 + 1) (by omega)]
          exact q_at hm a (by omega)
    obtain ⟨N3, N4, e224, e309, f4, f4', o4, l0'', l1''⟩ := m_least_B (X := X) (N := N2) gB gO (fun k a b => by
      rw [bS _ (by omega) (by omega) (by omega)]
      exact ((rr_c h).2.2.2.2.1 k a b).2.1) n2s (fun p a b => by
      rw [← hN2, up_ne2 (by omega), up_ne2 (by omega), bP p a (by omega)]
      exact c1' p a (by omega))
    generalize hN5 : up (up N4 (140 + 1) 0 (AA M 0)) (140 + 1) 1 (AA M 1) = N5
    obtain ⟨N6, f6, g6, c6, e6⟩ := m_bringP (X := X) (M := N5)
    have n2x : ∀ b, b ≠ 140 + 1 → N2 b = N1 b := fun b hb => by rw [← hN2, up_ne hb, up_ne hb]
    have n5x : ∀ b, b ≠ 140 + 1 → N5 b = N4 b := fun b hb => by rw [← hN5, up_ne hb, up_ne hb]
    have t0 := q_at hm (k := 0) (by omega) (by omega)
    have t1 := q_at hm (k := 1) (by omega) (by omega)
    have n6 : N6 (140 + 1) = M (140 + 1) := by
      funext k
      by_cases z : k < 28 ∨ 76 ≤ k
      · rw [g6 k z, ← hN5]
        by_cases k1 : k = 1
        · rw [k1, up_eq]; exact (rr_at (by omega) (by omega)).symm
        · rw [up_ne2 k1]
          by_cases k0 : k = 0
          · rw [k0, up_eq]; exact (rr_at (by omega) (by omega)).symm
          · rw [up_ne2 k0, f4 (140 + 1) (by omega) (by omega) (by omega) (by omega), ← hN2, up_ne2 k1, up_ne2 k0, g1' k z, f0' (140 + 1) (by omega), hm (140 + 1) (by omega)]
      · have e := c6 (k - 28) (by omega) (by omega)
        rw [show 28 + (k - 28) = k from by omega] at e
        have e' := k0' (k - 28) (by omega) (by omega)
        rw [show 28 + (k - 28) = k from by omega] at e'
        rw [e, n5x 163 (by omega), f4 163 (by omega) (by omega) (by omega) (by omega), n2x 163 (by omega), f1 163 (by omega), e', hm (140 + 1) (by omega)]
    obtain ⟨N7, f7, c9, c10, e7⟩ := num_back (X := X) h n6 (fun i hi => by
      have xe : xn (AA M) = AA M 0 * AA M 1 := rfl
      have o := o4 i (by omega)
      exact ⟨by rw [f6 (140 + 9) (by omega), n5x _ (by omega), o.1, n2x _ (by omega), f1 (140 + 9) (by omega), f0' (140 + 9) (by omega), hm (140 + 9) (by omega)], by rw [f6 (140 + 10) (by omega), n5x _ (by omega), o.2, n2x _ (by omega), f1 (140 + 10) (by omega), f0' (140 + 10) (by omega), hm (140 + 10) (by omega)]⟩)
    have e8 := e6 N7 e7
    have ed' : evc X 141 [vR (some 36), vR (some 67)] SH0 Mc = some (some (vI (lsA B (xH B))), SH0, Md) := ed
    have m1e := RO_rr r1 h
    have dr1 := d_isRow (X := X) m1e (i := f)
    have dr2 := d_isRow (X := X) m1e (i := g)
    have am : AA M1 = AA M := by
      show cA (M1 (140 + 1)) 0 = cA (M (140 + 1)) 0
      rw [hm (140 + 1) (by omega)]
    rw [am, if_pos ⟨by omega, by omega⟩] at dr1 dr2
    have n00 : N0 (140 + 1) 0 = AA M 0 := by rw [f0' (140 + 1) (by omega)]; exact t0
    have n01 : N0 (140 + 1) 1 = AA M 1 := by rw [f0' (140 + 1) (by omega)]; exact t1
    obtain ⟨r_at, k_at, l_at⟩ := md_at w0_md140
    generalize lsA B (xH B) = lv at ed' e309
    refine op_ro (v := vI lv) (M2 := up N7 140 2 0) (st := 0) h ?_ r1 ?_ (rom_up (fun b b1 b2 => ?_) (fun i hi h2 => ?_))
    · rw [E_193 k0]
      simp (disch := first | assumption | decide | omega | (simp only [List.length_cons, List.length_nil] <;> omega)) only [lgt_0, lgt_s, lset_0, lset_s, lst1_0, lst1_s, lst2_0, lst2_s, ev_iconst, ev_lconst, ev_ldc, ev_null, ev_iload, ev_lload, ev_aload, ev_istore, ev_lstore, ev_astore, ev_iinc, ev_iadd, ev_isub, ev_imul, ev_iand, ev_ior, ev_ishl, ev_ishr, ev_idiv, ev_irem, ev_ineg, ev_ladd, ev_lsub, ev_lmul, ev_land, ev_lor, ev_ldiv, ev_lrem, ev_lshl, ev_i2l, ev_l2i, ev_i2b, ev_i2s, ev_lcmp, ev_dupI, ev_dupR, ev_dup2, ev_popI, ev_popR, ev_alen, ev_xlen, ev_xald, ev_iald, ev_lald, ev_bald, ev_zald, ev_aald, ev_iast, ev_last, ev_bast, ev_zast, ev_aast, ev_gfI, ev_gfL, ev_gfR, ev_pfI, ev_pfZ, ev_pfL, ev_pfR, ev_new, ev_newa, ev_newq, ev_copy, ev_slen, ev_schr, ev_obj, ev_mmin, ev_mabs, ev_mmax, ev_goto, ev_jsr, ev_icmp_eq, ev_if_eq, ev_icmp_ne, ev_if_ne, ev_icmp_lt, ev_if_lt, ev_icmp_ge, ev_if_ge, ev_icmp_gt, ev_if_gt, ev_icmp_le, ev_if_le, ev_ifnull0, ev_ifnull1, ev_ifnn0, ev_ifnn1, ev_tsw, ev_lsw, ev_iret, ev_zret, ev_lret, ev_aret, ev_ret, ev_call0, ev_call1, ev_call2, ev_call3, ev_call4, ev_call5, ev_call6, Option.toList_some, Option.toList_none, List.cons_append, List.nil_append, List.length_cons, List.length_nil, Nat.reduceMod, Nat.reduceDiv, Nat.reduceLeDiff, nc, ↓reduceIte, Nat.zero_le, reduceCtorEq, w32_id, Int.reduceEq, Int.reduceNe, Int.reduceLT, Int.reduceLE, Int.reduceGT, Int.reduceGE, Int.reduceAdd, Int.reduceSub, Int.reduceMul, Int.reduceNeg, ne_eq, not_true_eq_false, not_false_eq_true, eq_self, ↓if_pos, ↓if_neg, w0_r0_3, w0_r0_4, w0_r0_5, w0_r0_6, w0_r0_7, w0_r0_8, w0_r0_10, w0_r0_11, w0_r0_12, w0_r0_13, w0_r0_14, w0_r0_15, w0_r0_16, w0_r0_17, w0_r0_18, cr0, cr1, cr2, cr3, cr4, cr5, cr6, cr7, J_193_0, k_193_0, J_193_22, k_193_22, J_193_28, k_193_28, J_193_52, k_193_52, J_193_58, k_193_58, s0, s1, ea, em, ed', s_answer, hM1]
    · have gx : g < f + u := by omega
      rw [E_348 mk0]
      simp (disch := first | assumption | decide | omega | (simp only [List.length_cons, List.length_nil] <;> omega)) only [lgt_0, lgt_s, lset_0, lset_s, lst1_0, lst1_s, lst2_0, lst2_s, ev_iconst, ev_lconst, ev_ldc, ev_null, ev_iload, ev_lload, ev_aload, ev_istore, ev_lstore, ev_astore, ev_iinc, ev_iadd, ev_isub, ev_imul, ev_iand, ev_ior, ev_ishl, ev_ishr, ev_idiv, ev_irem, ev_ineg, ev_ladd, ev_lsub, ev_lmul, ev_land, ev_lor, ev_ldiv, ev_lrem, ev_lshl, ev_i2l, ev_l2i, ev_i2b, ev_i2s, ev_lcmp, ev_dupI, ev_dupR, ev_dup2, ev_popI, ev_popR, ev_alen, ev_xlen, ev_xald, ev_iald, ev_lald, ev_bald, ev_zald, ev_aald, ev_iast, ev_last, ev_bast, ev_zast, ev_aast, ev_gfI, ev_gfL, ev_gfR, ev_pfI, ev_pfZ, ev_pfL, ev_pfR, ev_new, ev_newa, ev_newq, ev_copy, ev_slen, ev_schr, ev_obj, ev_mmin, ev_mabs, ev_mmax, ev_goto, ev_jsr, ev_icmp_eq, ev_if_eq, ev_icmp_ne, ev_if_ne, ev_icmp_lt, ev_if_lt, ev_icmp_ge, ev_if_ge, ev_icmp_gt, ev_if_gt, ev_icmp_le, ev_if_le, ev_ifnull0, ev_ifnull1, ev_ifnn0, ev_ifnn1, ev_tsw, ev_lsw, ev_iret, ev_zret, ev_lret, ev_aret, ev_ret, ev_call0, ev_call1, ev_call2, ev_call3, ev_call4, ev_call5, ev_call6, Option.toList_some, Option.toList_none, List.cons_append, List.nil_append, List.length_cons, List.length_nil, Nat.reduceMod, Nat.reduceDiv, Nat.reduceLeDiff, nc, ↓reduceIte, Nat.zero_le, reduceCtorEq, w32_id, Int.reduceEq, Int.reduceNe, Int.reduceLT, Int.reduceLE, Int.reduceGT, Int.reduceGE, Int.reduceAdd, Int.reduceSub, Int.reduceMul, Int.reduceNeg, ne_eq, not_true_eq_false, not_false_eq_true, eq_self, ↓if_pos, ↓if_neg, J_348_0, k_348_0, J_348_42, k_348_42, J_348_48, k_348_48, J_348_122, k_348_122, J_348_128, k_348_128, r_at, t0, dr1, dr2, e0, n00, n01, e1, k_348_74, gx, hv, hu, hN2, e224, e309, hN5, e8, m_gives hmd]
    · by_cases z1 : b = 140 + 1
      · rw [z1, f7 _ (by omega) (by omega), n6, hm _ (by omega)]
      · by_cases z9 : b = 140 + 9
        · rw [z9, c9, hm _ (by omega)]
        · by_cases z10 : b = 140 + 10
          · rw [z10, c10, hm _ (by omega)]
          · rw [f7 b z9 z10, f6 b z1, n5x b z1, f4 b b1 z9 z10 (by omega), n2x b z1, f1 b z1, f0' b (by omega)]
    · rw [f7 140 (by omega) (by omega), f6 140 (by omega), n5x 140 (by omega), f4' i (by omega), n2x 140 (by omega), f1 140 (by omega), f0' 140 (by omega)]
  · refine op_ro3 (v := vI (-1)) (st := 1) h ?_ ?_
    · rw [E_193 k0]
      by_cases q1 : l < 0
      · simp (disch := first | assumption | decide | omega | (simp only [List.length_cons, List.length_nil] <;> omega)) only [lgt_0, lgt_s, lset_0, lset_s, lst1_0, lst1_s, lst2_0, lst2_s, ev_iconst, ev_lconst, ev_ldc, ev_null, ev_iload, ev_lload, ev_aload, ev_istore, ev_lstore, ev_astore, ev_iinc, ev_iadd, ev_isub, ev_imul, ev_iand, ev_ior, ev_ishl, ev_ishr, ev_idiv, ev_irem, ev_ineg, ev_ladd, ev_lsub, ev_lmul, ev_land, ev_lor, ev_ldiv, ev_lrem, ev_lshl, ev_i2l, ev_l2i, ev_i2b, ev_i2s, ev_lcmp, ev_dupI, ev_dupR, ev_dup2, ev_popI, ev_popR, ev_alen, ev_xlen, ev_xald, ev_iald, ev_lald, ev_bald, ev_zald, ev_aald, ev_iast, ev_last, ev_bast, ev_zast, ev_aast, ev_gfI, ev_gfL, ev_gfR, ev_pfI, ev_pfZ, ev_pfL, ev_pfR, ev_new, ev_newa, ev_newq, ev_copy, ev_slen, ev_schr, ev_obj, ev_mmin, ev_mabs, ev_mmax, ev_goto, ev_jsr, ev_icmp_eq, ev_if_eq, ev_icmp_ne, ev_if_ne, ev_icmp_lt, ev_if_lt, ev_icmp_ge, ev_if_ge, ev_icmp_gt, ev_if_gt, ev_icmp_le, ev_if_le, ev_ifnull0, ev_ifnull1, ev_ifnn0, ev_ifnn1, ev_tsw, ev_lsw, ev_iret, ev_zret, ev_lret, ev_aret, ev_ret, ev_call0, ev_call1, ev_call2, ev_call3, ev_call4, ev_call5, ev_call6, Option.toList_some, Option.toList_none, List.cons_append, List.nil_append, List.length_cons, List.length_nil, Nat.reduceMod, Nat.reduceDiv, Nat.reduceLeDiff, nc, ↓reduceIte, Nat.zero_le, reduceCtorEq, w32_id, Int.reduceEq, Int.reduceNe, Int.reduceLT, Int.reduceLE, Int.reduceGT, Int.reduceGE, Int.reduceAdd, Int.reduceSub, Int.reduceMul, Int.reduceNeg, ne_eq, not_true_eq_false, not_false_eq_true, eq_self, ↓if_pos, ↓if_neg, w0_r0_3, w0_r0_4, w0_r0_5, w0_r0_6, w0_r0_7, w0_r0_8, w0_r0_10, w0_r0_11, w0_r0_12, w0_r0_13, w0_r0_14, w0_r0_15, w0_r0_16, w0_r0_17, w0_r0_18, cr0, cr1, cr2, cr3, cr4, cr5, cr6, cr7, J_193_0, k_193_0, J_193_22, k_193_22, J_193_28, k_193_28, J_193_52, k_193_52, J_193_58, k_193_58, q1, s_none]
      · by_cases q2 : r < l
        · simp (disch := first | assumption | decide | omega | (simp only [List.length_cons, List.length_nil] <;> omega)) only [lgt_0, lgt_s, lset_0, lset_s, lst1_0, lst1_s, lst2_0, lst2_s, ev_iconst, ev_lconst, ev_ldc, ev_null, ev_iload, ev_lload, ev_aload, ev_istore, ev_lstore, ev_astore, ev_iinc, ev_iadd, ev_isub, ev_imul, ev_iand, ev_ior, ev_ishl, ev_ishr, ev_idiv, ev_irem, ev_ineg, ev_ladd, ev_lsub, ev_lmul, ev_land, ev_lor, ev_ldiv, ev_lrem, ev_lshl, ev_i2l, ev_l2i, ev_i2b, ev_i2s, ev_lcmp, ev_dupI, ev_dupR, ev_dup2, ev_popI, ev_popR, ev_alen, ev_xlen, ev_xald, ev_iald, ev_lald, ev_bald, ev_zald, ev_aald, ev_iast, ev_last, ev_bast, ev_zast, ev_aast, ev_gfI, ev_gfL, ev_gfR, ev_pfI, ev_pfZ, ev_pfL, ev_pfR, ev_new, ev_newa, ev_newq, ev_copy, ev_slen, ev_schr, ev_obj, ev_mmin, ev_mabs, ev_mmax, ev_goto, ev_jsr, ev_icmp_eq, ev_if_eq, ev_icmp_ne, ev_if_ne, ev_icmp_lt, ev_if_lt, ev_icmp_ge, ev_if_ge, ev_icmp_gt, ev_if_gt, ev_icmp_le, ev_if_le, ev_ifnull0, ev_ifnull1, ev_ifnn0, ev_ifnn1, ev_tsw, ev_lsw, ev_iret, ev_zret, ev_lret, ev_aret, ev_ret, ev_call0, ev_call1, ev_call2, ev_call3, ev_call4, ev_call5, ev_call6, Option.toList_some, Option.toList_none, List.cons_append, List.nil_append, List.length_cons, List.length_nil, Nat.reduceMod, Nat.reduceDiv, Nat.reduceLeDiff, nc, ↓reduceIte, Nat.zero_le, reduceCtorEq, w32_id, Int.reduceEq, Int.reduceNe, Int.reduceLT, Int.reduceLE, Int.reduceGT, Int.reduceGE, Int.reduceAdd, Int.reduceSub, Int.reduceMul, Int.reduceNeg, ne_eq, not_true_eq_false, not_false_eq_true, eq_self, ↓if_pos, ↓if_neg, w0_r0_3, w0_r0_4, w0_r0_5, w0_r0_6, w0_r0_7, w0_r0_8, w0_r0_10, w0_r0_11, w0_r0_12, w0_r0_13, w0_r0_14, w0_r0_15, w0_r0_16, w0_r0_17, w0_r0_18, cr0, cr1, cr2, cr3, cr4, cr5, cr6, cr7, J_193_0, k_193_0, J_193_22, k_193_22, J_193_28, k_193_28, J_193_52, k_193_52, J_193_58, k_193_58, q1, q2, s_none]
        · by_cases q3 : AA M 0 ≤ r
          · simp (disch := first | assumption | decide | omega | (simp only [List.length_cons, List.length_nil] <;> omega)) only [lgt_0, lgt_s, lset_0, lset_s, lst1_0, lst1_s, lst2_0, lst2_s, ev_iconst, ev_lconst, ev_ldc, ev_null, ev_iload, ev_lload, ev_aload, ev_istore, ev_lstore, ev_astore, ev_iinc, ev_iadd, ev_isub, ev_imul, ev_iand, ev_ior, ev_ishl, ev_ishr, ev_idiv, ev_irem, ev_ineg, ev_ladd, ev_lsub, ev_lmul, ev_land, ev_lor, ev_ldiv, ev_lrem, ev_lshl, ev_i2l, ev_l2i, ev_i2b, ev_i2s, ev_lcmp, ev_dupI, ev_dupR, ev_dup2, ev_popI, ev_popR, ev_alen, ev_xlen, ev_xald, ev_iald, ev_lald, ev_bald, ev_zald, ev_aald, ev_iast, ev_last, ev_bast, ev_zast, ev_aast, ev_gfI, ev_gfL, ev_gfR, ev_pfI, ev_pfZ, ev_pfL, ev_pfR, ev_new, ev_newa, ev_newq, ev_copy, ev_slen, ev_schr, ev_obj, ev_mmin, ev_mabs, ev_mmax, ev_goto, ev_jsr, ev_icmp_eq, ev_if_eq, ev_icmp_ne, ev_if_ne, ev_icmp_lt, ev_if_lt, ev_icmp_ge, ev_if_ge, ev_icmp_gt, ev_if_gt, ev_icmp_le, ev_if_le, ev_ifnull0, ev_ifnull1, ev_ifnn0, ev_ifnn1, ev_tsw, ev_lsw, ev_iret, ev_zret, ev_lret, ev_aret, ev_ret, ev_call0, ev_call1, ev_call2, ev_call3, ev_call4, ev_call5, ev_call6, Option.toList_some, Option.toList_none, List.cons_append, List.nil_append, List.length_cons, List.length_nil, Nat.reduceMod, Nat.reduceDiv, Nat.reduceLeDiff, nc, ↓reduceIte, Nat.zero_le, reduceCtorEq, w32_id, Int.reduceEq, Int.reduceNe, Int.reduceLT, Int.reduceLE, Int.reduceGT, Int.reduceGE, Int.reduceAdd, Int.reduceSub, Int.reduceMul, Int.reduceNeg, ne_eq, not_true_eq_false, not_false_eq_true, eq_self, ↓if_pos, ↓if_neg, w0_r0_3, w0_r0_4, w0_r0_5, w0_r0_6, w0_r0_7, w0_r0_8, w0_r0_10, w0_r0_11, w0_r0_12, w0_r0_13, w0_r0_14, w0_r0_15, w0_r0_16, w0_r0_17, w0_r0_18, cr0, cr1, cr2, cr3, cr4, cr5, cr6, cr7, J_193_0, k_193_0, J_193_22, k_193_22, J_193_28, k_193_28, J_193_52, k_193_52, J_193_58, k_193_58, q1, q2, q3, s0, s_none]
          · by_cases q4 : f < 0
            · simp (disch := first | assumption | decide | omega | (simp only [List.length_cons, List.length_nil] <;> omega)) only [lgt_0, lgt_s, lset_0, lset_s, lst1_0, lst1_s, lst2_0, lst2_s, ev_iconst, ev_lconst, ev_ldc, ev_null, ev_iload, ev_lload, ev_aload, ev_istore, ev_lstore, ev_astore, ev_iinc, ev_iadd, ev_isub, ev_imul, ev_iand, ev_ior, ev_ishl, ev_ishr, ev_idiv, ev_irem, ev_ineg, ev_ladd, ev_lsub, ev_lmul, ev_land, ev_lor, ev_ldiv, ev_lrem, ev_lshl, ev_i2l, ev_l2i, ev_i2b, ev_i2s, ev_lcmp, ev_dupI, ev_dupR, ev_dup2, ev_popI, ev_popR, ev_alen, ev_xlen, ev_xald, ev_iald, ev_lald, ev_bald, ev_zald, ev_aald, ev_iast, ev_last, ev_bast, ev_zast, ev_aast, ev_gfI, ev_gfL, ev_gfR, ev_pfI, ev_pfZ, ev_pfL, ev_pfR, ev_new, ev_newa, ev_newq, ev_copy, ev_slen, ev_schr, ev_obj, ev_mmin, ev_mabs, ev_mmax, ev_goto, ev_jsr, ev_icmp_eq, ev_if_eq, ev_icmp_ne, ev_if_ne, ev_icmp_lt, ev_if_lt, ev_icmp_ge, ev_if_ge, ev_icmp_gt, ev_if_gt, ev_icmp_le, ev_if_le, ev_ifnull0, ev_ifnull1, ev_ifnn0, ev_ifnn1, ev_tsw, ev_lsw, ev_iret, ev_zret, ev_lret, ev_aret, ev_ret, ev_call0, ev_call1, ev_call2, ev_call3, ev_call4, ev_call5, ev_call6, Option.toList_some, Option.toList_none, List.cons_append, List.nil_append, List.length_cons, List.length_nil, Nat.reduceMod, Nat.reduceDiv, Nat.reduceLeDiff, nc, ↓reduceIte, Nat.zero_le, reduceCtorEq, w32_id, Int.reduceEq, Int.reduceNe, Int.reduceLT, Int.reduceLE, Int.reduceGT, Int.reduceGE, Int.reduceAdd, Int.reduceSub, Int.reduceMul, Int.reduceNeg, ne_eq, not_true_eq_false, not_false_eq_true, eq_self, ↓if_pos, ↓if_neg, w0_r0_3, w0_r0_4, w0_r0_5, w0_r0_6, w0_r0_7, w0_r0_8, w0_r0_10, w0_r0_11, w0_r0_12, w0_r0_13, w0_r0_14, w0_r0_15, w0_r0_16, w0_r0_17, w0_r0_18, cr0, cr1, cr2, cr3, cr4, cr5, cr6, cr7, J_193_0, k_193_0, J_193_22, k_193_22, J_193_28, k_193_28, J_193_52, k_193_52, J_193_58, k_193_58, q1, q2, q3, q4, s0, s_none]
            · by_cases q5 : g < f
              · simp (disch := first | assumption | decide | omega | (simp only [List.length_cons, List.length_nil] <;> omega)) only [lgt_0, lgt_s, lset_0, lset_s, lst1_0, lst1_s, lst2_0, lst2_s, ev_iconst, ev_lconst, ev_ldc, ev_null, ev_iload, ev_lload, ev_aload, ev_istore, ev_lstore, ev_astore, ev_iinc, ev_iadd, ev_isub, ev_imul, ev_iand, ev_ior, ev_ishl, ev_ishr, ev_idiv, ev_irem, ev_ineg, ev_ladd, ev_lsub, ev_lmul, ev_land, ev_lor, ev_ldiv, ev_lrem, ev_lshl, ev_i2l, ev_l2i, ev_i2b, ev_i2s, ev_lcmp, ev_dupI, ev_dupR, ev_dup2, ev_popI, ev_popR, ev_alen, ev_xlen, ev_xald, ev_iald, ev_lald, ev_bald, ev_zald, ev_aald, ev_iast, ev_last, ev_bast, ev_zast, ev_aast, ev_gfI, ev_gfL, ev_gfR, ev_pfI, ev_pfZ, ev_pfL, ev_pfR, ev_new, ev_newa, ev_newq, ev_copy, ev_slen, ev_schr, ev_obj, ev_mmin, ev_mabs, ev_mmax, ev_goto, ev_jsr, ev_icmp_eq, ev_if_eq, ev_icmp_ne, ev_if_ne, ev_icmp_lt, ev_if_lt, ev_icmp_ge, ev_if_ge, ev_icmp_gt, ev_if_gt, ev_icmp_le, ev_if_le, ev_ifnull0, ev_ifnull1, ev_ifnn0, ev_ifnn1, ev_tsw, ev_lsw, ev_iret, ev_zret, ev_lret, ev_aret, ev_ret, ev_call0, ev_call1, ev_call2, ev_call3, ev_call4, ev_call5, ev_call6, Option.toList_some, Option.toList_none, List.cons_append, List.nil_append, List.length_cons, List.length_nil, Nat.reduceMod, Nat.reduceDiv, Nat.reduceLeDiff, nc, ↓reduceIte, Nat.zero_le, reduceCtorEq, w32_id, Int.reduceEq, Int.reduceNe, Int.reduceLT, Int.reduceLE, Int.reduceGT, Int.reduceGE, Int.reduceAdd, Int.reduceSub, Int.reduceMul, Int.reduceNeg, ne_eq, not_true_eq_false, not_false_eq_true, eq_self, ↓if_pos, ↓if_neg, w0_r0_3, w0_r0_4, w0_r0_5, w0_r0_6, w0_r0_7, w0_r0_8, w0_r0_10, w0_r0_11, w0_r0_12, w0_r0_13, w0_r0_14, w0_r0_15, w0_r0_16, w0_r0_17, w0_r0_18, cr0, cr1, cr2, cr3, cr4, cr5, cr6, cr7, J_193_0, k_193_0, J_193_22, k_193_22, J_193_28, k_193_28, J_193_52, k_193_52, J_193_58, k_193_58, q1, q2, q3, q4, q5, s0, s_none]
              · have q6 : AA M 1 ≤ g := by
                  refine Classical.byContradiction fun z => q ⟨⟨⟨by omega, by omega⟩, by omega⟩, ⟨by omega, by omega⟩, by omega⟩
                simp (disch := first | assumption | decide | omega | (simp only [List.length_cons, List.length_nil] <;> omega)) only [lgt_0, lgt_s, lset_0, lset_s, lst1_0, lst1_s, lst2_0, lst2_s, ev_iconst, ev_lconst, ev_ldc, ev_null, ev_iload, ev_lload, ev_aload, ev_istore, ev_lstore, ev_astore, ev_iinc, ev_iadd, ev_isub, ev_imul, ev_iand, ev_ior, ev_ishl, ev_ishr, ev_idiv, ev_irem, ev_ineg, ev_ladd, ev_lsub, ev_lmul, ev_land, ev_lor, ev_ldiv, ev_lrem, ev_lshl, ev_i2l, ev_l2i, ev_i2b, ev_i2s, ev_lcmp, ev_dupI, ev_dupR, ev_dup2, ev_popI, ev_popR, ev_alen, ev_xlen, ev_xald, ev_iald, ev_lald, ev_bald, ev_zald, ev_aald, ev_iast, ev_last, ev_bast, ev_zast, ev_aast, ev_gfI, ev_gfL, ev_gfR, ev_pfI, ev_pfZ, ev_pfL, ev_pfR, ev_new, ev_newa, ev_newq, ev_copy, ev_slen, ev_schr, ev_obj, ev_mmin, ev_mabs, ev_mmax, ev_goto, ev_jsr, ev_icmp_eq, ev_if_eq, ev_icmp_ne, ev_if_ne, ev_icmp_lt, ev_if_lt, ev_icmp_ge, ev_if_ge, ev_icmp_gt, ev_if_gt, ev_icmp_le, ev_if_le, ev_ifnull0, ev_ifnull1, ev_ifnn0, ev_ifnn1, ev_tsw, ev_lsw, ev_iret, ev_zret, ev_lret, ev_aret, ev_ret, ev_call0, ev_call1, ev_call2, ev_call3, ev_call4, ev_call5, ev_call6, Option.toList_some, Option.toList_none, List.cons_append, List.nil_append, List.length_cons, List.length_nil, Nat.reduceMod, Nat.reduceDiv, Nat.reduceLeDiff, nc, ↓reduceIte, Nat.zero_le, reduceCtorEq, w32_id, Int.reduceEq, Int.reduceNe, Int.reduceLT, Int.reduceLE, Int.reduceGT, Int.reduceGE, Int.reduceAdd, Int.reduceSub, Int.reduceMul, Int.reduceNeg, ne_eq, not_true_eq_false, not_false_eq_true, eq_self, ↓if_pos, ↓if_neg, w0_r0_3, w0_r0_4, w0_r0_5, w0_r0_6, w0_r0_7, w0_r0_8, w0_r0_10, w0_r0_11, w0_r0_12, w0_r0_13, w0_r0_14, w0_r0_15, w0_r0_16, w0_r0_17, w0_r0_18, cr0, cr1, cr2, cr3, cr4, cr5, cr6, cr7, J_193_0, k_193_0, J_193_22, k_193_22, J_193_28, k_193_28, J_193_52, k_193_52, J_193_58, k_193_58, q1, q2, q3, q4, q5, q6, s0, s1, s_none]
    · intro M1 h1 hm
      obtain ⟨r_at, k_at, l_at⟩ := md_at w0_md140
      have t0 := q_at (mds_of hm) (k := 0) (by omega) (by omega)
      have df := q_isRow (X := X) (mds_of hm) (i := f)
      have dg := q_isRow (X := X) (mds_of hm) (i := g)
      rw [E_348 mk0]
      by_cases q1 : l < 0
      · simp (disch := first | assumption | decide | omega | (simp only [List.length_cons, List.length_nil] <;> omega)) only [lgt_0, lgt_s, lset_0, lset_s, lst1_0, lst1_s, lst2_0, lst2_s, ev_iconst, ev_lconst, ev_ldc, ev_null, ev_iload, ev_lload, ev_aload, ev_istore, ev_lstore, ev_astore, ev_iinc, ev_iadd, ev_isub, ev_imul, ev_iand, ev_ior, ev_ishl, ev_ishr, ev_idiv, ev_irem, ev_ineg, ev_ladd, ev_lsub, ev_lmul, ev_land, ev_lor, ev_ldiv, ev_lrem, ev_lshl, ev_i2l, ev_l2i, ev_i2b, ev_i2s, ev_lcmp, ev_dupI, ev_dupR, ev_dup2, ev_popI, ev_popR, ev_alen, ev_xlen, ev_xald, ev_iald, ev_lald, ev_bald, ev_zald, ev_aald, ev_iast, ev_last, ev_bast, ev_zast, ev_aast, ev_gfI, ev_gfL, ev_gfR, ev_pfI, ev_pfZ, ev_pfL, ev_pfR, ev_new, ev_newa, ev_newq, ev_copy, ev_slen, ev_schr, ev_obj, ev_mmin, ev_mabs, ev_mmax, ev_goto, ev_jsr, ev_icmp_eq, ev_if_eq, ev_icmp_ne, ev_if_ne, ev_icmp_lt, ev_if_lt, ev_icmp_ge, ev_if_ge, ev_icmp_gt, ev_if_gt, ev_icmp_le, ev_if_le, ev_ifnull0, ev_ifnull1, ev_ifnn0, ev_ifnn1, ev_tsw, ev_lsw, ev_iret, ev_zret, ev_lret, ev_aret, ev_ret, ev_call0, ev_call1, ev_call2, ev_call3, ev_call4, ev_call5, ev_call6, Option.toList_some, Option.toList_none, List.cons_append, List.nil_append, List.length_cons, List.length_nil, Nat.reduceMod, Nat.reduceDiv, Nat.reduceLeDiff, nc, ↓reduceIte, Nat.zero_le, reduceCtorEq, w32_id, Int.reduceEq, Int.reduceNe, Int.reduceLT, Int.reduceLE, Int.reduceGT, Int.reduceGE, Int.reduceAdd, Int.reduceSub, Int.reduceMul, Int.reduceNeg, ne_eq, not_true_eq_false, not_false_eq_true, eq_self, ↓if_pos, ↓if_neg, J_348_0, k_348_0, J_348_42, k_348_42, J_348_48, k_348_48, J_348_122, k_348_122, J_348_128, k_348_128, q1, m_refuse hmd]
      · by_cases q2 : r < l
        · simp (disch := first | assumption | decide | omega | (simp only [List.length_cons, List.length_nil] <;> omega)) only [lgt_0, lgt_s, lset_0, lset_s, lst1_0, lst1_s, lst2_0, lst2_s, ev_iconst, ev_lconst, ev_ldc, ev_null, ev_iload, ev_lload, ev_aload, ev_istore, ev_lstore, ev_astore, ev_iinc, ev_iadd, ev_isub, ev_imul, ev_iand, ev_ior, ev_ishl, ev_ishr, ev_idiv, ev_irem, ev_ineg, ev_ladd, ev_lsub, ev_lmul, ev_land, ev_lor, ev_ldiv, ev_lrem, ev_lshl, ev_i2l, ev_l2i, ev_i2b, ev_i2s, ev_lcmp, ev_dupI, ev_dupR, ev_dup2, ev_popI, ev_popR, ev_alen, ev_xlen, ev_xald, ev_iald, ev_lald, ev_bald, ev_zald, ev_aald, ev_iast, ev_last, ev_bast, ev_zast, ev_aast, ev_gfI, ev_gfL, ev_gfR, ev_pfI, ev_pfZ, ev_pfL, ev_pfR, ev_new, ev_newa, ev_newq, ev_copy, ev_slen, ev_schr, ev_obj, ev_mmin, ev_mabs, ev_mmax, ev_goto, ev_jsr, ev_icmp_eq, ev_if_eq, ev_icmp_ne, ev_if_ne, ev_icmp_lt, ev_if_lt, ev_icmp_ge, ev_if_ge, ev_icmp_gt, ev_if_gt, ev_icmp_le, ev_if_le, ev_ifnull0, ev_ifnull1, ev_ifnn0, ev_ifnn1, ev_tsw, ev_lsw, ev_iret, ev_zret, ev_lret, ev_aret, ev_ret, ev_call0, ev_call1, ev_call2, ev_call3, ev_call4, ev_call5, ev_call6, Option.toList_some, Option.toList_none, List.cons_append, List.nil_append, List.length_cons, List.length_nil, Nat.reduceMod, Nat.reduceDiv, Nat.reduceLeDiff, nc, ↓reduceIte, Nat.zero_le, reduceCtorEq, w32_id, Int.reduceEq, Int.reduceNe, Int.reduceLT, Int.reduceLE, Int.reduceGT, Int.reduceGE, Int.reduceAdd, Int.reduceSub, Int.reduceMul, Int.reduceNeg, ne_eq, not_true_eq_false, not_false_eq_true, eq_self, ↓if_pos, ↓if_neg, J_348_0, k_348_0, J_348_42, k_348_42, J_348_48, k_348_48, J_348_122, k_348_122, J_348_128, k_348_128, q1, q2, m_refuse hmd]
        · by_cases q3 : AA M 0 ≤ r
          · simp (disch := first | assumption | decide | omega | (simp only [List.length_cons, List.length_nil] <;> omega)) only [lgt_0, lgt_s, lset_0, lset_s, lst1_0, lst1_s, lst2_0, lst2_s, ev_iconst, ev_lconst, ev_ldc, ev_null, ev_iload, ev_lload, ev_aload, ev_istore, ev_lstore, ev_astore, ev_iinc, ev_iadd, ev_isub, ev_imul, ev_iand, ev_ior, ev_ishl, ev_ishr, ev_idiv, ev_irem, ev_ineg, ev_ladd, ev_lsub, ev_lmul, ev_land, ev_lor, ev_ldiv, ev_lrem, ev_lshl, ev_i2l, ev_l2i, ev_i2b, ev_i2s, ev_lcmp, ev_dupI, ev_dupR, ev_dup2, ev_popI, ev_popR, ev_alen, ev_xlen, ev_xald, ev_iald, ev_lald, ev_bald, ev_zald, ev_aald, ev_iast, ev_last, ev_bast, ev_zast, ev_aast, ev_gfI, ev_gfL, ev_gfR, ev_pfI, ev_pfZ, ev_pfL, ev_pfR, ev_new, ev_newa, ev_newq, ev_copy, ev_slen, ev_schr, ev_obj, ev_mmin, ev_mabs, ev_mmax, ev_goto, ev_jsr, ev_icmp_eq, ev_if_eq, ev_icmp_ne, ev_if_ne, ev_icmp_lt, ev_if_lt, ev_icmp_ge, ev_if_ge, ev_icmp_gt, ev_if_gt, ev_icmp_le, ev_if_le, ev_ifnull0, ev_ifnull1, ev_ifnn0, ev_ifnn1, ev_tsw, ev_lsw, ev_iret, ev_zret, ev_lret, ev_aret, ev_ret, ev_call0, ev_call1, ev_call2, ev_call3, ev_call4, ev_call5, ev_call6, Option.toList_some, Option.toList_none, List.cons_append, List.nil_append, List.length_cons, List.length_nil, Nat.reduceMod, Nat.reduceDiv, Nat.reduceLeDiff, nc, ↓reduceIte, Nat.zero_le, reduceCtorEq, w32_id, Int.reduceEq, Int.reduceNe, Int.reduceLT, Int.reduceLE, Int.reduceGT, Int.reduceGE, Int.reduceAdd, Int.reduceSub, Int.reduceMul, Int.reduceNeg, ne_eq, not_true_eq_false, not_false_eq_true, eq_self, ↓if_pos, ↓if_neg, J_348_0, k_348_0, J_348_42, k_348_42, J_348_48, k_348_48, J_348_122, k_348_122, J_348_128, k_348_128, r_at, q1, q2, q3, t0, m_refuse hmd]
          · by_cases q4 : 0 ≤ f ∧ f < AA M 1
            · rw [if1 q4] at df
              by_cases q5 : 0 ≤ g ∧ g < AA M 1
              · rw [if1 q5] at dg
                have q6 : g < f := by
                  refine Classical.byContradiction fun z => q ⟨⟨⟨by omega, by omega⟩, by omega⟩, ⟨by omega, by omega⟩, by omega⟩
                simp (disch := first | assumption | decide | omega | (simp only [List.length_cons, List.length_nil] <;> omega)) only [lgt_0, lgt_s, lset_0, lset_s, lst1_0, lst1_s, lst2_0, lst2_s, ev_iconst, ev_lconst, ev_ldc, ev_null, ev_iload, ev_lload, ev_aload, ev_istore, ev_lstore, ev_astore, ev_iinc, ev_iadd, ev_isub, ev_imul, ev_iand, ev_ior, ev_ishl, ev_ishr, ev_idiv, ev_irem, ev_ineg, ev_ladd, ev_lsub, ev_lmul, ev_land, ev_lor, ev_ldiv, ev_lrem, ev_lshl, ev_i2l, ev_l2i, ev_i2b, ev_i2s, ev_lcmp, ev_dupI, ev_dupR, ev_dup2, ev_popI, ev_popR, ev_alen, ev_xlen, ev_xald, ev_iald, ev_lald, ev_bald, ev_zald, ev_aald, ev_iast, ev_last, ev_bast, ev_zast, ev_aast, ev_gfI, ev_gfL, ev_gfR, ev_pfI, ev_pfZ, ev_pfL, ev_pfR, ev_new, ev_newa, ev_newq, ev_copy, ev_slen, ev_schr, ev_obj, ev_mmin, ev_mabs, ev_mmax, ev_goto, ev_jsr, ev_icmp_eq, ev_if_eq, ev_icmp_ne, ev_if_ne, ev_icmp_lt, ev_if_lt, ev_icmp_ge, ev_if_ge, ev_icmp_gt, ev_if_gt, ev_icmp_le, ev_if_le, ev_ifnull0, ev_ifnull1, ev_ifnn0, ev_ifnn1, ev_tsw, ev_lsw, ev_iret, ev_zret, ev_lret, ev_aret, ev_ret, ev_call0, ev_call1, ev_call2, ev_call3, ev_call4, ev_call5, ev_call6, Option.toList_some, Option.toList_none, List.cons_append, List.nil_append, List.length_cons, List.length_nil, Nat.reduceMod, Nat.reduceDiv, Nat.reduceLeDiff, nc, ↓reduceIte, Nat.zero_le, reduceCtorEq, w32_id, Int.reduceEq, Int.reduceNe, Int.reduceLT, Int.reduceLE, Int.reduceGT, Int.reduceGE, Int.reduceAdd, Int.reduceSub, Int.reduceMul, Int.reduceNeg, ne_eq, not_true_eq_false, not_false_eq_true, eq_self, ↓if_pos, ↓if_neg, J_348_0, k_348_0, J_348_42, k_348_42, J_348_48, k_348_48, J_348_122, k_348_122, J_348_128, k_348_128, r_at, q1, q2, q3, t0, df, dg, q6, m_refuse hmd]
              · rw [if0 q5] at dg
                simp (disch := first | assumption | decide | omega | (simp only [List.length_cons, List.length_nil] <;> omega)) only [lgt_0, lgt_s, lset_0, lset_s, lst1_0, lst1_s, lst2_0, lst2_s, ev_iconst, ev_lconst, ev_ldc, ev_null, ev_iload, ev_lload, ev_aload, ev_istore, ev_lstore, ev_astore, ev_iinc, ev_iadd, ev_isub, ev_imul, ev_iand, ev_ior, ev_ishl, ev_ishr, ev_idiv, ev_irem, ev_ineg, ev_ladd, ev_lsub, ev_lmul, ev_land, ev_lor, ev_ldiv, ev_lrem, ev_lshl, ev_i2l, ev_l2i, ev_i2b, ev_i2s, ev_lcmp, ev_dupI, ev_dupR, ev_dup2, ev_popI, ev_popR, ev_alen, ev_xlen, ev_xald, ev_iald, ev_lald, ev_bald, ev_zald, ev_aald, ev_iast, ev_last, ev_bast, ev_zast, ev_aast, ev_gfI, ev_gfL, ev_gfR, ev_pfI, ev_pfZ, ev_pfL, ev_pfR, ev_new, ev_newa, ev_newq, ev_copy, ev_slen, ev_schr, ev_obj, ev_mmin, ev_mabs, ev_mmax, ev_goto, ev_jsr, ev_icmp_eq, ev_if_eq, ev_icmp_ne, ev_if_ne, ev_icmp_lt, ev_if_lt, ev_icmp_ge, ev_if_ge, ev_icmp_gt, ev_if_gt, ev_icmp_le, ev_if_le, ev_ifnull0, ev_ifnull1, ev_ifnn0, ev_ifnn1, ev_tsw, ev_lsw, ev_iret, ev_zret, ev_lret, ev_aret, ev_ret, ev_call0, ev_call1, ev_call2, ev_call3, ev_call4, ev_call5, ev_call6, Option.toList_some, Option.toList_none, List.cons_append, List.nil_append, List.length_cons, List.length_nil, Nat.reduceMod, Nat.reduceDiv, Nat.reduceLeDiff, nc, ↓reduceIte, Nat.zero_le, reduceCtorEq, w32_id, Int.reduceEq, Int.reduceNe, Int.reduceLT, Int.reduceLE, Int.reduceGT, Int.reduceGE, Int.reduceAdd, Int.reduceSub, Int.reduceMul, Int.reduceNeg, ne_eq, not_true_eq_false, not_false_eq_true, eq_self, ↓if_pos, ↓if_neg, J_348_0, k_348_0, J_348_42, k_348_42, J_348_48, k_348_48, J_348_122, k_348_122, J_348_128, k_348_128, r_at, q1, q2, q3, t0, df, dg, m_refuse hmd]
            · rw [if0 q4] at df
              simp (disch := first | assumption | decide | omega | (simp only [List.length_cons, List.length_nil] <;> omega)) only [lgt_0, lgt_s, lset_0, lset_s, lst1_0, lst1_s, lst2_0, lst2_s, ev_iconst, ev_lconst, ev_ldc, ev_null, ev_iload, ev_lload, ev_aload, ev_istore, ev_lstore, ev_astore, ev_iinc, ev_iadd, ev_isub, ev_imul, ev_iand, ev_ior, ev_ishl, ev_ishr, ev_idiv, ev_irem, ev_ineg, ev_ladd, ev_lsub, ev_lmul, ev_land, ev_lor, ev_ldiv, ev_lrem, ev_lshl, ev_i2l, ev_l2i, ev_i2b, ev_i2s, ev_lcmp, ev_dupI, ev_dupR, ev_dup2, ev_popI, ev_popR, ev_alen, ev_xlen, ev_xald, ev_iald, ev_lald, ev_bald, ev_zald, ev_aald, ev_iast, ev_last, ev_bast, ev_zast, ev_aast, ev_gfI, ev_gfL, ev_gfR, ev_pfI, ev_pfZ, ev_pfL, ev_pfR, ev_new, ev_newa, ev_newq, ev_copy, ev_slen, ev_schr, ev_obj, ev_mmin, ev_mabs, ev_mmax, ev_goto, ev_jsr, ev_icmp_eq, ev_if_eq, ev_icmp_ne, ev_if_ne, ev_icmp_lt, ev_if_lt, ev_icmp_ge, ev_if_ge, ev_icmp_gt, ev_if_gt, ev_icmp_le, ev_if_le, ev_ifnull0, ev_ifnull1, ev_ifnn0, ev_ifnn1, ev_tsw, ev_lsw, ev_iret, ev_zret, ev_lret, ev_aret, ev_ret, ev_call0, ev_call1, ev_call2, ev_call3, ev_call4, ev_call5, ev_call6, Option.toList_some, Option.toList_none, List.cons_append, List.nil_append, List.length_cons, List.length_nil, Nat.reduceMod, Nat.reduceDiv, Nat.reduceLeDiff, nc, ↓reduceIte, Nat.zero_le, reduceCtorEq, w32_id, Int.reduceEq, Int.reduceNe, Int.reduceLT, Int.reduceLE, Int.reduceGT, Int.reduceGE, Int.reduceAdd, Int.reduceSub, Int.reduceMul, Int.reduceNeg, ne_eq, not_true_eq_false, not_false_eq_true, eq_self, ↓if_pos, ↓if_neg, J_348_0, k_348_0, J_348_42, k_348_42, J_348_48, k_348_48, J_348_122, k_348_122, J_348_128, k_348_128, r_at, q1, q2, q3, t0, df, m_refuse hmd]
end WNO
