/-! CHARTS copied and arranged; the model's numbers. -/
theorem cpy_no {M : Mem} {s d b : Nat} {sp dp n : Int} (h : b ≠ d) : cpy M s sp d dp n b = M b := by
  funext i
  unfold cpy
  rw [if_neg (fun z => h z.1)]
theorem cpy_in {M : Mem} {s d : Nat} {n i : Int} (h : 0 ≤ i ∧ i < n) : cpy M s 0 d 0 n d i = M s i := by
  unfold cpy
  rw [if_pos ⟨rfl, h.1, by omega⟩, show 0 + (i - 0) = i by omega]
section ARR
variable {X : Int → Int} {M : Mem} {c d : Nat}
theorem s_chcopy (hc : CH SH0 c) (hd : CH SH0 d) (hcd : c + 8 < d ∨ d + 8 < c) : ∃ M', (∀ b, (b < c ∨ c + 8 < b) → M' b = M b) ∧ (∀ k, 0 ≤ k → k < 15 → M' (c + 1) k = M (d + 1) k) ∧ (∀ k, 0 ≤ k → k < 5 → M' (c + 2) k = M (d + 2) k ∧ M' (c + 3) k = M (d + 3) k ∧ M' (c + 4) k = M (d + 4) k) ∧ (∀ k, 0 ≤ k → k < 48 → M' (c + 5) k = M (d + 5) k ∧ M' (c + 6) k = M (d + 6) k ∧ M' (c + 7) k = M (d + 7) k ∧ M' (c + 8) k = M (d + 8) k) ∧ M' c 8 = M d 8 ∧
    evc X 74 [vR (some c), vR (some d)] SH0 M = some (none, SH0, M') := by
  obtain ⟨ck0, cr0, cr1, cr2, cr3, cr4, cr5, cr6, cr7, ck1, ck2, ck3, ck4, ck5, ck6, ck7, ck8, cl1, cl2, cl3, cl4, cl5, cl6, cl7, cl8⟩ := hc
  obtain ⟨dk0, dr0, dr1, dr2, dr3, dr4, dr5, dr6, dr7, dk1, dk2, dk3, dk4, dk5, dk6, dk7, dk8, dl1, dl2, dl3, dl4, dl5, dl6, dl7, dl8⟩ := hd
  refine ⟨up (cpy (cpy (cpy (cpy (cpy (cpy (cpy (cpy M (d + 1) 0 (c + 1) 0 15) (d + 2) 0 (c + 2) 0 5) (d + 3) 0 (c + 3) 0 5) (d + 4) 0 (c + 4) 0 5) (d + 5) 0 (c + 5) 0 48) (d + 6) 0 (c + 6) 0 48) (d + 7) 0 (c + 7) 0 48) (d + 8) 0 (c + 8) 0 48) c 8 (M d 8), fun b hb => ?_, fun k k0 k1 => ?_, fun k k0 k1 => ?_, fun k k0 k1 => ?_, ?_, ?_⟩
  · simp (disch := omega) only [up_ne, cpy_no]
  · simp (disch := omega) only [up_ne, cpy_no, cpy_in]
  · refine ⟨?_, ?_, ?_⟩ <;> simp (disch := omega) only [up_ne, cpy_no, cpy_in]
  · refine ⟨?_, ?_, ?_, ?_⟩ <;> simp (disch := omega) only [up_ne, cpy_no, cpy_in]
  · exact up_eq
  · have e : cpy (cpy (cpy (cpy (cpy (cpy (cpy (cpy M (d + 1) 0 (c + 1) 0 15) (d + 2) 0 (c + 2) 0 5) (d + 3) 0 (c + 3) 0 5) (d + 4) 0 (c + 4) 0 5) (d + 5) 0 (c + 5) 0 48) (d + 6) 0 (c + 6) 0 48) (d + 7) 0 (c + 7) 0 48) (d + 8) 0 (c + 8) 0 48 d = M d := by simp (disch := omega) only [cpy_no]
    have k1 : knd SH0 (d + 1) = knd SH0 (c + 1) := by rw [dk1, ck1]
    have k2 : knd SH0 (d + 2) = knd SH0 (c + 2) := by rw [dk2, ck2]
    have k3 : knd SH0 (d + 3) = knd SH0 (c + 3) := by rw [dk3, ck3]
    have k4 : knd SH0 (d + 4) = knd SH0 (c + 4) := by rw [dk4, ck4]
    have k5 : knd SH0 (d + 5) = knd SH0 (c + 5) := by rw [dk5, ck5]
    have k6 : knd SH0 (d + 6) = knd SH0 (c + 6) := by rw [dk6, ck6]
    have k7 : knd SH0 (d + 7) = knd SH0 (c + 7) := by rw [dk7, ck7]
    have k8 : knd SH0 (d + 8) = knd SH0 (c + 8) := by rw [dk8, ck8]
    have o1 : knd SH0 (c + 1) = 100 ∨ knd SH0 (c + 1) = 101 := Or.inl ck1
    have o2 : knd SH0 (c + 2) = 100 ∨ knd SH0 (c + 2) = 101 := Or.inr ck2
    have o3 : knd SH0 (c + 3) = 100 ∨ knd SH0 (c + 3) = 101 := Or.inl ck3
    have o4 : knd SH0 (c + 4) = 100 ∨ knd SH0 (c + 4) = 101 := Or.inl ck4
    have o5 : knd SH0 (c + 5) = 100 ∨ knd SH0 (c + 5) = 101 := Or.inl ck5
    have o6 : knd SH0 (c + 6) = 100 ∨ knd SH0 (c + 6) = 101 := Or.inl ck6
    have o7 : knd SH0 (c + 7) = 100 ∨ knd SH0 (c + 7) = 101 := Or.inl ck7
    have o8 : knd SH0 (c + 8) = 100 ∨ knd SH0 (c + 8) = 101 := Or.inl ck8
    rw [E_74 ck0]
    simp (disch := first | assumption | decide | omega | (simp only [List.length_cons, List.length_nil] <;> omega)) only [lgt_0, lgt_s, lset_0, lset_s, lst1_0, lst1_s, lst2_0, lst2_s, ev_iconst, ev_lconst, ev_ldc, ev_null, ev_iload, ev_lload, ev_aload, ev_istore, ev_lstore, ev_astore, ev_iinc, ev_iadd, ev_isub, ev_imul, ev_iand, ev_ior, ev_ishl, ev_ishr, ev_idiv, ev_irem, ev_ineg, ev_ladd, ev_lsub, ev_lmul, ev_land, ev_lor, ev_ldiv, ev_lrem, ev_lshl, ev_i2l, ev_l2i, ev_i2b, ev_i2s, ev_lcmp, ev_dupI, ev_dupR, ev_dup2, ev_popI, ev_popR, ev_alen, ev_xlen, ev_xald, ev_iald, ev_lald, ev_bald, ev_zald, ev_aald, ev_iast, ev_last, ev_bast, ev_zast, ev_aast, ev_gfI, ev_gfL, ev_gfR, ev_pfI, ev_pfZ, ev_pfL, ev_pfR, ev_new, ev_newa, ev_newq, ev_copy, ev_slen, ev_schr, ev_obj, ev_mmin, ev_mabs, ev_mmax, ev_goto, ev_jsr, ev_icmp_eq, ev_if_eq, ev_icmp_ne, ev_if_ne, ev_icmp_lt, ev_if_lt, ev_icmp_ge, ev_if_ge, ev_icmp_gt, ev_if_gt, ev_icmp_le, ev_if_le, ev_ifnull0, ev_ifnull1, ev_ifnn0, ev_ifnn1, ev_tsw, ev_lsw, ev_iret, ev_zret, ev_lret, ev_aret, ev_ret, ev_call0, ev_call1, ev_call2, ev_call3, ev_call4, ev_call5, ev_call6, Option.toList_some, Option.toList_none, List.cons_append, List.nil_append, List.length_cons, List.length_nil, Nat.reduceMod, Nat.reduceDiv, Nat.reduceLeDiff, nc, ↓reduceIte, Nat.zero_le, reduceCtorEq, w32_id, Int.reduceEq, Int.reduceNe, Int.reduceLT, Int.reduceLE, Int.reduceGT, Int.reduceGE, Int.reduceAdd, Int.reduceSub, Int.reduceMul, Int.reduceNeg, ne_eq, not_true_eq_false, not_false_eq_true, eq_self, ↓if_pos, ↓if_neg, J_74_0, k_74_0, ev_copy, cr0, cr1, cr2, cr3, cr4, cr5, cr6, cr7, dr0, dr1, dr2, dr3, dr4, dr5, dr6, dr7, e]
theorem RC1_copy {M' : Mem} {A NM : Int → Int} (r : RC1 M d A NM) (h1 : ∀ k, 0 ≤ k → k < 15 → M' (c + 1) k = M (d + 1) k) (h2 : ∀ k, 0 ≤ k → k < 5 → M' (c + 2) k = M (d + 2) k ∧ M' (c + 3) k = M (d + 3) k ∧ M' (c + 4) k = M (d + 4) k) (h3 : ∀ k, 0 ≤ k → k < 48 → M' (c + 5) k = M (d + 5) k ∧ M' (c + 6) k = M (d + 6) k ∧ M' (c + 7) k = M (d + 7) k ∧ M' (c + 8) k = M (d + 8) k) (h4 : M' c 8 = M d 8) : RC1 M' c A NM := by
  have gn := (rch_A r).2.1
  have en : xn A = A 0 * A 1 := rfl
  obtain ⟨r1, r2, r3, r4, r5, r6, r7, r8⟩ := r
  have g2 := r2.2.2.1
  refine ⟨fun k a b => by rw [h1 k a b]; exact r1 k a b, r2, r3, by rw [h4]; exact r4, fun k a b => ?_, fun k a b => ?_, fun p a b => ?_, fun i a b => ?_⟩
  · rw [(h2 k a b).2.1, (h2 k a b).2.2]; exact r5 k a b
  · have e := h2 k a (by omega)
    rw [e.1, e.2.1, e.2.2]; exact r6 k a b
  · rw [(h3 p a (by omega)).1]; exact r7 p a b
  · have e := h3 i a (by omega)
    rw [e.2.1, e.2.2.1, e.2.2.2]; exact r8 i a b
/-- stitches numbered -/
theorem s_arrange (hc : CH SH0 c) (gs : goodS (M (c + 1))) : ∃ M', (∀ b, (b < c ∨ c + 8 < b) → M' b = M b) ∧ (∀ b, c + 1 ≤ b → b ≤ c + 5 → M' b = M b) ∧ M' c 8 = xn (M (c + 1)) ∧ (∀ i, 0 ≤ i → i < xn (M (c + 1)) → M' (c + 6) i = M (c + 5) (plF (M (c + 1)) i) ∧ M' (c + 7) i = plF (M (c + 1)) i % M (c + 1) 0 ∧ M' (c + 8) i = i / M (c + 1) 0) ∧ evc X 61 [vR (some c)] SH0 M = some (none, SH0, M') := by
  have hcc := hc
  obtain ⟨ck0, cr0, cr1, cr2, cr3, cr4, cr5, cr6, cr7, ck1, ck2, ck3, ck4, ck5, ck6, ck7, ck8, cl1, cl2, cl3, cl4, cl5, cl6, cl7, cl8⟩ := hc
  have g0 := gs.1
  have g1 := gs.2.1
  have g14 := gs.2.2.2.2.2.2.2.2.2.2.2.2.2.2
  generalize hS : M (c + 1) = S at gs g0 g1 g14
  have mb : 0 ≤ S 0 * S 1 ∧ S 0 * S 1 ≤ 8 * 6 := ⟨Int.mul_nonneg g0.1 g1.1, Int.mul_le_mul g0.2 g1.2 g1.1 (by omega)⟩
  have en : xn S = S 0 * S 1 := rfl
  -- what is written, row by row
  let W : Mem → Int → Int → Prop := fun M' x r => M' (c + 6) (stAt S x r) = M (c + 5) (r * S 0 + x) ∧ M' (c + 7) (stAt S x r) = x ∧ M' (c + 8) (stAt S x r) = r
  have stI : ∀ x r x' r', (0 ≤ x ∧ x < S 0) → (0 ≤ r ∧ r < S 1) → (0 ≤ x' ∧ x' < S 0) → (0 ≤ r' ∧ r' < S 1) → stAt S x r = stAt S x' r' → x = x' ∧ r = r' := fun x r x' r' hx hr hx' hr' e => by
    have a := stAt_rng gs hx hr
    have b := stAt_rng gs hx' hr'
    rw [e] at a
    have e2 := a.2.2.symm.trans b.2.2
    have d1 : (S 0 * r + x) / S 0 = r := (div_row (by omega)).mpr ⟨by omega, by omega⟩
    have d2 : (S 0 * r' + x') / S 0 = r' := (div_row (by omega)).mpr ⟨by omega, by omega⟩
    rw [e2, d2] at d1
    subst d1
    omega
  have frk : ∀ M' : Mem, (∀ b, b ≠ c → b ≠ c + 6 → b ≠ c + 7 → b ≠ c + 8 → M' b = M b) → M' (c + 1) = S ∧ M' (c + 5) = M (c + 5) := fun M' f => ⟨by rw [f _ (by omega) (by omega) (by omega) (by omega)]; exact hS, f _ (by omega) (by omega) (by omega) (by omega)⟩
  obtain ⟨ls', M2, ⟨w3, w4, hls, fr, f8, i1⟩, he⟩ := ev_for (X := X) (y := 61) (Sh := SH0) (fun r ls M' => ∃ w3 w4, ls = [some (vR (some c)), some (vI (S 0)), some (vI (r : Int)), w3, w4] ∧ (∀ b, b ≠ c → b ≠ c + 6 → b ≠ c + 7 → b ≠ c + 8 → M' b = M b) ∧ (M' c 8 = xn S) ∧ (∀ r' x' : Int, 0 ≤ r' → r' < r → 0 ≤ x' → x' < S 0 → W M' x' r')) J_61_21 (S 1).toNat (fun r hr ls M' hI => by
    obtain ⟨w3, w4, hls, fr, f8, i1⟩ := hI
    subst hls
    obtain ⟨b1, b5⟩ := frk M' fr
    have q0 : ¬ S 1 ≤ (r : Int) := by omega
    have rb : 0 ≤ (r : Int) * S 0 ∧ (r : Int) * S 0 ≤ 6 * 8 := ⟨Int.mul_nonneg (by omega) g0.1, Int.mul_le_mul (by omega) g0.2 g0.1 (by omega)⟩
    have rb2 : (r : Int) * S 0 + S 0 ≤ S 0 * S 1 := by
      have e2 : S 0 * ((r : Int) + 1) ≤ S 0 * S 1 := Int.mul_le_mul_of_nonneg_left (by omega) (by omega)
      rw [Int.mul_add, Int.mul_one, Int.mul_comm (S 0) r] at e2
      exact e2
    obtain ⟨ls2, M3, ⟨v4, hls2, fr2, f82, j1, j2⟩, he2⟩ := ev_for (X := X) (y := 61) (Sh := SH0) (fun x ls M' => ∃ v4, ls = [some (vR (some c)), some (vI (S 0)), some (vI (r : Int)), some (vI (x : Int)), v4] ∧ (∀ b, b ≠ c → b ≠ c + 6 → b ≠ c + 7 → b ≠ c + 8 → M' b = M b) ∧ (M' c 8 = xn S) ∧ (∀ r' x' : Int, 0 ≤ r' → r' < r → 0 ≤ x' → x' < S 0 → W M' x' r') ∧ (∀ x' : Int, 0 ≤ x' → x' < x → W M' x' r)) J_61_33 (S 0).toNat (fun x hx ls M3 hI => by
      obtain ⟨v4, hls, fr2, f82, j1, j2⟩ := hI
      subst hls
      obtain ⟨d1, d5⟩ := frk M3 fr2
      have q1 : ¬ S 0 ≤ (x : Int) := by omega
      have est := s_stitchAt (X := X) (M := M3) hcc (x := x) (r := r) (by rw [d1]; exact gs) (by omega) (by omega)
      rw [d1] at est
      have sr := stAt_rng gs (x := x) (row := r) (by omega) (by omega)
      refine ⟨_, up (up (up M3 (c + 6) (stAt S x r) (M (c + 5) ((r : Int) * S 0 + x))) (c + 7) (stAt S x r) x) (c + 8) (stAt S x r) r, ⟨some (vI (stAt S x r)), rfl, fun b b0 b6 b7 b8 => by simp (disch := omega) only [up_ne, up_eq, up_ne2]; exact fr2 b b0 b6 b7 b8, by simp (disch := omega) only [up_ne, up_eq, up_ne2]; exact f82, fun r' x' a b a' b' => ?_, fun x' a' b' => ?_⟩, ?_⟩
      · have ne : stAt S x' r' ≠ stAt S x r := fun e => by
          have := stI x' r' x r ⟨a', b'⟩ (by omega) (by omega) (by omega) e
          omega
        have e := j1 r' x' a b a' b'
        show _ ∧ _ ∧ _
        simp (disch := omega) only [up_ne, up_eq, up_ne2]
        exact e
      · by_cases z : x' = x
        · subst z
          show _ ∧ _ ∧ _
          simp (disch := omega) only [up_ne, up_eq, up_ne2]
          exact ⟨trivial, trivial, trivial⟩
        · have ne : stAt S x' r ≠ stAt S x r := fun e => by
            have := stI x' r x r ⟨a', by omega⟩ (by omega) (by omega) (by omega) e
            omega
          have e := j2 x' a' (by omega)
          show _ ∧ _ ∧ _
          simp (disch := omega) only [up_ne, up_eq, up_ne2]
          exact e
      · generalize stAt S x r = T at est sr
        have u1 : up M3 (c + 6) T (M (c + 5) ((r : Int) * S 0 + x)) (c + 1) = S := by rw [up_ne (by omega)]; exact d1
        simp (disch := first | assumption | decide | omega | (simp only [List.length_cons, List.length_nil] <;> omega)) only [lgt_0, lgt_s, lset_0, lset_s, lst1_0, lst1_s, lst2_0, lst2_s, ev_iconst, ev_lconst, ev_ldc, ev_null, ev_iload, ev_lload, ev_aload, ev_istore, ev_lstore, ev_astore, ev_iinc, ev_iadd, ev_isub, ev_imul, ev_iand, ev_ior, ev_ishl, ev_ishr, ev_idiv, ev_irem, ev_ineg, ev_ladd, ev_lsub, ev_lmul, ev_land, ev_lor, ev_ldiv, ev_lrem, ev_lshl, ev_i2l, ev_l2i, ev_i2b, ev_i2s, ev_lcmp, ev_dupI, ev_dupR, ev_dup2, ev_popI, ev_popR, ev_alen, ev_xlen, ev_xald, ev_iald, ev_lald, ev_bald, ev_zald, ev_aald, ev_iast, ev_last, ev_bast, ev_zast, ev_aast, ev_gfI, ev_gfL, ev_gfR, ev_pfI, ev_pfZ, ev_pfL, ev_pfR, ev_new, ev_newa, ev_newq, ev_copy, ev_slen, ev_schr, ev_obj, ev_mmin, ev_mabs, ev_mmax, ev_goto, ev_jsr, ev_icmp_eq, ev_if_eq, ev_icmp_ne, ev_if_ne, ev_icmp_lt, ev_if_lt, ev_icmp_ge, ev_if_ge, ev_icmp_gt, ev_if_gt, ev_icmp_le, ev_if_le, ev_ifnull0, ev_ifnull1, ev_ifnn0, ev_ifnn1, ev_tsw, ev_lsw, ev_iret, ev_zret, ev_lret, ev_aret, ev_ret, ev_call0, ev_call1, ev_call2, ev_call3, ev_call4, ev_call5, ev_call6, Option.toList_some, Option.toList_none, List.cons_append, List.nil_append, List.length_cons, List.length_nil, Nat.reduceMod, Nat.reduceDiv, Nat.reduceLeDiff, nc, ↓reduceIte, Nat.zero_le, reduceCtorEq, w32_id, Int.reduceEq, Int.reduceNe, Int.reduceLT, Int.reduceLE, Int.reduceGT, Int.reduceGE, Int.reduceAdd, Int.reduceSub, Int.reduceMul, Int.reduceNeg, ne_eq, not_true_eq_false, not_false_eq_true, eq_self, ↓if_pos, ↓if_neg, J_61_0, k_61_0, J_61_85, k_61_85, J_61_91, k_61_91, k_61_33, cr0, cr1, cr2, cr3, cr4, cr5, cr6, cr7, est, d5, q1, nc_s]) [some (vR (some c)), some (vI (S 0)), some (vI (r : Int)), some (vI 0), w4] M' ⟨w4, rfl, fr, f8, i1, fun x' a b => by omega⟩
    subst hls2
    have e : (((S 0).toNat : Nat) : Int) = S 0 := by omega
    rw [e] at he2 j2
    refine ⟨_, M3, ⟨some (vI (S 0)), v4, rfl, fr2, f82, fun r' x' a b a' b' => ?_⟩, ?_⟩
    · by_cases z : r' = r
      · subst z; exact j2 x' a' b'
      · exact j1 r' x' a (by omega) a' b'
    · have q2 : S 0 ≤ S 0 := Int.le_refl _
      simp (disch := first | assumption | decide | omega | (simp only [List.length_cons, List.length_nil] <;> omega)) only [lgt_0, lgt_s, lset_0, lset_s, lst1_0, lst1_s, lst2_0, lst2_s, ev_iconst, ev_lconst, ev_ldc, ev_null, ev_iload, ev_lload, ev_aload, ev_istore, ev_lstore, ev_astore, ev_iinc, ev_iadd, ev_isub, ev_imul, ev_iand, ev_ior, ev_ishl, ev_ishr, ev_idiv, ev_irem, ev_ineg, ev_ladd, ev_lsub, ev_lmul, ev_land, ev_lor, ev_ldiv, ev_lrem, ev_lshl, ev_i2l, ev_l2i, ev_i2b, ev_i2s, ev_lcmp, ev_dupI, ev_dupR, ev_dup2, ev_popI, ev_popR, ev_alen, ev_xlen, ev_xald, ev_iald, ev_lald, ev_bald, ev_zald, ev_aald, ev_iast, ev_last, ev_bast, ev_zast, ev_aast, ev_gfI, ev_gfL, ev_gfR, ev_pfI, ev_pfZ, ev_pfL, ev_pfR, ev_new, ev_newa, ev_newq, ev_copy, ev_slen, ev_schr, ev_obj, ev_mmin, ev_mabs, ev_mmax, ev_goto, ev_jsr, ev_icmp_eq, ev_if_eq, ev_icmp_ne, ev_if_ne, ev_icmp_lt, ev_if_lt, ev_icmp_ge, ev_if_ge, ev_icmp_gt, ev_if_gt, ev_icmp_le, ev_if_le, ev_ifnull0, ev_ifnull1, ev_ifnn0, ev_ifnn1, ev_tsw, ev_lsw, ev_iret, ev_zret, ev_lret, ev_aret, ev_ret, ev_call0, ev_call1, ev_call2, ev_call3, ev_call4, ev_call5, ev_call6, Option.toList_some, Option.toList_none, List.cons_append, List.nil_append, List.length_cons, List.length_nil, Nat.reduceMod, Nat.reduceDiv, Nat.reduceLeDiff, nc, ↓reduceIte, Nat.zero_le, reduceCtorEq, w32_id, Int.reduceEq, Int.reduceNe, Int.reduceLT, Int.reduceLE, Int.reduceGT, Int.reduceGE, Int.reduceAdd, Int.reduceSub, Int.reduceMul, Int.reduceNeg, ne_eq, not_true_eq_false, not_false_eq_true, eq_self, ↓if_pos, ↓if_neg, J_61_0, k_61_0, J_61_85, k_61_85, J_61_91, k_61_91, k_61_21, cr0, cr1, cr2, cr3, cr4, cr5, cr6, cr7, b1, q0]
      rw [he2]
      simp (disch := first | assumption | decide | omega | (simp only [List.length_cons, List.length_nil] <;> omega)) only [lgt_0, lgt_s, lset_0, lset_s, lst1_0, lst1_s, lst2_0, lst2_s, ev_iconst, ev_lconst, ev_ldc, ev_null, ev_iload, ev_lload, ev_aload, ev_istore, ev_lstore, ev_astore, ev_iinc, ev_iadd, ev_isub, ev_imul, ev_iand, ev_ior, ev_ishl, ev_ishr, ev_idiv, ev_irem, ev_ineg, ev_ladd, ev_lsub, ev_lmul, ev_land, ev_lor, ev_ldiv, ev_lrem, ev_lshl, ev_i2l, ev_l2i, ev_i2b, ev_i2s, ev_lcmp, ev_dupI, ev_dupR, ev_dup2, ev_popI, ev_popR, ev_alen, ev_xlen, ev_xald, ev_iald, ev_lald, ev_bald, ev_zald, ev_aald, ev_iast, ev_last, ev_bast, ev_zast, ev_aast, ev_gfI, ev_gfL, ev_gfR, ev_pfI, ev_pfZ, ev_pfL, ev_pfR, ev_new, ev_newa, ev_newq, ev_copy, ev_slen, ev_schr, ev_obj, ev_mmin, ev_mabs, ev_mmax, ev_goto, ev_jsr, ev_icmp_eq, ev_if_eq, ev_icmp_ne, ev_if_ne, ev_icmp_lt, ev_if_lt, ev_icmp_ge, ev_if_ge, ev_icmp_gt, ev_if_gt, ev_icmp_le, ev_if_le, ev_ifnull0, ev_ifnull1, ev_ifnn0, ev_ifnn1, ev_tsw, ev_lsw, ev_iret, ev_zret, ev_lret, ev_aret, ev_ret, ev_call0, ev_call1, ev_call2, ev_call3, ev_call4, ev_call5, ev_call6, Option.toList_some, Option.toList_none, List.cons_append, List.nil_append, List.length_cons, List.length_nil, Nat.reduceMod, Nat.reduceDiv, Nat.reduceLeDiff, nc, ↓reduceIte, Nat.zero_le, reduceCtorEq, w32_id, Int.reduceEq, Int.reduceNe, Int.reduceLT, Int.reduceLE, Int.reduceGT, Int.reduceGE, Int.reduceAdd, Int.reduceSub, Int.reduceMul, Int.reduceNeg, ne_eq, not_true_eq_false, not_false_eq_true, eq_self, ↓if_pos, ↓if_neg, J_61_0, k_61_0, J_61_85, k_61_85, J_61_91, k_61_91, k_61_33, q2, nc_s]) [some (vR (some c)), some (vI (S 0)), some (vI 0), none, none] (up M c 8 (xn S)) ⟨none, none, rfl, fun b b0 _ _ _ => by rw [up_ne b0], up_eq, fun r' x' a b => by omega⟩
  subst hls
  have e1 : (((S 1).toNat : Nat) : Int) = S 1 := by omega
  rw [e1] at he i1
  obtain ⟨b1, b5⟩ := frk M2 fr
  refine ⟨M2, fun b hb => fr b (by omega) (by omega) (by omega) (by omega), fun b x y => fr b (by omega) (by omega) (by omega) (by omega), f8, fun i h0 h1 => ?_, ?_⟩
  · have hw := xn_pos gs (by omega)
    have p := plF_rng h0 h1 hw
    have dv := Int.mul_ediv_add_emod (plF S i) (S 0)
    rw [p.2.2.1] at dv
    have i0 : 0 ≤ i / S 0 := Int.ediv_nonneg h0 (by omega)
    have i1' : i / S 0 < S 1 := Int.ediv_lt_of_lt_mul hw (by rw [Int.mul_comm]; exact h1)
    have es := plF_inj g14 hw p.2.2.2 dv.symm p.2.2.1
    have w := i1 (i / S 0) (plF S i % S 0) i0 i1' p.2.2.2.1 p.2.2.2.2
    have w' : M2 (c + 6) (stAt S (plF S i % S 0) (i / S 0)) = M (c + 5) (i / S 0 * S 0 + plF S i % S 0) ∧ M2 (c + 7) (stAt S (plF S i % S 0) (i / S 0)) = plF S i % S 0 ∧ M2 (c + 8) (stAt S (plF S i % S 0) (i / S 0)) = i / S 0 := w
    rw [← es, Int.mul_comm (i / S 0), dv] at w'
    exact w'
  · rw [E_61 ck0]
    have sb : S 1 ≤ 6 := g1.2
    simp (disch := first | assumption | decide | omega | (simp only [List.length_cons, List.length_nil] <;> omega)) only [lgt_0, lgt_s, lset_0, lset_s, lst1_0, lst1_s, lst2_0, lst2_s, ev_iconst, ev_lconst, ev_ldc, ev_null, ev_iload, ev_lload, ev_aload, ev_istore, ev_lstore, ev_astore, ev_iinc, ev_iadd, ev_isub, ev_imul, ev_iand, ev_ior, ev_ishl, ev_ishr, ev_idiv, ev_irem, ev_ineg, ev_ladd, ev_lsub, ev_lmul, ev_land, ev_lor, ev_ldiv, ev_lrem, ev_lshl, ev_i2l, ev_l2i, ev_i2b, ev_i2s, ev_lcmp, ev_dupI, ev_dupR, ev_dup2, ev_popI, ev_popR, ev_alen, ev_xlen, ev_xald, ev_iald, ev_lald, ev_bald, ev_zald, ev_aald, ev_iast, ev_last, ev_bast, ev_zast, ev_aast, ev_gfI, ev_gfL, ev_gfR, ev_pfI, ev_pfZ, ev_pfL, ev_pfR, ev_new, ev_newa, ev_newq, ev_copy, ev_slen, ev_schr, ev_obj, ev_mmin, ev_mabs, ev_mmax, ev_goto, ev_jsr, ev_icmp_eq, ev_if_eq, ev_icmp_ne, ev_if_ne, ev_icmp_lt, ev_if_lt, ev_icmp_ge, ev_if_ge, ev_icmp_gt, ev_if_gt, ev_icmp_le, ev_if_le, ev_ifnull0, ev_ifnull1, ev_ifnn0, ev_ifnn1, ev_tsw, ev_lsw, ev_iret, ev_zret, ev_lret, ev_aret, ev_ret, ev_call0, ev_call1, ev_call2, ev_call3, ev_call4, ev_call5, ev_call6, Option.toList_some, Option.toList_none, List.cons_append, List.nil_append, List.length_cons, List.length_nil, Nat.reduceMod, Nat.reduceDiv, Nat.reduceLeDiff, nc, ↓reduceIte, Nat.zero_le, reduceCtorEq, w32_id, Int.reduceEq, Int.reduceNe, Int.reduceLT, Int.reduceLE, Int.reduceGT, Int.reduceGE, Int.reduceAdd, Int.reduceSub, Int.reduceMul, Int.reduceNeg, ne_eq, not_true_eq_false, not_false_eq_true, eq_self, ↓if_pos, ↓if_neg, J_61_0, k_61_0, J_61_85, k_61_85, J_61_91, k_61_91, cr0, cr1, cr2, cr3, cr4, cr5, cr6, cr7, hS]
    rw [show S 0 * S 1 = xn S from rfl, he]
    have q2 : S 1 ≤ S 1 := Int.le_refl _
    simp (disch := first | assumption | decide | omega | (simp only [List.length_cons, List.length_nil] <;> omega)) only [lgt_0, lgt_s, lset_0, lset_s, lst1_0, lst1_s, lst2_0, lst2_s, ev_iconst, ev_lconst, ev_ldc, ev_null, ev_iload, ev_lload, ev_aload, ev_istore, ev_lstore, ev_astore, ev_iinc, ev_iadd, ev_isub, ev_imul, ev_iand, ev_ior, ev_ishl, ev_ishr, ev_idiv, ev_irem, ev_ineg, ev_ladd, ev_lsub, ev_lmul, ev_land, ev_lor, ev_ldiv, ev_lrem, ev_lshl, ev_i2l, ev_l2i, ev_i2b, ev_i2s, ev_lcmp, ev_dupI, ev_dupR, ev_dup2, ev_popI, ev_popR, ev_alen, ev_xlen, ev_xald, ev_iald, ev_lald, ev_bald, ev_zald, ev_aald, ev_iast, ev_last, ev_bast, ev_zast, ev_aast, ev_gfI, ev_gfL, ev_gfR, ev_pfI, ev_pfZ, ev_pfL, ev_pfR, ev_new, ev_newa, ev_newq, ev_copy, ev_slen, ev_schr, ev_obj, ev_mmin, ev_mabs, ev_mmax, ev_goto, ev_jsr, ev_icmp_eq, ev_if_eq, ev_icmp_ne, ev_if_ne, ev_icmp_lt, ev_if_lt, ev_icmp_ge, ev_if_ge, ev_icmp_gt, ev_if_gt, ev_icmp_le, ev_if_le, ev_ifnull0, ev_ifnull1, ev_ifnn0, ev_ifnn1, ev_tsw, ev_lsw, ev_iret, ev_zret, ev_lret, ev_aret, ev_ret, ev_call0, ev_call1, ev_call2, ev_call3, ev_call4, ev_call5, ev_call6, Option.toList_some, Option.toList_none, List.cons_append, List.nil_append, List.length_cons, List.length_nil, Nat.reduceMod, Nat.reduceDiv, Nat.reduceLeDiff, nc, ↓reduceIte, Nat.zero_le, reduceCtorEq, w32_id, Int.reduceEq, Int.reduceNe, Int.reduceLT, Int.reduceLE, Int.reduceGT, Int.reduceGE, Int.reduceAdd, Int.reduceSub, Int.reduceMul, Int.reduceNeg, ne_eq, not_true_eq_false, not_false_eq_true, eq_self, ↓if_pos, ↓if_neg, J_61_0, k_61_0, J_61_85, k_61_85, J_61_91, k_61_91, k_61_21, cr0, cr1, cr2, cr3, cr4, cr5, cr6, cr7, b1, q2]
/-- the view of a chart that has been arranged -/
theorem arr_ve {M' : Mem} {A : Int → Int} (hS : ∀ k, 0 ≤ k → k < 15 → M' (c + 1) k = A k) (gs : goodS A) (hC : ∀ p, 0 ≤ p → p < xn A → M' (c + 5) p = A (28 + p)) (hW : ∀ k, 0 ≤ k → k < A 2 → M' (c + 3) k = A (16 + 2 * k)) (h8 : M' c 8 = xn (M' (c + 1))) (hi : ∀ i, 0 ≤ i → i < xn (M' (c + 1)) → M' (c + 6) i = M' (c + 5) (plF (M' (c + 1)) i) ∧ M' (c + 7) i = plF (M' (c + 1)) i % M' (c + 1) 0 ∧ M' (c + 8) i = i / M' (c + 1) 0) :
    VE (M' (c + 1)) (M' (c + 6)) (M' (c + 7)) (M' (c + 8)) (M' (c + 3)) (M' c 8) A (xH A) (xP A) (xR A) (xW A) (xn A) := by
  have e0 := hS 0 (by omega) (by omega)
  have e1 := hS 1 (by omega) (by omega)
  have e2 := hS 2 (by omega) (by omega)
  have e14 := hS 14 (by omega) (by omega)
  have en : xn (M' (c + 1)) = xn A := by unfold xn; rw [e0, e1]
  have ep : ∀ i, plF (M' (c + 1)) i = plF A i := fun i => by unfold plF; rw [e0, e14]
  refine ⟨by rw [h8, en], hS, fun i a b => ?_, fun k a b => hW k a (by rw [← e2]; exact b)⟩
  rw [h8] at b
  have e := hi i a b
  rw [en] at b
  rw [ep, e0] at e
  have hw := xn_pos gs (by omega)
  have p := plF_rng a b hw
  rw [e.1, e.2.1, e.2.2]
  exact ⟨hC _ p.1 p.2.1, rfl, rfl⟩
theorem m_numbers (gs : goodS (M (140 + 1))) : ∃ M', (∀ b, b ≠ 140 + 9 → b ≠ 140 + 10 → M' b = M b) ∧ (∀ i, 0 ≤ i → i < xn (M (140 + 1)) → M' (140 + 9) i = plF (M (140 + 1)) i ∧ M' (140 + 10) i = M (140 + 1) (28 + plF (M (140 + 1)) i)) ∧ (∀ i, (i < 0 ∨ xn (M (140 + 1)) ≤ i) → M' (140 + 9) i = M (140 + 9) i ∧ M' (140 + 10) i = M (140 + 10) i) ∧ evc X 224 [vR (some 140)] SH0 M = some (none, SH0, M') := by
  have mk0 := w0_k140
  obtain ⟨r_at, k_at, l_at⟩ := md_at w0_md140; obtain ⟨r_placeOf, k_placeOf, l_placeOf⟩ := md_placeOf w0_md140; obtain ⟨r_colourOf, k_colourOf, l_colourOf⟩ := md_colourOf w0_md140
  have g0 := gs.1
  have g1 := gs.2.1
  have g14 := gs.2.2.2.2.2.2.2.2.2.2.2.2.2.2
  generalize hS : M (140 + 1) = S at gs g0 g1 g14
  have mb : 0 ≤ S 0 * S 1 ∧ S 0 * S 1 ≤ 8 * 6 := ⟨Int.mul_nonneg g0.1 g1.1, Int.mul_le_mul g0.2 g1.2 g1.1 (by omega)⟩
  have en : xn S = S 0 * S 1 := rfl
  have fin : ∀ M' : Mem, (∀ b, b ≠ 140 + 9 → b ≠ 140 + 10 → M' b = M b) → M' (140 + 1) = S ∧ evc X 225 [vR (some 140)] SH0 M' = some (some (vI (xn S)), SH0, M') := fun M' f => by
    have e : M' (140 + 1) = S := by rw [f _ (by omega) (by omega)]; exact hS
    refine ⟨e, ?_⟩
    rw [m_many w0_md140 (by rw [e]; exact gs), e]
  obtain ⟨ls', M2, ⟨w2, w3, w4, hls, fr, i1, i2⟩, he⟩ := ev_for (X := X) (y := 224) (Sh := SH0) (fun i ls M' => ∃ w2 w3 w4, ls = [some (vR (some 140)), some (vI (i : Int)), w2, w3, w4] ∧ (∀ b, b ≠ 140 + 9 → b ≠ 140 + 10 → M' b = M b) ∧ (∀ j : Int, 0 ≤ j → j < i → M' (140 + 9) j = plF S j ∧ M' (140 + 10) j = S (28 + plF S j)) ∧ (∀ j : Int, (j < 0 ∨ (i : Int) ≤ j) → M' (140 + 9) j = M (140 + 9) j ∧ M' (140 + 10) j = M (140 + 10) j)) J_224_2 (xn S).toNat (fun i hi ls M' hI => by
    obtain ⟨w2, w3, w4, hls, fr, i1, i2⟩ := hI
    subst hls
    obtain ⟨b1, em⟩ := fin M' fr
    have hw := xn_pos gs (by omega)
    have p := plF_rng (A := S) (i := i) (by omega) (by omega) hw
    have e1 := i_div_id (a := i) (b := S 0) (by omega) (by omega) (by omega) (by omega)
    have e2 := i_rem_id (a := i) (b := S 0) (by omega) (by omega) (by omega) (by omega)
    have d0 : 0 ≤ (i : Int) / S 0 := Int.ediv_nonneg (by omega) (by omega)
    have d1 : (i : Int) / S 0 < S 1 := Int.ediv_lt_of_lt_mul hw (by rw [Int.mul_comm]; omega)
    have d2 := Int.emod_nonneg (i : Int) (show S 0 ≠ 0 by omega)
    have d3 := Int.emod_lt_of_pos (i : Int) hw
    have e3 := i_rem_id (a := (i : Int) / S 0) (b := 2) (by omega) (by omega) (by omega) (by omega)
    have mb2 : 0 ≤ S 0 * ((i : Int) / S 0) ∧ S 0 * ((i : Int) / S 0) ≤ 8 * 6 := ⟨Int.mul_nonneg (by omega) d0, Int.mul_le_mul g0.2 (by omega) d0 (by omega)⟩
    have pf : plF S i = S 0 * ((i : Int) / S 0) + (if S 14 = 0 ∧ ((i : Int) / S 0) % 2 = 1 then S 0 - 1 - (i : Int) % S 0 else (i : Int) % S 0) := rfl
    have s0 : ¬ S 0 = 0 := by omega
    have qn : ¬ xn S ≤ (i : Int) := by omega
    refine ⟨_, up (up M' (140 + 9) i (plF S i)) (140 + 10) i (S (28 + plF S i)), ⟨some (vI ((i : Int) / S 0)), some (vI ((i : Int) % S 0)), some (vI (if S 14 = 0 ∧ ((i : Int) / S 0) % 2 = 1 then 1 else 0)), rfl, fun b h9 h10 => by simp (disch := omega) only [up_ne, up_eq, up_ne2]; exact fr b h9 h10, fun j j0 j1 => ?_, fun j hj => ?_⟩, ?_⟩
    · by_cases z : j = i
      · subst z
        constructor
        · simp (disch := omega) only [up_ne, up_eq, up_ne2]
        · simp (disch := omega) only [up_ne, up_eq, up_ne2]
      · simp (disch := omega) only [up_ne, up_eq, up_ne2]
        exact i1 j j0 (by omega)
    · simp (disch := omega) only [up_ne, up_eq, up_ne2]
      exact i2 j (by omega)
    · have u1 : ∀ z, up M' (140 + 9) i z (140 + 1) = S := fun z => by rw [up_ne (by omega)]; exact b1
      have u9 : ∀ z, up M' (140 + 9) i z (140 + 9) i = z := fun z => up_eq
      generalize plF S i = P at pf p
      generalize (i : Int) / S 0 = dv at *
      generalize (i : Int) % S 0 = md at *
      generalize xn S = nn at *
      by_cases q1 : S 14 = 0
      · by_cases q2 : dv % 2 = 1
        · rw [if_pos ⟨q1, q2⟩] at pf ⊢
          subst pf
          simp (disch := first | assumption | decide | omega | (simp only [List.length_cons, List.length_nil] <;> omega)) only [lgt_0, lgt_s, lset_0, lset_s, lst1_0, lst1_s, lst2_0, lst2_s, ev_iconst, ev_lconst, ev_ldc, ev_null, ev_iload, ev_lload, ev_aload, ev_istore, ev_lstore, ev_astore, ev_iinc, ev_iadd, ev_isub, ev_imul, ev_iand, ev_ior, ev_ishl, ev_ishr, ev_idiv, ev_irem, ev_ineg, ev_ladd, ev_lsub, ev_lmul, ev_land, ev_lor, ev_ldiv, ev_lrem, ev_lshl, ev_i2l, ev_l2i, ev_i2b, ev_i2s, ev_lcmp, ev_dupI, ev_dupR, ev_dup2, ev_popI, ev_popR, ev_alen, ev_xlen, ev_xald, ev_iald, ev_lald, ev_bald, ev_zald, ev_aald, ev_iast, ev_last, ev_bast, ev_zast, ev_aast, ev_gfI, ev_gfL, ev_gfR, ev_pfI, ev_pfZ, ev_pfL, ev_pfR, ev_new, ev_newa, ev_newq, ev_copy, ev_slen, ev_schr, ev_obj, ev_mmin, ev_mabs, ev_mmax, ev_goto, ev_jsr, ev_icmp_eq, ev_if_eq, ev_icmp_ne, ev_if_ne, ev_icmp_lt, ev_if_lt, ev_icmp_ge, ev_if_ge, ev_icmp_gt, ev_if_gt, ev_icmp_le, ev_if_le, ev_ifnull0, ev_ifnull1, ev_ifnn0, ev_ifnn1, ev_tsw, ev_lsw, ev_iret, ev_zret, ev_lret, ev_aret, ev_ret, ev_call0, ev_call1, ev_call2, ev_call3, ev_call4, ev_call5, ev_call6, Option.toList_some, Option.toList_none, List.cons_append, List.nil_append, List.length_cons, List.length_nil, Nat.reduceMod, Nat.reduceDiv, Nat.reduceLeDiff, nc, ↓reduceIte, Nat.zero_le, reduceCtorEq, w32_id, Int.reduceEq, Int.reduceNe, Int.reduceLT, Int.reduceLE, Int.reduceGT, Int.reduceGE, Int.reduceAdd, Int.reduceSub, Int.reduceMul, Int.reduceNeg, ne_eq, not_true_eq_false, not_false_eq_true, eq_self, ↓if_pos, ↓if_neg, J_224_0, k_224_0, J_224_49, k_224_49, J_224_50, k_224_50, J_224_83, k_224_83, J_224_84, k_224_84, J_224_112, k_224_112, k_224_2, em, r_at, r_placeOf, r_colourOf, b1, e1, e2, e3, q1, q2, u1, u9, nc_s]
        · rw [if_neg (fun z => q2 z.2)] at pf ⊢
          subst pf
          simp (disch := first | assumption | decide | omega | (simp only [List.length_cons, List.length_nil] <;> omega)) only [lgt_0, lgt_s, lset_0, lset_s, lst1_0, lst1_s, lst2_0, lst2_s, ev_iconst, ev_lconst, ev_ldc, ev_null, ev_iload, ev_lload, ev_aload, ev_istore, ev_lstore, ev_astore, ev_iinc, ev_iadd, ev_isub, ev_imul, ev_iand, ev_ior, ev_ishl, ev_ishr, ev_idiv, ev_irem, ev_ineg, ev_ladd, ev_lsub, ev_lmul, ev_land, ev_lor, ev_ldiv, ev_lrem, ev_lshl, ev_i2l, ev_l2i, ev_i2b, ev_i2s, ev_lcmp, ev_dupI, ev_dupR, ev_dup2, ev_popI, ev_popR, ev_alen, ev_xlen, ev_xald, ev_iald, ev_lald, ev_bald, ev_zald, ev_aald, ev_iast, ev_last, ev_bast, ev_zast, ev_aast, ev_gfI, ev_gfL, ev_gfR, ev_pfI, ev_pfZ, ev_pfL, ev_pfR, ev_new, ev_newa, ev_newq, ev_copy, ev_slen, ev_schr, ev_obj, ev_mmin, ev_mabs, ev_mmax, ev_goto, ev_jsr, ev_icmp_eq, ev_if_eq, ev_icmp_ne, ev_if_ne, ev_icmp_lt, ev_if_lt, ev_icmp_ge, ev_if_ge, ev_icmp_gt, ev_if_gt, ev_icmp_le, ev_if_le, ev_ifnull0, ev_ifnull1, ev_ifnn0, ev_ifnn1, ev_tsw, ev_lsw, ev_iret, ev_zret, ev_lret, ev_aret, ev_ret, ev_call0, ev_call1, ev_call2, ev_call3, ev_call4, ev_call5, ev_call6, Option.toList_some, Option.toList_none, List.cons_append, List.nil_append, List.length_cons, List.length_nil, Nat.reduceMod, Nat.reduceDiv, Nat.reduceLeDiff, nc, ↓reduceIte, Nat.zero_le, reduceCtorEq, w32_id, Int.reduceEq, Int.reduceNe, Int.reduceLT, Int.reduceLE, Int.reduceGT, Int.reduceGE, Int.reduceAdd, Int.reduceSub, Int.reduceMul, Int.reduceNeg, ne_eq, not_true_eq_false, not_false_eq_true, eq_self, ↓if_pos, ↓if_neg, J_224_0, k_224_0, J_224_49, k_224_49, J_224_50, k_224_50, J_224_83, k_224_83, J_224_84, k_224_84, J_224_112, k_224_112, k_224_2, em, r_at, r_placeOf, r_colourOf, b1, e1, e2, e3, q1, q2, u1, u9, nc_s]
      · rw [if_neg (fun z => q1 z.1)] at pf ⊢
        subst pf
        simp (disch := first | assumption | decide | omega | (simp only [List.length_cons, List.length_nil] <;> omega)) only [lgt_0, lgt_s, lset_0, lset_s, lst1_0, lst1_s, lst2_0, lst2_s, ev_iconst, ev_lconst, ev_ldc, ev_null, ev_iload, ev_lload, ev_aload, ev_istore, ev_lstore, ev_astore, ev_iinc, ev_iadd, ev_isub, ev_imul, ev_iand, ev_ior, ev_ishl, ev_ishr, ev_idiv, ev_irem, ev_ineg, ev_ladd, ev_lsub, ev_lmul, ev_land, ev_lor, ev_ldiv, ev_lrem, ev_lshl, ev_i2l, ev_l2i, ev_i2b, ev_i2s, ev_lcmp, ev_dupI, ev_dupR, ev_dup2, ev_popI, ev_popR, ev_alen, ev_xlen, ev_xald, ev_iald, ev_lald, ev_bald, ev_zald, ev_aald, ev_iast, ev_last, ev_bast, ev_zast, ev_aast, ev_gfI, ev_gfL, ev_gfR, ev_pfI, ev_pfZ, ev_pfL, ev_pfR, ev_new, ev_newa, ev_newq, ev_copy, ev_slen, ev_schr, ev_obj, ev_mmin, ev_mabs, ev_mmax, ev_goto, ev_jsr, ev_icmp_eq, ev_if_eq, ev_icmp_ne, ev_if_ne, ev_icmp_lt, ev_if_lt, ev_icmp_ge, ev_if_ge, ev_icmp_gt, ev_if_gt, ev_icmp_le, ev_if_le, ev_ifnull0, ev_ifnull1, ev_ifnn0, ev_ifnn1, ev_tsw, ev_lsw, ev_iret, ev_zret, ev_lret, ev_aret, ev_ret, ev_call0, ev_call1, ev_call2, ev_call3, ev_call4, ev_call5, ev_call6, Option.toList_some, Option.toList_none, List.cons_append, List.nil_append, List.length_cons, List.length_nil, Nat.reduceMod, Nat.reduceDiv, Nat.reduceLeDiff, nc, ↓reduceIte, Nat.zero_le, reduceCtorEq, w32_id, Int.reduceEq, Int.reduceNe, Int.reduceLT, Int.reduceLE, Int.reduceGT, Int.reduceGE, Int.reduceAdd, Int.reduceSub, Int.reduceMul, Int.reduceNeg, ne_eq, not_true_eq_false, not_false_eq_true, eq_self, ↓if_pos, ↓if_neg, J_224_0, k_224_0, J_224_49, k_224_49, J_224_50, k_224_50, J_224_83, k_224_83, J_224_84, k_224_84, J_224_112, k_224_112, k_224_2, em, r_at, r_placeOf, r_colourOf, b1, e1, e2, q1, u1, u9, nc_s]) [some (vR (some 140)), some (vI 0), none, none, none] M ⟨none, none, none, rfl, fun _ _ _ => rfl, fun j a b => by omega, fun j _ => ⟨rfl, rfl⟩⟩
  subst hls
  have e : (((xn S).toNat : Nat) : Int) = xn S := by omega
  rw [e] at i1 i2 he
  obtain ⟨b1, em⟩ := fin M2 fr
  refine ⟨M2, fr, i1, i2, ?_⟩
  rw [E_224 mk0]
  simp (disch := first | assumption | decide | omega | (simp only [List.length_cons, List.length_nil] <;> omega)) only [lgt_0, lgt_s, lset_0, lset_s, lst1_0, lst1_s, lst2_0, lst2_s, ev_iconst, ev_lconst, ev_ldc, ev_null, ev_iload, ev_lload, ev_aload, ev_istore, ev_lstore, ev_astore, ev_iinc, ev_iadd, ev_isub, ev_imul, ev_iand, ev_ior, ev_ishl, ev_ishr, ev_idiv, ev_irem, ev_ineg, ev_ladd, ev_lsub, ev_lmul, ev_land, ev_lor, ev_ldiv, ev_lrem, ev_lshl, ev_i2l, ev_l2i, ev_i2b, ev_i2s, ev_lcmp, ev_dupI, ev_dupR, ev_dup2, ev_popI, ev_popR, ev_alen, ev_xlen, ev_xald, ev_iald, ev_lald, ev_bald, ev_zald, ev_aald, ev_iast, ev_last, ev_bast, ev_zast, ev_aast, ev_gfI, ev_gfL, ev_gfR, ev_pfI, ev_pfZ, ev_pfL, ev_pfR, ev_new, ev_newa, ev_newq, ev_copy, ev_slen, ev_schr, ev_obj, ev_mmin, ev_mabs, ev_mmax, ev_goto, ev_jsr, ev_icmp_eq, ev_if_eq, ev_icmp_ne, ev_if_ne, ev_icmp_lt, ev_if_lt, ev_icmp_ge, ev_if_ge, ev_icmp_gt, ev_if_gt, ev_icmp_le, ev_if_le, ev_ifnull0, ev_ifnull1, ev_ifnn0, ev_ifnn1, ev_tsw, ev_lsw, ev_iret, ev_zret, ev_lret, ev_aret, ev_ret, ev_call0, ev_call1, ev_call2, ev_call3, ev_call4, ev_call5, ev_call6, Option.toList_some, Option.toList_none, List.cons_append, List.nil_append, List.length_cons, List.length_nil, Nat.reduceMod, Nat.reduceDiv, Nat.reduceLeDiff, nc, ↓reduceIte, Nat.zero_le, reduceCtorEq, w32_id, Int.reduceEq, Int.reduceNe, Int.reduceLT, Int.reduceLE, Int.reduceGT, Int.reduceGE, Int.reduceAdd, Int.reduceSub, Int.reduceMul, Int.reduceNeg, ne_eq, not_true_eq_false, not_false_eq_true, eq_self, ↓if_pos, ↓if_neg, J_224_0, k_224_0, J_224_49, k_224_49, J_224_50, k_224_50, J_224_83, k_224_83, J_224_84, k_224_84, J_224_112, k_224_112, ]
  rw [he]
  have q2 : xn S ≤ xn S := Int.le_refl _
  simp (disch := first | assumption | decide | omega | (simp only [List.length_cons, List.length_nil] <;> omega)) only [lgt_0, lgt_s, lset_0, lset_s, lst1_0, lst1_s, lst2_0, lst2_s, ev_iconst, ev_lconst, ev_ldc, ev_null, ev_iload, ev_lload, ev_aload, ev_istore, ev_lstore, ev_astore, ev_iinc, ev_iadd, ev_isub, ev_imul, ev_iand, ev_ior, ev_ishl, ev_ishr, ev_idiv, ev_irem, ev_ineg, ev_ladd, ev_lsub, ev_lmul, ev_land, ev_lor, ev_ldiv, ev_lrem, ev_lshl, ev_i2l, ev_l2i, ev_i2b, ev_i2s, ev_lcmp, ev_dupI, ev_dupR, ev_dup2, ev_popI, ev_popR, ev_alen, ev_xlen, ev_xald, ev_iald, ev_lald, ev_bald, ev_zald, ev_aald, ev_iast, ev_last, ev_bast, ev_zast, ev_aast, ev_gfI, ev_gfL, ev_gfR, ev_pfI, ev_pfZ, ev_pfL, ev_pfR, ev_new, ev_newa, ev_newq, ev_copy, ev_slen, ev_schr, ev_obj, ev_mmin, ev_mabs, ev_mmax, ev_goto, ev_jsr, ev_icmp_eq, ev_if_eq, ev_icmp_ne, ev_if_ne, ev_icmp_lt, ev_if_lt, ev_icmp_ge, ev_if_ge, ev_icmp_gt, ev_if_gt, ev_icmp_le, ev_if_le, ev_ifnull0, ev_ifnull1, ev_ifnn0, ev_ifnn1, ev_tsw, ev_lsw, ev_iret, ev_zret, ev_lret, ev_aret, ev_ret, ev_call0, ev_call1, ev_call2, ev_call3, ev_call4, ev_call5, ev_call6, Option.toList_some, Option.toList_none, List.cons_append, List.nil_append, List.length_cons, List.length_nil, Nat.reduceMod, Nat.reduceDiv, Nat.reduceLeDiff, nc, ↓reduceIte, Nat.zero_le, reduceCtorEq, w32_id, Int.reduceEq, Int.reduceNe, Int.reduceLT, Int.reduceLE, Int.reduceGT, Int.reduceGE, Int.reduceAdd, Int.reduceSub, Int.reduceMul, Int.reduceNeg, ne_eq, not_true_eq_false, not_false_eq_true, eq_self, ↓if_pos, ↓if_neg, J_224_0, k_224_0, J_224_49, k_224_49, J_224_50, k_224_50, J_224_83, k_224_83, J_224_84, k_224_84, J_224_112, k_224_112, k_224_2, em, q2]
end ARR
