/-! SEWN: the sets of colours, the class's side. -/
def sbF (s c : Int) : Int := i_and (i_shr s c) 1
theorem sbN : ∀ s : Nat, s < 32 → ∀ c : Nat, c < 5 → i_and (i_shr (s : Int) (c : Int)) 1 = 0 ∨ i_and (i_shr (s : Int) (c : Int)) 1 = 1 := by decide +kernel
theorem sb_01 {s c : Int} (s0 : 0 ≤ s) (s1 : s < 32) (c0 : 0 ≤ c) (c1 : c < 5) : sbF s c = 0 ∨ sbF s c = 1 := by
  obtain ⟨s, rfl⟩ := Int.eq_ofNat_of_zero_le s0
  obtain ⟨c, rfl⟩ := Int.eq_ofNat_of_zero_le c0
  exact sbN s (by omega) c (by omega)
/-- how many sets: 1 << colours -/
theorem shlN : ∀ c : Nat, c < 6 → (1 ≤ i_shl 1 (c : Int) ∧ i_shl 1 (c : Int) ≤ 32) ∧ (0 < c → i_shl 1 (c : Int) % 2 = 0 ∧ 2 ≤ i_shl 1 (c : Int)) ∧ (c = 0 → i_shl 1 (c : Int) = 1) := by decide +kernel
theorem shl_rng {c : Int} (c0 : 0 ≤ c) (c1 : c ≤ 5) : (1 ≤ i_shl 1 c ∧ i_shl 1 c ≤ 32) ∧ (0 < c → i_shl 1 c % 2 = 0 ∧ 2 ≤ i_shl 1 c) ∧ (c = 0 → i_shl 1 c = 1) := by
  obtain ⟨c, rfl⟩ := Int.eq_ofNat_of_zero_le c0
  have h := shlN c (by omega)
  exact ⟨h.1, fun z => h.2.1 (by omega), fun z => h.2.2 (by omega)⟩
def swK (A : Int → Int) (s : Int) : Nat → (Int → Int)
  | 0 => xH A
  | k + 1 => if sbF s (xH A k) = 1 then upH (swK A s k) k 0 else swK A s k
def swN (A : Int → Int) (s : Int) (k : Nat) : Int := sumN (fun i => if sbF s (xH A i) = 1 then 1 else 0) k
theorem swK_s {A : Int → Int} {s : Int} {k : Nat} : swK A s (k + 1) = if sbF s (xH A k) = 1 then upH (swK A s k) k 0 else swK A s k := rfl
theorem swK_at {A : Int → Int} {s j : Int} : ∀ {k : Nat}, (k : Int) ≤ j → swK A s k j = xH A j
  | 0, _ => rfl
  | k + 1, h => by
    rw [swK_s]
    have ih := swK_at (A := A) (s := s) (j := j) (k := k) (by omega)
    split
    · unfold upH
      rw [if_neg (by omega)]
      exact ih
    · exact ih
theorem swK_ok {A : Int → Int} {s : Int} (h : okH A (xH A)) (hc : 0 < A 2) : ∀ {k : Nat}, okH A (swK A s k)
  | 0 => h
  | k + 1 => by
    rw [swK_s]
    split
    · exact okH_up (swK_ok h hc) ⟨Int.le_refl _, hc⟩
    · exact swK_ok h hc
theorem swN_rng {A : Int → Int} {s : Int} {k : Nat} : 0 ≤ swN A s k ∧ swN A s k ≤ k := by
  have := sumN_le (f := fun i => if sbF s (xH A i) = 1 then 1 else 0) (a := 0) (b := 1) (n := k) (fun i _ => by split <;> omega)
  unfold swN
  omega
noncomputable def scF (A : Int → Int) (s : Int) : Int := lsA A (swK A s (xn A).toNat) + swN A s (xn A).toNat * A 12
/-- best set and its cost, of the sets 0, 2, .., 2k -/
noncomputable def bsF (A : Int → Int) : Nat → Int × Int
  | 0 => (0, scF A 0)
  | k + 1 => if scF A (2 * ((k : Int) + 1)) < (bsF A k).2 then (2 * ((k : Int) + 1), scF A (2 * ((k : Int) + 1))) else bsF A k
theorem bsF_s {A : Int → Int} {k : Nat} : bsF A (k + 1) = if scF A (2 * ((k : Int) + 1)) < (bsF A k).2 then (2 * ((k : Int) + 1), scF A (2 * ((k : Int) + 1))) else bsF A k := rfl
theorem bsF_1 {A : Int → Int} : ∀ {k : Nat}, (0 ≤ (bsF A k).1 ∧ (bsF A k).1 ≤ 2 * k) ∧ (bsF A k).2 = scF A (bsF A k).1
  | 0 => ⟨⟨Int.le_refl _, Int.le_refl _⟩, rfl⟩
  | k + 1 => by
    have ih := bsF_1 (A := A) (k := k)
    rw [bsF_s]
    split
    · exact ⟨⟨by show 0 ≤ 2 * ((k : Int) + 1); omega, by show 2 * ((k : Int) + 1) ≤ 2 * ((k + 1 : Nat) : Int); omega⟩, rfl⟩
    · exact ⟨⟨ih.1.1, by omega⟩, ih.2⟩
section SEW
variable {X : Int → Int} {M : Mem}
theorem rr_75 {M' : Mem} (h : RR' M) (fr : ∀ b, (b < 36 ∨ 45 < b) → (b < 67 ∨ 80 < b) → M' b = M b) : RR' M' ∧ AA M' = AA M := by
  refine ⟨RO_rr (st := M' 0 0) ⟨fun b b0 b1 b2 => fr b b1 b2, fun j _ => by rw [fr 0 (by omega) (by omega)], rfl⟩ h, ?_⟩
  show cA (M' (140 + 1)) 0 = cA (M (140 + 1)) 0
  rw [fr (140 + 1) (by omega) (by omega)]
theorem c_costOfSet (h : RR' M) {s : Int} (s0 : 0 ≤ s) (s1 : s < 32) : ∃ M', (∀ b, (b < 36 ∨ 45 < b) → (b < 67 ∨ 80 < b) → M' b = M b) ∧ (0 ≤ scF (AA M) s ∧ scF (AA M) s ≤ 95472) ∧ evc X 173 [vR (some 0), vI s] SH0 M = some (some (vI (scF (AA M) s)), SH0, M') := by
  have k0 := w0_k0; have hc4 := w0_ch4; have hmd := w0_md140; have mk0 := hmd.1; have hc4' := w0_ch4; obtain ⟨ck0, cr0, cr1, cr2, cr3, cr4, cr5, cr6, cr7, ck1, ck2, ck3, ck4, ck5, ck6, ck7, ck8, cl1, cl2, cl3, cl4, cl5, cl6, cl7, cl8⟩ := hc4'
  have gA := rr_gA h
  have n48 := gA.2.1
  have hn := n_c h
  have g2 := gA.1.2.2.1
  have g12 := gA.1.2.2.2.2.2.2.2.2.2.2.2.2.1
  have en : (((xn (AA M)).toNat : Nat) : Int) = xn (AA M) := by omega
  have q0 : xn (AA M) ≤ xn (AA M) := Int.le_refl _
  obtain ⟨Ma, fa, ra, wa, ea⟩ := c_trial (X := X) h
  have hcT : HC Ma 67 (AA M) (xH (AA M)) := ⟨wa, rch_ve ra, rr_gwy h, okH_x (rr_gwy h)⟩
  obtain ⟨ls', Mb, ⟨hls, fb, hb⟩, he⟩ := ev_for (X := X) (y := 173) (Sh := SH0) (fun i ls M' => ls = [some (vR (some 0)), some (vI s), some (vI (swN (AA M) s i)), some (vI (i : Int))] ∧ frm 67 75 M M' ∧ HC M' 67 (AA M) (swK (AA M) s i)) J_173_15 (xn (AA M)).toNat (fun i hi ls M' hI => by
    obtain ⟨hls, fr, hh⟩ := hI
    subst hls
    have hlt : (i : Int) < xn (AA M) := by omega
    have r1 := rr_75 h (M' := M') (fun b b1 b2 => fr b (by omega))
    have hn' := n_c r1.1
    have vh := ((rr_ve r1.1).2.2.1 i (by omega) (by rw [hn', r1.2]; exact hlt)).1
    rw [r1.2] at hn' vh
    have gi := (gA.2.2 i (by omega) hlt).1
    have s01 := sb_01 (s := s) (c := xH (AA M) i) s0 s1 gi.1 (by omega)
    have rn := swN_rng (A := AA M) (s := s) (k := i)
    have ne : swN (AA M) s (i + 1) = swN (AA M) s i + if sbF s (xH (AA M) i) = 1 then 1 else 0 := rfl
    rw [ne, swK_s]
    generalize swN (AA M) s i = sm at rn ⊢
    by_cases z : sbF s (xH (AA M) i) = 1
    · obtain ⟨er, hu⟩ := hc_up (X := X) w0_ch67 hh (i := (i : Int)) (k := 0) ⟨by omega, hlt⟩ ⟨by omega, by omega⟩
      rw [if_pos z]
      refine ⟨_, up M' (67 + 6) (i : Int) 0, ⟨rfl, fun b hb => by rw [up_ne (by omega)]; exact fr b hb, by rw [if_pos z]; exact hu⟩, ?_⟩
      have z' : i_and (i_shr s (xH (AA M) i)) 1 = 1 := z
      generalize xH (AA M) i = hv at vh z'
      simp (disch := first | assumption | decide | omega | (simp only [List.length_cons, List.length_nil] <;> omega)) only [lgt_0, lgt_s, lset_0, lset_s, lst1_0, lst1_s, lst2_0, lst2_s, ev_iconst, ev_lconst, ev_ldc, ev_null, ev_iload, ev_lload, ev_aload, ev_istore, ev_lstore, ev_astore, ev_iinc, ev_iadd, ev_isub, ev_imul, ev_iand, ev_ior, ev_ishl, ev_ishr, ev_idiv, ev_irem, ev_ineg, ev_ladd, ev_lsub, ev_lmul, ev_land, ev_lor, ev_ldiv, ev_lrem, ev_lshl, ev_i2l, ev_l2i, ev_i2b, ev_i2s, ev_lcmp, ev_dupI, ev_dupR, ev_dup2, ev_popI, ev_popR, ev_alen, ev_xlen, ev_xald, ev_iald, ev_lald, ev_bald, ev_zald, ev_aald, ev_iast, ev_last, ev_bast, ev_zast, ev_aast, ev_gfI, ev_gfL, ev_gfR, ev_pfI, ev_pfZ, ev_pfL, ev_pfR, ev_new, ev_newa, ev_newq, ev_copy, ev_slen, ev_schr, ev_obj, ev_mmin, ev_mabs, ev_mmax, ev_goto, ev_jsr, ev_icmp_eq, ev_if_eq, ev_icmp_ne, ev_if_ne, ev_icmp_lt, ev_if_lt, ev_icmp_ge, ev_if_ge, ev_icmp_gt, ev_if_gt, ev_icmp_le, ev_if_le, ev_ifnull0, ev_ifnull1, ev_ifnn0, ev_ifnn1, ev_tsw, ev_lsw, ev_iret, ev_zret, ev_lret, ev_aret, ev_ret, ev_call0, ev_call1, ev_call2, ev_call3, ev_call4, ev_call5, ev_call6, Option.toList_some, Option.toList_none, List.cons_append, List.nil_append, List.length_cons, List.length_nil, Nat.reduceMod, Nat.reduceDiv, Nat.reduceLeDiff, nc, ↓reduceIte, Nat.zero_le, reduceCtorEq, w32_id, Int.reduceEq, Int.reduceNe, Int.reduceLT, Int.reduceLE, Int.reduceGT, Int.reduceGE, Int.reduceAdd, Int.reduceSub, Int.reduceMul, Int.reduceNeg, ne_eq, not_true_eq_false, not_false_eq_true, eq_self, ↓if_pos, ↓if_neg, w0_r0_3, w0_r0_4, w0_r0_5, w0_r0_6, w0_r0_7, w0_r0_8, w0_r0_10, w0_r0_11, w0_r0_12, w0_r0_13, w0_r0_14, w0_r0_15, w0_r0_16, w0_r0_17, w0_r0_18, cr0, cr1, cr2, cr3, cr4, cr5, cr6, cr7, J_173_0, k_173_0, J_173_55, k_173_55, J_173_61, k_173_61, k_173_15, hn', hlt, vh, z', er, nc_s]
    · rw [if_neg z, Int.add_zero]
      refine ⟨_, M', ⟨rfl, fr, by rw [if_neg z]; exact hh⟩, ?_⟩
      have z' : ¬ i_and (i_shr s (xH (AA M) i)) 1 = 1 := z
      generalize xH (AA M) i = hv at vh z'
      simp (disch := first | assumption | decide | omega | (simp only [List.length_cons, List.length_nil] <;> omega)) only [lgt_0, lgt_s, lset_0, lset_s, lst1_0, lst1_s, lst2_0, lst2_s, ev_iconst, ev_lconst, ev_ldc, ev_null, ev_iload, ev_lload, ev_aload, ev_istore, ev_lstore, ev_astore, ev_iinc, ev_iadd, ev_isub, ev_imul, ev_iand, ev_ior, ev_ishl, ev_ishr, ev_idiv, ev_irem, ev_ineg, ev_ladd, ev_lsub, ev_lmul, ev_land, ev_lor, ev_ldiv, ev_lrem, ev_lshl, ev_i2l, ev_l2i, ev_i2b, ev_i2s, ev_lcmp, ev_dupI, ev_dupR, ev_dup2, ev_popI, ev_popR, ev_alen, ev_xlen, ev_xald, ev_iald, ev_lald, ev_bald, ev_zald, ev_aald, ev_iast, ev_last, ev_bast, ev_zast, ev_aast, ev_gfI, ev_gfL, ev_gfR, ev_pfI, ev_pfZ, ev_pfL, ev_pfR, ev_new, ev_newa, ev_newq, ev_copy, ev_slen, ev_schr, ev_obj, ev_mmin, ev_mabs, ev_mmax, ev_goto, ev_jsr, ev_icmp_eq, ev_if_eq, ev_icmp_ne, ev_if_ne, ev_icmp_lt, ev_if_lt, ev_icmp_ge, ev_if_ge, ev_icmp_gt, ev_if_gt, ev_icmp_le, ev_if_le, ev_ifnull0, ev_ifnull1, ev_ifnn0, ev_ifnn1, ev_tsw, ev_lsw, ev_iret, ev_zret, ev_lret, ev_aret, ev_ret, ev_call0, ev_call1, ev_call2, ev_call3, ev_call4, ev_call5, ev_call6, Option.toList_some, Option.toList_none, List.cons_append, List.nil_append, List.length_cons, List.length_nil, Nat.reduceMod, Nat.reduceDiv, Nat.reduceLeDiff, nc, ↓reduceIte, Nat.zero_le, reduceCtorEq, w32_id, Int.reduceEq, Int.reduceNe, Int.reduceLT, Int.reduceLE, Int.reduceGT, Int.reduceGE, Int.reduceAdd, Int.reduceSub, Int.reduceMul, Int.reduceNeg, ne_eq, not_true_eq_false, not_false_eq_true, eq_self, ↓if_pos, ↓if_neg, w0_r0_3, w0_r0_4, w0_r0_5, w0_r0_6, w0_r0_7, w0_r0_8, w0_r0_10, w0_r0_11, w0_r0_12, w0_r0_13, w0_r0_14, w0_r0_15, w0_r0_16, w0_r0_17, w0_r0_18, cr0, cr1, cr2, cr3, cr4, cr5, cr6, cr7, J_173_0, k_173_0, J_173_55, k_173_55, J_173_61, k_173_61, k_173_15, hn', hlt, vh, z', nc_s]) [some (vR (some 0)), some (vI s), some (vI 0), some (vI 0)] Ma ⟨rfl, fa, hcT⟩
  subst hls
  rw [en] at he
  obtain ⟨Mc, fc, ec, l0, l1⟩ := hc_lA (X := X) w0_ch67 (by omega) hb
  have fr : ∀ b, (b < 36 ∨ 45 < b) → (b < 67 ∨ 80 < b) → Mc b = M b := fun b b1 b2 => by rw [fc b (by omega), fb b (by omega)]
  have rb := rr_75 h (M' := Mb) (fun b b1 b2 => fb b (by omega))
  have hnb := n_c rb.1
  rw [rb.2] at hnb
  have s12 : Mc (4 + 1) 12 = AA M 12 := by rw [fr _ (by omega) (by omega)]; exact S_c h (by omega) (by omega)
  have rn := swN_rng (A := AA M) (s := s) (k := (xn (AA M)).toNat)
  have m0 : 0 ≤ swN (AA M) s (xn (AA M)).toNat * AA M 12 := Int.mul_nonneg rn.1 g12.1
  have m1 : swN (AA M) s (xn (AA M)).toNat * AA M 12 ≤ 48 * 999 := Int.mul_le_mul (by omega) g12.2 g12.1 (by omega)
  refine ⟨Mc, fr, ?_, ?_⟩
  · unfold scF
    omega
  · rw [E_173 k0]
    unfold scF
    generalize lsA (AA M) (swK (AA M) s (xn (AA M)).toNat) = lv at ec l0 l1 ⊢
    generalize swN (AA M) s (xn (AA M)).toNat = sv at he rn m0 m1 ⊢
    simp (disch := first | assumption | decide | omega | (simp only [List.length_cons, List.length_nil] <;> omega)) only [lgt_0, lgt_s, lset_0, lset_s, lst1_0, lst1_s, lst2_0, lst2_s, ev_iconst, ev_lconst, ev_ldc, ev_null, ev_iload, ev_lload, ev_aload, ev_istore, ev_lstore, ev_astore, ev_iinc, ev_iadd, ev_isub, ev_imul, ev_iand, ev_ior, ev_ishl, ev_ishr, ev_idiv, ev_irem, ev_ineg, ev_ladd, ev_lsub, ev_lmul, ev_land, ev_lor, ev_ldiv, ev_lrem, ev_lshl, ev_i2l, ev_l2i, ev_i2b, ev_i2s, ev_lcmp, ev_dupI, ev_dupR, ev_dup2, ev_popI, ev_popR, ev_alen, ev_xlen, ev_xald, ev_iald, ev_lald, ev_bald, ev_zald, ev_aald, ev_iast, ev_last, ev_bast, ev_zast, ev_aast, ev_gfI, ev_gfL, ev_gfR, ev_pfI, ev_pfZ, ev_pfL, ev_pfR, ev_new, ev_newa, ev_newq, ev_copy, ev_slen, ev_schr, ev_obj, ev_mmin, ev_mabs, ev_mmax, ev_goto, ev_jsr, ev_icmp_eq, ev_if_eq, ev_icmp_ne, ev_if_ne, ev_icmp_lt, ev_if_lt, ev_icmp_ge, ev_if_ge, ev_icmp_gt, ev_if_gt, ev_icmp_le, ev_if_le, ev_ifnull0, ev_ifnull1, ev_ifnn0, ev_ifnn1, ev_tsw, ev_lsw, ev_iret, ev_zret, ev_lret, ev_aret, ev_ret, ev_call0, ev_call1, ev_call2, ev_call3, ev_call4, ev_call5, ev_call6, Option.toList_some, Option.toList_none, List.cons_append, List.nil_append, List.length_cons, List.length_nil, Nat.reduceMod, Nat.reduceDiv, Nat.reduceLeDiff, nc, ↓reduceIte, Nat.zero_le, reduceCtorEq, w32_id, Int.reduceEq, Int.reduceNe, Int.reduceLT, Int.reduceLE, Int.reduceGT, Int.reduceGE, Int.reduceAdd, Int.reduceSub, Int.reduceMul, Int.reduceNeg, ne_eq, not_true_eq_false, not_false_eq_true, eq_self, ↓if_pos, ↓if_neg, w0_r0_3, w0_r0_4, w0_r0_5, w0_r0_6, w0_r0_7, w0_r0_8, w0_r0_10, w0_r0_11, w0_r0_12, w0_r0_13, w0_r0_14, w0_r0_15, w0_r0_16, w0_r0_17, w0_r0_18, cr0, cr1, cr2, cr3, cr4, cr5, cr6, cr7, J_173_0, k_173_0, J_173_55, k_173_55, J_173_61, k_173_61, ea]
    rw [he]
    simp (disch := first | assumption | decide | omega | (simp only [List.length_cons, List.length_nil] <;> omega)) only [lgt_0, lgt_s, lset_0, lset_s, lst1_0, lst1_s, lst2_0, lst2_s, ev_iconst, ev_lconst, ev_ldc, ev_null, ev_iload, ev_lload, ev_aload, ev_istore, ev_lstore, ev_astore, ev_iinc, ev_iadd, ev_isub, ev_imul, ev_iand, ev_ior, ev_ishl, ev_ishr, ev_idiv, ev_irem, ev_ineg, ev_ladd, ev_lsub, ev_lmul, ev_land, ev_lor, ev_ldiv, ev_lrem, ev_lshl, ev_i2l, ev_l2i, ev_i2b, ev_i2s, ev_lcmp, ev_dupI, ev_dupR, ev_dup2, ev_popI, ev_popR, ev_alen, ev_xlen, ev_xald, ev_iald, ev_lald, ev_bald, ev_zald, ev_aald, ev_iast, ev_last, ev_bast, ev_zast, ev_aast, ev_gfI, ev_gfL, ev_gfR, ev_pfI, ev_pfZ, ev_pfL, ev_pfR, ev_new, ev_newa, ev_newq, ev_copy, ev_slen, ev_schr, ev_obj, ev_mmin, ev_mabs, ev_mmax, ev_goto, ev_jsr, ev_icmp_eq, ev_if_eq, ev_icmp_ne, ev_if_ne, ev_icmp_lt, ev_if_lt, ev_icmp_ge, ev_if_ge, ev_icmp_gt, ev_if_gt, ev_icmp_le, ev_if_le, ev_ifnull0, ev_ifnull1, ev_ifnn0, ev_ifnn1, ev_tsw, ev_lsw, ev_iret, ev_zret, ev_lret, ev_aret, ev_ret, ev_call0, ev_call1, ev_call2, ev_call3, ev_call4, ev_call5, ev_call6, Option.toList_some, Option.toList_none, List.cons_append, List.nil_append, List.length_cons, List.length_nil, Nat.reduceMod, Nat.reduceDiv, Nat.reduceLeDiff, nc, ↓reduceIte, Nat.zero_le, reduceCtorEq, w32_id, Int.reduceEq, Int.reduceNe, Int.reduceLT, Int.reduceLE, Int.reduceGT, Int.reduceGE, Int.reduceAdd, Int.reduceSub, Int.reduceMul, Int.reduceNeg, ne_eq, not_true_eq_false, not_false_eq_true, eq_self, ↓if_pos, ↓if_neg, w0_r0_3, w0_r0_4, w0_r0_5, w0_r0_6, w0_r0_7, w0_r0_8, w0_r0_10, w0_r0_11, w0_r0_12, w0_r0_13, w0_r0_14, w0_r0_15, w0_r0_16, w0_r0_17, w0_r0_18, cr0, cr1, cr2, cr3, cr4, cr5, cr6, cr7, J_173_0, k_173_0, J_173_55, k_173_55, J_173_61, k_173_61, k_173_15, hnb, q0, ec, s12]
theorem c_bestSet (h : RR' M) (hc : 0 < AA M 2) : ∃ M', (∀ b, (b < 36 ∨ 45 < b) → (b < 67 ∨ 80 < b) → M' b = M b) ∧ evc X 172 [vR (some 0)] SH0 M = some (some (vI (bsF (AA M) ((i_shl 1 (AA M 2) / 2).toNat - 1)).1), SH0, M') := by
  have k0 := w0_k0; have hc4 := w0_ch4; have hmd := w0_md140; have mk0 := hmd.1; have hc4' := w0_ch4; obtain ⟨ck0, cr0, cr1, cr2, cr3, cr4, cr5, cr6, cr7, ck1, ck2, ck3, ck4, ck5, ck6, ck7, ck8, cl1, cl2, cl3, cl4, cl5, cl6, cl7, cl8⟩ := hc4'
  have gA := rr_gA h
  have g2 := gA.1.2.2.1
  have sh := shl_rng (c := AA M 2) (by omega) g2.2
  have sh2 := sh.2.1 hc
  generalize hp : i_shl 1 (AA M 2) = p at sh sh2 ⊢
  obtain ⟨Ma, fa, l0, ea⟩ := c_costOfSet (X := X) h (s := 0) (by omega) (by omega)
  obtain ⟨ls', Mb, ⟨w, hls, fb⟩, he⟩ := ev_for (X := X) (y := 172) (Sh := SH0) (fun i ls M' => ∃ w, ls = [some (vR (some 0)), some (vI (bsF (AA M) i).1), some (vI (bsF (AA M) i).2), some (vI (2 * (i : Int) + 2)), w] ∧ (∀ b, (b < 36 ∨ 45 < b) → (b < 67 ∨ 80 < b) → M' b = M b)) J_172_10 ((p / 2).toNat - 1) (fun i hi ls M' hI => by
    obtain ⟨w, hls, fr⟩ := hI
    subst hls
    have r1 := rr_75 h fr
    have s2 := S_c r1.1 (k := 2) (by omega) (by omega)
    rw [r1.2] at s2
    have hlt : 2 * (i : Int) + 2 < p := by omega
    obtain ⟨Mc, fc, lc, ec⟩ := c_costOfSet (X := X) r1.1 (s := 2 * (i : Int) + 2) (by omega) (by omega)
    rw [r1.2] at ec lc
    have b1 := bsF_1 (A := AA M) (k := i)
    rw [bsF_s, show 2 * ((i : Int) + 1) = 2 * (i : Int) + 2 by omega]
    have e4 : 2 * ((i + 1 : Nat) : Int) + 2 = 2 * (i : Int) + 2 + 2 := by omega
    rw [e4]
    by_cases z : scF (AA M) (2 * (i : Int) + 2) < (bsF (AA M) i).2
    · rw [if_pos z]
      refine ⟨_, Mc, ⟨some (vI (scF (AA M) (2 * (i : Int) + 2))), rfl, fun b x y => by rw [fc b x y, fr b x y]⟩, ?_⟩
      generalize (bsF (AA M) i).1 = v1 at b1 ⊢
      generalize (bsF (AA M) i).2 = v2 at b1 z ⊢
      generalize scF (AA M) (2 * (i : Int) + 2) = v3 at ec lc z ⊢
      simp (disch := first | assumption | decide | omega | (simp only [List.length_cons, List.length_nil] <;> omega)) only [lgt_0, lgt_s, lset_0, lset_s, lst1_0, lst1_s, lst2_0, lst2_s, ev_iconst, ev_lconst, ev_ldc, ev_null, ev_iload, ev_lload, ev_aload, ev_istore, ev_lstore, ev_astore, ev_iinc, ev_iadd, ev_isub, ev_imul, ev_iand, ev_ior, ev_ishl, ev_ishr, ev_idiv, ev_irem, ev_ineg, ev_ladd, ev_lsub, ev_lmul, ev_land, ev_lor, ev_ldiv, ev_lrem, ev_lshl, ev_i2l, ev_l2i, ev_i2b, ev_i2s, ev_lcmp, ev_dupI, ev_dupR, ev_dup2, ev_popI, ev_popR, ev_alen, ev_xlen, ev_xald, ev_iald, ev_lald, ev_bald, ev_zald, ev_aald, ev_iast, ev_last, ev_bast, ev_zast, ev_aast, ev_gfI, ev_gfL, ev_gfR, ev_pfI, ev_pfZ, ev_pfL, ev_pfR, ev_new, ev_newa, ev_newq, ev_copy, ev_slen, ev_schr, ev_obj, ev_mmin, ev_mabs, ev_mmax, ev_goto, ev_jsr, ev_icmp_eq, ev_if_eq, ev_icmp_ne, ev_if_ne, ev_icmp_lt, ev_if_lt, ev_icmp_ge, ev_if_ge, ev_icmp_gt, ev_if_gt, ev_icmp_le, ev_if_le, ev_ifnull0, ev_ifnull1, ev_ifnn0, ev_ifnn1, ev_tsw, ev_lsw, ev_iret, ev_zret, ev_lret, ev_aret, ev_ret, ev_call0, ev_call1, ev_call2, ev_call3, ev_call4, ev_call5, ev_call6, Option.toList_some, Option.toList_none, List.cons_append, List.nil_append, List.length_cons, List.length_nil, Nat.reduceMod, Nat.reduceDiv, Nat.reduceLeDiff, nc, ↓reduceIte, Nat.zero_le, reduceCtorEq, w32_id, Int.reduceEq, Int.reduceNe, Int.reduceLT, Int.reduceLE, Int.reduceGT, Int.reduceGE, Int.reduceAdd, Int.reduceSub, Int.reduceMul, Int.reduceNeg, ne_eq, not_true_eq_false, not_false_eq_true, eq_self, ↓if_pos, ↓if_neg, w0_r0_3, w0_r0_4, w0_r0_5, w0_r0_6, w0_r0_7, w0_r0_8, w0_r0_10, w0_r0_11, w0_r0_12, w0_r0_13, w0_r0_14, w0_r0_15, w0_r0_16, w0_r0_17, w0_r0_18, cr0, cr1, cr2, cr3, cr4, cr5, cr6, cr7, J_172_0, k_172_0, J_172_43, k_172_43, J_172_49, k_172_49, k_172_10, s2, hp, hlt, ec, z]
    · rw [if_neg z]
      refine ⟨_, Mc, ⟨some (vI (scF (AA M) (2 * (i : Int) + 2))), rfl, fun b x y => by rw [fc b x y, fr b x y]⟩, ?_⟩
      generalize (bsF (AA M) i).1 = v1 at b1 ⊢
      generalize (bsF (AA M) i).2 = v2 at b1 z ⊢
      generalize scF (AA M) (2 * (i : Int) + 2) = v3 at ec lc z ⊢
      simp (disch := first | assumption | decide | omega | (simp only [List.length_cons, List.length_nil] <;> omega)) only [lgt_0, lgt_s, lset_0, lset_s, lst1_0, lst1_s, lst2_0, lst2_s, ev_iconst, ev_lconst, ev_ldc, ev_null, ev_iload, ev_lload, ev_aload, ev_istore, ev_lstore, ev_astore, ev_iinc, ev_iadd, ev_isub, ev_imul, ev_iand, ev_ior, ev_ishl, ev_ishr, ev_idiv, ev_irem, ev_ineg, ev_ladd, ev_lsub, ev_lmul, ev_land, ev_lor, ev_ldiv, ev_lrem, ev_lshl, ev_i2l, ev_l2i, ev_i2b, ev_i2s, ev_lcmp, ev_dupI, ev_dupR, ev_dup2, ev_popI, ev_popR, ev_alen, ev_xlen, ev_xald, ev_iald, ev_lald, ev_bald, ev_zald, ev_aald, ev_iast, ev_last, ev_bast, ev_zast, ev_aast, ev_gfI, ev_gfL, ev_gfR, ev_pfI, ev_pfZ, ev_pfL, ev_pfR, ev_new, ev_newa, ev_newq, ev_copy, ev_slen, ev_schr, ev_obj, ev_mmin, ev_mabs, ev_mmax, ev_goto, ev_jsr, ev_icmp_eq, ev_if_eq, ev_icmp_ne, ev_if_ne, ev_icmp_lt, ev_if_lt, ev_icmp_ge, ev_if_ge, ev_icmp_gt, ev_if_gt, ev_icmp_le, ev_if_le, ev_ifnull0, ev_ifnull1, ev_ifnn0, ev_ifnn1, ev_tsw, ev_lsw, ev_iret, ev_zret, ev_lret, ev_aret, ev_ret, ev_call0, ev_call1, ev_call2, ev_call3, ev_call4, ev_call5, ev_call6, Option.toList_some, Option.toList_none, List.cons_append, List.nil_append, List.length_cons, List.length_nil, Nat.reduceMod, Nat.reduceDiv, Nat.reduceLeDiff, nc, ↓reduceIte, Nat.zero_le, reduceCtorEq, w32_id, Int.reduceEq, Int.reduceNe, Int.reduceLT, Int.reduceLE, Int.reduceGT, Int.reduceGE, Int.reduceAdd, Int.reduceSub, Int.reduceMul, Int.reduceNeg, ne_eq, not_true_eq_false, not_false_eq_true, eq_self, ↓if_pos, ↓if_neg, w0_r0_3, w0_r0_4, w0_r0_5, w0_r0_6, w0_r0_7, w0_r0_8, w0_r0_10, w0_r0_11, w0_r0_12, w0_r0_13, w0_r0_14, w0_r0_15, w0_r0_16, w0_r0_17, w0_r0_18, cr0, cr1, cr2, cr3, cr4, cr5, cr6, cr7, J_172_0, k_172_0, J_172_43, k_172_43, J_172_49, k_172_49, k_172_10, s2, hp, hlt, ec, z]) [some (vR (some 0)), some (vI 0), some (vI (scF (AA M) 0)), some (vI 2), none] Ma ⟨none, rfl, fa⟩
  subst hls
  have rb := rr_75 h fb
  have s2 := S_c rb.1 (k := 2) (by omega) (by omega)
  rw [rb.2] at s2
  refine ⟨Mb, fb, ?_⟩
  have q0 : ¬ 2 * (((p / 2).toNat - 1 : Nat) : Int) + 2 < p := by omega
  rw [E_172 k0]
  simp (disch := first | assumption | decide | omega | (simp only [List.length_cons, List.length_nil] <;> omega)) only [lgt_0, lgt_s, lset_0, lset_s, lst1_0, lst1_s, lst2_0, lst2_s, ev_iconst, ev_lconst, ev_ldc, ev_null, ev_iload, ev_lload, ev_aload, ev_istore, ev_lstore, ev_astore, ev_iinc, ev_iadd, ev_isub, ev_imul, ev_iand, ev_ior, ev_ishl, ev_ishr, ev_idiv, ev_irem, ev_ineg, ev_ladd, ev_lsub, ev_lmul, ev_land, ev_lor, ev_ldiv, ev_lrem, ev_lshl, ev_i2l, ev_l2i, ev_i2b, ev_i2s, ev_lcmp, ev_dupI, ev_dupR, ev_dup2, ev_popI, ev_popR, ev_alen, ev_xlen, ev_xald, ev_iald, ev_lald, ev_bald, ev_zald, ev_aald, ev_iast, ev_last, ev_bast, ev_zast, ev_aast, ev_gfI, ev_gfL, ev_gfR, ev_pfI, ev_pfZ, ev_pfL, ev_pfR, ev_new, ev_newa, ev_newq, ev_copy, ev_slen, ev_schr, ev_obj, ev_mmin, ev_mabs, ev_mmax, ev_goto, ev_jsr, ev_icmp_eq, ev_if_eq, ev_icmp_ne, ev_if_ne, ev_icmp_lt, ev_if_lt, ev_icmp_ge, ev_if_ge, ev_icmp_gt, ev_if_gt, ev_icmp_le, ev_if_le, ev_ifnull0, ev_ifnull1, ev_ifnn0, ev_ifnn1, ev_tsw, ev_lsw, ev_iret, ev_zret, ev_lret, ev_aret, ev_ret, ev_call0, ev_call1, ev_call2, ev_call3, ev_call4, ev_call5, ev_call6, Option.toList_some, Option.toList_none, List.cons_append, List.nil_append, List.length_cons, List.length_nil, Nat.reduceMod, Nat.reduceDiv, Nat.reduceLeDiff, nc, ↓reduceIte, Nat.zero_le, reduceCtorEq, w32_id, Int.reduceEq, Int.reduceNe, Int.reduceLT, Int.reduceLE, Int.reduceGT, Int.reduceGE, Int.reduceAdd, Int.reduceSub, Int.reduceMul, Int.reduceNeg, ne_eq, not_true_eq_false, not_false_eq_true, eq_self, ↓if_pos, ↓if_neg, w0_r0_3, w0_r0_4, w0_r0_5, w0_r0_6, w0_r0_7, w0_r0_8, w0_r0_10, w0_r0_11, w0_r0_12, w0_r0_13, w0_r0_14, w0_r0_15, w0_r0_16, w0_r0_17, w0_r0_18, cr0, cr1, cr2, cr3, cr4, cr5, cr6, cr7, J_172_0, k_172_0, J_172_43, k_172_43, J_172_49, k_172_49, ea]
  rw [he]
  simp (disch := first | assumption | decide | omega | (simp only [List.length_cons, List.length_nil] <;> omega)) only [lgt_0, lgt_s, lset_0, lset_s, lst1_0, lst1_s, lst2_0, lst2_s, ev_iconst, ev_lconst, ev_ldc, ev_null, ev_iload, ev_lload, ev_aload, ev_istore, ev_lstore, ev_astore, ev_iinc, ev_iadd, ev_isub, ev_imul, ev_iand, ev_ior, ev_ishl, ev_ishr, ev_idiv, ev_irem, ev_ineg, ev_ladd, ev_lsub, ev_lmul, ev_land, ev_lor, ev_ldiv, ev_lrem, ev_lshl, ev_i2l, ev_l2i, ev_i2b, ev_i2s, ev_lcmp, ev_dupI, ev_dupR, ev_dup2, ev_popI, ev_popR, ev_alen, ev_xlen, ev_xald, ev_iald, ev_lald, ev_bald, ev_zald, ev_aald, ev_iast, ev_last, ev_bast, ev_zast, ev_aast, ev_gfI, ev_gfL, ev_gfR, ev_pfI, ev_pfZ, ev_pfL, ev_pfR, ev_new, ev_newa, ev_newq, ev_copy, ev_slen, ev_schr, ev_obj, ev_mmin, ev_mabs, ev_mmax, ev_goto, ev_jsr, ev_icmp_eq, ev_if_eq, ev_icmp_ne, ev_if_ne, ev_icmp_lt, ev_if_lt, ev_icmp_ge, ev_if_ge, ev_icmp_gt, ev_if_gt, ev_icmp_le, ev_if_le, ev_ifnull0, ev_ifnull1, ev_ifnn0, ev_ifnn1, ev_tsw, ev_lsw, ev_iret, ev_zret, ev_lret, ev_aret, ev_ret, ev_call0, ev_call1, ev_call2, ev_call3, ev_call4, ev_call5, ev_call6, Option.toList_some, Option.toList_none, List.cons_append, List.nil_append, List.length_cons, List.length_nil, Nat.reduceMod, Nat.reduceDiv, Nat.reduceLeDiff, nc, ↓reduceIte, Nat.zero_le, reduceCtorEq, w32_id, Int.reduceEq, Int.reduceNe, Int.reduceLT, Int.reduceLE, Int.reduceGT, Int.reduceGE, Int.reduceAdd, Int.reduceSub, Int.reduceMul, Int.reduceNeg, ne_eq, not_true_eq_false, not_false_eq_true, eq_self, ↓if_pos, ↓if_neg, w0_r0_3, w0_r0_4, w0_r0_5, w0_r0_6, w0_r0_7, w0_r0_8, w0_r0_10, w0_r0_11, w0_r0_12, w0_r0_13, w0_r0_14, w0_r0_15, w0_r0_16, w0_r0_17, w0_r0_18, cr0, cr1, cr2, cr3, cr4, cr5, cr6, cr7, J_172_0, k_172_0, J_172_43, k_172_43, J_172_49, k_172_49, k_172_10, s2, hp, q0]
end SEW
