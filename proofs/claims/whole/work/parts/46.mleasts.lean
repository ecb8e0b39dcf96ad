/-! THE MODEL: the least of a colour, of all; the fewest. -/
theorem ownB_mono {q : Int → Bool} {n : Nat} {x y : Int} (h0 : 0 ≤ x) (h1 : x < y) (h2 : y < cntB q n) : ownB q n x < ownB q n y := by
  obtain ⟨i, a1, a2, a3, a4⟩ := ownB_ex (q := q) (n := n) h0 (by omega)
  obtain ⟨j, b1, b2, b3, b4⟩ := ownB_ex (q := q) (n := n) (x := y) (by omega) h2
  rw [a4, b4]
  rcases Nat.lt_or_ge i j with z | z
  · omega
  · have := cntB_mono (q := q) z
    omega
abbrev wayM (M : Mem) (m : Nat) (i j : Int) : Int := wayF (M (m + 1)) (M (m + 10)) (fun i => M (m + 9) i % M (m + 1) 0) (fun i => i / M (m + 1) 0) (M (m + 1) 0 * M (m + 1) 1) i j
abbrev priM (M : Mem) (m : Nat) (i j : Int) : Int := priF (M (m + 1)) (M (m + 10)) (fun k => M (m + 1) (16 + 2 * k)) (wayM M m i j) i j
abbrev lnkM (M : Mem) (m : Nat) (byc i j : Int) : Int := lnk (M (m + 1)) (M (m + 10)) (fun i => M (m + 9) i % M (m + 1) 0) (fun i => i / M (m + 1) 0) (fun k => M (m + 1) (16 + 2 * k)) (M (m + 1) 0 * M (m + 1) 1) byc i j
noncomputable abbrev lstM (M : Mem) (m : Nat) (byc : Int) (qs qg : Int → Bool) : Int := lstV (M (m + 1)) (M (m + 10)) (fun i => M (m + 9) i % M (m + 1) 0) (fun i => i / M (m + 1) 0) (fun k => M (m + 1) (16 + 2 * k)) (M (m + 1) 0 * M (m + 1) 1) byc qs qg
noncomputable abbrev lstHM (M : Mem) (m : Nat) (byc k : Int) : Int := lstH (M (m + 1)) (M (m + 10)) (fun i => M (m + 9) i % M (m + 1) 0) (fun i => i / M (m + 1) 0) (fun k => M (m + 1) (16 + 2 * k)) (M (m + 1) 0 * M (m + 1) 1) byc k
noncomputable abbrev lstAM (M : Mem) (m : Nat) : Int := lstA (M (m + 1)) (M (m + 10)) (fun i => M (m + 9) i % M (m + 1) 0) (fun i => i / M (m + 1) 0) (fun k => M (m + 1) (16 + 2 * k)) (M (m + 1) 0 * M (m + 1) 1)
/-- what the least leaves as it is -/
def frmM (m : Nat) (M M' : Mem) : Prop := (∀ b, b ≠ m → (b < m + 12 ∨ m + 19 < b) → M' b = M b) ∧ ∀ i, i ≠ 36 → M' m i = M m i
theorem frmM_r {m : Nat} {M : Mem} : frmM m M M := ⟨fun _ _ _ => rfl, fun _ _ => rfl⟩
theorem frmM_t {m : Nat} {M M' M'' : Mem} (h1 : frmM m M M') (h2 : frmM m M' M'') : frmM m M M'' := ⟨fun b b0 b1 => (h2.1 b b0 b1).trans (h1.1 b b0 b1), fun i hi => (h2.2 i hi).trans (h1.2 i hi)⟩
section MLS
variable {X : Int → Int} {Sh : List SE} {M : Mem} {m : Nat}
theorem goodM_c {M' : Mem} (h1 : M' (m + 1) = M (m + 1)) (h9 : M' (m + 9) = M (m + 9)) (h10 : M' (m + 10) = M (m + 10)) (g : goodM M m) : goodM M' m := by
  unfold goodM at g ⊢
  rw [h1, h9, h10]
  exact g
theorem goodV_c {M' : Mem} (h1 : M' (m + 1) = M (m + 1)) (g : goodV M m) : goodV M' m := by
  unfold goodV at g ⊢
  rw [h1]
  exact g
theorem many_le (gs : goodS (M (m + 1))) : 0 ≤ M (m + 1) 0 * M (m + 1) 1 ∧ M (m + 1) 0 * M (m + 1) 1 ≤ 48 := ⟨Int.mul_nonneg gs.1.1 gs.2.1.1, Int.le_trans (Int.mul_le_mul gs.1.2 gs.2.1.2 gs.2.1.1 (by omega)) (by omega)⟩
theorem m_gathers (h : MD Sh m) (gs : goodS (M (m + 1))) {k n : Int} (hn : M (m + 1) 0 * M (m + 1) 1 = n) :
    ∃ M', (∀ b, b ≠ m → b ≠ m + 19 → M' b = M b) ∧ (∀ i, i ≠ 36 → M' m i = M m i) ∧ M' m 36 = cntB (fun i => decide (M (m + 10) i = k)) n.toNat ∧ (∀ x, 0 ≤ x → x < cntB (fun i => decide (M (m + 10) i = k)) n.toNat → M' (m + 19) x = ownB (fun i => decide (M (m + 10) i = k)) n.toNat x) ∧
      evc X 311 [vR (some m), vI k] Sh M = some (none, Sh, M') := by
  have hmd := h
  have hk0 := h.1; obtain ⟨r_at, k_at, l_at⟩ := md_at h; obtain ⟨r_colourOf, k_colourOf, l_colourOf⟩ := md_colourOf h; obtain ⟨r_own, k_own, l_own⟩ := md_own h
  have hn2 := many_le (m := m) gs
  rw [hn] at hn2
  generalize hq : (fun i => decide (M (m + 10) i = k)) = q
  have hqi : ∀ i, q i = decide (M (m + 10) i = k) := fun i => by rw [← hq]
  obtain ⟨ls', M', ⟨hls, fr, fr1, i1, i3⟩, he⟩ := ev_for (X := X) (y := 311) (Sh := Sh) (fun i ls M' => ls = [some (vR (some m)), some (vI k), some (vI (i : Int))] ∧ (∀ b, b ≠ m → b ≠ m + 19 → M' b = M b) ∧ (∀ i, i ≠ 36 → M' m i = M m i) ∧ M' m 36 = cntB q i ∧ (∀ x, 0 ≤ x → x < cntB q i → M' (m + 19) x = ownB q n.toNat x)) J_311_7 n.toNat (fun i hi ls M' hI => by
    obtain ⟨hls, fr, fr1, i1, i3⟩ := hI
    subst hls
    have fa := fr (m + 1) (by omega) (by omega)
    have f10 := fr (m + 10) (by omega) (by omega)
    have em := m_many (X := X) (M := M') hmd (by rw [fa]; exact gs)
    rw [fa, hn] at em
    have q0 : ¬ n ≤ (i : Int) := by omega
    have e0 := cntB_rng (q := q) (i := i)
    by_cases q1 : M (m + 10) i = k
    · have hqt : q i = true := by rw [hqi]; exact decide_eq_true q1
      have e4 : cntB q (i + 1) = cntB q i + 1 := by rw [cntB_s, if_pos hqt]
      refine ⟨_, up (up M' (m + 19) (cntB q i) i) m 36 (cntB q i + 1), ⟨rfl, fun b b0 b1 => ?_, fun j hj => ?_, ?_, fun x x0 x1 => ?_⟩, ?_⟩
      · simp (disch := omega) only [up_ne, up_eq, up_ne2]
        exact fr b b0 b1
      · simp (disch := omega) only [up_ne, up_eq, up_ne2]
        exact fr1 j hj
      · simp (disch := omega) only [up_ne, up_eq, up_ne2]
        exact e4.symm
      · rw [e4] at x1
        by_cases z : x = cntB q i
        · subst z
          simp (disch := omega) only [up_ne, up_eq, up_ne2]
          exact (ownB_at hi hqt).symm
        · simp (disch := omega) only [up_ne, up_eq, up_ne2]
          exact i3 x x0 (by omega)
      · simp (disch := first | assumption | decide | omega | (simp only [List.length_cons, List.length_nil] <;> omega)) only [lgt_0, lgt_s, lset_0, lset_s, lst1_0, lst1_s, lst2_0, lst2_s, ev_iconst, ev_lconst, ev_ldc, ev_null, ev_iload, ev_lload, ev_aload, ev_istore, ev_lstore, ev_astore, ev_iinc, ev_iadd, ev_isub, ev_imul, ev_iand, ev_ior, ev_ishl, ev_ishr, ev_idiv, ev_irem, ev_ineg, ev_ladd, ev_lsub, ev_lmul, ev_land, ev_lor, ev_ldiv, ev_lrem, ev_lshl, ev_i2l, ev_l2i, ev_i2b, ev_i2s, ev_lcmp, ev_dupI, ev_dupR, ev_dup2, ev_popI, ev_popR, ev_alen, ev_xlen, ev_xald, ev_iald, ev_lald, ev_bald, ev_zald, ev_aald, ev_iast, ev_last, ev_bast, ev_zast, ev_aast, ev_gfI, ev_gfL, ev_gfR, ev_pfI, ev_pfZ, ev_pfL, ev_pfR, ev_new, ev_newa, ev_newq, ev_copy, ev_slen, ev_schr, ev_obj, ev_mmin, ev_mabs, ev_mmax, ev_goto, ev_jsr, ev_icmp_eq, ev_if_eq, ev_icmp_ne, ev_if_ne, ev_icmp_lt, ev_if_lt, ev_icmp_ge, ev_if_ge, ev_icmp_gt, ev_if_gt, ev_icmp_le, ev_if_le, ev_ifnull0, ev_ifnull1, ev_ifnn0, ev_ifnn1, ev_tsw, ev_lsw, ev_iret, ev_zret, ev_lret, ev_aret, ev_ret, ev_call0, ev_call1, ev_call2, ev_call3, ev_call4, ev_call5, ev_call6, Option.toList_some, Option.toList_none, List.cons_append, List.nil_append, List.length_cons, List.length_nil, Nat.reduceMod, Nat.reduceDiv, Nat.reduceAdd, Nat.reduceLeDiff, nc, ↓reduceIte, Nat.zero_le, reduceCtorEq, w32_id, Int.reduceEq, Int.reduceNe, Int.reduceLT, Int.reduceLE, Int.reduceGT, Int.reduceGE, Int.reduceAdd, Int.reduceSub, Int.reduceMul, Int.reduceNeg, ne_eq, not_true_eq_false, not_false_eq_true, eq_self, r_colourOf, r_own, k_311_7, J_311_0, k_311_0, J_311_28, k_311_28, J_311_48, k_311_48, J_311_54, k_311_54, em, q0, f10, q1, i1, nc_s, up_ne]
    · have hqf : ¬ q i = true := by rw [hqi]; exact fun z => q1 (of_decide_eq_true z)
      have e4 : cntB q (i + 1) = cntB q i := by rw [cntB_s, if_neg hqf]; omega
      refine ⟨_, M', ⟨rfl, fr, fr1, by rw [e4]; exact i1, by rw [e4]; exact i3⟩, ?_⟩
      simp (disch := first | assumption | decide | omega | (simp only [List.length_cons, List.length_nil] <;> omega)) only [lgt_0, lgt_s, lset_0, lset_s, lst1_0, lst1_s, lst2_0, lst2_s, ev_iconst, ev_lconst, ev_ldc, ev_null, ev_iload, ev_lload, ev_aload, ev_istore, ev_lstore, ev_astore, ev_iinc, ev_iadd, ev_isub, ev_imul, ev_iand, ev_ior, ev_ishl, ev_ishr, ev_idiv, ev_irem, ev_ineg, ev_ladd, ev_lsub, ev_lmul, ev_land, ev_lor, ev_ldiv, ev_lrem, ev_lshl, ev_i2l, ev_l2i, ev_i2b, ev_i2s, ev_lcmp, ev_dupI, ev_dupR, ev_dup2, ev_popI, ev_popR, ev_alen, ev_xlen, ev_xald, ev_iald, ev_lald, ev_bald, ev_zald, ev_aald, ev_iast, ev_last, ev_bast, ev_zast, ev_aast, ev_gfI, ev_gfL, ev_gfR, ev_pfI, ev_pfZ, ev_pfL, ev_pfR, ev_new, ev_newa, ev_newq, ev_copy, ev_slen, ev_schr, ev_obj, ev_mmin, ev_mabs, ev_mmax, ev_goto, ev_jsr, ev_icmp_eq, ev_if_eq, ev_icmp_ne, ev_if_ne, ev_icmp_lt, ev_if_lt, ev_icmp_ge, ev_if_ge, ev_icmp_gt, ev_if_gt, ev_icmp_le, ev_if_le, ev_ifnull0, ev_ifnull1, ev_ifnn0, ev_ifnn1, ev_tsw, ev_lsw, ev_iret, ev_zret, ev_lret, ev_aret, ev_ret, ev_call0, ev_call1, ev_call2, ev_call3, ev_call4, ev_call5, ev_call6, Option.toList_some, Option.toList_none, List.cons_append, List.nil_append, List.length_cons, List.length_nil, Nat.reduceMod, Nat.reduceDiv, Nat.reduceAdd, Nat.reduceLeDiff, nc, ↓reduceIte, Nat.zero_le, reduceCtorEq, w32_id, Int.reduceEq, Int.reduceNe, Int.reduceLT, Int.reduceLE, Int.reduceGT, Int.reduceGE, Int.reduceAdd, Int.reduceSub, Int.reduceMul, Int.reduceNeg, ne_eq, not_true_eq_false, not_false_eq_true, eq_self, r_colourOf, r_own, k_311_7, J_311_0, k_311_0, J_311_28, k_311_28, J_311_48, k_311_48, J_311_54, k_311_54, em, q0, f10, q1, nc_s]) [some (vR (some m)), some (vI k), some (vI 0)] (up M m 36 0) ⟨rfl, fun b h0 _ => by rw [up_ne h0], fun i hi => by rw [up_ne2 hi], by rw [up_eq]; rfl, fun x x0 x1 => by have : cntB q 0 = 0 := rfl; omega⟩
  subst hls
  refine ⟨M', fr, fr1, i1, i3, ?_⟩
  have fa := fr (m + 1) (by omega) (by omega)
  have em := m_many (X := X) (M := M') hmd (by rw [fa]; exact gs)
  rw [fa, hn] at em
  have e : ((n.toNat : Nat) : Int) = n := by omega
  have q0 : n ≤ n := Int.le_refl _
  rw [E_311 hk0]
  simp (disch := first | assumption | decide | omega | (simp only [List.length_cons, List.length_nil] <;> omega)) only [lgt_0, lgt_s, lset_0, lset_s, lst1_0, lst1_s, lst2_0, lst2_s, ev_iconst, ev_lconst, ev_ldc, ev_null, ev_iload, ev_lload, ev_aload, ev_istore, ev_lstore, ev_astore, ev_iinc, ev_iadd, ev_isub, ev_imul, ev_iand, ev_ior, ev_ishl, ev_ishr, ev_idiv, ev_irem, ev_ineg, ev_ladd, ev_lsub, ev_lmul, ev_land, ev_lor, ev_ldiv, ev_lrem, ev_lshl, ev_i2l, ev_l2i, ev_i2b, ev_i2s, ev_lcmp, ev_dupI, ev_dupR, ev_dup2, ev_popI, ev_popR, ev_alen, ev_xlen, ev_xald, ev_iald, ev_lald, ev_bald, ev_zald, ev_aald, ev_iast, ev_last, ev_bast, ev_zast, ev_aast, ev_gfI, ev_gfL, ev_gfR, ev_pfI, ev_pfZ, ev_pfL, ev_pfR, ev_new, ev_newa, ev_newq, ev_copy, ev_slen, ev_schr, ev_obj, ev_mmin, ev_mabs, ev_mmax, ev_goto, ev_jsr, ev_icmp_eq, ev_if_eq, ev_icmp_ne, ev_if_ne, ev_icmp_lt, ev_if_lt, ev_icmp_ge, ev_if_ge, ev_icmp_gt, ev_if_gt, ev_icmp_le, ev_if_le, ev_ifnull0, ev_ifnull1, ev_ifnn0, ev_ifnn1, ev_tsw, ev_lsw, ev_iret, ev_zret, ev_lret, ev_aret, ev_ret, ev_call0, ev_call1, ev_call2, ev_call3, ev_call4, ev_call5, ev_call6, Option.toList_some, Option.toList_none, List.cons_append, List.nil_append, List.length_cons, List.length_nil, Nat.reduceMod, Nat.reduceDiv, Nat.reduceAdd, Nat.reduceLeDiff, nc, ↓reduceIte, Nat.zero_le, reduceCtorEq, w32_id, Int.reduceEq, Int.reduceNe, Int.reduceLT, Int.reduceLE, Int.reduceGT, Int.reduceGE, Int.reduceAdd, Int.reduceSub, Int.reduceMul, Int.reduceNeg, ne_eq, not_true_eq_false, not_false_eq_true, eq_self, J_311_0, k_311_0, J_311_28, k_311_28, J_311_48, k_311_48, J_311_54, k_311_54]
  rw [he]
  simp (disch := first | assumption | decide | omega | (simp only [List.length_cons, List.length_nil] <;> omega)) only [lgt_0, lgt_s, lset_0, lset_s, lst1_0, lst1_s, lst2_0, lst2_s, ev_iconst, ev_lconst, ev_ldc, ev_null, ev_iload, ev_lload, ev_aload, ev_istore, ev_lstore, ev_astore, ev_iinc, ev_iadd, ev_isub, ev_imul, ev_iand, ev_ior, ev_ishl, ev_ishr, ev_idiv, ev_irem, ev_ineg, ev_ladd, ev_lsub, ev_lmul, ev_land, ev_lor, ev_ldiv, ev_lrem, ev_lshl, ev_i2l, ev_l2i, ev_i2b, ev_i2s, ev_lcmp, ev_dupI, ev_dupR, ev_dup2, ev_popI, ev_popR, ev_alen, ev_xlen, ev_xald, ev_iald, ev_lald, ev_bald, ev_zald, ev_aald, ev_iast, ev_last, ev_bast, ev_zast, ev_aast, ev_gfI, ev_gfL, ev_gfR, ev_pfI, ev_pfZ, ev_pfL, ev_pfR, ev_new, ev_newa, ev_newq, ev_copy, ev_slen, ev_schr, ev_obj, ev_mmin, ev_mabs, ev_mmax, ev_goto, ev_jsr, ev_icmp_eq, ev_if_eq, ev_icmp_ne, ev_if_ne, ev_icmp_lt, ev_if_lt, ev_icmp_ge, ev_if_ge, ev_icmp_gt, ev_if_gt, ev_icmp_le, ev_if_le, ev_ifnull0, ev_ifnull1, ev_ifnn0, ev_ifnn1, ev_tsw, ev_lsw, ev_iret, ev_zret, ev_lret, ev_aret, ev_ret, ev_call0, ev_call1, ev_call2, ev_call3, ev_call4, ev_call5, ev_call6, Option.toList_some, Option.toList_none, List.cons_append, List.nil_append, List.length_cons, List.length_nil, Nat.reduceMod, Nat.reduceDiv, Nat.reduceAdd, Nat.reduceLeDiff, nc, ↓reduceIte, Nat.zero_le, reduceCtorEq, w32_id, Int.reduceEq, Int.reduceNe, Int.reduceLT, Int.reduceLE, Int.reduceGT, Int.reduceGE, Int.reduceAdd, Int.reduceSub, Int.reduceMul, Int.reduceNeg, ne_eq, not_true_eq_false, not_false_eq_true, eq_self, k_311_7, J_311_0, k_311_0, J_311_28, k_311_28, J_311_48, k_311_48, J_311_54, k_311_54, em, e, q0]
/-- a square of weights, priced: what comes of it -/
theorem m_square (h : MD Sh m) (g : goodM M m) (gv : goodV M m) {byc al : Int} (hal : al = if byc = 0 then 2 * M (m + 1) 3 else 1) (hal2 : 0 ≤ al ∧ al ≤ 198) {q : Int → Bool} {c : Int} (hc : c = cntB q (M (m + 1) 0 * M (m + 1) 1).toNat) {M1 : Mem}
    (hw : ∀ i j, 0 ≤ i → i < c → 0 ≤ j → j < c → M1 (m + 12) (56 * i + j) = if lnkM M m byc (ownB q (M (m + 1) 0 * M (m + 1) 1).toNat i) (ownB q (M (m + 1) 0 * M (m + 1) 1).toNat j) < al then lnkM M m byc (ownB q (M (m + 1) 0 * M (m + 1) 1).toNat i) (ownB q (M (m + 1) 0 * M (m + 1) 1).toNat j) else al) :
    ∃ M2, frm (m + 13) (m + 18) M1 M2 ∧ evc X 312 [vR (some m), vI c, vI c] Sh M1 = some (some (vI (lstM M m byc q q)), Sh, M2) ∧ 0 ≤ lstM M m byc q q ∧ lstM M m byc q q ≤ 9504 := by
  have hn2 := many_le (m := m) g.1.1
  generalize hn : M (m + 1) 0 * M (m + 1) 1 = n at hn2 hc hw
  have c0 := cntB_rng (q := q) (i := n.toNat)
  have lr : ∀ i j, 0 ≤ lnkM M m byc i j ∧ lnkM M m byc i j ≤ 1000000 := fun i j => lnk_rng g.1 gv
  have sk : SKm c c (fun x c => M1 (m + 12) (56 * (x - 1) + c - 1)) m M1 := by
    refine ⟨by omega, fun x k hx hk => ?_, fun _ _ => rfl⟩
    have x0 := hx.1
    have x1 := hx.2
    have k0 := hk.1
    have k1 := hk.2
    have e := hw (x - 1) (k - 1) (by omega) (by omega) (by omega) (by omega)
    rw [show 56 * (x - 1) + (k - 1) = 56 * (x - 1) + k - 1 by omega] at e
    dsimp only
    rw [e]
    have := lr (ownB q n.toNat (x - 1)) (ownB q n.toNat (k - 1))
    split <;> omega
  obtain ⟨v, M2, hA, fr, e⟩ := m_gives0 (X := X) h sk
  have hM := min_of_asg (a := fun x k => lnkM M m byc (ownB q n.toNat x) (ownB q n.toNat k)) (al := al) (n := c.toNat) hA (Nat.le_refl _) (Nat.le_refl _) (fun x k hx hk => by
    have e := hw x k (by omega) (by omega) (by omega) (by omega)
    rw [show (56 : Int) * x + k = 56 * ((x : Int) + 1 - 1) + (k + 1) - 1 by omega] at e
    exact e) (fun x k hx h1 h2 => by omega)
  have hM2 := min_tr hM
  have hv : lstM M m byc q q = v := by
    rw [← lstF_is hM2]
    subst hn
    unfold lstM lstV
    rw [← hal, ← hc]
  have vr := isMin_rng hM2 (fun x k _ _ => (lr _ _).1) hal2.1
  have vr2 : ((c.toNat : Nat) : Int) * al ≤ 48 * 198 := Int.mul_le_mul (by omega) (by omega) (by omega) (by omega)
  exact ⟨M2, fr, by rw [hv]; exact e, by omega, by omega⟩
theorem wayF_no {S H P R : Int → Int} {n i j : Int} (h : j ≤ i) : wayF S H P R n i j = 0 := by
  unfold wayF wayV
  rw [if_neg (by omega)]
theorem m_leastOf (h : MD Sh m) (g : goodM M m) (gv : goodV M m) {k : Int} : ∃ M', frmM m M M' ∧ evc X 310 [vR (some m), vI k] Sh M = some (some (vI (lstHM M m 0 k)), Sh, M') ∧ 0 ≤ lstHM M m 0 k ∧ lstHM M m 0 k ≤ 9504 := by
  have hmd := h
  have hk0 := h.1; obtain ⟨r_at, k_at, l_at⟩ := md_at h; obtain ⟨r_weight, k_weight, l_weight⟩ := md_weight h; obtain ⟨r_own, k_own, l_own⟩ := md_own h
  obtain ⟨M1, f1, f1m, c1, o1, e311⟩ := m_gathers (X := X) hmd g.1.1 (k := k) rfl
  have g3 := g.1.1.2.2.2.1
  have hn2 := many_le (m := m) g.1.1
  generalize hq : (fun i => decide (M (m + 10) i = k)) = q at c1 o1
  generalize hn : M (m + 1) 0 * M (m + 1) 1 = n at c1 o1 hn2
  have c0 := cntB_rng (q := q) (i := n.toNat)
  generalize hc : cntB q n.toNat = c at c1 o1 c0
  have h1 := f1 (m + 1) (by omega) (by omega)
  have own_r : ∀ x, 0 ≤ x → x < c → 0 ≤ ownB q n.toNat x ∧ ownB q n.toNat x < n := fun x x0 x1 => by
    obtain ⟨i, i1, i2, i3, i4⟩ := ownB_ex (q := q) (n := n.toNat) x0 (by omega)
    rw [i4]; omega
  have fw : ∀ M' : Mem, (∀ b, b ≠ m + 12 → M' b = M1 b) → M' (m + 1) = M (m + 1) ∧ M' (m + 9) = M (m + 9) ∧ M' (m + 10) = M (m + 10) ∧ M' (m + 19) = M1 (m + 19) ∧ M' m = M1 m := fun M' fr => ⟨by rw [fr _ (by omega), h1], by rw [fr _ (by omega), f1 _ (by omega) (by omega)], by rw [fr _ (by omega), f1 _ (by omega) (by omega)], fr _ (by omega), fr _ (by omega)⟩
  obtain ⟨ls', M2, ⟨w4, hls, fr, i1⟩, he⟩ := ev_for (X := X) (y := 310) (Sh := Sh) (fun i ls M' => ∃ w4, ls = [some (vR (some m)), some (vI k), some (vI (2 * M (m + 1) 3)), some (vI (i : Int)), w4] ∧ (∀ b, b ≠ m + 12 → M' b = M1 b) ∧ (∀ x y : Int, 0 ≤ x → x < i → 0 ≤ y → y < c → M' (m + 12) (56 * x + y) = if lnkM M m 0 (ownB q n.toNat x) (ownB q n.toNat y) < 2 * M (m + 1) 3 then lnkM M m 0 (ownB q n.toNat x) (ownB q n.toNat y) else 2 * M (m + 1) 3)) J_310_16 c.toNat (fun i hi ls M' hI => by
    obtain ⟨w4, hls, fr, i1⟩ := hI
    subst hls
    obtain ⟨a1, a2, a3, a4, a5⟩ := fw M' fr
    have q0 : ¬ c ≤ (i : Int) := by omega
    have oi := own_r i (by omega) (by omega)
    have oi2 := o1 i (by omega) (by omega)
    obtain ⟨ls2, M2, ⟨hls2, fr2, j1, j2⟩, he2⟩ := ev_for (X := X) (y := 310) (Sh := Sh) (fun j ls M2 => ls = [some (vR (some m)), some (vI k), some (vI (2 * M (m + 1) 3)), some (vI (i : Int)), some (vI (j : Int))] ∧ (∀ b, b ≠ m + 12 → M2 b = M1 b) ∧ (∀ x y : Int, 0 ≤ x → x < i → 0 ≤ y → y < c → M2 (m + 12) (56 * x + y) = if lnkM M m 0 (ownB q n.toNat x) (ownB q n.toNat y) < 2 * M (m + 1) 3 then lnkM M m 0 (ownB q n.toNat x) (ownB q n.toNat y) else 2 * M (m + 1) 3) ∧ (∀ y : Int, 0 ≤ y → y < j → M2 (m + 12) (56 * (i : Int) + y) = if lnkM M m 0 (ownB q n.toNat i) (ownB q n.toNat y) < 2 * M (m + 1) 3 then lnkM M m 0 (ownB q n.toNat i) (ownB q n.toNat y) else 2 * M (m + 1) 3)) J_310_27 c.toNat (fun j hj ls M2 hI => by
      obtain ⟨hls, fr2, j1, j2⟩ := hI
      subst hls
      obtain ⟨b1, b2, b3, b4, b5⟩ := fw M2 fr2
      have q1 : ¬ c ≤ (j : Int) := by omega
      have oj := own_r j (by omega) (by omega)
      have oj2 := o1 j (by omega) (by omega)
      generalize hwv : (if lnkM M m 0 (ownB q n.toNat i) (ownB q n.toNat j) < 2 * M (m + 1) 3 then lnkM M m 0 (ownB q n.toNat i) (ownB q n.toNat j) else 2 * M (m + 1) 3) = wv
      refine ⟨_, up M2 (m + 12) (56 * (i : Int) + j) wv, ⟨rfl, fun b hb => by simp (disch := omega) only [up_ne, up_eq, up_ne2]; exact fr2 b hb, fun x y x0 x1 y0 y1 => by simp (disch := omega) only [up_ne, up_eq, up_ne2]; exact j1 x y x0 x1 y0 y1, fun y y0 y1 => ?_⟩, ?_⟩
      · by_cases z : y = j
        · subst z
          simp (disch := omega) only [up_ne, up_eq, up_ne2]
          exact hwv.symm
        · simp (disch := omega) only [up_ne, up_eq, up_ne2]
          exact j2 y y0 (by omega)
      · by_cases q2 : (i : Int) < j
        · have q2' : ¬ (j : Int) ≤ i := by omega
          have lt := ownB_mono (q := q) (n := n.toNat) (x := i) (y := j) (by omega) q2 (by omega)
          have ew := m_way (X := X) (M := M2) hmd (goodM_c b1 b2 b3 g) (i := ownB q n.toNat i) (j := ownB q n.toNat j) oi.1 lt (by rw [b1, hn]; exact oj.2)
          have ew : evc X 277 [vR (some m), vI (ownB q n.toNat i), vI (ownB q n.toNat j)] Sh M2 = some (some (vI (wayM M m (ownB q n.toNat i) (ownB q n.toNat j))), Sh, M2) := by
            rw [ew, b1, b2, b3]
          have wr : 0 ≤ wayM M m (ownB q n.toNat i) (ownB q n.toNat j) := wayF_rng.1
          have lk : lnkM M m 0 (ownB q n.toNat i) (ownB q n.toNat j) = if wayM M m (ownB q n.toNat i) (ownB q n.toNat j) = 0 then 1000000 else priM M m (ownB q n.toNat i) (ownB q n.toNat j) := by
            unfold lnkM lnk
            rw [if_pos (c := (0 : Int) = 0) rfl]
          by_cases q3 : wayM M m (ownB q n.toNat i) (ownB q n.toNat j) = 0
          · rw [lk, if_pos q3, if_neg (by omega)] at hwv
            rw [q3] at ew
            simp (disch := first | assumption | decide | omega | (simp only [List.length_cons, List.length_nil] <;> omega)) only [lgt_0, lgt_s, lset_0, lset_s, lst1_0, lst1_s, lst2_0, lst2_s, ev_iconst, ev_lconst, ev_ldc, ev_null, ev_iload, ev_lload, ev_aload, ev_istore, ev_lstore, ev_astore, ev_iinc, ev_iadd, ev_isub, ev_imul, ev_iand, ev_ior, ev_ishl, ev_ishr, ev_idiv, ev_irem, ev_ineg, ev_ladd, ev_lsub, ev_lmul, ev_land, ev_lor, ev_ldiv, ev_lrem, ev_lshl, ev_i2l, ev_l2i, ev_i2b, ev_i2s, ev_lcmp, ev_dupI, ev_dupR, ev_dup2, ev_popI, ev_popR, ev_alen, ev_xlen, ev_xald, ev_iald, ev_lald, ev_bald, ev_zald, ev_aald, ev_iast, ev_last, ev_bast, ev_zast, ev_aast, ev_gfI, ev_gfL, ev_gfR, ev_pfI, ev_pfZ, ev_pfL, ev_pfR, ev_new, ev_newa, ev_newq, ev_copy, ev_slen, ev_schr, ev_obj, ev_mmin, ev_mabs, ev_mmax, ev_goto, ev_jsr, ev_icmp_eq, ev_if_eq, ev_icmp_ne, ev_if_ne, ev_icmp_lt, ev_if_lt, ev_icmp_ge, ev_if_ge, ev_icmp_gt, ev_if_gt, ev_icmp_le, ev_if_le, ev_ifnull0, ev_ifnull1, ev_ifnn0, ev_ifnn1, ev_tsw, ev_lsw, ev_iret, ev_zret, ev_lret, ev_aret, ev_ret, ev_call0, ev_call1, ev_call2, ev_call3, ev_call4, ev_call5, ev_call6, Option.toList_some, Option.toList_none, List.cons_append, List.nil_append, List.length_cons, List.length_nil, Nat.reduceMod, Nat.reduceDiv, Nat.reduceAdd, Nat.reduceLeDiff, nc, ↓reduceIte, Nat.zero_le, reduceCtorEq, w32_id, Int.reduceEq, Int.reduceNe, Int.reduceLT, Int.reduceLE, Int.reduceGT, Int.reduceGE, Int.reduceAdd, Int.reduceSub, Int.reduceMul, Int.reduceNeg, ne_eq, not_true_eq_false, not_false_eq_true, eq_self, r_own, r_weight, k_310_27, J_310_0, k_310_0, J_310_97, k_310_97, J_310_98, k_310_98, J_310_105, k_310_105, J_310_111, k_310_111, b5, c1, q1, q2', b4, oi2, oj2, ew, hwv, nc_s]
          · have ec := m_costOf (X := X) (M := M2) hmd (goodM_c b1 b2 b3 g) (goodV_c b1 gv) (i := ownB q n.toNat i) (j := ownB q n.toNat j) oi.1 lt (by rw [b1, hn]; exact oj.2) (by rw [b1, b2, b3]; exact q3)
            have ec : evc X 279 [vR (some m), vI (ownB q n.toNat i), vI (ownB q n.toNat j)] Sh M2 = some (some (vI (priM M m (ownB q n.toNat i) (ownB q n.toNat j))), Sh, M2) := by
              rw [ec, b1, b2, b3]
            rw [lk, if_neg q3] at hwv
            generalize wayM M m (ownB q n.toNat i) (ownB q n.toNat j) = w at ew wr q3
            have q3' : ¬ w ≤ 0 := by omega
            generalize priM M m (ownB q n.toNat i) (ownB q n.toNat j) = pr at ec hwv
            simp (disch := first | assumption | decide | omega | (simp only [List.length_cons, List.length_nil] <;> omega)) only [lgt_0, lgt_s, lset_0, lset_s, lst1_0, lst1_s, lst2_0, lst2_s, ev_iconst, ev_lconst, ev_ldc, ev_null, ev_iload, ev_lload, ev_aload, ev_istore, ev_lstore, ev_astore, ev_iinc, ev_iadd, ev_isub, ev_imul, ev_iand, ev_ior, ev_ishl, ev_ishr, ev_idiv, ev_irem, ev_ineg, ev_ladd, ev_lsub, ev_lmul, ev_land, ev_lor, ev_ldiv, ev_lrem, ev_lshl, ev_i2l, ev_l2i, ev_i2b, ev_i2s, ev_lcmp, ev_dupI, ev_dupR, ev_dup2, ev_popI, ev_popR, ev_alen, ev_xlen, ev_xald, ev_iald, ev_lald, ev_bald, ev_zald, ev_aald, ev_iast, ev_last, ev_bast, ev_zast, ev_aast, ev_gfI, ev_gfL, ev_gfR, ev_pfI, ev_pfZ, ev_pfL, ev_pfR, ev_new, ev_newa, ev_newq, ev_copy, ev_slen, ev_schr, ev_obj, ev_mmin, ev_mabs, ev_mmax, ev_goto, ev_jsr, ev_icmp_eq, ev_if_eq, ev_icmp_ne, ev_if_ne, ev_icmp_lt, ev_if_lt, ev_icmp_ge, ev_if_ge, ev_icmp_gt, ev_if_gt, ev_icmp_le, ev_if_le, ev_ifnull0, ev_ifnull1, ev_ifnn0, ev_ifnn1, ev_tsw, ev_lsw, ev_iret, ev_zret, ev_lret, ev_aret, ev_ret, ev_call0, ev_call1, ev_call2, ev_call3, ev_call4, ev_call5, ev_call6, Option.toList_some, Option.toList_none, List.cons_append, List.nil_append, List.length_cons, List.length_nil, Nat.reduceMod, Nat.reduceDiv, Nat.reduceAdd, Nat.reduceLeDiff, nc, ↓reduceIte, Nat.zero_le, reduceCtorEq, w32_id, Int.reduceEq, Int.reduceNe, Int.reduceLT, Int.reduceLE, Int.reduceGT, Int.reduceGE, Int.reduceAdd, Int.reduceSub, Int.reduceMul, Int.reduceNeg, ne_eq, not_true_eq_false, not_false_eq_true, eq_self, r_own, r_weight, k_310_27, J_310_0, k_310_0, J_310_97, k_310_97, J_310_98, k_310_98, J_310_105, k_310_105, J_310_111, k_310_111, b5, c1, q1, q2', b4, oi2, oj2, ew, q3', ec, hwv, nc_s]
        · have q2' : (j : Int) ≤ i := by omega
          have le : ownB q n.toNat j ≤ ownB q n.toNat i := by
            by_cases z : (j : Int) = i
            · rw [z]; exact Int.le_refl _
            · have := ownB_mono (q := q) (n := n.toNat) (x := j) (y := i) (by omega) (by omega) (by omega)
              omega
          have lk : lnkM M m 0 (ownB q n.toNat i) (ownB q n.toNat j) = 1000000 := by
            unfold lnkM lnk
            rw [if_pos (wayF_no le)]
          rw [lk, if_neg (by omega)] at hwv
          simp (disch := first | assumption | decide | omega | (simp only [List.length_cons, List.length_nil] <;> omega)) only [lgt_0, lgt_s, lset_0, lset_s, lst1_0, lst1_s, lst2_0, lst2_s, ev_iconst, ev_lconst, ev_ldc, ev_null, ev_iload, ev_lload, ev_aload, ev_istore, ev_lstore, ev_astore, ev_iinc, ev_iadd, ev_isub, ev_imul, ev_iand, ev_ior, ev_ishl, ev_ishr, ev_idiv, ev_irem, ev_ineg, ev_ladd, ev_lsub, ev_lmul, ev_land, ev_lor, ev_ldiv, ev_lrem, ev_lshl, ev_i2l, ev_l2i, ev_i2b, ev_i2s, ev_lcmp, ev_dupI, ev_dupR, ev_dup2, ev_popI, ev_popR, ev_alen, ev_xlen, ev_xald, ev_iald, ev_lald, ev_bald, ev_zald, ev_aald, ev_iast, ev_last, ev_bast, ev_zast, ev_aast, ev_gfI, ev_gfL, ev_gfR, ev_pfI, ev_pfZ, ev_pfL, ev_pfR, ev_new, ev_newa, ev_newq, ev_copy, ev_slen, ev_schr, ev_obj, ev_mmin, ev_mabs, ev_mmax, ev_goto, ev_jsr, ev_icmp_eq, ev_if_eq, ev_icmp_ne, ev_if_ne, ev_icmp_lt, ev_if_lt, ev_icmp_ge, ev_if_ge, ev_icmp_gt, ev_if_gt, ev_icmp_le, ev_if_le, ev_ifnull0, ev_ifnull1, ev_ifnn0, ev_ifnn1, ev_tsw, ev_lsw, ev_iret, ev_zret, ev_lret, ev_aret, ev_ret, ev_call0, ev_call1, ev_call2, ev_call3, ev_call4, ev_call5, ev_call6, Option.toList_some, Option.toList_none, List.cons_append, List.nil_append, List.length_cons, List.length_nil, Nat.reduceMod, Nat.reduceDiv, Nat.reduceAdd, Nat.reduceLeDiff, nc, ↓reduceIte, Nat.zero_le, reduceCtorEq, w32_id, Int.reduceEq, Int.reduceNe, Int.reduceLT, Int.reduceLE, Int.reduceGT, Int.reduceGE, Int.reduceAdd, Int.reduceSub, Int.reduceMul, Int.reduceNeg, ne_eq, not_true_eq_false, not_false_eq_true, eq_self, r_own, r_weight, k_310_27, J_310_0, k_310_0, J_310_97, k_310_97, J_310_98, k_310_98, J_310_105, k_310_105, J_310_111, k_310_111, b5, c1, q1, q2', hwv, nc_s]) [some (vR (some m)), some (vI k), some (vI (2 * M (m + 1) 3)), some (vI (i : Int)), some (vI 0)] M' ⟨rfl, fr, i1, fun y y0 y1 => by omega⟩
    subst hls2
    obtain ⟨d1, d2, d3, d4, d5⟩ := fw M2 fr2
    have e : ((c.toNat : Nat) : Int) = c := by omega
    rw [e] at he2 j2
    refine ⟨_, M2, ⟨some (vI c), rfl, fr2, fun x y x0 x1 y0 y1 => ?_⟩, ?_⟩
    · by_cases z : x = i
      · subst z; exact j2 y y0 y1
      · exact j1 x y x0 (by omega) y0 y1
    · have q2 : c ≤ c := Int.le_refl c
      simp (disch := first | assumption | decide | omega | (simp only [List.length_cons, List.length_nil] <;> omega)) only [lgt_0, lgt_s, lset_0, lset_s, lst1_0, lst1_s, lst2_0, lst2_s, ev_iconst, ev_lconst, ev_ldc, ev_null, ev_iload, ev_lload, ev_aload, ev_istore, ev_lstore, ev_astore, ev_iinc, ev_iadd, ev_isub, ev_imul, ev_iand, ev_ior, ev_ishl, ev_ishr, ev_idiv, ev_irem, ev_ineg, ev_ladd, ev_lsub, ev_lmul, ev_land, ev_lor, ev_ldiv, ev_lrem, ev_lshl, ev_i2l, ev_l2i, ev_i2b, ev_i2s, ev_lcmp, ev_dupI, ev_dupR, ev_dup2, ev_popI, ev_popR, ev_alen, ev_xlen, ev_xald, ev_iald, ev_lald, ev_bald, ev_zald, ev_aald, ev_iast, ev_last, ev_bast, ev_zast, ev_aast, ev_gfI, ev_gfL, ev_gfR, ev_pfI, ev_pfZ, ev_pfL, ev_pfR, ev_new, ev_newa, ev_newq, ev_copy, ev_slen, ev_schr, ev_obj, ev_mmin, ev_mabs, ev_mmax, ev_goto, ev_jsr, ev_icmp_eq, ev_if_eq, ev_icmp_ne, ev_if_ne, ev_icmp_lt, ev_if_lt, ev_icmp_ge, ev_if_ge, ev_icmp_gt, ev_if_gt, ev_icmp_le, ev_if_le, ev_ifnull0, ev_ifnull1, ev_ifnn0, ev_ifnn1, ev_tsw, ev_lsw, ev_iret, ev_zret, ev_lret, ev_aret, ev_ret, ev_call0, ev_call1, ev_call2, ev_call3, ev_call4, ev_call5, ev_call6, Option.toList_some, Option.toList_none, List.cons_append, List.nil_append, List.length_cons, List.length_nil, Nat.reduceMod, Nat.reduceDiv, Nat.reduceAdd, Nat.reduceLeDiff, nc, ↓reduceIte, Nat.zero_le, reduceCtorEq, w32_id, Int.reduceEq, Int.reduceNe, Int.reduceLT, Int.reduceLE, Int.reduceGT, Int.reduceGE, Int.reduceAdd, Int.reduceSub, Int.reduceMul, Int.reduceNeg, ne_eq, not_true_eq_false, not_false_eq_true, eq_self, k_310_16, J_310_0, k_310_0, J_310_97, k_310_97, J_310_98, k_310_98, J_310_105, k_310_105, J_310_111, k_310_111, a5, c1, q0]
      rw [he2]
      simp (disch := first | assumption | decide | omega | (simp only [List.length_cons, List.length_nil] <;> omega)) only [lgt_0, lgt_s, lset_0, lset_s, lst1_0, lst1_s, lst2_0, lst2_s, ev_iconst, ev_lconst, ev_ldc, ev_null, ev_iload, ev_lload, ev_aload, ev_istore, ev_lstore, ev_astore, ev_iinc, ev_iadd, ev_isub, ev_imul, ev_iand, ev_ior, ev_ishl, ev_ishr, ev_idiv, ev_irem, ev_ineg, ev_ladd, ev_lsub, ev_lmul, ev_land, ev_lor, ev_ldiv, ev_lrem, ev_lshl, ev_i2l, ev_l2i, ev_i2b, ev_i2s, ev_lcmp, ev_dupI, ev_dupR, ev_dup2, ev_popI, ev_popR, ev_alen, ev_xlen, ev_xald, ev_iald, ev_lald, ev_bald, ev_zald, ev_aald, ev_iast, ev_last, ev_bast, ev_zast, ev_aast, ev_gfI, ev_gfL, ev_gfR, ev_pfI, ev_pfZ, ev_pfL, ev_pfR, ev_new, ev_newa, ev_newq, ev_copy, ev_slen, ev_schr, ev_obj, ev_mmin, ev_mabs, ev_mmax, ev_goto, ev_jsr, ev_icmp_eq, ev_if_eq, ev_icmp_ne, ev_if_ne, ev_icmp_lt, ev_if_lt, ev_icmp_ge, ev_if_ge, ev_icmp_gt, ev_if_gt, ev_icmp_le, ev_if_le, ev_ifnull0, ev_ifnull1, ev_ifnn0, ev_ifnn1, ev_tsw, ev_lsw, ev_iret, ev_zret, ev_lret, ev_aret, ev_ret, ev_call0, ev_call1, ev_call2, ev_call3, ev_call4, ev_call5, ev_call6, Option.toList_some, Option.toList_none, List.cons_append, List.nil_append, List.length_cons, List.length_nil, Nat.reduceMod, Nat.reduceDiv, Nat.reduceAdd, Nat.reduceLeDiff, nc, ↓reduceIte, Nat.zero_le, reduceCtorEq, w32_id, Int.reduceEq, Int.reduceNe, Int.reduceLT, Int.reduceLE, Int.reduceGT, Int.reduceGE, Int.reduceAdd, Int.reduceSub, Int.reduceMul, Int.reduceNeg, ne_eq, not_true_eq_false, not_false_eq_true, eq_self, k_310_27, J_310_0, k_310_0, J_310_97, k_310_97, J_310_98, k_310_98, J_310_105, k_310_105, J_310_111, k_310_111, d5, c1, q2, nc_s]) [some (vR (some m)), some (vI k), some (vI (2 * M (m + 1) 3)), some (vI 0), none] M1 ⟨none, rfl, fun _ _ => rfl, fun x y x0 x1 => by omega⟩
  subst hls
  have e : ((c.toNat : Nat) : Int) = c := by omega
  rw [e] at he i1
  obtain ⟨d1, d2, d3, d4, d5⟩ := fw M2 fr
  obtain ⟨M3, fr3, e312, l0, l1⟩ := m_square (X := X) (M := M) hmd g gv (byc := 0) (al := 2 * M (m + 1) 3) (by rw [if_pos rfl]) (by omega) (q := q) (c := c) (by rw [hn]; exact hc.symm) (M1 := M2) (fun i j x0 x1 y0 y1 => by rw [hn]; exact i1 i j x0 x1 y0 y1)
  have hv : lstM M m 0 q q = lstHM M m 0 k := by rw [← hq]; rfl
  rw [hv] at e312 l0 l1
  refine ⟨M3, ⟨fun b b0 b1 => by rw [fr3 b (by omega), fr b (by omega), f1 b b0 (by omega)], fun i hi => by rw [fr3 m (by omega), d5]; exact f1m i hi⟩, ?_, l0, l1⟩
  rw [E_310 hk0]
  simp (disch := first | assumption | decide | omega | (simp only [List.length_cons, List.length_nil] <;> omega)) only [lgt_0, lgt_s, lset_0, lset_s, lst1_0, lst1_s, lst2_0, lst2_s, ev_iconst, ev_lconst, ev_ldc, ev_null, ev_iload, ev_lload, ev_aload, ev_istore, ev_lstore, ev_astore, ev_iinc, ev_iadd, ev_isub, ev_imul, ev_iand, ev_ior, ev_ishl, ev_ishr, ev_idiv, ev_irem, ev_ineg, ev_ladd, ev_lsub, ev_lmul, ev_land, ev_lor, ev_ldiv, ev_lrem, ev_lshl, ev_i2l, ev_l2i, ev_i2b, ev_i2s, ev_lcmp, ev_dupI, ev_dupR, ev_dup2, ev_popI, ev_popR, ev_alen, ev_xlen, ev_xald, ev_iald, ev_lald, ev_bald, ev_zald, ev_aald, ev_iast, ev_last, ev_bast, ev_zast, ev_aast, ev_gfI, ev_gfL, ev_gfR, ev_pfI, ev_pfZ, ev_pfL, ev_pfR, ev_new, ev_newa, ev_newq, ev_copy, ev_slen, ev_schr, ev_obj, ev_mmin, ev_mabs, ev_mmax, ev_goto, ev_jsr, ev_icmp_eq, ev_if_eq, ev_icmp_ne, ev_if_ne, ev_icmp_lt, ev_if_lt, ev_icmp_ge, ev_if_ge, ev_icmp_gt, ev_if_gt, ev_icmp_le, ev_if_le, ev_ifnull0, ev_ifnull1, ev_ifnn0, ev_ifnn1, ev_tsw, ev_lsw, ev_iret, ev_zret, ev_lret, ev_aret, ev_ret, ev_call0, ev_call1, ev_call2, ev_call3, ev_call4, ev_call5, ev_call6, Option.toList_some, Option.toList_none, List.cons_append, List.nil_append, List.length_cons, List.length_nil, Nat.reduceMod, Nat.reduceDiv, Nat.reduceAdd, Nat.reduceLeDiff, nc, ↓reduceIte, Nat.zero_le, reduceCtorEq, w32_id, Int.reduceEq, Int.reduceNe, Int.reduceLT, Int.reduceLE, Int.reduceGT, Int.reduceGE, Int.reduceAdd, Int.reduceSub, Int.reduceMul, Int.reduceNeg, ne_eq, not_true_eq_false, not_false_eq_true, eq_self, r_at, J_310_0, k_310_0, J_310_97, k_310_97, J_310_98, k_310_98, J_310_105, k_310_105, J_310_111, k_310_111, e311, h1]
  rw [he]
  have q2 : c ≤ c := Int.le_refl c
  simp (disch := first | assumption | decide | omega | (simp only [List.length_cons, List.length_nil] <;> omega)) only [lgt_0, lgt_s, lset_0, lset_s, lst1_0, lst1_s, lst2_0, lst2_s, ev_iconst, ev_lconst, ev_ldc, ev_null, ev_iload, ev_lload, ev_aload, ev_istore, ev_lstore, ev_astore, ev_iinc, ev_iadd, ev_isub, ev_imul, ev_iand, ev_ior, ev_ishl, ev_ishr, ev_idiv, ev_irem, ev_ineg, ev_ladd, ev_lsub, ev_lmul, ev_land, ev_lor, ev_ldiv, ev_lrem, ev_lshl, ev_i2l, ev_l2i, ev_i2b, ev_i2s, ev_lcmp, ev_dupI, ev_dupR, ev_dup2, ev_popI, ev_popR, ev_alen, ev_xlen, ev_xald, ev_iald, ev_lald, ev_bald, ev_zald, ev_aald, ev_iast, ev_last, ev_bast, ev_zast, ev_aast, ev_gfI, ev_gfL, ev_gfR, ev_pfI, ev_pfZ, ev_pfL, ev_pfR, ev_new, ev_newa, ev_newq, ev_copy, ev_slen, ev_schr, ev_obj, ev_mmin, ev_mabs, ev_mmax, ev_goto, ev_jsr, ev_icmp_eq, ev_if_eq, ev_icmp_ne, ev_if_ne, ev_icmp_lt, ev_if_lt, ev_icmp_ge, ev_if_ge, ev_icmp_gt, ev_if_gt, ev_icmp_le, ev_if_le, ev_ifnull0, ev_ifnull1, ev_ifnn0, ev_ifnn1, ev_tsw, ev_lsw, ev_iret, ev_zret, ev_lret, ev_aret, ev_ret, ev_call0, ev_call1, ev_call2, ev_call3, ev_call4, ev_call5, ev_call6, Option.toList_some, Option.toList_none, List.cons_append, List.nil_append, List.length_cons, List.length_nil, Nat.reduceMod, Nat.reduceDiv, Nat.reduceAdd, Nat.reduceLeDiff, nc, ↓reduceIte, Nat.zero_le, reduceCtorEq, w32_id, Int.reduceEq, Int.reduceNe, Int.reduceLT, Int.reduceLE, Int.reduceGT, Int.reduceGE, Int.reduceAdd, Int.reduceSub, Int.reduceMul, Int.reduceNeg, ne_eq, not_true_eq_false, not_false_eq_true, eq_self, k_310_16, J_310_0, k_310_0, J_310_97, k_310_97, J_310_98, k_310_98, J_310_105, k_310_105, J_310_111, k_310_111, d5, c1, q2, e312]
end MLS
