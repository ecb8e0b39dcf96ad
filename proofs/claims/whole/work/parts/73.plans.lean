/-! OPERATIONS that make plans: clear, plain. -/
abbrev LE : Type := (Int → Int) × (Int → Int)
def jn (p : LE) (i j : Int) : LE := (fun k => if k = i then j else p.1 k, fun k => if k = j then i else p.2 k)
def rmv (p : LE) (i : Int) : LE := (fun k => if k = i then -1 else p.1 k, fun k => if k = p.1 i then -1 else p.2 k)
/-- the class's plan is p; the model's too, in the memories -/
def cP (M : Mem) (p : LE) : Prop := M (13 + 1) = p.1 ∧ M (13 + 2) = p.2
theorem up_fun {M : Mem} {a : Nat} {i z : Int} {f : Int → Int} (h : M a = f) : up M a i z a = fun k => if k = i then z else f k := by
  funext k
  rw [up_at, h]
section PLS
variable {X : Int → Int} {M M' : Mem} {A : Int → Int}
/-- only plans, status, scratch change -/
theorem RR_pl {M M' : Mem} (h0 : ∀ i, i ≠ 0 → M' 0 i = M 0 i) (h1 : ∀ b, 0 < b → b ≠ 14 → b ≠ 15 → (b < 67 ∨ 80 < b) → b ≠ 140 → b ≠ 140 + 1 → (b < 151 ∨ 163 < b) → M' b = M b) (h2 : ∀ i, (i < 36 ∨ 43 < i) → i ≠ 2 → M' 140 i = M 140 i) (h41 : M' 140 41 = M 140 41) (h160 : M' 160 = M 160)
    (h3 : ∀ k, (k < 80 ∨ 128 ≤ k) → M' (140 + 1) k = M (140 + 1) k) (hp : ∀ i, 0 ≤ i → i < 48 → M' (13 + 1) i = M' (140 + 1) (80 + i)) (hl : PLok (M' (13 + 1)) (M' (13 + 2)) (AA M)) (hs : M' 0 0 = M' 140 2) (r : RR' M) : RR M' :=
  ⟨RR_p h0 (fun b b0 b1 b2 b3 => by
    by_cases z : b = 160
    · rw [z]; exact h160
    · exact h1 b b0 (by omega) (by omega) (by omega) (by omega) (by omega) (by omega)) (fun i hi => by
    by_cases z : i = 41
    · rw [z]; exact h41
    · exact h2 i (by omega) (by omega)) h3 ⟨fun i a b => by rw [gA_0 a b]; exact hp i a b, hl⟩ r, hs⟩
theorem m_clears : ∃ M', (∀ b, b ≠ 140 + 1 → M' b = M b) ∧ (∀ k, (k < 80 ∨ 128 ≤ k) → M' (140 + 1) k = M (140 + 1) k) ∧ (∀ i, 0 ≤ i → i < 48 → M' (140 + 1) (80 + i) = -1) ∧ evc X 287 [vR (some 140)] SH0 M = some (none, SH0, M') := by
  have mk0 := w0_k140
  obtain ⟨r_at, k_at, l_at⟩ := md_at w0_md140
  obtain ⟨ls', M2, ⟨hls, fr, i1, i2⟩, he⟩ := ev_for (X := X) (y := 287) (Sh := SH0) (fun i ls M' => ls = [some (vR (some 140)), some (vI (i : Int))] ∧ (∀ b, b ≠ 140 + 1 → M' b = M b) ∧ (∀ k, (k < 80 ∨ 80 + (i : Int) ≤ k) → M' (140 + 1) k = M (140 + 1) k) ∧ (∀ j : Int, 0 ≤ j → j < i → M' (140 + 1) (80 + j) = -1)) J_287_2 48 (fun i hi ls M' hI => by
    obtain ⟨hls, fr, i1, i2⟩ := hI
    subst hls
    refine ⟨_, up M' (140 + 1) (80 + (i : Int)) (-1), ⟨rfl, fun b hb => by simp (disch := omega) only [up_ne, up_eq, up_ne2]; exact fr b hb, fun k hk => by simp (disch := omega) only [up_ne, up_eq, up_ne2]; exact i1 k (by omega), fun j j0 j1 => ?_⟩, ?_⟩
    · by_cases z : j = i
      · subst z; simp (disch := omega) only [up_ne, up_eq, up_ne2]
      · simp (disch := omega) only [up_ne, up_eq, up_ne2]; exact i2 j j0 (by omega)
    · simp (disch := first | assumption | decide | omega | (simp only [List.length_cons, List.length_nil] <;> omega)) only [lgt_0, lgt_s, lset_0, lset_s, lst1_0, lst1_s, lst2_0, lst2_s, ev_iconst, ev_lconst, ev_ldc, ev_null, ev_iload, ev_lload, ev_aload, ev_istore, ev_lstore, ev_astore, ev_iinc, ev_iadd, ev_isub, ev_imul, ev_iand, ev_ior, ev_ishl, ev_ishr, ev_idiv, ev_irem, ev_ineg, ev_ladd, ev_lsub, ev_lmul, ev_land, ev_lor, ev_ldiv, ev_lrem, ev_lshl, ev_i2l, ev_l2i, ev_i2b, ev_i2s, ev_lcmp, ev_dupI, ev_dupR, ev_dup2, ev_popI, ev_popR, ev_alen, ev_xlen, ev_xald, ev_iald, ev_lald, ev_bald, ev_zald, ev_aald, ev_iast, ev_last, ev_bast, ev_zast, ev_aast, ev_gfI, ev_gfL, ev_gfR, ev_pfI, ev_pfZ, ev_pfL, ev_pfR, ev_new, ev_newa, ev_newq, ev_copy, ev_slen, ev_schr, ev_obj, ev_mmin, ev_mabs, ev_mmax, ev_goto, ev_jsr, ev_icmp_eq, ev_if_eq, ev_icmp_ne, ev_if_ne, ev_icmp_lt, ev_if_lt, ev_icmp_ge, ev_if_ge, ev_icmp_gt, ev_if_gt, ev_icmp_le, ev_if_le, ev_ifnull0, ev_ifnull1, ev_ifnn0, ev_ifnn1, ev_tsw, ev_lsw, ev_iret, ev_zret, ev_lret, ev_aret, ev_ret, ev_call0, ev_call1, ev_call2, ev_call3, ev_call4, ev_call5, ev_call6, Option.toList_some, Option.toList_none, List.cons_append, List.nil_append, List.length_cons, List.length_nil, Nat.reduceMod, Nat.reduceDiv, Nat.reduceLeDiff, nc, ↓reduceIte, Nat.zero_le, reduceCtorEq, w32_id, Int.reduceEq, Int.reduceNe, Int.reduceLT, Int.reduceLE, Int.reduceGT, Int.reduceGE, Int.reduceAdd, Int.reduceSub, Int.reduceMul, Int.reduceNeg, ne_eq, not_true_eq_false, not_false_eq_true, eq_self, ↓if_pos, ↓if_neg, J_287_0, k_287_0, J_287_24, k_287_24, k_287_2, r_at, nc_s]) [some (vR (some 140)), some (vI 0)] M ⟨rfl, fun _ _ => rfl, fun _ _ => rfl, fun j a b => by omega⟩
  subst hls
  refine ⟨M2, fr, fun k hk => i1 k (by omega), fun i a b => i2 i a (by omega), ?_⟩
  rw [E_287 mk0]
  simp (disch := first | assumption | decide | omega | (simp only [List.length_cons, List.length_nil] <;> omega)) only [lgt_0, lgt_s, lset_0, lset_s, lst1_0, lst1_s, lst2_0, lst2_s, ev_iconst, ev_lconst, ev_ldc, ev_null, ev_iload, ev_lload, ev_aload, ev_istore, ev_lstore, ev_astore, ev_iinc, ev_iadd, ev_isub, ev_imul, ev_iand, ev_ior, ev_ishl, ev_ishr, ev_idiv, ev_irem, ev_ineg, ev_ladd, ev_lsub, ev_lmul, ev_land, ev_lor, ev_ldiv, ev_lrem, ev_lshl, ev_i2l, ev_l2i, ev_i2b, ev_i2s, ev_lcmp, ev_dupI, ev_dupR, ev_dup2, ev_popI, ev_popR, ev_alen, ev_xlen, ev_xald, ev_iald, ev_lald, ev_bald, ev_zald, ev_aald, ev_iast, ev_last, ev_bast, ev_zast, ev_aast, ev_gfI, ev_gfL, ev_gfR, ev_pfI, ev_pfZ, ev_pfL, ev_pfR, ev_new, ev_newa, ev_newq, ev_copy, ev_slen, ev_schr, ev_obj, ev_mmin, ev_mabs, ev_mmax, ev_goto, ev_jsr, ev_icmp_eq, ev_if_eq, ev_icmp_ne, ev_if_ne, ev_icmp_lt, ev_if_lt, ev_icmp_ge, ev_if_ge, ev_icmp_gt, ev_if_gt, ev_icmp_le, ev_if_le, ev_ifnull0, ev_ifnull1, ev_ifnn0, ev_ifnn1, ev_tsw, ev_lsw, ev_iret, ev_zret, ev_lret, ev_aret, ev_ret, ev_call0, ev_call1, ev_call2, ev_call3, ev_call4, ev_call5, ev_call6, Option.toList_some, Option.toList_none, List.cons_append, List.nil_append, List.length_cons, List.length_nil, Nat.reduceMod, Nat.reduceDiv, Nat.reduceLeDiff, nc, ↓reduceIte, Nat.zero_le, reduceCtorEq, w32_id, Int.reduceEq, Int.reduceNe, Int.reduceLT, Int.reduceLE, Int.reduceGT, Int.reduceGE, Int.reduceAdd, Int.reduceSub, Int.reduceMul, Int.reduceNeg, ne_eq, not_true_eq_false, not_false_eq_true, eq_self, ↓if_pos, ↓if_neg, J_287_0, k_287_0, J_287_24, k_287_24, ]
  rw [he]
  simp (disch := first | assumption | decide | omega | (simp only [List.length_cons, List.length_nil] <;> omega)) only [lgt_0, lgt_s, lset_0, lset_s, lst1_0, lst1_s, lst2_0, lst2_s, ev_iconst, ev_lconst, ev_ldc, ev_null, ev_iload, ev_lload, ev_aload, ev_istore, ev_lstore, ev_astore, ev_iinc, ev_iadd, ev_isub, ev_imul, ev_iand, ev_ior, ev_ishl, ev_ishr, ev_idiv, ev_irem, ev_ineg, ev_ladd, ev_lsub, ev_lmul, ev_land, ev_lor, ev_ldiv, ev_lrem, ev_lshl, ev_i2l, ev_l2i, ev_i2b, ev_i2s, ev_lcmp, ev_dupI, ev_dupR, ev_dup2, ev_popI, ev_popR, ev_alen, ev_xlen, ev_xald, ev_iald, ev_lald, ev_bald, ev_zald, ev_aald, ev_iast, ev_last, ev_bast, ev_zast, ev_aast, ev_gfI, ev_gfL, ev_gfR, ev_pfI, ev_pfZ, ev_pfL, ev_pfR, ev_new, ev_newa, ev_newq, ev_copy, ev_slen, ev_schr, ev_obj, ev_mmin, ev_mabs, ev_mmax, ev_goto, ev_jsr, ev_icmp_eq, ev_if_eq, ev_icmp_ne, ev_if_ne, ev_icmp_lt, ev_if_lt, ev_icmp_ge, ev_if_ge, ev_icmp_gt, ev_if_gt, ev_icmp_le, ev_if_le, ev_ifnull0, ev_ifnull1, ev_ifnn0, ev_ifnn1, ev_tsw, ev_lsw, ev_iret, ev_zret, ev_lret, ev_aret, ev_ret, ev_call0, ev_call1, ev_call2, ev_call3, ev_call4, ev_call5, ev_call6, Option.toList_some, Option.toList_none, List.cons_append, List.nil_append, List.length_cons, List.length_nil, Nat.reduceMod, Nat.reduceDiv, Nat.reduceLeDiff, nc, ↓reduceIte, Nat.zero_le, reduceCtorEq, w32_id, Int.reduceEq, Int.reduceNe, Int.reduceLT, Int.reduceLE, Int.reduceGT, Int.reduceGE, Int.reduceAdd, Int.reduceSub, Int.reduceMul, Int.reduceNeg, ne_eq, not_true_eq_false, not_false_eq_true, eq_self, ↓if_pos, ↓if_neg, J_287_0, k_287_0, J_287_24, k_287_24, k_287_2]
theorem op_clear (h : RR' M) : OP X 114 [] 286 [] M := by
  have k0 := w0_k0; have hc4 := w0_ch4; have hmd := w0_md140; have mk0 := hmd.1; have hc4' := w0_ch4; obtain ⟨ck0, cr0, cr1, cr2, cr3, cr4, cr5, cr6, cr7, ck1, ck2, ck3, ck4, ck5, ck6, ck7, ck8, cl1, cl2, cl3, cl4, cl5, cl6, cl7, cl8⟩ := hc4'
  have ee := s_pempty (X := X) (M := M) w0_pl13
  generalize hMa : mfill (mfill M (13 + 1) 48 (-1)) (13 + 2) 48 (-1) = Ma at ee
  generalize hM1 : up Ma 0 0 0 = M1
  obtain ⟨N1, f1, g1, c1, e1⟩ := m_clears (X := X) (M := M1)
  have m1 : ∀ b, b ≠ 0 → b ≠ 13 + 1 → b ≠ 13 + 2 → M1 b = M b := fun b b0 b1 b2 => by rw [← hM1, up_ne b0, ← hMa, mfill_ne b2, mfill_ne b1]
  have l1 : ∀ i, 0 ≤ i → i < 48 → M1 (13 + 1) i = -1 := fun i a b => by rw [← hM1, up_ne (by omega), ← hMa, mfill_ne (by omega), mfill_in (by omega)]
  have l2 : ∀ i, 0 ≤ i → i < 48 → M1 (13 + 2) i = -1 := fun i a b => by rw [← hM1, up_ne (by omega), ← hMa, mfill_in (by omega)]
  refine ⟨vI 1, M1, up N1 140 2 0, ?_, ?_, ?_⟩
  · rw [E_114 k0]
    simp (disch := first | assumption | decide | omega | (simp only [List.length_cons, List.length_nil] <;> omega)) only [lgt_0, lgt_s, lset_0, lset_s, lst1_0, lst1_s, lst2_0, lst2_s, ev_iconst, ev_lconst, ev_ldc, ev_null, ev_iload, ev_lload, ev_aload, ev_istore, ev_lstore, ev_astore, ev_iinc, ev_iadd, ev_isub, ev_imul, ev_iand, ev_ior, ev_ishl, ev_ishr, ev_idiv, ev_irem, ev_ineg, ev_ladd, ev_lsub, ev_lmul, ev_land, ev_lor, ev_ldiv, ev_lrem, ev_lshl, ev_i2l, ev_l2i, ev_i2b, ev_i2s, ev_lcmp, ev_dupI, ev_dupR, ev_dup2, ev_popI, ev_popR, ev_alen, ev_xlen, ev_xald, ev_iald, ev_lald, ev_bald, ev_zald, ev_aald, ev_iast, ev_last, ev_bast, ev_zast, ev_aast, ev_gfI, ev_gfL, ev_gfR, ev_pfI, ev_pfZ, ev_pfL, ev_pfR, ev_new, ev_newa, ev_newq, ev_copy, ev_slen, ev_schr, ev_obj, ev_mmin, ev_mabs, ev_mmax, ev_goto, ev_jsr, ev_icmp_eq, ev_if_eq, ev_icmp_ne, ev_if_ne, ev_icmp_lt, ev_if_lt, ev_icmp_ge, ev_if_ge, ev_icmp_gt, ev_if_gt, ev_icmp_le, ev_if_le, ev_ifnull0, ev_ifnull1, ev_ifnn0, ev_ifnn1, ev_tsw, ev_lsw, ev_iret, ev_zret, ev_lret, ev_aret, ev_ret, ev_call0, ev_call1, ev_call2, ev_call3, ev_call4, ev_call5, ev_call6, Option.toList_some, Option.toList_none, List.cons_append, List.nil_append, List.length_cons, List.length_nil, Nat.reduceMod, Nat.reduceDiv, Nat.reduceLeDiff, nc, ↓reduceIte, Nat.zero_le, reduceCtorEq, w32_id, Int.reduceEq, Int.reduceNe, Int.reduceLT, Int.reduceLE, Int.reduceGT, Int.reduceGE, Int.reduceAdd, Int.reduceSub, Int.reduceMul, Int.reduceNeg, ne_eq, not_true_eq_false, not_false_eq_true, eq_self, ↓if_pos, ↓if_neg, w0_r0_3, w0_r0_4, w0_r0_5, w0_r0_6, w0_r0_7, w0_r0_8, w0_r0_10, w0_r0_11, w0_r0_12, w0_r0_13, w0_r0_14, w0_r0_15, w0_r0_16, w0_r0_17, w0_r0_18, J_114_0, k_114_0, ee, s_agree, hM1]
  · rw [E_286 mk0]
    simp (disch := first | assumption | decide | omega | (simp only [List.length_cons, List.length_nil] <;> omega)) only [lgt_0, lgt_s, lset_0, lset_s, lst1_0, lst1_s, lst2_0, lst2_s, ev_iconst, ev_lconst, ev_ldc, ev_null, ev_iload, ev_lload, ev_aload, ev_istore, ev_lstore, ev_astore, ev_iinc, ev_iadd, ev_isub, ev_imul, ev_iand, ev_ior, ev_ishl, ev_ishr, ev_idiv, ev_irem, ev_ineg, ev_ladd, ev_lsub, ev_lmul, ev_land, ev_lor, ev_ldiv, ev_lrem, ev_lshl, ev_i2l, ev_l2i, ev_i2b, ev_i2s, ev_lcmp, ev_dupI, ev_dupR, ev_dup2, ev_popI, ev_popR, ev_alen, ev_xlen, ev_xald, ev_iald, ev_lald, ev_bald, ev_zald, ev_aald, ev_iast, ev_last, ev_bast, ev_zast, ev_aast, ev_gfI, ev_gfL, ev_gfR, ev_pfI, ev_pfZ, ev_pfL, ev_pfR, ev_new, ev_newa, ev_newq, ev_copy, ev_slen, ev_schr, ev_obj, ev_mmin, ev_mabs, ev_mmax, ev_goto, ev_jsr, ev_icmp_eq, ev_if_eq, ev_icmp_ne, ev_if_ne, ev_icmp_lt, ev_if_lt, ev_icmp_ge, ev_if_ge, ev_icmp_gt, ev_if_gt, ev_icmp_le, ev_if_le, ev_ifnull0, ev_ifnull1, ev_ifnn0, ev_ifnn1, ev_tsw, ev_lsw, ev_iret, ev_zret, ev_lret, ev_aret, ev_ret, ev_call0, ev_call1, ev_call2, ev_call3, ev_call4, ev_call5, ev_call6, Option.toList_some, Option.toList_none, List.cons_append, List.nil_append, List.length_cons, List.length_nil, Nat.reduceMod, Nat.reduceDiv, Nat.reduceLeDiff, nc, ↓reduceIte, Nat.zero_le, reduceCtorEq, w32_id, Int.reduceEq, Int.reduceNe, Int.reduceLT, Int.reduceLE, Int.reduceGT, Int.reduceGE, Int.reduceAdd, Int.reduceSub, Int.reduceMul, Int.reduceNeg, ne_eq, not_true_eq_false, not_false_eq_true, eq_self, ↓if_pos, ↓if_neg, J_286_0, k_286_0, e1, m_is hmd]
  · refine RR_pl (M := M) (fun i hi => ?_) (fun b b0 b1 b2 b3 b4 b5 b6 => ?_) (fun i i0 i1 => ?_) ?_ ?_ (fun k hk => ?_) (fun i a b => ?_) ?_ ?_ h
    · rw [up_ne (by omega), f1 0 (by omega), ← hM1, up_ne2 hi, ← hMa, mfill_ne (by omega), mfill_ne (by omega)]
    · rw [up_ne b4, f1 b b5, m1 b (by omega) b1 b2]
    · rw [up_ne2 i1, f1 140 (by omega), m1 140 (by omega) (by omega) (by omega)]
    · rw [up_ne2 (by omega), f1 140 (by omega), m1 140 (by omega) (by omega) (by omega)]
    · rw [up_ne (by omega), f1 160 (by omega), m1 160 (by omega) (by omega) (by omega)]
    · rw [up_ne (by omega), g1 k hk, m1 _ (by omega) (by omega) (by omega)]
    · rw [up_ne (by omega), up_ne (by omega), c1 i a b, f1 _ (by omega), l1 i a b]
    · rw [up_ne (by omega), up_ne (by omega), f1 _ (by omega), f1 _ (by omega)]
      exact pl_empty l1 l2
    · rw [up_eq, up_ne (by omega), f1 0 (by omega), ← hM1, up_eq]
/-- PLAIN as a function -/
def plS (A : Int → Int) (i j : Int) (p : LE) : LE := if p.1 i = -1 ∧ (wyA A i j = 1 ∨ wyA A i j = 2) ∧ p.2 j = -1 then jn p i j else p
def pl1 (A : Int → Int) (i : Int) (p : LE) : Nat → LE
  | 0 => p
  | m + 1 => plS A i (i + 1 + m) (pl1 A i p m)
def pl2 (A : Int → Int) (p : LE) : Nat → LE
  | 0 => p
  | i + 1 => pl1 A i (pl2 A p i) (xn A - i - 1).toNat
theorem plS_done {i j : Int} {p : LE} (h : p.1 i ≠ -1) : plS A i j p = p := by
  unfold plS
  rw [if_neg (fun z => h z.1)]
theorem pl1_done {i : Int} {p : LE} {m : Nat} : ∀ {k : Nat}, m ≤ k → (pl1 A i p m).1 i ≠ -1 → pl1 A i p k = pl1 A i p m
  | 0, hk, _ => by rw [Nat.le_zero.mp hk]
  | k + 1, hk, h => by
    rcases Nat.lt_or_ge k m with z | z
    · rw [show m = k + 1 from by omega]
    · show plS A i (i + 1 + k) (pl1 A i p k) = _
      rw [pl1_done z h, plS_done h]
theorem jn_ok {p : LE} (h : PLok p.1 p.2 A) (hn : xn A ≤ 48) {i j : Int} (hi : 0 ≤ i) (hij : i < j) (hj : j < xn A) (hw : wyA A i j ≠ 0) (hL : p.1 i = -1) (hE : p.2 j = -1) : PLok (jn p i j).1 (jn p i j).2 A := pl_join h hn hi hij hj hw hL hE (fun k => rfl) (fun k => rfl)
theorem plS_ok {p : LE} (h : PLok p.1 p.2 A) (hn : xn A ≤ 48) {i j : Int} (hi : 0 ≤ i) (hij : i < j) (hj : j < xn A) : PLok (plS A i j p).1 (plS A i j p).2 A := by
  unfold plS
  by_cases q : p.1 i = -1 ∧ (wyA A i j = 1 ∨ wyA A i j = 2) ∧ p.2 j = -1
  · rw [if_pos q]
    exact jn_ok h hn hi hij hj (by omega) q.1 q.2.2
  · rw [if_neg q]; exact h
theorem pl1_ok {p : LE} (h : PLok p.1 p.2 A) (hn : xn A ≤ 48) {i : Int} (hi : 0 ≤ i) : ∀ {m : Nat}, i + m < xn A → PLok (pl1 A i p m).1 (pl1 A i p m).2 A
  | 0, _ => h
  | m + 1, hm => plS_ok (pl1_ok h hn hi (by omega)) hn hi (by omega) (by omega)
theorem pl2_ok {p : LE} (h : PLok p.1 p.2 A) (hn : xn A ≤ 48) : ∀ {i : Nat}, (i : Int) ≤ xn A → PLok (pl2 A p i).1 (pl2 A p i).2 A
  | 0, _ => h
  | i + 1, hi => pl1_ok (pl2_ok h hn (by omega)) hn (by omega) (by omega)
/-- a chart's and a plan's memory: the plan p -/
theorem kv_of {NM : Int → Int} {p : LE} (r : RC1 M 4 A NM) (hp : cP M p) (hl : PLok p.1 p.2 A) : KV M A := ⟨⟨NM, r⟩, by rw [hp.1, hp.2]; exact hl⟩
/-- the model's memory: the plan p -/
def mP (M : Mem) (A : Int → Int) (p : LE) : Prop := QV M A p.1 p.2
theorem mP_join {p : LE} {i j : Int} (h : mP M A p) (hi : 0 ≤ i) (hij : i < j) (hj : j < xn A) (hw : wyA A i j ≠ 0) (hL : p.1 i = -1) (hE : p.2 j = -1) : mP (up M (140 + 1) (80 + i) j) A (jn p i j) := by
  have n := v_n h
  obtain ⟨q1, q2, q3, q4, q5⟩ := h
  refine ⟨fun k a b => ?_, ?_, q3, fun k a b => ?_, jn_ok q5 n.2 hi hij hj hw hL hE⟩
  · simp (disch := omega) only [up_ne, up_eq, up_ne2]; exact q1 k a b
  · rw [up_ne (by omega), up_ne (by omega)]; exact q2
  · show _ = if k = i then j else p.1 k
    by_cases z : k = i
    · subst z; rw [if_pos rfl]; simp (disch := omega) only [up_ne, up_eq, up_ne2]
    · rw [if_neg z]; simp (disch := omega) only [up_ne, up_eq, up_ne2]; exact q4 k a b
theorem cP_join {p : LE} {i j : Int} (h : cP M p) : cP (up (up M (13 + 1) i j) (13 + 2) j i) (jn p i j) := by
  refine ⟨?_, ?_⟩
  · rw [up_ne (by omega)]; exact up_fun h.1
  · exact up_fun (by rw [up_ne (by omega)]; exact h.2)
theorem k_makePlain {NM : Int → Int} {p : LE} (r : RC1 M 4 A NM) (hp : cP M p) (hl : PLok p.1 p.2 A) : ∃ M', (∀ b, b ≠ 13 + 1 → b ≠ 13 + 2 → M' b = M b) ∧ cP M' (pl2 A p (xn A).toNat) ∧ ev X 202 (jmp 202 6) [some (vR (some 13)), some (vR (some 4)), some (vI 0), none, none] [] SH0 M = some (none, SH0, M') := by
  obtain ⟨pk, pr1, pr2, pk1, pk2, pl1', pl2'⟩ := w0_pl13
  have ck := w0_k4
  have n := (k_gWY (kv_of r hp hl)).1.2.1
  have rf : ∀ M' : Mem, (∀ b, b ≠ 13 + 1 → b ≠ 13 + 2 → M' b = M b) → RC1 M' 4 A NM := fun M' f => RC1_c (fun b x y => f b (by omega) (by omega)) r
  have n8 := k_n (kv_of r hp hl)
  obtain ⟨ls', M2, ⟨w3, w4, hls, fr, hp2⟩, he⟩ := ev_for (X := X) (y := 202) (Sh := SH0) (fun i ls M' => ∃ w3 w4, ls = [some (vR (some 13)), some (vR (some 4)), some (vI (i : Int)), w3, w4] ∧ (∀ b, b ≠ 13 + 1 → b ≠ 13 + 2 → M' b = M b) ∧ cP M' (pl2 A p i)) J_202_6 (xn A).toNat (fun i hi ls M' hI => by
    obtain ⟨w3, w4, hls, fr, hp2⟩ := hI
    subst hls
    have m8 : M' 4 8 = xn A := by rw [fr 4 (by omega) (by omega)]; exact n8
    have okI := pl2_ok hl n.2 (i := i) (by omega)
    generalize hP : pl2 A p i = P at hp2 okI
    -- the row of later stitches
    have key := ev_while (X := X) (y := 202) (Sh := SH0) (fun m ls M2 => ∃ (k : Nat) (v4 : Option PV), ls = [some (vR (some 13)), some (vR (some 4)), some (vI (i : Int)), some (vI ((i : Int) + 1 + k)), v4] ∧ (i : Int) + 1 + k ≤ xn A ∧ (∀ b, b ≠ 13 + 1 → b ≠ 13 + 2 → M2 b = M b) ∧ cP M2 (Prod.mk (pl1 A i P k).1 (pl1 A i P k).2) ∧ m = (xn A - (i : Int) - k).toNat)
      (fun o => ∃ M2 w3 w4, (∀ b, b ≠ 13 + 1 → b ≠ 13 + 2 → M2 b = M b) ∧ cP M2 (pl1 A i P (xn A - i - 1).toNat) ∧ o = ev X 202 (jmp 202 6) [some (vR (some 13)), some (vR (some 4)), some (vI ((i : Int) + 1)), w3, w4] [] SH0 M2) J_202_18 (fun m ls M2 hI => by
      obtain ⟨k, v4, hls, hk, fr2, hp3, hm⟩ := hI
      subst hls
      have m82 : M2 4 8 = xn A := by rw [fr2 4 (by omega) (by omega)]; exact n8
      by_cases q : xn A ≤ (i : Int) + 1 + k
      · refine Or.inr ⟨M2, some (vI ((i : Int) + 1 + k)), v4, fr2, ?_, ?_⟩
        · rw [show (xn A - i - 1).toNat = k from by omega]; exact hp3
        · simp (disch := first | assumption | decide | omega | (simp only [List.length_cons, List.length_nil] <;> omega)) only [lgt_0, lgt_s, lset_0, lset_s, lst1_0, lst1_s, lst2_0, lst2_s, ev_iconst, ev_lconst, ev_ldc, ev_null, ev_iload, ev_lload, ev_aload, ev_istore, ev_lstore, ev_astore, ev_iinc, ev_iadd, ev_isub, ev_imul, ev_iand, ev_ior, ev_ishl, ev_ishr, ev_idiv, ev_irem, ev_ineg, ev_ladd, ev_lsub, ev_lmul, ev_land, ev_lor, ev_ldiv, ev_lrem, ev_lshl, ev_i2l, ev_l2i, ev_i2b, ev_i2s, ev_lcmp, ev_dupI, ev_dupR, ev_dup2, ev_popI, ev_popR, ev_alen, ev_xlen, ev_xald, ev_iald, ev_lald, ev_bald, ev_zald, ev_aald, ev_iast, ev_last, ev_bast, ev_zast, ev_aast, ev_gfI, ev_gfL, ev_gfR, ev_pfI, ev_pfZ, ev_pfL, ev_pfR, ev_new, ev_newa, ev_newq, ev_copy, ev_slen, ev_schr, ev_obj, ev_mmin, ev_mabs, ev_mmax, ev_goto, ev_jsr, ev_icmp_eq, ev_if_eq, ev_icmp_ne, ev_if_ne, ev_icmp_lt, ev_if_lt, ev_icmp_ge, ev_if_ge, ev_icmp_gt, ev_if_gt, ev_icmp_le, ev_if_le, ev_ifnull0, ev_ifnull1, ev_ifnn0, ev_ifnn1, ev_tsw, ev_lsw, ev_iret, ev_zret, ev_lret, ev_aret, ev_ret, ev_call0, ev_call1, ev_call2, ev_call3, ev_call4, ev_call5, ev_call6, Option.toList_some, Option.toList_none, List.cons_append, List.nil_append, List.length_cons, List.length_nil, Nat.reduceMod, Nat.reduceDiv, Nat.reduceLeDiff, nc, ↓reduceIte, Nat.zero_le, reduceCtorEq, w32_id, Int.reduceEq, Int.reduceNe, Int.reduceLT, Int.reduceLE, Int.reduceGT, Int.reduceGE, Int.reduceAdd, Int.reduceSub, Int.reduceMul, Int.reduceNeg, ne_eq, not_true_eq_false, not_false_eq_true, eq_self, ↓if_pos, ↓if_neg, J_202_0, k_202_0, J_202_56, k_202_56, J_202_72, k_202_72, J_202_78, k_202_78, J_202_84, k_202_84, k_202_18, m82]
      · have okK := pl1_ok okI n.2 (i := i) (by omega) (m := k) (by omega)
        have e14 : M2 (13 + 1) = (pl1 A i P k).1 := hp3.1
        have e15 : M2 (13 + 2) = (pl1 A i P k).2 := hp3.2
        by_cases z : (pl1 A i P k).1 i = -1
        · have kv := kv_of (rf M2 fr2) hp3 okK
          have ew := k_way (X := X) kv (i := i) (j := (i : Int) + 1 + k) (i32_s (by omega) (by omega)) (i32_s (by omega) (by omega))
          have st : pl1 A i P (k + 1) = plS A i (i + 1 + k) (pl1 A i P k) := rfl
          by_cases y : (wyA A i ((i : Int) + 1 + k) = 1 ∨ wyA A i ((i : Int) + 1 + k) = 2) ∧ (pl1 A i P k).2 ((i : Int) + 1 + k) = -1
          · have ej := s_join (X := X) (M := M2) w0_pl13 (i := i) (j := (i : Int) + 1 + k)
            rw [if_pos (by omega)] at ej
            have cj := cP_join (i := i) (j := (i : Int) + 1 + k) hp3
            have s2 : pl1 A i P (k + 1) = jn (pl1 A i P k) i (i + 1 + k) := by
              rw [st]
              unfold plS
              rw [if_pos ⟨z, y⟩]
            refine Or.inl ⟨_, _, up (up M2 (13 + 1) i ((i : Int) + 1 + k)) (13 + 2) ((i : Int) + 1 + k) i, ?_, ⟨k + 1, some (vI (wyA A i ((i : Int) + 1 + k))), rfl, by omega, fun b b1 b2 => by rw [up_ne b2, up_ne b1]; exact fr2 b b1 b2, by rw [s2]; exact cj, rfl⟩, ?_⟩
            · omega
            · have y2 := y.2
              have e5 : (i : Int) + 1 + k + 1 = (i : Int) + 1 + ((k : Int) + 1) := by omega
              rcases y.1 with w | w
              · rw [w] at ew ⊢
                simp (disch := first | assumption | decide | omega | (simp only [List.length_cons, List.length_nil] <;> omega)) only [lgt_0, lgt_s, lset_0, lset_s, lst1_0, lst1_s, lst2_0, lst2_s, ev_iconst, ev_lconst, ev_ldc, ev_null, ev_iload, ev_lload, ev_aload, ev_istore, ev_lstore, ev_astore, ev_iinc, ev_iadd, ev_isub, ev_imul, ev_iand, ev_ior, ev_ishl, ev_ishr, ev_idiv, ev_irem, ev_ineg, ev_ladd, ev_lsub, ev_lmul, ev_land, ev_lor, ev_ldiv, ev_lrem, ev_lshl, ev_i2l, ev_l2i, ev_i2b, ev_i2s, ev_lcmp, ev_dupI, ev_dupR, ev_dup2, ev_popI, ev_popR, ev_alen, ev_xlen, ev_xald, ev_iald, ev_lald, ev_bald, ev_zald, ev_aald, ev_iast, ev_last, ev_bast, ev_zast, ev_aast, ev_gfI, ev_gfL, ev_gfR, ev_pfI, ev_pfZ, ev_pfL, ev_pfR, ev_new, ev_newa, ev_newq, ev_copy, ev_slen, ev_schr, ev_obj, ev_mmin, ev_mabs, ev_mmax, ev_goto, ev_jsr, ev_icmp_eq, ev_if_eq, ev_icmp_ne, ev_if_ne, ev_icmp_lt, ev_if_lt, ev_icmp_ge, ev_if_ge, ev_icmp_gt, ev_if_gt, ev_icmp_le, ev_if_le, ev_ifnull0, ev_ifnull1, ev_ifnn0, ev_ifnn1, ev_tsw, ev_lsw, ev_iret, ev_zret, ev_lret, ev_aret, ev_ret, ev_call0, ev_call1, ev_call2, ev_call3, ev_call4, ev_call5, ev_call6, Option.toList_some, Option.toList_none, List.cons_append, List.nil_append, List.length_cons, List.length_nil, Nat.reduceMod, Nat.reduceDiv, Nat.reduceLeDiff, nc, ↓reduceIte, Nat.zero_le, reduceCtorEq, w32_id, Int.reduceEq, Int.reduceNe, Int.reduceLT, Int.reduceLE, Int.reduceGT, Int.reduceGE, Int.reduceAdd, Int.reduceSub, Int.reduceMul, Int.reduceNeg, ne_eq, not_true_eq_false, not_false_eq_true, eq_self, ↓if_pos, ↓if_neg, J_202_0, k_202_0, J_202_56, k_202_56, J_202_72, k_202_72, J_202_78, k_202_78, J_202_84, k_202_84, k_202_18, m82, pr1, pr2, e14, e15, z, ew, y2, ej, e5, nc_s]
              · rw [w] at ew ⊢
                simp (disch := first | assumption | decide | omega | (simp only [List.length_cons, List.length_nil] <;> omega)) only [lgt_0, lgt_s, lset_0, lset_s, lst1_0, lst1_s, lst2_0, lst2_s, ev_iconst, ev_lconst, ev_ldc, ev_null, ev_iload, ev_lload, ev_aload, ev_istore, ev_lstore, ev_astore, ev_iinc, ev_iadd, ev_isub, ev_imul, ev_iand, ev_ior, ev_ishl, ev_ishr, ev_idiv, ev_irem, ev_ineg, ev_ladd, ev_lsub, ev_lmul, ev_land, ev_lor, ev_ldiv, ev_lrem, ev_lshl, ev_i2l, ev_l2i, ev_i2b, ev_i2s, ev_lcmp, ev_dupI, ev_dupR, ev_dup2, ev_popI, ev_popR, ev_alen, ev_xlen, ev_xald, ev_iald, ev_lald, ev_bald, ev_zald, ev_aald, ev_iast, ev_last, ev_bast, ev_zast, ev_aast, ev_gfI, ev_gfL, ev_gfR, ev_pfI, ev_pfZ, ev_pfL, ev_pfR, ev_new, ev_newa, ev_newq, ev_copy, ev_slen, ev_schr, ev_obj, ev_mmin, ev_mabs, ev_mmax, ev_goto, ev_jsr, ev_icmp_eq, ev_if_eq, ev_icmp_ne, ev_if_ne, ev_icmp_lt, ev_if_lt, ev_icmp_ge, ev_if_ge, ev_icmp_gt, ev_if_gt, ev_icmp_le, ev_if_le, ev_ifnull0, ev_ifnull1, ev_ifnn0, ev_ifnn1, ev_tsw, ev_lsw, ev_iret, ev_zret, ev_lret, ev_aret, ev_ret, ev_call0, ev_call1, ev_call2, ev_call3, ev_call4, ev_call5, ev_call6, Option.toList_some, Option.toList_none, List.cons_append, List.nil_append, List.length_cons, List.length_nil, Nat.reduceMod, Nat.reduceDiv, Nat.reduceLeDiff, nc, ↓reduceIte, Nat.zero_le, reduceCtorEq, w32_id, Int.reduceEq, Int.reduceNe, Int.reduceLT, Int.reduceLE, Int.reduceGT, Int.reduceGE, Int.reduceAdd, Int.reduceSub, Int.reduceMul, Int.reduceNeg, ne_eq, not_true_eq_false, not_false_eq_true, eq_self, ↓if_pos, ↓if_neg, J_202_0, k_202_0, J_202_56, k_202_56, J_202_72, k_202_72, J_202_78, k_202_78, J_202_84, k_202_84, k_202_18, m82, pr1, pr2, e14, e15, z, ew, y2, ej, e5, nc_s]
          · have s2 : pl1 A i P (k + 1) = pl1 A i P k := by
              rw [st]
              unfold plS
              rw [if_neg (fun u => y u.2)]
            refine Or.inl ⟨_, _, M2, ?_, ⟨k + 1, some (vI (wyA A i ((i : Int) + 1 + k))), rfl, by omega, fr2, by rw [s2]; exact hp3, rfl⟩, ?_⟩
            · omega
            · have e5 : (i : Int) + 1 + k + 1 = (i : Int) + 1 + ((k : Int) + 1) := by omega
              generalize wyA A i ((i : Int) + 1 + k) = wv at ew y ⊢
              by_cases w1 : wv = 1
              · have y2 : ¬ (pl1 A i P k).2 ((i : Int) + 1 + k) = -1 := fun u => y ⟨Or.inl w1, u⟩
                subst w1
                simp (disch := first | assumption | decide | omega | (simp only [List.length_cons, List.length_nil] <;> omega)) only [lgt_0, lgt_s, lset_0, lset_s, lst1_0, lst1_s, lst2_0, lst2_s, ev_iconst, ev_lconst, ev_ldc, ev_null, ev_iload, ev_lload, ev_aload, ev_istore, ev_lstore, ev_astore, ev_iinc, ev_iadd, ev_isub, ev_imul, ev_iand, ev_ior, ev_ishl, ev_ishr, ev_idiv, ev_irem, ev_ineg, ev_ladd, ev_lsub, ev_lmul, ev_land, ev_lor, ev_ldiv, ev_lrem, ev_lshl, ev_i2l, ev_l2i, ev_i2b, ev_i2s, ev_lcmp, ev_dupI, ev_dupR, ev_dup2, ev_popI, ev_popR, ev_alen, ev_xlen, ev_xald, ev_iald, ev_lald, ev_bald, ev_zald, ev_aald, ev_iast, ev_last, ev_bast, ev_zast, ev_aast, ev_gfI, ev_gfL, ev_gfR, ev_pfI, ev_pfZ, ev_pfL, ev_pfR, ev_new, ev_newa, ev_newq, ev_copy, ev_slen, ev_schr, ev_obj, ev_mmin, ev_mabs, ev_mmax, ev_goto, ev_jsr, ev_icmp_eq, ev_if_eq, ev_icmp_ne, ev_if_ne, ev_icmp_lt, ev_if_lt, ev_icmp_ge, ev_if_ge, ev_icmp_gt, ev_if_gt, ev_icmp_le, ev_if_le, ev_ifnull0, ev_ifnull1, ev_ifnn0, ev_ifnn1, ev_tsw, ev_lsw, ev_iret, ev_zret, ev_lret, ev_aret, ev_ret, ev_call0, ev_call1, ev_call2, ev_call3, ev_call4, ev_call5, ev_call6, Option.toList_some, Option.toList_none, List.cons_append, List.nil_append, List.length_cons, List.length_nil, Nat.reduceMod, Nat.reduceDiv, Nat.reduceLeDiff, nc, ↓reduceIte, Nat.zero_le, reduceCtorEq, w32_id, Int.reduceEq, Int.reduceNe, Int.reduceLT, Int.reduceLE, Int.reduceGT, Int.reduceGE, Int.reduceAdd, Int.reduceSub, Int.reduceMul, Int.reduceNeg, ne_eq, not_true_eq_false, not_false_eq_true, eq_self, ↓if_pos, ↓if_neg, J_202_0, k_202_0, J_202_56, k_202_56, J_202_72, k_202_72, J_202_78, k_202_78, J_202_84, k_202_84, k_202_18, m82, pr1, pr2, e14, e15, z, ew, y2, e5, nc_s]
              · by_cases w2 : wv = 2
                · have y2 : ¬ (pl1 A i P k).2 ((i : Int) + 1 + k) = -1 := fun u => y ⟨Or.inr w2, u⟩
                  subst w2
                  simp (disch := first | assumption | decide | omega | (simp only [List.length_cons, List.length_nil] <;> omega)) only [lgt_0, lgt_s, lset_0, lset_s, lst1_0, lst1_s, lst2_0, lst2_s, ev_iconst, ev_lconst, ev_ldc, ev_null, ev_iload, ev_lload, ev_aload, ev_istore, ev_lstore, ev_astore, ev_iinc, ev_iadd, ev_isub, ev_imul, ev_iand, ev_ior, ev_ishl, ev_ishr, ev_idiv, ev_irem, ev_ineg, ev_ladd, ev_lsub, ev_lmul, ev_land, ev_lor, ev_ldiv, ev_lrem, ev_lshl, ev_i2l, ev_l2i, ev_i2b, ev_i2s, ev_lcmp, ev_dupI, ev_dupR, ev_dup2, ev_popI, ev_popR, ev_alen, ev_xlen, ev_xald, ev_iald, ev_lald, ev_bald, ev_zald, ev_aald, ev_iast, ev_last, ev_bast, ev_zast, ev_aast, ev_gfI, ev_gfL, ev_gfR, ev_pfI, ev_pfZ, ev_pfL, ev_pfR, ev_new, ev_newa, ev_newq, ev_copy, ev_slen, ev_schr, ev_obj, ev_mmin, ev_mabs, ev_mmax, ev_goto, ev_jsr, ev_icmp_eq, ev_if_eq, ev_icmp_ne, ev_if_ne, ev_icmp_lt, ev_if_lt, ev_icmp_ge, ev_if_ge, ev_icmp_gt, ev_if_gt, ev_icmp_le, ev_if_le, ev_ifnull0, ev_ifnull1, ev_ifnn0, ev_ifnn1, ev_tsw, ev_lsw, ev_iret, ev_zret, ev_lret, ev_aret, ev_ret, ev_call0, ev_call1, ev_call2, ev_call3, ev_call4, ev_call5, ev_call6, Option.toList_some, Option.toList_none, List.cons_append, List.nil_append, List.length_cons, List.length_nil, Nat.reduceMod, Nat.reduceDiv, Nat.reduceLeDiff, nc, ↓reduceIte, Nat.zero_le, reduceCtorEq, w32_id, Int.reduceEq, Int.reduceNe, Int.reduceLT, Int.reduceLE, Int.reduceGT, Int.reduceGE, Int.reduceAdd, Int.reduceSub, Int.reduceMul, Int.reduceNeg, ne_eq, not_true_eq_false, not_false_eq_true, eq_self, ↓if_pos, ↓if_neg, J_202_0, k_202_0, J_202_56, k_202_56, J_202_72, k_202_72, J_202_78, k_202_78, J_202_84, k_202_84, k_202_18, m82, pr1, pr2, e14, e15, z, ew, y2, e5, nc_s]
                · simp (disch := first | assumption | decide | omega | (simp only [List.length_cons, List.length_nil] <;> omega)) only [lgt_0, lgt_s, lset_0, lset_s, lst1_0, lst1_s, lst2_0, lst2_s, ev_iconst, ev_lconst, ev_ldc, ev_null, ev_iload, ev_lload, ev_aload, ev_istore, ev_lstore, ev_astore, ev_iinc, ev_iadd, ev_isub, ev_imul, ev_iand, ev_ior, ev_ishl, ev_ishr, ev_idiv, ev_irem, ev_ineg, ev_ladd, ev_lsub, ev_lmul, ev_land, ev_lor, ev_ldiv, ev_lrem, ev_lshl, ev_i2l, ev_l2i, ev_i2b, ev_i2s, ev_lcmp, ev_dupI, ev_dupR, ev_dup2, ev_popI, ev_popR, ev_alen, ev_xlen, ev_xald, ev_iald, ev_lald, ev_bald, ev_zald, ev_aald, ev_iast, ev_last, ev_bast, ev_zast, ev_aast, ev_gfI, ev_gfL, ev_gfR, ev_pfI, ev_pfZ, ev_pfL, ev_pfR, ev_new, ev_newa, ev_newq, ev_copy, ev_slen, ev_schr, ev_obj, ev_mmin, ev_mabs, ev_mmax, ev_goto, ev_jsr, ev_icmp_eq, ev_if_eq, ev_icmp_ne, ev_if_ne, ev_icmp_lt, ev_if_lt, ev_icmp_ge, ev_if_ge, ev_icmp_gt, ev_if_gt, ev_icmp_le, ev_if_le, ev_ifnull0, ev_ifnull1, ev_ifnn0, ev_ifnn1, ev_tsw, ev_lsw, ev_iret, ev_zret, ev_lret, ev_aret, ev_ret, ev_call0, ev_call1, ev_call2, ev_call3, ev_call4, ev_call5, ev_call6, Option.toList_some, Option.toList_none, List.cons_append, List.nil_append, List.length_cons, List.length_nil, Nat.reduceMod, Nat.reduceDiv, Nat.reduceLeDiff, nc, ↓reduceIte, Nat.zero_le, reduceCtorEq, w32_id, Int.reduceEq, Int.reduceNe, Int.reduceLT, Int.reduceLE, Int.reduceGT, Int.reduceGE, Int.reduceAdd, Int.reduceSub, Int.reduceMul, Int.reduceNeg, ne_eq, not_true_eq_false, not_false_eq_true, eq_self, ↓if_pos, ↓if_neg, J_202_0, k_202_0, J_202_56, k_202_56, J_202_72, k_202_72, J_202_78, k_202_78, J_202_84, k_202_84, k_202_18, m82, pr1, pr2, e14, e15, z, ew, w1, w2, e5, nc_s]
        · refine Or.inr ⟨M2, some (vI ((i : Int) + 1 + k)), v4, fr2, ?_, ?_⟩
          · rw [pl1_done (m := k) (by omega) z]; exact hp3
          · simp (disch := first | assumption | decide | omega | (simp only [List.length_cons, List.length_nil] <;> omega)) only [lgt_0, lgt_s, lset_0, lset_s, lst1_0, lst1_s, lst2_0, lst2_s, ev_iconst, ev_lconst, ev_ldc, ev_null, ev_iload, ev_lload, ev_aload, ev_istore, ev_lstore, ev_astore, ev_iinc, ev_iadd, ev_isub, ev_imul, ev_iand, ev_ior, ev_ishl, ev_ishr, ev_idiv, ev_irem, ev_ineg, ev_ladd, ev_lsub, ev_lmul, ev_land, ev_lor, ev_ldiv, ev_lrem, ev_lshl, ev_i2l, ev_l2i, ev_i2b, ev_i2s, ev_lcmp, ev_dupI, ev_dupR, ev_dup2, ev_popI, ev_popR, ev_alen, ev_xlen, ev_xald, ev_iald, ev_lald, ev_bald, ev_zald, ev_aald, ev_iast, ev_last, ev_bast, ev_zast, ev_aast, ev_gfI, ev_gfL, ev_gfR, ev_pfI, ev_pfZ, ev_pfL, ev_pfR, ev_new, ev_newa, ev_newq, ev_copy, ev_slen, ev_schr, ev_obj, ev_mmin, ev_mabs, ev_mmax, ev_goto, ev_jsr, ev_icmp_eq, ev_if_eq, ev_icmp_ne, ev_if_ne, ev_icmp_lt, ev_if_lt, ev_icmp_ge, ev_if_ge, ev_icmp_gt, ev_if_gt, ev_icmp_le, ev_if_le, ev_ifnull0, ev_ifnull1, ev_ifnn0, ev_ifnn1, ev_tsw, ev_lsw, ev_iret, ev_zret, ev_lret, ev_aret, ev_ret, ev_call0, ev_call1, ev_call2, ev_call3, ev_call4, ev_call5, ev_call6, Option.toList_some, Option.toList_none, List.cons_append, List.nil_append, List.length_cons, List.length_nil, Nat.reduceMod, Nat.reduceDiv, Nat.reduceLeDiff, nc, ↓reduceIte, Nat.zero_le, reduceCtorEq, w32_id, Int.reduceEq, Int.reduceNe, Int.reduceLT, Int.reduceLE, Int.reduceGT, Int.reduceGE, Int.reduceAdd, Int.reduceSub, Int.reduceMul, Int.reduceNeg, ne_eq, not_true_eq_false, not_false_eq_true, eq_self, ↓if_pos, ↓if_neg, J_202_0, k_202_0, J_202_56, k_202_56, J_202_72, k_202_72, J_202_78, k_202_78, J_202_84, k_202_84, k_202_18, m82, pr1, e14, z])
    obtain ⟨M3, w3', w4', f3, c3, e3⟩ := key _ [some (vR (some 13)), some (vR (some 4)), some (vI (i : Int)), some (vI ((i : Int) + 1 + (0 : Nat))), w4] M' ⟨0, w4, rfl, by omega, fr, hp2, rfl⟩
    refine ⟨_, M3, ⟨w3', w4', rfl, f3, ?_⟩, ?_⟩
    · show cP M3 (pl1 A i (pl2 A p i) (xn A - i - 1).toNat)
      rw [hP]; exact c3
    · have q0 : ¬ xn A ≤ (i : Int) := by omega
      have z0 : (i : Int) + 1 + ((0 : Nat) : Int) = (i : Int) + 1 := by omega
      rw [z0] at e3
      simp (disch := first | assumption | decide | omega | (simp only [List.length_cons, List.length_nil] <;> omega)) only [lgt_0, lgt_s, lset_0, lset_s, lst1_0, lst1_s, lst2_0, lst2_s, ev_iconst, ev_lconst, ev_ldc, ev_null, ev_iload, ev_lload, ev_aload, ev_istore, ev_lstore, ev_astore, ev_iinc, ev_iadd, ev_isub, ev_imul, ev_iand, ev_ior, ev_ishl, ev_ishr, ev_idiv, ev_irem, ev_ineg, ev_ladd, ev_lsub, ev_lmul, ev_land, ev_lor, ev_ldiv, ev_lrem, ev_lshl, ev_i2l, ev_l2i, ev_i2b, ev_i2s, ev_lcmp, ev_dupI, ev_dupR, ev_dup2, ev_popI, ev_popR, ev_alen, ev_xlen, ev_xald, ev_iald, ev_lald, ev_bald, ev_zald, ev_aald, ev_iast, ev_last, ev_bast, ev_zast, ev_aast, ev_gfI, ev_gfL, ev_gfR, ev_pfI, ev_pfZ, ev_pfL, ev_pfR, ev_new, ev_newa, ev_newq, ev_copy, ev_slen, ev_schr, ev_obj, ev_mmin, ev_mabs, ev_mmax, ev_goto, ev_jsr, ev_icmp_eq, ev_if_eq, ev_icmp_ne, ev_if_ne, ev_icmp_lt, ev_if_lt, ev_icmp_ge, ev_if_ge, ev_icmp_gt, ev_if_gt, ev_icmp_le, ev_if_le, ev_ifnull0, ev_ifnull1, ev_ifnn0, ev_ifnn1, ev_tsw, ev_lsw, ev_iret, ev_zret, ev_lret, ev_aret, ev_ret, ev_call0, ev_call1, ev_call2, ev_call3, ev_call4, ev_call5, ev_call6, Option.toList_some, Option.toList_none, List.cons_append, List.nil_append, List.length_cons, List.length_nil, Nat.reduceMod, Nat.reduceDiv, Nat.reduceLeDiff, nc, ↓reduceIte, Nat.zero_le, reduceCtorEq, w32_id, Int.reduceEq, Int.reduceNe, Int.reduceLT, Int.reduceLE, Int.reduceGT, Int.reduceGE, Int.reduceAdd, Int.reduceSub, Int.reduceMul, Int.reduceNeg, ne_eq, not_true_eq_false, not_false_eq_true, eq_self, ↓if_pos, ↓if_neg, J_202_0, k_202_0, J_202_56, k_202_56, J_202_72, k_202_72, J_202_78, k_202_78, J_202_84, k_202_84, k_202_6, m8, q0]
      rw [e3]
      rfl) [some (vR (some 13)), some (vR (some 4)), some (vI 0), none, none] M ⟨none, none, rfl, fun _ _ _ => rfl, hp⟩
  subst hls
  have e : (((xn A).toNat : Nat) : Int) = xn A := by omega
  rw [e] at he
  have m8 : M2 4 8 = xn A := by rw [fr 4 (by omega) (by omega)]; exact n8
  refine ⟨M2, fr, hp2, ?_⟩
  rw [he]
  have q2 : xn A ≤ xn A := Int.le_refl _
  simp (disch := first | assumption | decide | omega | (simp only [List.length_cons, List.length_nil] <;> omega)) only [lgt_0, lgt_s, lset_0, lset_s, lst1_0, lst1_s, lst2_0, lst2_s, ev_iconst, ev_lconst, ev_ldc, ev_null, ev_iload, ev_lload, ev_aload, ev_istore, ev_lstore, ev_astore, ev_iinc, ev_iadd, ev_isub, ev_imul, ev_iand, ev_ior, ev_ishl, ev_ishr, ev_idiv, ev_irem, ev_ineg, ev_ladd, ev_lsub, ev_lmul, ev_land, ev_lor, ev_ldiv, ev_lrem, ev_lshl, ev_i2l, ev_l2i, ev_i2b, ev_i2s, ev_lcmp, ev_dupI, ev_dupR, ev_dup2, ev_popI, ev_popR, ev_alen, ev_xlen, ev_xald, ev_iald, ev_lald, ev_bald, ev_zald, ev_aald, ev_iast, ev_last, ev_bast, ev_zast, ev_aast, ev_gfI, ev_gfL, ev_gfR, ev_pfI, ev_pfZ, ev_pfL, ev_pfR, ev_new, ev_newa, ev_newq, ev_copy, ev_slen, ev_schr, ev_obj, ev_mmin, ev_mabs, ev_mmax, ev_goto, ev_jsr, ev_icmp_eq, ev_if_eq, ev_icmp_ne, ev_if_ne, ev_icmp_lt, ev_if_lt, ev_icmp_ge, ev_if_ge, ev_icmp_gt, ev_if_gt, ev_icmp_le, ev_if_le, ev_ifnull0, ev_ifnull1, ev_ifnn0, ev_ifnn1, ev_tsw, ev_lsw, ev_iret, ev_zret, ev_lret, ev_aret, ev_ret, ev_call0, ev_call1, ev_call2, ev_call3, ev_call4, ev_call5, ev_call6, Option.toList_some, Option.toList_none, List.cons_append, List.nil_append, List.length_cons, List.length_nil, Nat.reduceMod, Nat.reduceDiv, Nat.reduceLeDiff, nc, ↓reduceIte, Nat.zero_le, reduceCtorEq, w32_id, Int.reduceEq, Int.reduceNe, Int.reduceLT, Int.reduceLE, Int.reduceGT, Int.reduceGE, Int.reduceAdd, Int.reduceSub, Int.reduceMul, Int.reduceNeg, ne_eq, not_true_eq_false, not_false_eq_true, eq_self, ↓if_pos, ↓if_neg, J_202_0, k_202_0, J_202_56, k_202_56, J_202_72, k_202_72, J_202_78, k_202_78, J_202_84, k_202_84, k_202_6, m8, q2]
end PLS
