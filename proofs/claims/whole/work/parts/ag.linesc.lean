/-! DIRECTIONS: the class's reader, its parts. -/
def cNm (M : Mem) (NW : Int → List Int) (m : Int) : Prop := goodS (M 5) ∧ M 5 2 = m ∧ ∀ k, 0 ≤ k → k < m → M 6 k = c32 (NW k) ∧ lts (NW k)
def cDl (M : Mem) (d : DD) : Prop := M 32 3 = (d.2.2.2.1 : Int) ∧ M 32 4 = d.2.2.2.2 ∧ ∀ l : Nat, l < d.2.2.2.1 → M 33 (l : Int) = d.1 l ∧ M 34 (l : Int) = d.2.1 l ∧ M 35 (l : Int) = d.2.2.1 l
def cDd (M : Mem) (d : DD) : Prop := cDl M d ∧ M 31 2 = ((opn d).length : Int)
/-- what the reader of directions may change -/
def fD (M M' : Mem) : Prop := (∀ c, c ≠ 2 → (c < 31 ∨ 35 < c) → M' c = M c) ∧ M' 2 1 = M 2 1
theorem fD_t {M M' M'' : Mem} (h : fD M M') (h' : fD M' M'') : fD M M'' := ⟨fun c a x => by rw [h'.1 c a x, h.1 c a x], by rw [h'.2, h.2]⟩
theorem fD_f {M M' : Mem} (h : fT M M') : fD M M' := ⟨fun c a _ => h.1 c a, h.2⟩
theorem fD_0 {M : Mem} : fD M M := ⟨fun _ _ _ => rfl, rfl⟩
theorem fD_w {M M' : Mem} {w q : Int} (h : fD M M') : fD M (up (up M' 2 2 w) 2 3 q) := ⟨fun c a x => by rw [up_ne a, up_ne a]; exact h.1 c a x, by rw [up_ne2 (by omega), up_ne2 (by omega)]; exact h.2⟩
theorem cDl_f {M M' : Mem} {d : DD} (h : cDl M d) (f : ∀ c, 32 ≤ c → c ≤ 35 → M' c = M c) : cDl M' d := by
  unfold cDl at h ⊢
  rw [f 32 (by omega) (by omega), f 33 (by omega) (by omega), f 34 (by omega) (by omega), f 35 (by omega) (by omega)]
  exact h
theorem cDd_f {M M' : Mem} {d : DD} (h : cDd M d) (f : ∀ c, 31 ≤ c → c ≤ 35 → M' c = M c) : cDd M' d := ⟨cDl_f h.1 fun c a e => f c (by omega) e, by rw [f 31 (by omega) (by omega)]; exact h.2⟩
theorem cNm_f {M M' : Mem} {NW : Int → List Int} {m : Int} (h : cNm M NW m) (f5 : M' 5 = M 5) (f6 : M' 6 = M 6) : cNm M' NW m := by
  unfold cNm at h ⊢
  rw [f5, f6]
  exact h
def cRd (b : Int → Int) (n : Int) (r : PE (Int × DD)) (v : Int) (M : Mem) : Prop := (∀ e, r = .error e → v = 0 ∧ M 2 2 = e.1 ∧ M 2 3 = e.2) ∧ ∀ x, r = .ok x → v = 1 ∧ cTc M b n x.1 ∧ cDd M x.2
theorem cRd_e {b : Int → Int} {n : Int} {M : Mem} {e : Int × Int} {r : PE (Int × DD)} (hr : r = .error e) (h2 : M 2 2 = e.1) (h3 : M 2 3 = e.2) : cRd b n r 0 M := ⟨fun e' h => by
  rw [hr] at h
  injection h with h
  subst h
  exact ⟨rfl, h2, h3⟩, fun q h => by
  rw [hr] at h
  injection h⟩
theorem cRd_o {b : Int → Int} {n : Int} {M : Mem} {x : Int × DD} {r : PE (Int × DD)} (hr : r = .ok x) (h : cTc M b n x.1) (hd : cDd M x.2) : cRd b n r 1 M := ⟨fun e h' => by
  rw [hr] at h'
  injection h', fun q' h' => by
  rw [hr] at h'
  injection h' with h'
  subst h'
  exact ⟨rfl, h, hd⟩⟩
theorem cRd_01 {b : Int → Int} {n : Int} {M : Mem} {r : PE (Int × DD)} {v : Int} (h : cRd b n r v M) : 0 ≤ v ∧ v < 2 := by
  cases hr : r with
  | error e => have := (h.1 e hr).1; omega
  | ok x => have := (h.2 x hr).1; omega
theorem nm_noS {w : List Int} : ixF SKW w 0 = -1 ↔ (w ≠ kl 15 ∧ w ≠ kl 16 ∧ w ≠ kl 17 ∧ w ≠ kl 18) := by
  rw [ixF_no (by omega)]
  constructor
  · intro h
    refine ⟨fun e => h (kl 15) (by decide) e.symm, fun e => h (kl 16) (by decide) e.symm, fun e => h (kl 17) (by decide) e.symm, fun e => h (kl 18) (by decide) e.symm⟩
  · rintro ⟨h0, h1, h2, h3⟩ x hx
    have hx' : x ∈ [kl 15, kl 16, kl 17, kl 18] := hx
    simp only [List.mem_cons, List.not_mem_nil, or_false] at hx'
    rcases hx' with y | y | y | y <;> subst y <;> intro e <;> first | exact h0 e.symm | exact h1 e.symm | exact h2 e.symm | exact h3 e.symm
section LNC
variable {X : Int → Int} {M : Mem} {b : Int → Int} {n p m : Int} {d : DD} {NW : Int → List Int}
theorem skey_iff {j k : Nat} (hj : j < 4) (hk : kl k = SKW.getD j []) : (tK b n p = 2 ∧ tW b n p = kl k) ↔ pSk b n p = (j : Int) := by
  unfold pSk
  rw [hk]
  constructor
  · rintro ⟨z, y⟩
    rw [if_pos z]
    exact (sk_iff hj).mpr y
  · intro h
    by_cases z : tK b n p = 2
    · rw [if_pos z] at h
      exact ⟨z, (sk_iff hj).mp h⟩
    · rw [if_neg z] at h
      omega
theorem c_namedD (h : cNm M NW m) {w : List Int} (lw : lts w) : evc X 66 [vR (some 4), vL (c32 w)] SH0 M = some (some (vI (fnF NW m w)), SH0, M) := by
  have gs := h.1
  have e := s_named (X := X) (M := M) w0_ch4 gs (z := c32 w)
  have e2 : M (4 + 1) 2 = m := h.2.1
  rw [e2] at e
  have g2 := gs.2.2.1
  have ec : firstN (fun k => decide (M (4 + 2) k = c32 w)) m.toNat = fnF NW m w := firstN_congr fun i hi => by
    have h4 := h.2.2 i (by omega) (by omega)
    have iff : (M (4 + 2) i = c32 w) ↔ (NW i = w) := by
      show M 6 i = c32 w ↔ _
      rw [h4.1]
      exact ⟨fun z => c32_inj (NW i).length (Nat.le_refl _) h4.2 lw z, fun z => by rw [z]⟩
    by_cases z : NW i = w
    · rw [decide_eq_true z, decide_eq_true (iff.mpr z)]
    · rw [decide_eq_false z, decide_eq_false (fun y => z (iff.mp y))]
  rw [ec] at e
  exact e
theorem c_isNameD (h : cAt M b n p) (p1 : p ≤ n) : evc X 84 [vR (some 31)] SH0 M = some (some (vI (if nmB b n SKW p = true then 1 else 0)), SH0, M) := by
  have k31 := w0_k31
  have r0 := w0_r31_0
  have r := tK_rng (b := b) (n := n) (p := p)
  have i := ck_id r.1 r.2
  have h4 := h.2.2.1
  rw [E_84 k31]
  by_cases z : tK b n p = 2
  · rw [i.1.mpr z] at h4
    have h6 := h.2.2.2.2 z
    have lt := tW_lts z
    have tp := tW_pos p1 z
    by_cases y : (tW b n p).length ≤ 8
    · have wp : 0 < wc (tW b n p) := by
        unfold wc
        rw [if_neg (by omega)]
        exact (c32_nn (tW b n p).length (Nat.le_refl _) lt).2 (fun e => by rw [e] at tp; exact absurd tp (by simp))
      have q0 : ¬ (if wc (tW b n p) < 0 then (-1 : Int) else if wc (tW b n p) = 0 then 0 else 1) = 0 := by
        rw [if_neg (by omega), if_neg (by omega)]
        omega
      have e0 := c_isWord (X := X) (k := 15) (by omega) h
      have e1 := c_isWord (X := X) (k := 16) (by omega) h
      have e2 := c_isWord (X := X) (k := 17) (by omega) h
      have e3 := c_isWord (X := X) (k := 18) (by omega) h
      by_cases w0 : tW b n p = kl 15
      · rw [if_pos ⟨z, w0⟩] at e0
        have nn : nmB b n SKW p = false := decide_eq_false fun w => (nm_noS.mp w.2.2).1 w0
        rw [nn, if_neg (by decide)]
        generalize wc (tW b n p) = wv at h6 q0
        simp (disch := first | assumption | decide | omega | (simp only [List.length_cons, List.length_nil] <;> omega)) only [lgt_0, lgt_s, lset_0, lset_s, lst1_0, lst1_s, lst2_0, lst2_s, ev_iconst, ev_lconst, ev_ldc, ev_null, ev_iload, ev_lload, ev_aload, ev_istore, ev_lstore, ev_astore, ev_iinc, ev_iadd, ev_isub, ev_imul, ev_iand, ev_ior, ev_ishl, ev_ishr, ev_idiv, ev_irem, ev_ineg, ev_ladd, ev_lsub, ev_lmul, ev_land, ev_lor, ev_ldiv, ev_lrem, ev_lshl, ev_i2l, ev_l2i, ev_i2b, ev_i2s, ev_lcmp, ev_dupI, ev_dupR, ev_dup2, ev_popI, ev_popR, ev_alen, ev_xlen, ev_xald, ev_iald, ev_lald, ev_bald, ev_zald, ev_aald, ev_iast, ev_last, ev_bast, ev_zast, ev_aast, ev_gfI, ev_gfL, ev_gfR, ev_pfI, ev_pfZ, ev_pfL, ev_pfR, ev_new, ev_newa, ev_newq, ev_copy, ev_slen, ev_schr, ev_obj, ev_mmin, ev_mabs, ev_mmax, ev_goto, ev_jsr, ev_icmp_eq, ev_if_eq, ev_icmp_ne, ev_if_ne, ev_icmp_lt, ev_if_lt, ev_icmp_ge, ev_if_ge, ev_icmp_gt, ev_if_gt, ev_icmp_le, ev_if_le, ev_ifnull0, ev_ifnull1, ev_ifnn0, ev_ifnn1, ev_tsw, ev_lsw, ev_iret, ev_zret, ev_lret, ev_aret, ev_ret, ev_call0, ev_call1, ev_call2, ev_call3, ev_call4, ev_call5, ev_call6, Option.toList_some, Option.toList_none, List.cons_append, List.nil_append, List.length_cons, List.length_nil, Nat.reduceMod, Nat.reduceDiv, Nat.reduceLeDiff, nc, ↓reduceIte, Nat.zero_le, reduceCtorEq, w32_id, Int.reduceEq, Int.reduceNe, Int.reduceLT, Int.reduceLE, Int.reduceGT, Int.reduceGE, Int.reduceAdd, Int.reduceSub, Int.reduceMul, Int.reduceNeg, ne_eq, not_true_eq_false, not_false_eq_true, eq_self, ↓if_pos, ↓if_neg, J_84_0, k_84_0, J_84_23, k_84_23, J_84_25, k_84_25, J_84_77, k_84_77, J_84_78, k_84_78, r0, h4, h6, q0, e0]
      rw [if_neg (fun w => w0 w.2)] at e0
      by_cases w1 : tW b n p = kl 16
      · rw [if_pos ⟨z, w1⟩] at e1
        have nn : nmB b n SKW p = false := decide_eq_false fun w => (nm_noS.mp w.2.2).2.1 w1
        rw [nn, if_neg (by decide)]
        generalize wc (tW b n p) = wv at h6 q0
        simp (disch := first | assumption | decide | omega | (simp only [List.length_cons, List.length_nil] <;> omega)) only [lgt_0, lgt_s, lset_0, lset_s, lst1_0, lst1_s, lst2_0, lst2_s, ev_iconst, ev_lconst, ev_ldc, ev_null, ev_iload, ev_lload, ev_aload, ev_istore, ev_lstore, ev_astore, ev_iinc, ev_iadd, ev_isub, ev_imul, ev_iand, ev_ior, ev_ishl, ev_ishr, ev_idiv, ev_irem, ev_ineg, ev_ladd, ev_lsub, ev_lmul, ev_land, ev_lor, ev_ldiv, ev_lrem, ev_lshl, ev_i2l, ev_l2i, ev_i2b, ev_i2s, ev_lcmp, ev_dupI, ev_dupR, ev_dup2, ev_popI, ev_popR, ev_alen, ev_xlen, ev_xald, ev_iald, ev_lald, ev_bald, ev_zald, ev_aald, ev_iast, ev_last, ev_bast, ev_zast, ev_aast, ev_gfI, ev_gfL, ev_gfR, ev_pfI, ev_pfZ, ev_pfL, ev_pfR, ev_new, ev_newa, ev_newq, ev_copy, ev_slen, ev_schr, ev_obj, ev_mmin, ev_mabs, ev_mmax, ev_goto, ev_jsr, ev_icmp_eq, ev_if_eq, ev_icmp_ne, ev_if_ne, ev_icmp_lt, ev_if_lt, ev_icmp_ge, ev_if_ge, ev_icmp_gt, ev_if_gt, ev_icmp_le, ev_if_le, ev_ifnull0, ev_ifnull1, ev_ifnn0, ev_ifnn1, ev_tsw, ev_lsw, ev_iret, ev_zret, ev_lret, ev_aret, ev_ret, ev_call0, ev_call1, ev_call2, ev_call3, ev_call4, ev_call5, ev_call6, Option.toList_some, Option.toList_none, List.cons_append, List.nil_append, List.length_cons, List.length_nil, Nat.reduceMod, Nat.reduceDiv, Nat.reduceLeDiff, nc, ↓reduceIte, Nat.zero_le, reduceCtorEq, w32_id, Int.reduceEq, Int.reduceNe, Int.reduceLT, Int.reduceLE, Int.reduceGT, Int.reduceGE, Int.reduceAdd, Int.reduceSub, Int.reduceMul, Int.reduceNeg, ne_eq, not_true_eq_false, not_false_eq_true, eq_self, ↓if_pos, ↓if_neg, J_84_0, k_84_0, J_84_23, k_84_23, J_84_25, k_84_25, J_84_77, k_84_77, J_84_78, k_84_78, r0, h4, h6, q0, e0, e1]
      rw [if_neg (fun w => w1 w.2)] at e1
      by_cases w2 : tW b n p = kl 17
      · rw [if_pos ⟨z, w2⟩] at e2
        have nn : nmB b n SKW p = false := decide_eq_false fun w => (nm_noS.mp w.2.2).2.2.1 w2
        rw [nn, if_neg (by decide)]
        generalize wc (tW b n p) = wv at h6 q0
        simp (disch := first | assumption | decide | omega | (simp only [List.length_cons, List.length_nil] <;> omega)) only [lgt_0, lgt_s, lset_0, lset_s, lst1_0, lst1_s, lst2_0, lst2_s, ev_iconst, ev_lconst, ev_ldc, ev_null, ev_iload, ev_lload, ev_aload, ev_istore, ev_lstore, ev_astore, ev_iinc, ev_iadd, ev_isub, ev_imul, ev_iand, ev_ior, ev_ishl, ev_ishr, ev_idiv, ev_irem, ev_ineg, ev_ladd, ev_lsub, ev_lmul, ev_land, ev_lor, ev_ldiv, ev_lrem, ev_lshl, ev_i2l, ev_l2i, ev_i2b, ev_i2s, ev_lcmp, ev_dupI, ev_dupR, ev_dup2, ev_popI, ev_popR, ev_alen, ev_xlen, ev_xald, ev_iald, ev_lald, ev_bald, ev_zald, ev_aald, ev_iast, ev_last, ev_bast, ev_zast, ev_aast, ev_gfI, ev_gfL, ev_gfR, ev_pfI, ev_pfZ, ev_pfL, ev_pfR, ev_new, ev_newa, ev_newq, ev_copy, ev_slen, ev_schr, ev_obj, ev_mmin, ev_mabs, ev_mmax, ev_goto, ev_jsr, ev_icmp_eq, ev_if_eq, ev_icmp_ne, ev_if_ne, ev_icmp_lt, ev_if_lt, ev_icmp_ge, ev_if_ge, ev_icmp_gt, ev_if_gt, ev_icmp_le, ev_if_le, ev_ifnull0, ev_ifnull1, ev_ifnn0, ev_ifnn1, ev_tsw, ev_lsw, ev_iret, ev_zret, ev_lret, ev_aret, ev_ret, ev_call0, ev_call1, ev_call2, ev_call3, ev_call4, ev_call5, ev_call6, Option.toList_some, Option.toList_none, List.cons_append, List.nil_append, List.length_cons, List.length_nil, Nat.reduceMod, Nat.reduceDiv, Nat.reduceLeDiff, nc, ↓reduceIte, Nat.zero_le, reduceCtorEq, w32_id, Int.reduceEq, Int.reduceNe, Int.reduceLT, Int.reduceLE, Int.reduceGT, Int.reduceGE, Int.reduceAdd, Int.reduceSub, Int.reduceMul, Int.reduceNeg, ne_eq, not_true_eq_false, not_false_eq_true, eq_self, ↓if_pos, ↓if_neg, J_84_0, k_84_0, J_84_23, k_84_23, J_84_25, k_84_25, J_84_77, k_84_77, J_84_78, k_84_78, r0, h4, h6, q0, e0, e1, e2]
      rw [if_neg (fun w => w2 w.2)] at e2
      by_cases w3 : tW b n p = kl 18
      · rw [if_pos ⟨z, w3⟩] at e3
        have nn : nmB b n SKW p = false := decide_eq_false fun w => (nm_noS.mp w.2.2).2.2.2 w3
        rw [nn, if_neg (by decide)]
        generalize wc (tW b n p) = wv at h6 q0
        simp (disch := first | assumption | decide | omega | (simp only [List.length_cons, List.length_nil] <;> omega)) only [lgt_0, lgt_s, lset_0, lset_s, lst1_0, lst1_s, lst2_0, lst2_s, ev_iconst, ev_lconst, ev_ldc, ev_null, ev_iload, ev_lload, ev_aload, ev_istore, ev_lstore, ev_astore, ev_iinc, ev_iadd, ev_isub, ev_imul, ev_iand, ev_ior, ev_ishl, ev_ishr, ev_idiv, ev_irem, ev_ineg, ev_ladd, ev_lsub, ev_lmul, ev_land, ev_lor, ev_ldiv, ev_lrem, ev_lshl, ev_i2l, ev_l2i, ev_i2b, ev_i2s, ev_lcmp, ev_dupI, ev_dupR, ev_dup2, ev_popI, ev_popR, ev_alen, ev_xlen, ev_xald, ev_iald, ev_lald, ev_bald, ev_zald, ev_aald, ev_iast, ev_last, ev_bast, ev_zast, ev_aast, ev_gfI, ev_gfL, ev_gfR, ev_pfI, ev_pfZ, ev_pfL, ev_pfR, ev_new, ev_newa, ev_newq, ev_copy, ev_slen, ev_schr, ev_obj, ev_mmin, ev_mabs, ev_mmax, ev_goto, ev_jsr, ev_icmp_eq, ev_if_eq, ev_icmp_ne, ev_if_ne, ev_icmp_lt, ev_if_lt, ev_icmp_ge, ev_if_ge, ev_icmp_gt, ev_if_gt, ev_icmp_le, ev_if_le, ev_ifnull0, ev_ifnull1, ev_ifnn0, ev_ifnn1, ev_tsw, ev_lsw, ev_iret, ev_zret, ev_lret, ev_aret, ev_ret, ev_call0, ev_call1, ev_call2, ev_call3, ev_call4, ev_call5, ev_call6, Option.toList_some, Option.toList_none, List.cons_append, List.nil_append, List.length_cons, List.length_nil, Nat.reduceMod, Nat.reduceDiv, Nat.reduceLeDiff, nc, ↓reduceIte, Nat.zero_le, reduceCtorEq, w32_id, Int.reduceEq, Int.reduceNe, Int.reduceLT, Int.reduceLE, Int.reduceGT, Int.reduceGE, Int.reduceAdd, Int.reduceSub, Int.reduceMul, Int.reduceNeg, ne_eq, not_true_eq_false, not_false_eq_true, eq_self, ↓if_pos, ↓if_neg, J_84_0, k_84_0, J_84_23, k_84_23, J_84_25, k_84_25, J_84_77, k_84_77, J_84_78, k_84_78, r0, h4, h6, q0, e0, e1, e2, e3]
      rw [if_neg (fun w => w3 w.2)] at e3
      have nn : nmB b n SKW p = true := decide_eq_true ⟨z, y, nm_noS.mpr ⟨w0, w1, w2, w3⟩⟩
      rw [nn, if_pos rfl]
      generalize wc (tW b n p) = wv at h6 q0
      simp (disch := first | assumption | decide | omega | (simp only [List.length_cons, List.length_nil] <;> omega)) only [lgt_0, lgt_s, lset_0, lset_s, lst1_0, lst1_s, lst2_0, lst2_s, ev_iconst, ev_lconst, ev_ldc, ev_null, ev_iload, ev_lload, ev_aload, ev_istore, ev_lstore, ev_astore, ev_iinc, ev_iadd, ev_isub, ev_imul, ev_iand, ev_ior, ev_ishl, ev_ishr, ev_idiv, ev_irem, ev_ineg, ev_ladd, ev_lsub, ev_lmul, ev_land, ev_lor, ev_ldiv, ev_lrem, ev_lshl, ev_i2l, ev_l2i, ev_i2b, ev_i2s, ev_lcmp, ev_dupI, ev_dupR, ev_dup2, ev_popI, ev_popR, ev_alen, ev_xlen, ev_xald, ev_iald, ev_lald, ev_bald, ev_zald, ev_aald, ev_iast, ev_last, ev_bast, ev_zast, ev_aast, ev_gfI, ev_gfL, ev_gfR, ev_pfI, ev_pfZ, ev_pfL, ev_pfR, ev_new, ev_newa, ev_newq, ev_copy, ev_slen, ev_schr, ev_obj, ev_mmin, ev_mabs, ev_mmax, ev_goto, ev_jsr, ev_icmp_eq, ev_if_eq, ev_icmp_ne, ev_if_ne, ev_icmp_lt, ev_if_lt, ev_icmp_ge, ev_if_ge, ev_icmp_gt, ev_if_gt, ev_icmp_le, ev_if_le, ev_ifnull0, ev_ifnull1, ev_ifnn0, ev_ifnn1, ev_tsw, ev_lsw, ev_iret, ev_zret, ev_lret, ev_aret, ev_ret, ev_call0, ev_call1, ev_call2, ev_call3, ev_call4, ev_call5, ev_call6, Option.toList_some, Option.toList_none, List.cons_append, List.nil_append, List.length_cons, List.length_nil, Nat.reduceMod, Nat.reduceDiv, Nat.reduceLeDiff, nc, ↓reduceIte, Nat.zero_le, reduceCtorEq, w32_id, Int.reduceEq, Int.reduceNe, Int.reduceLT, Int.reduceLE, Int.reduceGT, Int.reduceGE, Int.reduceAdd, Int.reduceSub, Int.reduceMul, Int.reduceNeg, ne_eq, not_true_eq_false, not_false_eq_true, eq_self, ↓if_pos, ↓if_neg, J_84_0, k_84_0, J_84_23, k_84_23, J_84_25, k_84_25, J_84_77, k_84_77, J_84_78, k_84_78, r0, h4, h6, q0, e0, e1, e2, e3]
    · have nn : nmB b n SKW p = false := decide_eq_false fun w => y w.2.1
      rw [nn, if_neg (by decide)]
      have wz : wc (tW b n p) = 0 := if_pos (by omega)
      rw [wz] at h6
      simp (disch := first | assumption | decide | omega | (simp only [List.length_cons, List.length_nil] <;> omega)) only [lgt_0, lgt_s, lset_0, lset_s, lst1_0, lst1_s, lst2_0, lst2_s, ev_iconst, ev_lconst, ev_ldc, ev_null, ev_iload, ev_lload, ev_aload, ev_istore, ev_lstore, ev_astore, ev_iinc, ev_iadd, ev_isub, ev_imul, ev_iand, ev_ior, ev_ishl, ev_ishr, ev_idiv, ev_irem, ev_ineg, ev_ladd, ev_lsub, ev_lmul, ev_land, ev_lor, ev_ldiv, ev_lrem, ev_lshl, ev_i2l, ev_l2i, ev_i2b, ev_i2s, ev_lcmp, ev_dupI, ev_dupR, ev_dup2, ev_popI, ev_popR, ev_alen, ev_xlen, ev_xald, ev_iald, ev_lald, ev_bald, ev_zald, ev_aald, ev_iast, ev_last, ev_bast, ev_zast, ev_aast, ev_gfI, ev_gfL, ev_gfR, ev_pfI, ev_pfZ, ev_pfL, ev_pfR, ev_new, ev_newa, ev_newq, ev_copy, ev_slen, ev_schr, ev_obj, ev_mmin, ev_mabs, ev_mmax, ev_goto, ev_jsr, ev_icmp_eq, ev_if_eq, ev_icmp_ne, ev_if_ne, ev_icmp_lt, ev_if_lt, ev_icmp_ge, ev_if_ge, ev_icmp_gt, ev_if_gt, ev_icmp_le, ev_if_le, ev_ifnull0, ev_ifnull1, ev_ifnn0, ev_ifnn1, ev_tsw, ev_lsw, ev_iret, ev_zret, ev_lret, ev_aret, ev_ret, ev_call0, ev_call1, ev_call2, ev_call3, ev_call4, ev_call5, ev_call6, Option.toList_some, Option.toList_none, List.cons_append, List.nil_append, List.length_cons, List.length_nil, Nat.reduceMod, Nat.reduceDiv, Nat.reduceLeDiff, nc, ↓reduceIte, Nat.zero_le, reduceCtorEq, w32_id, Int.reduceEq, Int.reduceNe, Int.reduceLT, Int.reduceLE, Int.reduceGT, Int.reduceGE, Int.reduceAdd, Int.reduceSub, Int.reduceMul, Int.reduceNeg, ne_eq, not_true_eq_false, not_false_eq_true, eq_self, ↓if_pos, ↓if_neg, J_84_0, k_84_0, J_84_23, k_84_23, J_84_25, k_84_25, J_84_77, k_84_77, J_84_78, k_84_78, r0, h4, h6, Int.lt_irrefl]
  · have nn : nmB b n SKW p = false := decide_eq_false fun w => z w.1
    rw [nn, if_neg (by decide)]
    have q : ¬ M 2 4 = 4 := by rw [h4, i.1]; exact z
    simp (disch := first | assumption | decide | omega | (simp only [List.length_cons, List.length_nil] <;> omega)) only [lgt_0, lgt_s, lset_0, lset_s, lst1_0, lst1_s, lst2_0, lst2_s, ev_iconst, ev_lconst, ev_ldc, ev_null, ev_iload, ev_lload, ev_aload, ev_istore, ev_lstore, ev_astore, ev_iinc, ev_iadd, ev_isub, ev_imul, ev_iand, ev_ior, ev_ishl, ev_ishr, ev_idiv, ev_irem, ev_ineg, ev_ladd, ev_lsub, ev_lmul, ev_land, ev_lor, ev_ldiv, ev_lrem, ev_lshl, ev_i2l, ev_l2i, ev_i2b, ev_i2s, ev_lcmp, ev_dupI, ev_dupR, ev_dup2, ev_popI, ev_popR, ev_alen, ev_xlen, ev_xald, ev_iald, ev_lald, ev_bald, ev_zald, ev_aald, ev_iast, ev_last, ev_bast, ev_zast, ev_aast, ev_gfI, ev_gfL, ev_gfR, ev_pfI, ev_pfZ, ev_pfL, ev_pfR, ev_new, ev_newa, ev_newq, ev_copy, ev_slen, ev_schr, ev_obj, ev_mmin, ev_mabs, ev_mmax, ev_goto, ev_jsr, ev_icmp_eq, ev_if_eq, ev_icmp_ne, ev_if_ne, ev_icmp_lt, ev_if_lt, ev_icmp_ge, ev_if_ge, ev_icmp_gt, ev_if_gt, ev_icmp_le, ev_if_le, ev_ifnull0, ev_ifnull1, ev_ifnn0, ev_ifnn1, ev_tsw, ev_lsw, ev_iret, ev_zret, ev_lret, ev_aret, ev_ret, ev_call0, ev_call1, ev_call2, ev_call3, ev_call4, ev_call5, ev_call6, Option.toList_some, Option.toList_none, List.cons_append, List.nil_append, List.length_cons, List.length_nil, Nat.reduceMod, Nat.reduceDiv, Nat.reduceLeDiff, nc, ↓reduceIte, Nat.zero_le, reduceCtorEq, w32_id, Int.reduceEq, Int.reduceNe, Int.reduceLT, Int.reduceLE, Int.reduceGT, Int.reduceGE, Int.reduceAdd, Int.reduceSub, Int.reduceMul, Int.reduceNeg, ne_eq, not_true_eq_false, not_false_eq_true, eq_self, ↓if_pos, ↓if_neg, J_84_0, k_84_0, J_84_23, k_84_23, J_84_25, k_84_25, J_84_77, k_84_77, J_84_78, k_84_78, r0, q]
theorem c_add (hd : cDl M d) (hl : (d.2.2.2.1 : Int) < 80) (h4 : 0 ≤ d.2.2.2.2 ∧ d.2.2.2.2 ≤ 40) {k c v : Int} : ∃ M', (∀ e, (e < 32 ∨ 35 < e) → M' e = M e) ∧ cDl M' (addL d k c v) ∧ evc X 85 [vR (some 32), vI k, vI c, vI v] SH0 M = some (none, SH0, M') := by
  obtain ⟨a1, a2, a3⟩ := hd
  have k32 := w0_k32
  have r0 := w0_r32_0
  have r1 := w0_r32_1
  have r2 := w0_r32_2
  have k33 := w0_k33
  have k34 := w0_k34
  have k35 := w0_k35
  have l33 := w0_l33
  have l34 := w0_l34
  have l35 := w0_l35
  have q : ¬ 80 ≤ M 32 3 := by omega
  refine ⟨up (up (up (up (up M 33 (M 32 3) k) 34 (M 32 3) c) 35 (M 32 3) v) 32 3 (M 32 3 + 1)) 32 4 (M 32 4 + if k = 3 then 0 else 1), fun e he => by rw [up_ne (by omega), up_ne (by omega), up_ne (by omega), up_ne (by omega), up_ne (by omega)], ⟨?_, ?_, fun l hl => ?_⟩, ?_⟩
  · rw [up_ne2 (by omega), up_eq, a1]
    show _ = ((d.2.2.2.1 + 1 : Nat) : Int)
    omega
  · rw [up_eq, a2]
    rfl
  · have hl' : l < d.2.2.2.1 + 1 := hl
    rw [a1]
    have g33 : up (up (up (up (up M 33 (d.2.2.2.1 : Int) k) 34 (d.2.2.2.1 : Int) c) 35 (d.2.2.2.1 : Int) v) 32 3 ((d.2.2.2.1 : Int) + 1)) 32 4 (M 32 4 + if k = 3 then 0 else 1) 33 (l : Int) = up M 33 (d.2.2.2.1 : Int) k 33 (l : Int) := by rw [up_ne (by omega), up_ne (by omega), up_ne (by omega), up_ne (by omega)]
    have g34 : up (up (up (up (up M 33 (d.2.2.2.1 : Int) k) 34 (d.2.2.2.1 : Int) c) 35 (d.2.2.2.1 : Int) v) 32 3 ((d.2.2.2.1 : Int) + 1)) 32 4 (M 32 4 + if k = 3 then 0 else 1) 34 (l : Int) = up (up M 33 (d.2.2.2.1 : Int) k) 34 (d.2.2.2.1 : Int) c 34 (l : Int) := by rw [up_ne (by omega), up_ne (by omega), up_ne (by omega)]
    have g35 : up (up (up (up (up M 33 (d.2.2.2.1 : Int) k) 34 (d.2.2.2.1 : Int) c) 35 (d.2.2.2.1 : Int) v) 32 3 ((d.2.2.2.1 : Int) + 1)) 32 4 (M 32 4 + if k = 3 then 0 else 1) 35 (l : Int) = up (up (up M 33 (d.2.2.2.1 : Int) k) 34 (d.2.2.2.1 : Int) c) 35 (d.2.2.2.1 : Int) v 35 (l : Int) := by rw [up_ne (by omega), up_ne (by omega)]
    rw [g33, g34, g35]
    show _ = upH d.1 (d.2.2.2.1 : Int) k (l : Int) ∧ _ = upH d.2.1 (d.2.2.2.1 : Int) c (l : Int) ∧ _ = upH d.2.2.1 (d.2.2.2.1 : Int) v (l : Int)
    unfold upH
    by_cases z : l = d.2.2.2.1
    · rw [z, if_pos rfl, if_pos rfl, if_pos rfl, up_eq, up_eq, up_eq]
      exact ⟨rfl, rfl, rfl⟩
    · have z' : (l : Int) ≠ (d.2.2.2.1 : Int) := by omega
      have a3' := a3 l (by omega)
      rw [if_neg z', if_neg z', if_neg z', up_ne2 z', up_ne2 z', up_ne2 z', up_ne (show (34 : Nat) ≠ 33 by omega), up_ne (show (35 : Nat) ≠ 34 by omega), up_ne (show (35 : Nat) ≠ 33 by omega)]
      exact a3'
  · rw [E_85 k32]
    by_cases z : k = 3
    · have z' : ¬ k ≠ 3 := fun y => y z
      rw [if_pos z]
      simp (disch := first | assumption | decide | omega | (simp only [List.length_cons, List.length_nil] <;> omega)) only [lgt_0, lgt_s, lset_0, lset_s, lst1_0, lst1_s, lst2_0, lst2_s, ev_iconst, ev_lconst, ev_ldc, ev_null, ev_iload, ev_lload, ev_aload, ev_istore, ev_lstore, ev_astore, ev_iinc, ev_iadd, ev_isub, ev_imul, ev_iand, ev_ior, ev_ishl, ev_ishr, ev_idiv, ev_irem, ev_ineg, ev_ladd, ev_lsub, ev_lmul, ev_land, ev_lor, ev_ldiv, ev_lrem, ev_lshl, ev_i2l, ev_l2i, ev_i2b, ev_i2s, ev_lcmp, ev_dupI, ev_dupR, ev_dup2, ev_popI, ev_popR, ev_alen, ev_xlen, ev_xald, ev_iald, ev_lald, ev_bald, ev_zald, ev_aald, ev_iast, ev_last, ev_bast, ev_zast, ev_aast, ev_gfI, ev_gfL, ev_gfR, ev_pfI, ev_pfZ, ev_pfL, ev_pfR, ev_new, ev_newa, ev_newq, ev_copy, ev_slen, ev_schr, ev_obj, ev_mmin, ev_mabs, ev_mmax, ev_goto, ev_jsr, ev_icmp_eq, ev_if_eq, ev_icmp_ne, ev_if_ne, ev_icmp_lt, ev_if_lt, ev_icmp_ge, ev_if_ge, ev_icmp_gt, ev_if_gt, ev_icmp_le, ev_if_le, ev_ifnull0, ev_ifnull1, ev_ifnn0, ev_ifnn1, ev_tsw, ev_lsw, ev_iret, ev_zret, ev_lret, ev_aret, ev_ret, ev_call0, ev_call1, ev_call2, ev_call3, ev_call4, ev_call5, ev_call6, Option.toList_some, Option.toList_none, List.cons_append, List.nil_append, List.length_cons, List.length_nil, Nat.reduceMod, Nat.reduceDiv, Nat.reduceLeDiff, nc, ↓reduceIte, Nat.zero_le, reduceCtorEq, w32_id, Int.reduceEq, Int.reduceNe, Int.reduceLT, Int.reduceLE, Int.reduceGT, Int.reduceGE, Int.reduceAdd, Int.reduceSub, Int.reduceMul, Int.reduceNeg, ne_eq, not_true_eq_false, not_false_eq_true, eq_self, ↓if_pos, ↓if_neg, J_85_0, k_85_0, J_85_63, k_85_63, J_85_64, k_85_64, J_85_68, k_85_68, q, r0, r1, r2, z, z', up_ne, up_ne2, up_eq, Int.add_zero]
    · rw [if_neg z]
      simp (disch := first | assumption | decide | omega | (simp only [List.length_cons, List.length_nil] <;> omega)) only [lgt_0, lgt_s, lset_0, lset_s, lst1_0, lst1_s, lst2_0, lst2_s, ev_iconst, ev_lconst, ev_ldc, ev_null, ev_iload, ev_lload, ev_aload, ev_istore, ev_lstore, ev_astore, ev_iinc, ev_iadd, ev_isub, ev_imul, ev_iand, ev_ior, ev_ishl, ev_ishr, ev_idiv, ev_irem, ev_ineg, ev_ladd, ev_lsub, ev_lmul, ev_land, ev_lor, ev_ldiv, ev_lrem, ev_lshl, ev_i2l, ev_l2i, ev_i2b, ev_i2s, ev_lcmp, ev_dupI, ev_dupR, ev_dup2, ev_popI, ev_popR, ev_alen, ev_xlen, ev_xald, ev_iald, ev_lald, ev_bald, ev_zald, ev_aald, ev_iast, ev_last, ev_bast, ev_zast, ev_aast, ev_gfI, ev_gfL, ev_gfR, ev_pfI, ev_pfZ, ev_pfL, ev_pfR, ev_new, ev_newa, ev_newq, ev_copy, ev_slen, ev_schr, ev_obj, ev_mmin, ev_mabs, ev_mmax, ev_goto, ev_jsr, ev_icmp_eq, ev_if_eq, ev_icmp_ne, ev_if_ne, ev_icmp_lt, ev_if_lt, ev_icmp_ge, ev_if_ge, ev_icmp_gt, ev_if_gt, ev_icmp_le, ev_if_le, ev_ifnull0, ev_ifnull1, ev_ifnn0, ev_ifnn1, ev_tsw, ev_lsw, ev_iret, ev_zret, ev_lret, ev_aret, ev_ret, ev_call0, ev_call1, ev_call2, ev_call3, ev_call4, ev_call5, ev_call6, Option.toList_some, Option.toList_none, List.cons_append, List.nil_append, List.length_cons, List.length_nil, Nat.reduceMod, Nat.reduceDiv, Nat.reduceLeDiff, nc, ↓reduceIte, Nat.zero_le, reduceCtorEq, w32_id, Int.reduceEq, Int.reduceNe, Int.reduceLT, Int.reduceLE, Int.reduceGT, Int.reduceGE, Int.reduceAdd, Int.reduceSub, Int.reduceMul, Int.reduceNeg, ne_eq, not_true_eq_false, not_false_eq_true, eq_self, ↓if_pos, ↓if_neg, J_85_0, k_85_0, J_85_63, k_85_63, J_85_64, k_85_64, J_85_68, k_85_68, q, r0, r1, r2, z, up_ne, up_ne2, up_eq]
theorem c_room (h : cAt M b n p) : (M 32 4 < 40 → evc X 81 [vR (some 31)] SH0 M = some (some (vI 1), SH0, M)) ∧ (¬ M 32 4 < 40 → evc X 81 [vR (some 31)] SH0 M = some (some (vI 0), SH0, up (up M 2 2 6) 2 3 (tQ b n p))) := by
  have k31 := w0_k31
  have k32 := w0_k32
  have r0 := w0_r31_0
  have r1 := w0_r31_1
  have w := c_wrong (X := X) (M := M) (w := 6)
  rw [h.2.1] at w
  refine ⟨fun z => ?_, fun z => ?_⟩
  · rw [E_81 k31]
    simp (disch := first | assumption | decide | omega | (simp only [List.length_cons, List.length_nil] <;> omega)) only [lgt_0, lgt_s, lset_0, lset_s, lst1_0, lst1_s, lst2_0, lst2_s, ev_iconst, ev_lconst, ev_ldc, ev_null, ev_iload, ev_lload, ev_aload, ev_istore, ev_lstore, ev_astore, ev_iinc, ev_iadd, ev_isub, ev_imul, ev_iand, ev_ior, ev_ishl, ev_ishr, ev_idiv, ev_irem, ev_ineg, ev_ladd, ev_lsub, ev_lmul, ev_land, ev_lor, ev_ldiv, ev_lrem, ev_lshl, ev_i2l, ev_l2i, ev_i2b, ev_i2s, ev_lcmp, ev_dupI, ev_dupR, ev_dup2, ev_popI, ev_popR, ev_alen, ev_xlen, ev_xald, ev_iald, ev_lald, ev_bald, ev_zald, ev_aald, ev_iast, ev_last, ev_bast, ev_zast, ev_aast, ev_gfI, ev_gfL, ev_gfR, ev_pfI, ev_pfZ, ev_pfL, ev_pfR, ev_new, ev_newa, ev_newq, ev_copy, ev_slen, ev_schr, ev_obj, ev_mmin, ev_mabs, ev_mmax, ev_goto, ev_jsr, ev_icmp_eq, ev_if_eq, ev_icmp_ne, ev_if_ne, ev_icmp_lt, ev_if_lt, ev_icmp_ge, ev_if_ge, ev_icmp_gt, ev_if_gt, ev_icmp_le, ev_if_le, ev_ifnull0, ev_ifnull1, ev_ifnn0, ev_ifnn1, ev_tsw, ev_lsw, ev_iret, ev_zret, ev_lret, ev_aret, ev_ret, ev_call0, ev_call1, ev_call2, ev_call3, ev_call4, ev_call5, ev_call6, Option.toList_some, Option.toList_none, List.cons_append, List.nil_append, List.length_cons, List.length_nil, Nat.reduceMod, Nat.reduceDiv, Nat.reduceLeDiff, nc, ↓reduceIte, Nat.zero_le, reduceCtorEq, w32_id, Int.reduceEq, Int.reduceNe, Int.reduceLT, Int.reduceLE, Int.reduceGT, Int.reduceGE, Int.reduceAdd, Int.reduceSub, Int.reduceMul, Int.reduceNeg, ne_eq, not_true_eq_false, not_false_eq_true, eq_self, ↓if_pos, ↓if_neg, J_81_0, k_81_0, J_81_24, k_81_24, J_81_28, k_81_28, J_81_29, k_81_29, r0, r1, z]
  · rw [E_81 k31]
    simp (disch := first | assumption | decide | omega | (simp only [List.length_cons, List.length_nil] <;> omega)) only [lgt_0, lgt_s, lset_0, lset_s, lst1_0, lst1_s, lst2_0, lst2_s, ev_iconst, ev_lconst, ev_ldc, ev_null, ev_iload, ev_lload, ev_aload, ev_istore, ev_lstore, ev_astore, ev_iinc, ev_iadd, ev_isub, ev_imul, ev_iand, ev_ior, ev_ishl, ev_ishr, ev_idiv, ev_irem, ev_ineg, ev_ladd, ev_lsub, ev_lmul, ev_land, ev_lor, ev_ldiv, ev_lrem, ev_lshl, ev_i2l, ev_l2i, ev_i2b, ev_i2s, ev_lcmp, ev_dupI, ev_dupR, ev_dup2, ev_popI, ev_popR, ev_alen, ev_xlen, ev_xald, ev_iald, ev_lald, ev_bald, ev_zald, ev_aald, ev_iast, ev_last, ev_bast, ev_zast, ev_aast, ev_gfI, ev_gfL, ev_gfR, ev_pfI, ev_pfZ, ev_pfL, ev_pfR, ev_new, ev_newa, ev_newq, ev_copy, ev_slen, ev_schr, ev_obj, ev_mmin, ev_mabs, ev_mmax, ev_goto, ev_jsr, ev_icmp_eq, ev_if_eq, ev_icmp_ne, ev_if_ne, ev_icmp_lt, ev_if_lt, ev_icmp_ge, ev_if_ge, ev_icmp_gt, ev_if_gt, ev_icmp_le, ev_if_le, ev_ifnull0, ev_ifnull1, ev_ifnn0, ev_ifnn1, ev_tsw, ev_lsw, ev_iret, ev_zret, ev_lret, ev_aret, ev_ret, ev_call0, ev_call1, ev_call2, ev_call3, ev_call4, ev_call5, ev_call6, Option.toList_some, Option.toList_none, List.cons_append, List.nil_append, List.length_cons, List.length_nil, Nat.reduceMod, Nat.reduceDiv, Nat.reduceLeDiff, nc, ↓reduceIte, Nat.zero_le, reduceCtorEq, w32_id, Int.reduceEq, Int.reduceNe, Int.reduceLT, Int.reduceLE, Int.reduceGT, Int.reduceGE, Int.reduceAdd, Int.reduceSub, Int.reduceMul, Int.reduceNeg, ne_eq, not_true_eq_false, not_false_eq_true, eq_self, ↓if_pos, ↓if_neg, J_81_0, k_81_0, J_81_24, k_81_24, J_81_28, k_81_28, J_81_29, k_81_29, r0, r1, z, w]
theorem c_goName (g : gT b n) (h : cTc M b n p) (p0 : 0 ≤ p) (p1 : p ≤ n) (hN : cNm M NW m) : ∃ v M', fT M M' ∧ (∀ e, pNam b n NW m p = .error e → v = 0 ∧ M' 2 2 = e.1 ∧ M' 2 3 = e.2) ∧ (∀ r, pNam b n NW m p = .ok r → v = 1 ∧ cTc M' b n r.1 ∧ M' 2 6 = c32 (tW b n p)) ∧ evc X 83 [vR (some 31), vR (some 4)] SH0 M = some (some (vI v), SH0, M') := by
  have k31 := w0_k31
  have r0 := w0_r31_0
  obtain ⟨v, Ma, fa, hv, e1⟩ := c_go (X := X) g h p0 p1
  rw [E_83 k31]
  unfold pNam
  rcases hv with ⟨z, hv, y2, y3⟩ | ⟨z, hv, ca⟩
  · subst hv
    rw [if_pos z]
    refine ⟨0, Ma, fa, fun e' h' => ?_, fun r h' => by injection h', ?_⟩
    · injection h' with h'
      subst h'
      exact ⟨rfl, y2, y3⟩
    · simp (disch := first | assumption | decide | omega | (simp only [List.length_cons, List.length_nil] <;> omega)) only [lgt_0, lgt_s, lset_0, lset_s, lst1_0, lst1_s, lst2_0, lst2_s, ev_iconst, ev_lconst, ev_ldc, ev_null, ev_iload, ev_lload, ev_aload, ev_istore, ev_lstore, ev_astore, ev_iinc, ev_iadd, ev_isub, ev_imul, ev_iand, ev_ior, ev_ishl, ev_ishr, ev_idiv, ev_irem, ev_ineg, ev_ladd, ev_lsub, ev_lmul, ev_land, ev_lor, ev_ldiv, ev_lrem, ev_lshl, ev_i2l, ev_l2i, ev_i2b, ev_i2s, ev_lcmp, ev_dupI, ev_dupR, ev_dup2, ev_popI, ev_popR, ev_alen, ev_xlen, ev_xald, ev_iald, ev_lald, ev_bald, ev_zald, ev_aald, ev_iast, ev_last, ev_bast, ev_zast, ev_aast, ev_gfI, ev_gfL, ev_gfR, ev_pfI, ev_pfZ, ev_pfL, ev_pfR, ev_new, ev_newa, ev_newq, ev_copy, ev_slen, ev_schr, ev_obj, ev_mmin, ev_mabs, ev_mmax, ev_goto, ev_jsr, ev_icmp_eq, ev_if_eq, ev_icmp_ne, ev_if_ne, ev_icmp_lt, ev_if_lt, ev_icmp_ge, ev_if_ge, ev_icmp_gt, ev_if_gt, ev_icmp_le, ev_if_le, ev_ifnull0, ev_ifnull1, ev_ifnn0, ev_ifnn1, ev_tsw, ev_lsw, ev_iret, ev_zret, ev_lret, ev_aret, ev_ret, ev_call0, ev_call1, ev_call2, ev_call3, ev_call4, ev_call5, ev_call6, Option.toList_some, Option.toList_none, List.cons_append, List.nil_append, List.length_cons, List.length_nil, Nat.reduceMod, Nat.reduceDiv, Nat.reduceLeDiff, nc, ↓reduceIte, Nat.zero_le, reduceCtorEq, w32_id, Int.reduceEq, Int.reduceNe, Int.reduceLT, Int.reduceLE, Int.reduceGT, Int.reduceGE, Int.reduceAdd, Int.reduceSub, Int.reduceMul, Int.reduceNeg, ne_eq, not_true_eq_false, not_false_eq_true, eq_self, ↓if_pos, ↓if_neg, J_83_0, k_83_0, J_83_12, k_83_12, J_83_28, k_83_28, J_83_54, k_83_54, J_83_58, k_83_58, J_83_59, k_83_59, r0, e1]
  subst hv
  rw [if_neg z]
  have en := c_isNameD (X := X) ca p1
  cases hn : nmB b n SKW p with
  | false =>
    rw [hn, if_neg (by decide)] at en
    have w := c_wrong (X := X) (M := Ma) (w := 2)
    rw [ca.2.1] at w
    rw [if_pos rfl]
    refine ⟨0, up (up Ma 2 2 2) 2 3 (tQ b n p), fT_w fa, fun e' h' => ?_, fun r h' => by injection h', ?_⟩
    rotate_left
    · simp (disch := first | assumption | decide | omega | (simp only [List.length_cons, List.length_nil] <;> omega)) only [lgt_0, lgt_s, lset_0, lset_s, lst1_0, lst1_s, lst2_0, lst2_s, ev_iconst, ev_lconst, ev_ldc, ev_null, ev_iload, ev_lload, ev_aload, ev_istore, ev_lstore, ev_astore, ev_iinc, ev_iadd, ev_isub, ev_imul, ev_iand, ev_ior, ev_ishl, ev_ishr, ev_idiv, ev_irem, ev_ineg, ev_ladd, ev_lsub, ev_lmul, ev_land, ev_lor, ev_ldiv, ev_lrem, ev_lshl, ev_i2l, ev_l2i, ev_i2b, ev_i2s, ev_lcmp, ev_dupI, ev_dupR, ev_dup2, ev_popI, ev_popR, ev_alen, ev_xlen, ev_xald, ev_iald, ev_lald, ev_bald, ev_zald, ev_aald, ev_iast, ev_last, ev_bast, ev_zast, ev_aast, ev_gfI, ev_gfL, ev_gfR, ev_pfI, ev_pfZ, ev_pfL, ev_pfR, ev_new, ev_newa, ev_newq, ev_copy, ev_slen, ev_schr, ev_obj, ev_mmin, ev_mabs, ev_mmax, ev_goto, ev_jsr, ev_icmp_eq, ev_if_eq, ev_icmp_ne, ev_if_ne, ev_icmp_lt, ev_if_lt, ev_icmp_ge, ev_if_ge, ev_icmp_gt, ev_if_gt, ev_icmp_le, ev_if_le, ev_ifnull0, ev_ifnull1, ev_ifnn0, ev_ifnn1, ev_tsw, ev_lsw, ev_iret, ev_zret, ev_lret, ev_aret, ev_ret, ev_call0, ev_call1, ev_call2, ev_call3, ev_call4, ev_call5, ev_call6, Option.toList_some, Option.toList_none, List.cons_append, List.nil_append, List.length_cons, List.length_nil, Nat.reduceMod, Nat.reduceDiv, Nat.reduceLeDiff, nc, ↓reduceIte, Nat.zero_le, reduceCtorEq, w32_id, Int.reduceEq, Int.reduceNe, Int.reduceLT, Int.reduceLE, Int.reduceGT, Int.reduceGE, Int.reduceAdd, Int.reduceSub, Int.reduceMul, Int.reduceNeg, ne_eq, not_true_eq_false, not_false_eq_true, eq_self, ↓if_pos, ↓if_neg, J_83_0, k_83_0, J_83_12, k_83_12, J_83_28, k_83_28, J_83_54, k_83_54, J_83_58, k_83_58, J_83_59, k_83_59, r0, e1, en, w]
    · injection h' with h'
      subst h'
      exact ⟨rfl, by rw [up_ne2 (by omega), up_eq], up_eq⟩
  | true =>
    rw [hn, if_pos rfl] at en
    rw [if_neg (by decide)]
    have nk : tK b n p = 2 ∧ (tW b n p).length ≤ 8 ∧ ixF SKW (tW b n p) 0 = -1 := of_decide_eq_true hn
    have h6 := ca.2.2.2.2 nk.1
    have w6 : wc (tW b n p) = c32 (tW b n p) := if_neg (by omega)
    rw [w6] at h6
    have hNa := cNm_f hN (fa.1 5 (by omega)) (fa.1 6 (by omega))
    have ed := c_namedD (X := X) hNa (tW_lts nk.1)
    have k2 := w0_k2
    by_cases y : fnF NW m (tW b n p) = -1
    · rw [y] at ed
      rw [if_pos y]
      have w := c_wrong (X := X) (M := Ma) (w := 3)
      rw [ca.2.1] at w
      refine ⟨0, up (up Ma 2 2 3) 2 3 (tQ b n p), fT_w fa, fun e' h' => ?_, fun r h' => by injection h', ?_⟩
      rotate_left
      · simp (disch := first | assumption | decide | omega | (simp only [List.length_cons, List.length_nil] <;> omega)) only [lgt_0, lgt_s, lset_0, lset_s, lst1_0, lst1_s, lst2_0, lst2_s, ev_iconst, ev_lconst, ev_ldc, ev_null, ev_iload, ev_lload, ev_aload, ev_istore, ev_lstore, ev_astore, ev_iinc, ev_iadd, ev_isub, ev_imul, ev_iand, ev_ior, ev_ishl, ev_ishr, ev_idiv, ev_irem, ev_ineg, ev_ladd, ev_lsub, ev_lmul, ev_land, ev_lor, ev_ldiv, ev_lrem, ev_lshl, ev_i2l, ev_l2i, ev_i2b, ev_i2s, ev_lcmp, ev_dupI, ev_dupR, ev_dup2, ev_popI, ev_popR, ev_alen, ev_xlen, ev_xald, ev_iald, ev_lald, ev_bald, ev_zald, ev_aald, ev_iast, ev_last, ev_bast, ev_zast, ev_aast, ev_gfI, ev_gfL, ev_gfR, ev_pfI, ev_pfZ, ev_pfL, ev_pfR, ev_new, ev_newa, ev_newq, ev_copy, ev_slen, ev_schr, ev_obj, ev_mmin, ev_mabs, ev_mmax, ev_goto, ev_jsr, ev_icmp_eq, ev_if_eq, ev_icmp_ne, ev_if_ne, ev_icmp_lt, ev_if_lt, ev_icmp_ge, ev_if_ge, ev_icmp_gt, ev_if_gt, ev_icmp_le, ev_if_le, ev_ifnull0, ev_ifnull1, ev_ifnn0, ev_ifnn1, ev_tsw, ev_lsw, ev_iret, ev_zret, ev_lret, ev_aret, ev_ret, ev_call0, ev_call1, ev_call2, ev_call3, ev_call4, ev_call5, ev_call6, Option.toList_some, Option.toList_none, List.cons_append, List.nil_append, List.length_cons, List.length_nil, Nat.reduceMod, Nat.reduceDiv, Nat.reduceLeDiff, nc, ↓reduceIte, Nat.zero_le, reduceCtorEq, w32_id, Int.reduceEq, Int.reduceNe, Int.reduceLT, Int.reduceLE, Int.reduceGT, Int.reduceGE, Int.reduceAdd, Int.reduceSub, Int.reduceMul, Int.reduceNeg, ne_eq, not_true_eq_false, not_false_eq_true, eq_self, ↓if_pos, ↓if_neg, J_83_0, k_83_0, J_83_12, k_83_12, J_83_28, k_83_28, J_83_54, k_83_54, J_83_58, k_83_58, J_83_59, k_83_59, r0, e1, en, h6, ed, w]
      · injection h' with h'
        subst h'
        exact ⟨rfl, by rw [up_ne2 (by omega), up_eq], up_eq⟩
    · rw [if_neg y]
      refine ⟨1, Ma, fa, fun e' h' => (by injection h'), fun r h' => ?_, ?_⟩
      · injection h' with h'
        subst h'
        exact ⟨rfl, ca.1, h6⟩
      · simp (disch := first | assumption | decide | omega | (simp only [List.length_cons, List.length_nil] <;> omega)) only [lgt_0, lgt_s, lset_0, lset_s, lst1_0, lst1_s, lst2_0, lst2_s, ev_iconst, ev_lconst, ev_ldc, ev_null, ev_iload, ev_lload, ev_aload, ev_istore, ev_lstore, ev_astore, ev_iinc, ev_iadd, ev_isub, ev_imul, ev_iand, ev_ior, ev_ishl, ev_ishr, ev_idiv, ev_irem, ev_ineg, ev_ladd, ev_lsub, ev_lmul, ev_land, ev_lor, ev_ldiv, ev_lrem, ev_lshl, ev_i2l, ev_l2i, ev_i2b, ev_i2s, ev_lcmp, ev_dupI, ev_dupR, ev_dup2, ev_popI, ev_popR, ev_alen, ev_xlen, ev_xald, ev_iald, ev_lald, ev_bald, ev_zald, ev_aald, ev_iast, ev_last, ev_bast, ev_zast, ev_aast, ev_gfI, ev_gfL, ev_gfR, ev_pfI, ev_pfZ, ev_pfL, ev_pfR, ev_new, ev_newa, ev_newq, ev_copy, ev_slen, ev_schr, ev_obj, ev_mmin, ev_mabs, ev_mmax, ev_goto, ev_jsr, ev_icmp_eq, ev_if_eq, ev_icmp_ne, ev_if_ne, ev_icmp_lt, ev_if_lt, ev_icmp_ge, ev_if_ge, ev_icmp_gt, ev_if_gt, ev_icmp_le, ev_if_le, ev_ifnull0, ev_ifnull1, ev_ifnn0, ev_ifnn1, ev_tsw, ev_lsw, ev_iret, ev_zret, ev_lret, ev_aret, ev_ret, ev_call0, ev_call1, ev_call2, ev_call3, ev_call4, ev_call5, ev_call6, Option.toList_some, Option.toList_none, List.cons_append, List.nil_append, List.length_cons, List.length_nil, Nat.reduceMod, Nat.reduceDiv, Nat.reduceLeDiff, nc, ↓reduceIte, Nat.zero_le, reduceCtorEq, w32_id, Int.reduceEq, Int.reduceNe, Int.reduceLT, Int.reduceLE, Int.reduceGT, Int.reduceGE, Int.reduceAdd, Int.reduceSub, Int.reduceMul, Int.reduceNeg, ne_eq, not_true_eq_false, not_false_eq_true, eq_self, ↓if_pos, ↓if_neg, J_83_0, k_83_0, J_83_12, k_83_12, J_83_28, k_83_28, J_83_54, k_83_54, J_83_58, k_83_58, J_83_59, k_83_59, r0, e1, en, h6, ed, y]
end LNC
