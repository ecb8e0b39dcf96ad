/-! OPERATIONS: tidy. -/
def wsF (A : Int → Int) (p : LE) : Nat → Int × Int
  | 0 => (-1, cosF p.1 p.2 A)
  | i + 1 => if p.1 i ≠ -1 ∧ cosF (rmv p i).1 (rmv p i).2 A < (wsF A p i).2 then ((i : Int), cosF (rmv p i).1 (rmv p i).2 A) else wsF A p i
theorem wsF_s {A : Int → Int} {p : LE} {i : Nat} : wsF A p (i + 1) = if p.1 i ≠ -1 ∧ cosF (rmv p i).1 (rmv p i).2 A < (wsF A p i).2 then ((i : Int), cosF (rmv p i).1 (rmv p i).2 A) else wsF A p i := rfl
theorem wsF_is {A : Int → Int} {p : LE} (g : gWY A) : ∀ {n : Nat}, (0 ≤ (wsF A p n).2 ∧ (wsF A p n).2 ≤ 100000) ∧ ((wsF A p n).1 = -1 ∨ ((0 ≤ (wsF A p n).1 ∧ (wsF A p n).1 < n) ∧ p.1 (wsF A p n).1 ≠ -1))
  | 0 => ⟨cos_rng g, Or.inl rfl⟩
  | n + 1 => by
    have ih := wsF_is (p := p) g (n := n)
    rw [wsF_s]
    by_cases q : p.1 n ≠ -1 ∧ cosF (rmv p n).1 (rmv p n).2 A < (wsF A p n).2
    · rw [if_pos q]
      exact ⟨cos_rng g, Or.inr ⟨⟨by show (0 : Int) ≤ n; omega, by show (n : Int) < _; omega⟩, q.1⟩⟩
    · rw [if_neg q]
      refine ⟨ih.1, ?_⟩
      rcases ih.2 with z | z
      · exact Or.inl z
      · exact Or.inr ⟨⟨z.1.1, by omega⟩, z.2⟩
def tdF (A : Int → Int) (p : LE) : Nat → LE × Int
  | 0 => (p, 0)
  | k + 1 => if (wsF A (tdF A p k).1 (xn A).toNat).1 = -1 then tdF A p k else (rmv (tdF A p k).1 (wsF A (tdF A p k).1 (xn A).toNat).1, (tdF A p k).2 + 1)
theorem tdF_s {A : Int → Int} {p : LE} {k : Nat} : tdF A p (k + 1) = if (wsF A (tdF A p k).1 (xn A).toNat).1 = -1 then tdF A p k else (rmv (tdF A p k).1 (wsF A (tdF A p k).1 (xn A).toNat).1, (tdF A p k).2 + 1) := rfl
theorem tdF_stop {A : Int → Int} {p : LE} {k : Nat} (h : (wsF A (tdF A p k).1 (xn A).toNat).1 = -1) : ∀ {m : Nat}, k ≤ m → tdF A p m = tdF A p k
  | 0, hm => by rw [show k = 0 from by omega]
  | m + 1, hm => by
    rcases Nat.lt_or_ge m k with z | z
    · rw [show m + 1 = k from by omega]
    · have e := tdF_stop h z
      rw [tdF_s, e, if_pos h]
theorem rmv_ok {A : Int → Int} {p : LE} (h : PLok p.1 p.2 A) (hn : xn A ≤ 48) {i : Int} (hi : 0 ≤ i ∧ i < 48) (hL : p.1 i ≠ -1) : PLok (rmv p i).1 (rmv p i).2 A := pl_part h hn hi hL (fun k => rfl) (fun k => rfl)
theorem jn_rmv {A : Int → Int} {p : LE} (h : PLok p.1 p.2 A) {i : Int} (hi : 0 ≤ i ∧ i < 48) (hL : p.1 i ≠ -1) : jn (rmv p i) i (p.1 i) = p := by
  have e := h.2.2 i hi.1 hi.2 hL
  have e1 : (jn (rmv p i) i (p.1 i)).1 = p.1 := by
    funext k
    show (if k = i then p.1 i else if k = i then -1 else p.1 k) = p.1 k
    by_cases z : k = i
    · rw [if_pos z, z]
    · rw [if_neg z, if_neg z]
  have e2 : (jn (rmv p i) i (p.1 i)).2 = p.2 := by
    funext k
    show (if k = p.1 i then i else if k = p.1 i then -1 else p.2 k) = p.2 k
    by_cases z : k = p.1 i
    · rw [if_pos z, z, e]
    · rw [if_neg z, if_neg z]
  exact Prod.ext e1 e2
def lkN (p : LE) : Int := sumN (fun i => if p.1 i = -1 then 0 else 1) 48
theorem lkN_rng {p : LE} : 0 ≤ lkN p ∧ lkN p ≤ 48 := by
  have e := sumN_le (f := fun i => if p.1 i = -1 then 0 else 1) (a := 0) (b := 1) (n := 48) (fun j _ => by split <;> omega)
  unfold lkN
  omega
theorem lkN_rmv {p : LE} {i : Int} (hi : 0 ≤ i ∧ i < 48) (hL : p.1 i ≠ -1) : lkN p = lkN (rmv p i) + 1 := by
  have key : ∀ n : Nat, sumN (fun k => if p.1 k = -1 then 0 else 1) n = sumN (fun k => if (rmv p i).1 k = -1 then 0 else 1) n + if i < (n : Int) then 1 else 0 := by
    intro n
    induction n with
    | zero => rw [sumN_0, sumN_0, if_neg (by omega)]; rfl
    | succ n ih =>
      rw [sumN_s, sumN_s, ih]
      have e : (rmv p i).1 n = if (n : Int) = i then -1 else p.1 n := rfl
      rw [e]
      by_cases z : (n : Int) = i
      · rw [z] at ih ⊢
        rw [if_neg hL, if_neg (Int.lt_irrefl i), if_pos rfl, if_pos rfl, if_pos (by omega)]
      · rw [if_neg z]
        by_cases y : i < (n : Int)
        · have y2 : i < ((n + 1 : Nat) : Int) := by omega
          rw [if_pos y, if_pos y2]
          by_cases w : p.1 n = -1
          · simp only [if_pos w]; try omega
          · simp only [if_neg w]; try omega
        · have y2 : ¬ i < ((n + 1 : Nat) : Int) := by omega
          rw [if_neg y, if_neg y2]
          by_cases w : p.1 n = -1
          · simp only [if_pos w]; try omega
          · simp only [if_neg w]; try omega
  have e := key 48
  rw [if_pos (by omega)] at e
  exact e
theorem tdF_ok {A : Int → Int} {p : LE} (g : gWY A) (h : PLok p.1 p.2 A) : ∀ {k : Nat}, PLok (tdF A p k).1.1 (tdF A p k).1.2 A ∧ 0 ≤ (tdF A p k).2 ∧ (tdF A p k).2 + lkN (tdF A p k).1 = lkN p
  | 0 => ⟨h, Int.le_refl _, by show (0 : Int) + lkN p = lkN p; omega⟩
  | k + 1 => by
    have ih := tdF_ok g h (k := k)
    have n := g.1.2.1
    rw [tdF_s]
    by_cases q : (wsF A (tdF A p k).1 (xn A).toNat).1 = -1
    · rw [if_pos q]; exact ih
    · rw [if_neg q]
      have w := (wsF_is (p := (tdF A p k).1) g (n := (xn A).toNat)).2.resolve_left q
      have l := lkN_rmv (p := (tdF A p k).1) (i := (wsF A (tdF A p k).1 (xn A).toNat).1) (by omega) w.2
      exact ⟨rmv_ok ih.1 n.2 (by omega) w.2, by show 0 ≤ (tdF A p k).2 + 1; omega, by show (tdF A p k).2 + 1 + lkN (rmv _ _) = _; omega⟩
section TDY
variable {X : Int → Int} {M M' : Mem} {A : Int → Int}
theorem cP_part {p : LE} {i : Int} (h : cP M p) : cP (up (up M (13 + 1) i (-1)) (13 + 2) (M (13 + 1) i) (-1)) (rmv p i) := by
  refine ⟨?_, ?_⟩
  · rw [up_ne (by omega)]; exact up_fun h.1
  · rw [h.1]
    exact up_fun (by rw [up_ne (by omega)]; exact h.2)
theorem mP_part {p : LE} {i : Int} (h : mP M A p) (hi : 0 ≤ i ∧ i < 48) (hL : p.1 i ≠ -1) : mP (up M (140 + 1) (80 + i) (-1)) A (rmv p i) := by
  have n := v_n h
  obtain ⟨q1, q2, q3, q4, q5⟩ := h
  refine ⟨fun k a b => ?_, ?_, q3, fun k a b => ?_, rmv_ok q5 n.2 hi hL⟩
  · simp (disch := omega) only [up_ne, up_eq, up_ne2]; exact q1 k a b
  · rw [up_ne (by omega), up_ne (by omega)]; exact q2
  · show _ = if k = i then -1 else p.1 k
    by_cases z : k = i
    · subst z; rw [if_pos rfl]; simp (disch := omega) only [up_ne, up_eq, up_ne2]
    · rw [if_neg z]; simp (disch := omega) only [up_ne, up_eq, up_ne2]; exact q4 k a b
theorem k_worst {NM : Int → Int} {p : LE} (r : RC1 M 4 A NM) (hp : cP M p) (hl : PLok p.1 p.2 A) : ∃ M', (∀ b, b ≠ 13 + 1 → b ≠ 13 + 2 → M' b = M b) ∧ cP M' p ∧ evc X 208 [vR (some 13), vR (some 4)] SH0 M = some (some (vI (wsF A p (xn A).toNat).1), SH0, M') := by
  obtain ⟨pk, pr1, pr2, pk1, pk2, pl1', pl2'⟩ := w0_pl13
  have ck := w0_k4
  have gw := k_gWY (kv_of r hp hl)
  have n := gw.1.2.1
  have rf : ∀ M' : Mem, (∀ b, b ≠ 13 + 1 → b ≠ 13 + 2 → M' b = M b) → RC1 M' 4 A NM := fun M' f => RC1_c (fun b x y => f b (by omega) (by omega)) r
  have n8 := k_n (kv_of r hp hl)
  obtain ⟨ls', M2, ⟨z5, z6, hls, fr, hp2⟩, he⟩ := ev_for (X := X) (y := 208) (Sh := SH0) (fun i ls M' => ∃ z5 z6, ls = [some (vR (some 13)), some (vR (some 4)), some (vI (wsF A p i).1), some (vI (wsF A p i).2), some (vI (i : Int)), z5, z6] ∧ (∀ b, b ≠ 13 + 1 → b ≠ 13 + 2 → M' b = M b) ∧ cP M' p) J_208_11 (xn A).toNat (fun i hi ls M' hI => by
    obtain ⟨z5, z6, hls, fr, hp2⟩ := hI
    subst hls
    have m8 : M' 4 8 = xn A := by rw [fr 4 (by omega) (by omega)]; exact n8
    have es := wsF_s (A := A) (p := p) (i := i)
    have wr := (wsF_is (p := p) gw (n := i)).1
    have e14 := congrFun hp2.1 (i : Int)
    by_cases q : p.1 i = -1
    · rw [if_neg (fun w => w.1 q)] at es
      rw [q] at e14
      refine ⟨_, M', ⟨some (vI (-1)), z6, rfl, fr, hp2⟩, ?_⟩
      rw [es]
      simp (disch := first | assumption | decide | omega | (simp only [List.length_cons, List.length_nil] <;> omega)) only [lgt_0, lgt_s, lset_0, lset_s, lst1_0, lst1_s, lst2_0, lst2_s, ev_iconst, ev_lconst, ev_ldc, ev_null, ev_iload, ev_lload, ev_aload, ev_istore, ev_lstore, ev_astore, ev_iinc, ev_iadd, ev_isub, ev_imul, ev_iand, ev_ior, ev_ishl, ev_ishr, ev_idiv, ev_irem, ev_ineg, ev_ladd, ev_lsub, ev_lmul, ev_land, ev_lor, ev_ldiv, ev_lrem, ev_lshl, ev_i2l, ev_l2i, ev_i2b, ev_i2s, ev_lcmp, ev_dupI, ev_dupR, ev_dup2, ev_popI, ev_popR, ev_alen, ev_xlen, ev_xald, ev_iald, ev_lald, ev_bald, ev_zald, ev_aald, ev_iast, ev_last, ev_bast, ev_zast, ev_aast, ev_gfI, ev_gfL, ev_gfR, ev_pfI, ev_pfZ, ev_pfL, ev_pfR, ev_new, ev_newa, ev_newq, ev_copy, ev_slen, ev_schr, ev_obj, ev_mmin, ev_mabs, ev_mmax, ev_goto, ev_jsr, ev_icmp_eq, ev_if_eq, ev_icmp_ne, ev_if_ne, ev_icmp_lt, ev_if_lt, ev_icmp_ge, ev_if_ge, ev_icmp_gt, ev_if_gt, ev_icmp_le, ev_if_le, ev_ifnull0, ev_ifnull1, ev_ifnn0, ev_ifnn1, ev_tsw, ev_lsw, ev_iret, ev_zret, ev_lret, ev_aret, ev_ret, ev_call0, ev_call1, ev_call2, ev_call3, ev_call4, ev_call5, ev_call6, Option.toList_some, Option.toList_none, List.cons_append, List.nil_append, List.length_cons, List.length_nil, Nat.reduceMod, Nat.reduceDiv, Nat.reduceLeDiff, nc, ↓reduceIte, Nat.zero_le, reduceCtorEq, w32_id, Int.reduceEq, Int.reduceNe, Int.reduceLT, Int.reduceLE, Int.reduceGT, Int.reduceGE, Int.reduceAdd, Int.reduceSub, Int.reduceMul, Int.reduceNeg, ne_eq, not_true_eq_false, not_false_eq_true, eq_self, ↓if_pos, ↓if_neg, J_208_0, k_208_0, J_208_68, k_208_68, J_208_74, k_208_74, k_208_11, m8, pr1, e14, nc_s]
    · have l1 := (hl.1 i (by omega) (by omega)).resolve_left q
      have l2 := hl.2.2 i (by omega) (by omega) q
      have ep := s_part (X := X) (M := M') w0_pl13 (i := (i : Int)) (by omega)
      rw [if_pos (by rw [e14]; omega)] at ep
      have cp := cP_part (i := (i : Int)) hp2
      have ok2 := rmv_ok hl n.2 (i := (i : Int)) (by omega) q
      generalize hM2 : up (up M' (13 + 1) (i : Int) (-1)) (13 + 2) (M' (13 + 1) (i : Int)) (-1) = M2 at ep cp
      have f2 : ∀ b, b ≠ 13 + 1 → b ≠ 13 + 2 → M2 b = M b := fun b b1 b2 => by rw [← hM2, up_ne b2, up_ne b1]; exact fr b b1 b2
      have ec := k_costOn (X := X) (kv_of (rf M2 f2) cp ok2)
      rw [cp.1, cp.2] at ec
      have ej := s_join (X := X) (M := M2) w0_pl13 (i := (i : Int)) (j := p.1 i)
      rw [if_pos (by omega)] at ej
      have cj := cP_join (i := (i : Int)) (j := p.1 i) cp
      rw [jn_rmv hl (by omega) q] at cj
      generalize hM3 : up (up M2 (13 + 1) (i : Int) (p.1 i)) (13 + 2) (p.1 i) (i : Int) = M3 at ej cj
      have f3 : ∀ b, b ≠ 13 + 1 → b ≠ 13 + 2 → M3 b = M b := fun b b1 b2 => by rw [← hM3, up_ne b2, up_ne b1]; exact f2 b b1 b2
      have cr := cos_rng (L := (rmv p i).1) (E := (rmv p i).2) gw
      refine ⟨_, M3, ⟨some (vI (p.1 i)), some (vI (cosF (rmv p i).1 (rmv p i).2 A)), rfl, f3, cj⟩, ?_⟩
      generalize cosF (rmv p i).1 (rmv p i).2 A = cv at es ec cr ⊢
      by_cases q2 : cv < (wsF A p i).2
      · rw [if_pos ⟨q, q2⟩] at es
        rw [es]
        generalize p.1 i = j at e14 q l1 ej ⊢
        simp (disch := first | assumption | decide | omega | (simp only [List.length_cons, List.length_nil] <;> omega)) only [lgt_0, lgt_s, lset_0, lset_s, lst1_0, lst1_s, lst2_0, lst2_s, ev_iconst, ev_lconst, ev_ldc, ev_null, ev_iload, ev_lload, ev_aload, ev_istore, ev_lstore, ev_astore, ev_iinc, ev_iadd, ev_isub, ev_imul, ev_iand, ev_ior, ev_ishl, ev_ishr, ev_idiv, ev_irem, ev_ineg, ev_ladd, ev_lsub, ev_lmul, ev_land, ev_lor, ev_ldiv, ev_lrem, ev_lshl, ev_i2l, ev_l2i, ev_i2b, ev_i2s, ev_lcmp, ev_dupI, ev_dupR, ev_dup2, ev_popI, ev_popR, ev_alen, ev_xlen, ev_xald, ev_iald, ev_lald, ev_bald, ev_zald, ev_aald, ev_iast, ev_last, ev_bast, ev_zast, ev_aast, ev_gfI, ev_gfL, ev_gfR, ev_pfI, ev_pfZ, ev_pfL, ev_pfR, ev_new, ev_newa, ev_newq, ev_copy, ev_slen, ev_schr, ev_obj, ev_mmin, ev_mabs, ev_mmax, ev_goto, ev_jsr, ev_icmp_eq, ev_if_eq, ev_icmp_ne, ev_if_ne, ev_icmp_lt, ev_if_lt, ev_icmp_ge, ev_if_ge, ev_icmp_gt, ev_if_gt, ev_icmp_le, ev_if_le, ev_ifnull0, ev_ifnull1, ev_ifnn0, ev_ifnn1, ev_tsw, ev_lsw, ev_iret, ev_zret, ev_lret, ev_aret, ev_ret, ev_call0, ev_call1, ev_call2, ev_call3, ev_call4, ev_call5, ev_call6, Option.toList_some, Option.toList_none, List.cons_append, List.nil_append, List.length_cons, List.length_nil, Nat.reduceMod, Nat.reduceDiv, Nat.reduceLeDiff, nc, ↓reduceIte, Nat.zero_le, reduceCtorEq, w32_id, Int.reduceEq, Int.reduceNe, Int.reduceLT, Int.reduceLE, Int.reduceGT, Int.reduceGE, Int.reduceAdd, Int.reduceSub, Int.reduceMul, Int.reduceNeg, ne_eq, not_true_eq_false, not_false_eq_true, eq_self, ↓if_pos, ↓if_neg, J_208_0, k_208_0, J_208_68, k_208_68, J_208_74, k_208_74, k_208_11, m8, pr1, e14, q, ep, ec, ej, q2, nc_s]
      · rw [if_neg (fun w => q2 w.2)] at es
        rw [es]
        generalize p.1 i = j at e14 q l1 ej ⊢
        simp (disch := first | assumption | decide | omega | (simp only [List.length_cons, List.length_nil] <;> omega)) only [lgt_0, lgt_s, lset_0, lset_s, lst1_0, lst1_s, lst2_0, lst2_s, ev_iconst, ev_lconst, ev_ldc, ev_null, ev_iload, ev_lload, ev_aload, ev_istore, ev_lstore, ev_astore, ev_iinc, ev_iadd, ev_isub, ev_imul, ev_iand, ev_ior, ev_ishl, ev_ishr, ev_idiv, ev_irem, ev_ineg, ev_ladd, ev_lsub, ev_lmul, ev_land, ev_lor, ev_ldiv, ev_lrem, ev_lshl, ev_i2l, ev_l2i, ev_i2b, ev_i2s, ev_lcmp, ev_dupI, ev_dupR, ev_dup2, ev_popI, ev_popR, ev_alen, ev_xlen, ev_xald, ev_iald, ev_lald, ev_bald, ev_zald, ev_aald, ev_iast, ev_last, ev_bast, ev_zast, ev_aast, ev_gfI, ev_gfL, ev_gfR, ev_pfI, ev_pfZ, ev_pfL, ev_pfR, ev_new, ev_newa, ev_newq, ev_copy, ev_slen, ev_schr, ev_obj, ev_mmin, ev_mabs, ev_mmax, ev_goto, ev_jsr, ev_icmp_eq, ev_if_eq, ev_icmp_ne, ev_if_ne, ev_icmp_lt, ev_if_lt, ev_icmp_ge, ev_if_ge, ev_icmp_gt, ev_if_gt, ev_icmp_le, ev_if_le, ev_ifnull0, ev_ifnull1, ev_ifnn0, ev_ifnn1, ev_tsw, ev_lsw, ev_iret, ev_zret, ev_lret, ev_aret, ev_ret, ev_call0, ev_call1, ev_call2, ev_call3, ev_call4, ev_call5, ev_call6, Option.toList_some, Option.toList_none, List.cons_append, List.nil_append, List.length_cons, List.length_nil, Nat.reduceMod, Nat.reduceDiv, Nat.reduceLeDiff, nc, ↓reduceIte, Nat.zero_le, reduceCtorEq, w32_id, Int.reduceEq, Int.reduceNe, Int.reduceLT, Int.reduceLE, Int.reduceGT, Int.reduceGE, Int.reduceAdd, Int.reduceSub, Int.reduceMul, Int.reduceNeg, ne_eq, not_true_eq_false, not_false_eq_true, eq_self, ↓if_pos, ↓if_neg, J_208_0, k_208_0, J_208_68, k_208_68, J_208_74, k_208_74, k_208_11, m8, pr1, e14, q, ep, ec, ej, q2, nc_s]) [some (vR (some 13)), some (vR (some 4)), some (vI (-1)), some (vI (cosF p.1 p.2 A)), some (vI 0), none, none] M ⟨none, none, rfl, fun _ _ _ => rfl, hp⟩
  subst hls
  have e : (((xn A).toNat : Nat) : Int) = xn A := by omega
  rw [e] at he
  have m8 : M2 4 8 = xn A := by rw [fr 4 (by omega) (by omega)]; exact n8
  have ec := k_costOn (X := X) (kv_of r hp hl)
  rw [hp.1, hp.2] at ec
  refine ⟨M2, fr, hp2, ?_⟩
  rw [E_208 pk]
  simp (disch := first | assumption | decide | omega | (simp only [List.length_cons, List.length_nil] <;> omega)) only [lgt_0, lgt_s, lset_0, lset_s, lst1_0, lst1_s, lst2_0, lst2_s, ev_iconst, ev_lconst, ev_ldc, ev_null, ev_iload, ev_lload, ev_aload, ev_istore, ev_lstore, ev_astore, ev_iinc, ev_iadd, ev_isub, ev_imul, ev_iand, ev_ior, ev_ishl, ev_ishr, ev_idiv, ev_irem, ev_ineg, ev_ladd, ev_lsub, ev_lmul, ev_land, ev_lor, ev_ldiv, ev_lrem, ev_lshl, ev_i2l, ev_l2i, ev_i2b, ev_i2s, ev_lcmp, ev_dupI, ev_dupR, ev_dup2, ev_popI, ev_popR, ev_alen, ev_xlen, ev_xald, ev_iald, ev_lald, ev_bald, ev_zald, ev_aald, ev_iast, ev_last, ev_bast, ev_zast, ev_aast, ev_gfI, ev_gfL, ev_gfR, ev_pfI, ev_pfZ, ev_pfL, ev_pfR, ev_new, ev_newa, ev_newq, ev_copy, ev_slen, ev_schr, ev_obj, ev_mmin, ev_mabs, ev_mmax, ev_goto, ev_jsr, ev_icmp_eq, ev_if_eq, ev_icmp_ne, ev_if_ne, ev_icmp_lt, ev_if_lt, ev_icmp_ge, ev_if_ge, ev_icmp_gt, ev_if_gt, ev_icmp_le, ev_if_le, ev_ifnull0, ev_ifnull1, ev_ifnn0, ev_ifnn1, ev_tsw, ev_lsw, ev_iret, ev_zret, ev_lret, ev_aret, ev_ret, ev_call0, ev_call1, ev_call2, ev_call3, ev_call4, ev_call5, ev_call6, Option.toList_some, Option.toList_none, List.cons_append, List.nil_append, List.length_cons, List.length_nil, Nat.reduceMod, Nat.reduceDiv, Nat.reduceLeDiff, nc, ↓reduceIte, Nat.zero_le, reduceCtorEq, w32_id, Int.reduceEq, Int.reduceNe, Int.reduceLT, Int.reduceLE, Int.reduceGT, Int.reduceGE, Int.reduceAdd, Int.reduceSub, Int.reduceMul, Int.reduceNeg, ne_eq, not_true_eq_false, not_false_eq_true, eq_self, ↓if_pos, ↓if_neg, J_208_0, k_208_0, J_208_68, k_208_68, J_208_74, k_208_74, ec]
  rw [he]
  have q2 : xn A ≤ xn A := Int.le_refl _
  simp (disch := first | assumption | decide | omega | (simp only [List.length_cons, List.length_nil] <;> omega)) only [lgt_0, lgt_s, lset_0, lset_s, lst1_0, lst1_s, lst2_0, lst2_s, ev_iconst, ev_lconst, ev_ldc, ev_null, ev_iload, ev_lload, ev_aload, ev_istore, ev_lstore, ev_astore, ev_iinc, ev_iadd, ev_isub, ev_imul, ev_iand, ev_ior, ev_ishl, ev_ishr, ev_idiv, ev_irem, ev_ineg, ev_ladd, ev_lsub, ev_lmul, ev_land, ev_lor, ev_ldiv, ev_lrem, ev_lshl, ev_i2l, ev_l2i, ev_i2b, ev_i2s, ev_lcmp, ev_dupI, ev_dupR, ev_dup2, ev_popI, ev_popR, ev_alen, ev_xlen, ev_xald, ev_iald, ev_lald, ev_bald, ev_zald, ev_aald, ev_iast, ev_last, ev_bast, ev_zast, ev_aast, ev_gfI, ev_gfL, ev_gfR, ev_pfI, ev_pfZ, ev_pfL, ev_pfR, ev_new, ev_newa, ev_newq, ev_copy, ev_slen, ev_schr, ev_obj, ev_mmin, ev_mabs, ev_mmax, ev_goto, ev_jsr, ev_icmp_eq, ev_if_eq, ev_icmp_ne, ev_if_ne, ev_icmp_lt, ev_if_lt, ev_icmp_ge, ev_if_ge, ev_icmp_gt, ev_if_gt, ev_icmp_le, ev_if_le, ev_ifnull0, ev_ifnull1, ev_ifnn0, ev_ifnn1, ev_tsw, ev_lsw, ev_iret, ev_zret, ev_lret, ev_aret, ev_ret, ev_call0, ev_call1, ev_call2, ev_call3, ev_call4, ev_call5, ev_call6, Option.toList_some, Option.toList_none, List.cons_append, List.nil_append, List.length_cons, List.length_nil, Nat.reduceMod, Nat.reduceDiv, Nat.reduceLeDiff, nc, ↓reduceIte, Nat.zero_le, reduceCtorEq, w32_id, Int.reduceEq, Int.reduceNe, Int.reduceLT, Int.reduceLE, Int.reduceGT, Int.reduceGE, Int.reduceAdd, Int.reduceSub, Int.reduceMul, Int.reduceNeg, ne_eq, not_true_eq_false, not_false_eq_true, eq_self, ↓if_pos, ↓if_neg, J_208_0, k_208_0, J_208_68, k_208_68, J_208_74, k_208_74, k_208_11, m8, q2]
theorem k_tidyUp {NM : Int → Int} {p : LE} (r : RC1 M 4 A NM) (hp : cP M p) (hl : PLok p.1 p.2 A) : ∃ M', (∀ b, b ≠ 13 + 1 → b ≠ 13 + 2 → M' b = M b) ∧ cP M' (tdF A p 48).1 ∧ evc X 207 [vR (some 13), vR (some 4)] SH0 M = some (some (vI (tdF A p 48).2), SH0, M') := by
  obtain ⟨pk, pr1, pr2, pk1, pk2, pl1', pl2'⟩ := w0_pl13
  have gw := k_gWY (kv_of r hp hl)
  have n := gw.1.2.1
  have rf : ∀ M' : Mem, (∀ b, b ≠ 13 + 1 → b ≠ 13 + 2 → M' b = M b) → RC1 M' 4 A NM := fun M' f => RC1_c (fun b x y => f b (by omega) (by omega)) r
  have key := ev_while (X := X) (y := 207) (Sh := SH0) (fun m ls M' => ∃ (k : Nat) (z4 : Option PV), ls = [some (vR (some 13)), some (vR (some 4)), some (vI (tdF A p k).2), some (vI (k : Int)), z4] ∧ k ≤ 48 ∧ (∀ b, b ≠ 13 + 1 → b ≠ 13 + 2 → M' b = M b) ∧ cP M' (tdF A p k).1 ∧ m = 48 - k)
    (fun o => ∃ M', (∀ b, b ≠ 13 + 1 → b ≠ 13 + 2 → M' b = M b) ∧ cP M' (tdF A p 48).1 ∧ o = some (some (vI (tdF A p 48).2), SH0, M')) J_207_4 (fun m ls M' hI => by
    obtain ⟨k, z4, hls, hk, fr, hp2, hm⟩ := hI
    subst hls
    obtain ⟨ok, c0, c1⟩ := tdF_ok gw hl (k := k)
    have lr := lkN_rng (p := p)
    have lr2 := lkN_rng (p := (tdF A p k).1)
    by_cases z : k = 48
    · refine Or.inr ⟨M', fr, by rw [← z]; exact hp2, ?_⟩
      rw [← z]
      have z2 : (48 : Int) ≤ (k : Int) := by omega
      generalize (tdF A p k).2 = cm at c0 c1 ⊢
      simp (disch := first | assumption | decide | omega | (simp only [List.length_cons, List.length_nil] <;> omega)) only [lgt_0, lgt_s, lset_0, lset_s, lst1_0, lst1_s, lst2_0, lst2_s, ev_iconst, ev_lconst, ev_ldc, ev_null, ev_iload, ev_lload, ev_aload, ev_istore, ev_lstore, ev_astore, ev_iinc, ev_iadd, ev_isub, ev_imul, ev_iand, ev_ior, ev_ishl, ev_ishr, ev_idiv, ev_irem, ev_ineg, ev_ladd, ev_lsub, ev_lmul, ev_land, ev_lor, ev_ldiv, ev_lrem, ev_lshl, ev_i2l, ev_l2i, ev_i2b, ev_i2s, ev_lcmp, ev_dupI, ev_dupR, ev_dup2, ev_popI, ev_popR, ev_alen, ev_xlen, ev_xald, ev_iald, ev_lald, ev_bald, ev_zald, ev_aald, ev_iast, ev_last, ev_bast, ev_zast, ev_aast, ev_gfI, ev_gfL, ev_gfR, ev_pfI, ev_pfZ, ev_pfL, ev_pfR, ev_new, ev_newa, ev_newq, ev_copy, ev_slen, ev_schr, ev_obj, ev_mmin, ev_mabs, ev_mmax, ev_goto, ev_jsr, ev_icmp_eq, ev_if_eq, ev_icmp_ne, ev_if_ne, ev_icmp_lt, ev_if_lt, ev_icmp_ge, ev_if_ge, ev_icmp_gt, ev_if_gt, ev_icmp_le, ev_if_le, ev_ifnull0, ev_ifnull1, ev_ifnn0, ev_ifnn1, ev_tsw, ev_lsw, ev_iret, ev_zret, ev_lret, ev_aret, ev_ret, ev_call0, ev_call1, ev_call2, ev_call3, ev_call4, ev_call5, ev_call6, Option.toList_some, Option.toList_none, List.cons_append, List.nil_append, List.length_cons, List.length_nil, Nat.reduceMod, Nat.reduceDiv, Nat.reduceLeDiff, nc, ↓reduceIte, Nat.zero_le, reduceCtorEq, w32_id, Int.reduceEq, Int.reduceNe, Int.reduceLT, Int.reduceLE, Int.reduceGT, Int.reduceGE, Int.reduceAdd, Int.reduceSub, Int.reduceMul, Int.reduceNeg, ne_eq, not_true_eq_false, not_false_eq_true, eq_self, ↓if_pos, ↓if_neg, J_207_0, k_207_0, J_207_25, k_207_25, J_207_40, k_207_40, k_207_4]
    · have z2 : ¬ (48 : Int) ≤ (k : Int) := by omega
      obtain ⟨M2, f2, c2, e2⟩ := k_worst (X := X) (rf M' fr) hp2 ok
      have es := tdF_s (A := A) (p := p) (k := k)
      have ws := (wsF_is (p := (tdF A p k).1) gw (n := (xn A).toNat)).2
      by_cases q : (wsF A (tdF A p k).1 (xn A).toNat).1 = -1
      · have e := tdF_stop q (m := 48) (by omega)
        rw [q] at e2
        refine Or.inr ⟨M2, fun b b1 b2 => by rw [f2 b b1 b2, fr b b1 b2], by rw [e]; exact c2, ?_⟩
        rw [e]
        generalize (tdF A p k).2 = cm at c0 c1 ⊢
        simp (disch := first | assumption | decide | omega | (simp only [List.length_cons, List.length_nil] <;> omega)) only [lgt_0, lgt_s, lset_0, lset_s, lst1_0, lst1_s, lst2_0, lst2_s, ev_iconst, ev_lconst, ev_ldc, ev_null, ev_iload, ev_lload, ev_aload, ev_istore, ev_lstore, ev_astore, ev_iinc, ev_iadd, ev_isub, ev_imul, ev_iand, ev_ior, ev_ishl, ev_ishr, ev_idiv, ev_irem, ev_ineg, ev_ladd, ev_lsub, ev_lmul, ev_land, ev_lor, ev_ldiv, ev_lrem, ev_lshl, ev_i2l, ev_l2i, ev_i2b, ev_i2s, ev_lcmp, ev_dupI, ev_dupR, ev_dup2, ev_popI, ev_popR, ev_alen, ev_xlen, ev_xald, ev_iald, ev_lald, ev_bald, ev_zald, ev_aald, ev_iast, ev_last, ev_bast, ev_zast, ev_aast, ev_gfI, ev_gfL, ev_gfR, ev_pfI, ev_pfZ, ev_pfL, ev_pfR, ev_new, ev_newa, ev_newq, ev_copy, ev_slen, ev_schr, ev_obj, ev_mmin, ev_mabs, ev_mmax, ev_goto, ev_jsr, ev_icmp_eq, ev_if_eq, ev_icmp_ne, ev_if_ne, ev_icmp_lt, ev_if_lt, ev_icmp_ge, ev_if_ge, ev_icmp_gt, ev_if_gt, ev_icmp_le, ev_if_le, ev_ifnull0, ev_ifnull1, ev_ifnn0, ev_ifnn1, ev_tsw, ev_lsw, ev_iret, ev_zret, ev_lret, ev_aret, ev_ret, ev_call0, ev_call1, ev_call2, ev_call3, ev_call4, ev_call5, ev_call6, Option.toList_some, Option.toList_none, List.cons_append, List.nil_append, List.length_cons, List.length_nil, Nat.reduceMod, Nat.reduceDiv, Nat.reduceLeDiff, nc, ↓reduceIte, Nat.zero_le, reduceCtorEq, w32_id, Int.reduceEq, Int.reduceNe, Int.reduceLT, Int.reduceLE, Int.reduceGT, Int.reduceGE, Int.reduceAdd, Int.reduceSub, Int.reduceMul, Int.reduceNeg, ne_eq, not_true_eq_false, not_false_eq_true, eq_self, ↓if_pos, ↓if_neg, J_207_0, k_207_0, J_207_25, k_207_25, J_207_40, k_207_40, k_207_4, e2]
      · rw [if_neg q] at es
        have w := ws.resolve_left q
        generalize (wsF A (tdF A p k).1 (xn A).toNat).1 = wv at e2 es q w
        have l1 := (ok.1 wv w.1.1 (by omega)).resolve_left w.2
        have e14 := congrFun c2.1 wv
        have ep := s_part (X := X) (M := M2) w0_pl13 (i := wv) (by omega)
        rw [if_pos (by rw [e14]; omega)] at ep
        have cp := cP_part (i := wv) c2
        generalize hM3 : up (up M2 (13 + 1) wv (-1)) (13 + 2) (M2 (13 + 1) wv) (-1) = M3 at ep cp
        refine Or.inl ⟨_, _, M3, ?_, ⟨k + 1, some (vI wv), rfl, by omega, fun b b1 b2 => by rw [← hM3, up_ne b2, up_ne b1, f2 b b1 b2, fr b b1 b2], by rw [es]; exact cp, rfl⟩, ?_⟩
        · omega
        · rw [es]
          generalize (tdF A p k).2 = cm at c0 c1 ⊢
          simp (disch := first | assumption | decide | omega | (simp only [List.length_cons, List.length_nil] <;> omega)) only [lgt_0, lgt_s, lset_0, lset_s, lst1_0, lst1_s, lst2_0, lst2_s, ev_iconst, ev_lconst, ev_ldc, ev_null, ev_iload, ev_lload, ev_aload, ev_istore, ev_lstore, ev_astore, ev_iinc, ev_iadd, ev_isub, ev_imul, ev_iand, ev_ior, ev_ishl, ev_ishr, ev_idiv, ev_irem, ev_ineg, ev_ladd, ev_lsub, ev_lmul, ev_land, ev_lor, ev_ldiv, ev_lrem, ev_lshl, ev_i2l, ev_l2i, ev_i2b, ev_i2s, ev_lcmp, ev_dupI, ev_dupR, ev_dup2, ev_popI, ev_popR, ev_alen, ev_xlen, ev_xald, ev_iald, ev_lald, ev_bald, ev_zald, ev_aald, ev_iast, ev_last, ev_bast, ev_zast, ev_aast, ev_gfI, ev_gfL, ev_gfR, ev_pfI, ev_pfZ, ev_pfL, ev_pfR, ev_new, ev_newa, ev_newq, ev_copy, ev_slen, ev_schr, ev_obj, ev_mmin, ev_mabs, ev_mmax, ev_goto, ev_jsr, ev_icmp_eq, ev_if_eq, ev_icmp_ne, ev_if_ne, ev_icmp_lt, ev_if_lt, ev_icmp_ge, ev_if_ge, ev_icmp_gt, ev_if_gt, ev_icmp_le, ev_if_le, ev_ifnull0, ev_ifnull1, ev_ifnn0, ev_ifnn1, ev_tsw, ev_lsw, ev_iret, ev_zret, ev_lret, ev_aret, ev_ret, ev_call0, ev_call1, ev_call2, ev_call3, ev_call4, ev_call5, ev_call6, Option.toList_some, Option.toList_none, List.cons_append, List.nil_append, List.length_cons, List.length_nil, Nat.reduceMod, Nat.reduceDiv, Nat.reduceLeDiff, nc, ↓reduceIte, Nat.zero_le, reduceCtorEq, w32_id, Int.reduceEq, Int.reduceNe, Int.reduceLT, Int.reduceLE, Int.reduceGT, Int.reduceGE, Int.reduceAdd, Int.reduceSub, Int.reduceMul, Int.reduceNeg, ne_eq, not_true_eq_false, not_false_eq_true, eq_self, ↓if_pos, ↓if_neg, J_207_0, k_207_0, J_207_25, k_207_25, J_207_40, k_207_40, k_207_4, e2, q, ep, nc_s]) _ [some (vR (some 13)), some (vR (some 4)), some (vI 0), some (vI 0), none] M ⟨0, none, rfl, by omega, fun _ _ _ => rfl, hp, rfl⟩
  rw [E_207 pk]
  simp (disch := first | assumption | decide | omega | (simp only [List.length_cons, List.length_nil] <;> omega)) only [lgt_0, lgt_s, lset_0, lset_s, lst1_0, lst1_s, lst2_0, lst2_s, ev_iconst, ev_lconst, ev_ldc, ev_null, ev_iload, ev_lload, ev_aload, ev_istore, ev_lstore, ev_astore, ev_iinc, ev_iadd, ev_isub, ev_imul, ev_iand, ev_ior, ev_ishl, ev_ishr, ev_idiv, ev_irem, ev_ineg, ev_ladd, ev_lsub, ev_lmul, ev_land, ev_lor, ev_ldiv, ev_lrem, ev_lshl, ev_i2l, ev_l2i, ev_i2b, ev_i2s, ev_lcmp, ev_dupI, ev_dupR, ev_dup2, ev_popI, ev_popR, ev_alen, ev_xlen, ev_xald, ev_iald, ev_lald, ev_bald, ev_zald, ev_aald, ev_iast, ev_last, ev_bast, ev_zast, ev_aast, ev_gfI, ev_gfL, ev_gfR, ev_pfI, ev_pfZ, ev_pfL, ev_pfR, ev_new, ev_newa, ev_newq, ev_copy, ev_slen, ev_schr, ev_obj, ev_mmin, ev_mabs, ev_mmax, ev_goto, ev_jsr, ev_icmp_eq, ev_if_eq, ev_icmp_ne, ev_if_ne, ev_icmp_lt, ev_if_lt, ev_icmp_ge, ev_if_ge, ev_icmp_gt, ev_if_gt, ev_icmp_le, ev_if_le, ev_ifnull0, ev_ifnull1, ev_ifnn0, ev_ifnn1, ev_tsw, ev_lsw, ev_iret, ev_zret, ev_lret, ev_aret, ev_ret, ev_call0, ev_call1, ev_call2, ev_call3, ev_call4, ev_call5, ev_call6, Option.toList_some, Option.toList_none, List.cons_append, List.nil_append, List.length_cons, List.length_nil, Nat.reduceMod, Nat.reduceDiv, Nat.reduceLeDiff, nc, ↓reduceIte, Nat.zero_le, reduceCtorEq, w32_id, Int.reduceEq, Int.reduceNe, Int.reduceLT, Int.reduceLE, Int.reduceGT, Int.reduceGE, Int.reduceAdd, Int.reduceSub, Int.reduceMul, Int.reduceNeg, ne_eq, not_true_eq_false, not_false_eq_true, eq_self, ↓if_pos, ↓if_neg, J_207_0, k_207_0, J_207_25, k_207_25, J_207_40, k_207_40, ]
  exact key
theorem m_worst {p : LE} (hq : mP M A p) {cm z7 z8 : Option PV} : ∃ M' w7 w8, (∀ b, b ≠ 140 + 1 → M' b = M b) ∧ (∀ k, (k < 80 ∨ 128 ≤ k) → M' (140 + 1) k = M (140 + 1) k) ∧ mP M' A p ∧ ev X 356 (jmp 356 22) [some (vR (some 140)), cm, some (vI 1), some (vI (cosF p.1 p.2 A)), some (vI (-1)), some (vI (cosF p.1 p.2 A)), some (vI 0), z7, z8] [] SH0 M = ev X 356 k_356_112 [some (vR (some 140)), cm, some (vI 1), some (vI (cosF p.1 p.2 A)), some (vI (wsF A p (xn A).toNat).1), some (vI (wsF A p (xn A).toNat).2), some (vI (xn A)), w7, w8] [] SH0 M' := by
  have mk0 := w0_k140
  obtain ⟨r_at, k_at, l_at⟩ := md_at w0_md140
  have n := v_n hq
  have gw := hq.2.2.1
  have hl := hq.2.2.2.2
  obtain ⟨ls', M2, ⟨z7', z8', hls, fr, g, hp2⟩, he⟩ := ev_for (X := X) (y := 356) (Sh := SH0) (fun i ls M' => ∃ z7 z8, ls = [some (vR (some 140)), cm, some (vI 1), some (vI (cosF p.1 p.2 A)), some (vI (wsF A p i).1), some (vI (wsF A p i).2), some (vI (i : Int)), z7, z8] ∧ (∀ b, b ≠ 140 + 1 → M' b = M b) ∧ (∀ k, (k < 80 ∨ 128 ≤ k) → M' (140 + 1) k = M (140 + 1) k) ∧ mP M' A p) J_356_22 (xn A).toNat (fun i hi ls M' hI => by
    obtain ⟨z7, z8, hls, fr, g, hp2⟩ := hI
    subst hls
    have em := v_many (X := X) hp2
    have es := wsF_s (A := A) (p := p) (i := i)
    have wr := (wsF_is (p := p) gw (n := i)).1
    have ea := hp2.2.2.2.1 i (by omega) (by omega)
    by_cases q : p.1 i = -1
    · rw [if_neg (fun w => w.1 q)] at es
      rw [q] at ea
      refine ⟨_, M', ⟨some (vI (-1)), z8, rfl, fr, g, hp2⟩, ?_⟩
      rw [es]
      simp (disch := first | assumption | decide | omega | (simp only [List.length_cons, List.length_nil] <;> omega)) only [lgt_0, lgt_s, lset_0, lset_s, lst1_0, lst1_s, lst2_0, lst2_s, ev_iconst, ev_lconst, ev_ldc, ev_null, ev_iload, ev_lload, ev_aload, ev_istore, ev_lstore, ev_astore, ev_iinc, ev_iadd, ev_isub, ev_imul, ev_iand, ev_ior, ev_ishl, ev_ishr, ev_idiv, ev_irem, ev_ineg, ev_ladd, ev_lsub, ev_lmul, ev_land, ev_lor, ev_ldiv, ev_lrem, ev_lshl, ev_i2l, ev_l2i, ev_i2b, ev_i2s, ev_lcmp, ev_dupI, ev_dupR, ev_dup2, ev_popI, ev_popR, ev_alen, ev_xlen, ev_xald, ev_iald, ev_lald, ev_bald, ev_zald, ev_aald, ev_iast, ev_last, ev_bast, ev_zast, ev_aast, ev_gfI, ev_gfL, ev_gfR, ev_pfI, ev_pfZ, ev_pfL, ev_pfR, ev_new, ev_newa, ev_newq, ev_copy, ev_slen, ev_schr, ev_obj, ev_mmin, ev_mabs, ev_mmax, ev_goto, ev_jsr, ev_icmp_eq, ev_if_eq, ev_icmp_ne, ev_if_ne, ev_icmp_lt, ev_if_lt, ev_icmp_ge, ev_if_ge, ev_icmp_gt, ev_if_gt, ev_icmp_le, ev_if_le, ev_ifnull0, ev_ifnull1, ev_ifnn0, ev_ifnn1, ev_tsw, ev_lsw, ev_iret, ev_zret, ev_lret, ev_aret, ev_ret, ev_call0, ev_call1, ev_call2, ev_call3, ev_call4, ev_call5, ev_call6, Option.toList_some, Option.toList_none, List.cons_append, List.nil_append, List.length_cons, List.length_nil, Nat.reduceMod, Nat.reduceDiv, Nat.reduceLeDiff, nc, ↓reduceIte, Nat.zero_le, reduceCtorEq, w32_id, Int.reduceEq, Int.reduceNe, Int.reduceLT, Int.reduceLE, Int.reduceGT, Int.reduceGE, Int.reduceAdd, Int.reduceSub, Int.reduceMul, Int.reduceNeg, ne_eq, not_true_eq_false, not_false_eq_true, eq_self, ↓if_pos, ↓if_neg, J_356_0, k_356_0, J_356_52, k_356_52, J_356_93, k_356_93, J_356_95, k_356_95, J_356_106, k_356_106, J_356_112, k_356_112, J_356_122, k_356_122, J_356_123, k_356_123, J_356_131, k_356_131, J_356_148, k_356_148, k_356_22, em, r_at, ea, nc_s]
    · have l1 := (hl.1 i (by omega) (by omega)).resolve_left q
      have l2 := hl.2.2 i (by omega) (by omega) q
      have cp := mP_part (i := (i : Int)) hp2 (by omega) q
      generalize hM2 : up M' (140 + 1) (80 + (i : Int)) (-1) = M2 at cp
      have ec := v_costOfPlan (X := X) cp
      have cj := mP_join (i := (i : Int)) (j := p.1 i) cp (by omega) l1.1 l1.2.1 l1.2.2 (by show (if (i : Int) = i then (-1 : Int) else _) = -1; rw [if_pos rfl]) (by show (if p.1 i = p.1 i then (-1 : Int) else _) = -1; rw [if_pos rfl])
      rw [jn_rmv hl (by omega) q] at cj
      have cr := cos_rng (L := (rmv p i).1) (E := (rmv p i).2) gw
      refine ⟨_, up M2 (140 + 1) (80 + (i : Int)) (p.1 i), ⟨some (vI (p.1 i)), some (vI (cosF (rmv p i).1 (rmv p i).2 A)), rfl, fun b b1 => by rw [up_ne b1, ← hM2, up_ne b1]; exact fr b b1, fun k hk => by rw [up_ne2 (by omega), ← hM2, up_ne2 (by omega)]; exact g k hk, cj⟩, ?_⟩
      generalize cosF (rmv p i).1 (rmv p i).2 A = cv at es ec cr ⊢
      by_cases q2 : cv < (wsF A p i).2
      · rw [if_pos ⟨q, q2⟩] at es
        rw [es]
        have q3 : (if (wsF A p i).2 ≤ cv then (wsF A p i).2 else cv) = cv := if_neg (by omega)
        generalize (wsF A p i).2 = wv at *
        generalize p.1 i = j at ea q l1 ⊢
        simp (disch := first | assumption | decide | omega | (simp only [List.length_cons, List.length_nil] <;> omega)) only [lgt_0, lgt_s, lset_0, lset_s, lst1_0, lst1_s, lst2_0, lst2_s, ev_iconst, ev_lconst, ev_ldc, ev_null, ev_iload, ev_lload, ev_aload, ev_istore, ev_lstore, ev_astore, ev_iinc, ev_iadd, ev_isub, ev_imul, ev_iand, ev_ior, ev_ishl, ev_ishr, ev_idiv, ev_irem, ev_ineg, ev_ladd, ev_lsub, ev_lmul, ev_land, ev_lor, ev_ldiv, ev_lrem, ev_lshl, ev_i2l, ev_l2i, ev_i2b, ev_i2s, ev_lcmp, ev_dupI, ev_dupR, ev_dup2, ev_popI, ev_popR, ev_alen, ev_xlen, ev_xald, ev_iald, ev_lald, ev_bald, ev_zald, ev_aald, ev_iast, ev_last, ev_bast, ev_zast, ev_aast, ev_gfI, ev_gfL, ev_gfR, ev_pfI, ev_pfZ, ev_pfL, ev_pfR, ev_new, ev_newa, ev_newq, ev_copy, ev_slen, ev_schr, ev_obj, ev_mmin, ev_mabs, ev_mmax, ev_goto, ev_jsr, ev_icmp_eq, ev_if_eq, ev_icmp_ne, ev_if_ne, ev_icmp_lt, ev_if_lt, ev_icmp_ge, ev_if_ge, ev_icmp_gt, ev_if_gt, ev_icmp_le, ev_if_le, ev_ifnull0, ev_ifnull1, ev_ifnn0, ev_ifnn1, ev_tsw, ev_lsw, ev_iret, ev_zret, ev_lret, ev_aret, ev_ret, ev_call0, ev_call1, ev_call2, ev_call3, ev_call4, ev_call5, ev_call6, Option.toList_some, Option.toList_none, List.cons_append, List.nil_append, List.length_cons, List.length_nil, Nat.reduceMod, Nat.reduceDiv, Nat.reduceLeDiff, nc, ↓reduceIte, Nat.zero_le, reduceCtorEq, w32_id, Int.reduceEq, Int.reduceNe, Int.reduceLT, Int.reduceLE, Int.reduceGT, Int.reduceGE, Int.reduceAdd, Int.reduceSub, Int.reduceMul, Int.reduceNeg, ne_eq, not_true_eq_false, not_false_eq_true, eq_self, ↓if_pos, ↓if_neg, J_356_0, k_356_0, J_356_52, k_356_52, J_356_93, k_356_93, J_356_95, k_356_95, J_356_106, k_356_106, J_356_112, k_356_112, J_356_122, k_356_122, J_356_123, k_356_123, J_356_131, k_356_131, J_356_148, k_356_148, k_356_22, em, r_at, ea, q, hM2, ec, q2, q3, nc_s]
      · rw [if_neg (fun w => q2 w.2)] at es
        rw [es]
        have q3 : (if (wsF A p i).2 ≤ cv then (wsF A p i).2 else cv) = (wsF A p i).2 := if_pos (by omega)
        generalize (wsF A p i).2 = wv at *
        generalize p.1 i = j at ea q l1 ⊢
        simp (disch := first | assumption | decide | omega | (simp only [List.length_cons, List.length_nil] <;> omega)) only [lgt_0, lgt_s, lset_0, lset_s, lst1_0, lst1_s, lst2_0, lst2_s, ev_iconst, ev_lconst, ev_ldc, ev_null, ev_iload, ev_lload, ev_aload, ev_istore, ev_lstore, ev_astore, ev_iinc, ev_iadd, ev_isub, ev_imul, ev_iand, ev_ior, ev_ishl, ev_ishr, ev_idiv, ev_irem, ev_ineg, ev_ladd, ev_lsub, ev_lmul, ev_land, ev_lor, ev_ldiv, ev_lrem, ev_lshl, ev_i2l, ev_l2i, ev_i2b, ev_i2s, ev_lcmp, ev_dupI, ev_dupR, ev_dup2, ev_popI, ev_popR, ev_alen, ev_xlen, ev_xald, ev_iald, ev_lald, ev_bald, ev_zald, ev_aald, ev_iast, ev_last, ev_bast, ev_zast, ev_aast, ev_gfI, ev_gfL, ev_gfR, ev_pfI, ev_pfZ, ev_pfL, ev_pfR, ev_new, ev_newa, ev_newq, ev_copy, ev_slen, ev_schr, ev_obj, ev_mmin, ev_mabs, ev_mmax, ev_goto, ev_jsr, ev_icmp_eq, ev_if_eq, ev_icmp_ne, ev_if_ne, ev_icmp_lt, ev_if_lt, ev_icmp_ge, ev_if_ge, ev_icmp_gt, ev_if_gt, ev_icmp_le, ev_if_le, ev_ifnull0, ev_ifnull1, ev_ifnn0, ev_ifnn1, ev_tsw, ev_lsw, ev_iret, ev_zret, ev_lret, ev_aret, ev_ret, ev_call0, ev_call1, ev_call2, ev_call3, ev_call4, ev_call5, ev_call6, Option.toList_some, Option.toList_none, List.cons_append, List.nil_append, List.length_cons, List.length_nil, Nat.reduceMod, Nat.reduceDiv, Nat.reduceLeDiff, nc, ↓reduceIte, Nat.zero_le, reduceCtorEq, w32_id, Int.reduceEq, Int.reduceNe, Int.reduceLT, Int.reduceLE, Int.reduceGT, Int.reduceGE, Int.reduceAdd, Int.reduceSub, Int.reduceMul, Int.reduceNeg, ne_eq, not_true_eq_false, not_false_eq_true, eq_self, ↓if_pos, ↓if_neg, J_356_0, k_356_0, J_356_52, k_356_52, J_356_93, k_356_93, J_356_95, k_356_95, J_356_106, k_356_106, J_356_112, k_356_112, J_356_122, k_356_122, J_356_123, k_356_123, J_356_131, k_356_131, J_356_148, k_356_148, k_356_22, em, r_at, ea, q, hM2, ec, q2, q3, nc_s]) [some (vR (some 140)), cm, some (vI 1), some (vI (cosF p.1 p.2 A)), some (vI (-1)), some (vI (cosF p.1 p.2 A)), some (vI 0), z7, z8] M ⟨z7, z8, rfl, fun _ _ => rfl, fun _ _ => rfl, hq⟩
  subst hls
  have e : (((xn A).toNat : Nat) : Int) = xn A := by omega
  rw [e] at he
  have em := v_many (X := X) hp2
  refine ⟨M2, z7', z8', fr, g, hp2, ?_⟩
  rw [he]
  have q2 : xn A ≤ xn A := Int.le_refl _
  simp (disch := first | assumption | decide | omega | (simp only [List.length_cons, List.length_nil] <;> omega)) only [lgt_0, lgt_s, lset_0, lset_s, lst1_0, lst1_s, lst2_0, lst2_s, ev_iconst, ev_lconst, ev_ldc, ev_null, ev_iload, ev_lload, ev_aload, ev_istore, ev_lstore, ev_astore, ev_iinc, ev_iadd, ev_isub, ev_imul, ev_iand, ev_ior, ev_ishl, ev_ishr, ev_idiv, ev_irem, ev_ineg, ev_ladd, ev_lsub, ev_lmul, ev_land, ev_lor, ev_ldiv, ev_lrem, ev_lshl, ev_i2l, ev_l2i, ev_i2b, ev_i2s, ev_lcmp, ev_dupI, ev_dupR, ev_dup2, ev_popI, ev_popR, ev_alen, ev_xlen, ev_xald, ev_iald, ev_lald, ev_bald, ev_zald, ev_aald, ev_iast, ev_last, ev_bast, ev_zast, ev_aast, ev_gfI, ev_gfL, ev_gfR, ev_pfI, ev_pfZ, ev_pfL, ev_pfR, ev_new, ev_newa, ev_newq, ev_copy, ev_slen, ev_schr, ev_obj, ev_mmin, ev_mabs, ev_mmax, ev_goto, ev_jsr, ev_icmp_eq, ev_if_eq, ev_icmp_ne, ev_if_ne, ev_icmp_lt, ev_if_lt, ev_icmp_ge, ev_if_ge, ev_icmp_gt, ev_if_gt, ev_icmp_le, ev_if_le, ev_ifnull0, ev_ifnull1, ev_ifnn0, ev_ifnn1, ev_tsw, ev_lsw, ev_iret, ev_zret, ev_lret, ev_aret, ev_ret, ev_call0, ev_call1, ev_call2, ev_call3, ev_call4, ev_call5, ev_call6, Option.toList_some, Option.toList_none, List.cons_append, List.nil_append, List.length_cons, List.length_nil, Nat.reduceMod, Nat.reduceDiv, Nat.reduceLeDiff, nc, ↓reduceIte, Nat.zero_le, reduceCtorEq, w32_id, Int.reduceEq, Int.reduceNe, Int.reduceLT, Int.reduceLE, Int.reduceGT, Int.reduceGE, Int.reduceAdd, Int.reduceSub, Int.reduceMul, Int.reduceNeg, ne_eq, not_true_eq_false, not_false_eq_true, eq_self, ↓if_pos, ↓if_neg, J_356_0, k_356_0, J_356_52, k_356_52, J_356_93, k_356_93, J_356_95, k_356_95, J_356_106, k_356_106, J_356_122, k_356_122, J_356_123, k_356_123, J_356_131, k_356_131, J_356_148, k_356_148, k_356_22, J_356_112, em, q2]
theorem m_tidy {p : LE} (hq : mP M A p) : ∃ M', (∀ b, b ≠ 140 + 1 → M' b = M b) ∧ (∀ k, (k < 80 ∨ 128 ≤ k) → M' (140 + 1) k = M (140 + 1) k) ∧ mP M' A (tdF A p 48).1 ∧ evc X 356 [vR (some 140)] SH0 M = some (some (vI (tdF A p 48).2), SH0, up M' 140 2 0) := by
  have hmd := w0_md140
  have mk0 := w0_k140
  obtain ⟨r_at, k_at, l_at⟩ := md_at w0_md140
  have n := v_n hq
  have gw := hq.2.2.1
  have hl := hq.2.2.2.2
  have key := ev_while (X := X) (y := 356) (Sh := SH0) (fun m ls M' => ∃ (k : Nat) (t : Int) (z3 z4 z5 z6 z7 z8 : Option PV), ls = [some (vR (some 140)), some (vI (tdF A p k).2), some (vI t), z3, z4, z5, z6, z7, z8] ∧ (∀ b, b ≠ 140 + 1 → M' b = M b) ∧ (∀ k, (k < 80 ∨ 128 ≤ k) → M' (140 + 1) k = M (140 + 1) k) ∧ mP M' A (tdF A p k).1 ∧ k ≤ 48 ∧ (t = 0 ∧ (wsF A (tdF A p k).1 (xn A).toNat).1 = -1 ∧ m = 0 ∨ t = 1 ∧ (tdF A p k).2 = k ∧ m = 50 - k))
    (fun o => ∃ M', (∀ b, b ≠ 140 + 1 → M' b = M b) ∧ (∀ k, (k < 80 ∨ 128 ≤ k) → M' (140 + 1) k = M (140 + 1) k) ∧ mP M' A (tdF A p 48).1 ∧ o = some (some (vI (tdF A p 48).2), SH0, up M' 140 2 0)) J_356_4 (fun m ls M' hI => by
    obtain ⟨k, t, z3, z4, z5, z6, z7, z8, hls, fr, g, hp2, hk, ht⟩ := hI
    subst hls
    obtain ⟨ok, c0, c1⟩ := tdF_ok gw hl (k := k)
    have lr := lkN_rng (p := p)
    have lr2 := lkN_rng (p := (tdF A p k).1)
    rcases ht with ⟨t0, hw, hm⟩ | ⟨t1, hk2, hm⟩
    · subst t0
      have e := tdF_stop hw (m := 48) hk
      refine Or.inr ⟨M', fr, g, by rw [e]; exact hp2, ?_⟩
      rw [e]
      simp (disch := first | assumption | decide | omega | (simp only [List.length_cons, List.length_nil] <;> omega)) only [lgt_0, lgt_s, lset_0, lset_s, lst1_0, lst1_s, lst2_0, lst2_s, ev_iconst, ev_lconst, ev_ldc, ev_null, ev_iload, ev_lload, ev_aload, ev_istore, ev_lstore, ev_astore, ev_iinc, ev_iadd, ev_isub, ev_imul, ev_iand, ev_ior, ev_ishl, ev_ishr, ev_idiv, ev_irem, ev_ineg, ev_ladd, ev_lsub, ev_lmul, ev_land, ev_lor, ev_ldiv, ev_lrem, ev_lshl, ev_i2l, ev_l2i, ev_i2b, ev_i2s, ev_lcmp, ev_dupI, ev_dupR, ev_dup2, ev_popI, ev_popR, ev_alen, ev_xlen, ev_xald, ev_iald, ev_lald, ev_bald, ev_zald, ev_aald, ev_iast, ev_last, ev_bast, ev_zast, ev_aast, ev_gfI, ev_gfL, ev_gfR, ev_pfI, ev_pfZ, ev_pfL, ev_pfR, ev_new, ev_newa, ev_newq, ev_copy, ev_slen, ev_schr, ev_obj, ev_mmin, ev_mabs, ev_mmax, ev_goto, ev_jsr, ev_icmp_eq, ev_if_eq, ev_icmp_ne, ev_if_ne, ev_icmp_lt, ev_if_lt, ev_icmp_ge, ev_if_ge, ev_icmp_gt, ev_if_gt, ev_icmp_le, ev_if_le, ev_ifnull0, ev_ifnull1, ev_ifnn0, ev_ifnn1, ev_tsw, ev_lsw, ev_iret, ev_zret, ev_lret, ev_aret, ev_ret, ev_call0, ev_call1, ev_call2, ev_call3, ev_call4, ev_call5, ev_call6, Option.toList_some, Option.toList_none, List.cons_append, List.nil_append, List.length_cons, List.length_nil, Nat.reduceMod, Nat.reduceDiv, Nat.reduceLeDiff, nc, ↓reduceIte, Nat.zero_le, reduceCtorEq, w32_id, Int.reduceEq, Int.reduceNe, Int.reduceLT, Int.reduceLE, Int.reduceGT, Int.reduceGE, Int.reduceAdd, Int.reduceSub, Int.reduceMul, Int.reduceNeg, ne_eq, not_true_eq_false, not_false_eq_true, eq_self, ↓if_pos, ↓if_neg, J_356_0, k_356_0, J_356_52, k_356_52, J_356_93, k_356_93, J_356_95, k_356_95, J_356_106, k_356_106, J_356_112, k_356_112, J_356_122, k_356_122, J_356_123, k_356_123, J_356_131, k_356_131, J_356_148, k_356_148, k_356_4, m_gives hmd]
    · subst t1
      have ec := v_costOfPlan (X := X) hp2
      obtain ⟨M2, z7', z8', f2, g2, c2, e2⟩ := m_worst (X := X) hp2 (cm := some (vI (tdF A p k).2)) (z7 := z7) (z8 := z8)
      have es := tdF_s (A := A) (p := p) (k := k)
      have ws := (wsF_is (p := (tdF A p k).1) gw (n := (xn A).toNat)).2
      by_cases q : (wsF A (tdF A p k).1 (xn A).toNat).1 = -1
      · refine Or.inl ⟨0, [some (vR (some 140)), some (vI (tdF A p k).2), some (vI 0), some (vI (cosF (tdF A p k).1.1 (tdF A p k).1.2 A)), some (vI (-1)), some (vI (wsF A (tdF A p k).1 (xn A).toNat).2), some (vI (xn A)), z7', z8'], M2, ?_, ⟨k, 0, _, _, _, _, _, _, rfl, fun b b1 => by rw [f2 b b1, fr b b1], fun j hj => by rw [g2 j hj, g j hj], c2, hk, Or.inl ⟨rfl, q, rfl⟩⟩, ?_⟩
        · omega
        · rw [q] at e2
          generalize (tdF A p k).2 = cm at e2 ⊢
          generalize cosF (tdF A p k).1.1 (tdF A p k).1.2 A = cc at e2 ec ⊢
          generalize (wsF A (tdF A p k).1 (xn A).toNat).2 = ww at e2 ⊢
          simp (disch := first | assumption | decide | omega | (simp only [List.length_cons, List.length_nil] <;> omega)) only [lgt_0, lgt_s, lset_0, lset_s, lst1_0, lst1_s, lst2_0, lst2_s, ev_iconst, ev_lconst, ev_ldc, ev_null, ev_iload, ev_lload, ev_aload, ev_istore, ev_lstore, ev_astore, ev_iinc, ev_iadd, ev_isub, ev_imul, ev_iand, ev_ior, ev_ishl, ev_ishr, ev_idiv, ev_irem, ev_ineg, ev_ladd, ev_lsub, ev_lmul, ev_land, ev_lor, ev_ldiv, ev_lrem, ev_lshl, ev_i2l, ev_l2i, ev_i2b, ev_i2s, ev_lcmp, ev_dupI, ev_dupR, ev_dup2, ev_popI, ev_popR, ev_alen, ev_xlen, ev_xald, ev_iald, ev_lald, ev_bald, ev_zald, ev_aald, ev_iast, ev_last, ev_bast, ev_zast, ev_aast, ev_gfI, ev_gfL, ev_gfR, ev_pfI, ev_pfZ, ev_pfL, ev_pfR, ev_new, ev_newa, ev_newq, ev_copy, ev_slen, ev_schr, ev_obj, ev_mmin, ev_mabs, ev_mmax, ev_goto, ev_jsr, ev_icmp_eq, ev_if_eq, ev_icmp_ne, ev_if_ne, ev_icmp_lt, ev_if_lt, ev_icmp_ge, ev_if_ge, ev_icmp_gt, ev_if_gt, ev_icmp_le, ev_if_le, ev_ifnull0, ev_ifnull1, ev_ifnn0, ev_ifnn1, ev_tsw, ev_lsw, ev_iret, ev_zret, ev_lret, ev_aret, ev_ret, ev_call0, ev_call1, ev_call2, ev_call3, ev_call4, ev_call5, ev_call6, Option.toList_some, Option.toList_none, List.cons_append, List.nil_append, List.length_cons, List.length_nil, Nat.reduceMod, Nat.reduceDiv, Nat.reduceLeDiff, nc, ↓reduceIte, Nat.zero_le, reduceCtorEq, w32_id, Int.reduceEq, Int.reduceNe, Int.reduceLT, Int.reduceLE, Int.reduceGT, Int.reduceGE, Int.reduceAdd, Int.reduceSub, Int.reduceMul, Int.reduceNeg, ne_eq, not_true_eq_false, not_false_eq_true, eq_self, ↓if_pos, ↓if_neg, J_356_0, k_356_0, J_356_52, k_356_52, J_356_93, k_356_93, J_356_95, k_356_95, J_356_106, k_356_106, J_356_122, k_356_122, J_356_123, k_356_123, J_356_131, k_356_131, J_356_148, k_356_148, k_356_4, ec, e2]
          simp (disch := first | assumption | decide | omega | (simp only [List.length_cons, List.length_nil] <;> omega)) only [lgt_0, lgt_s, lset_0, lset_s, lst1_0, lst1_s, lst2_0, lst2_s, ev_iconst, ev_lconst, ev_ldc, ev_null, ev_iload, ev_lload, ev_aload, ev_istore, ev_lstore, ev_astore, ev_iinc, ev_iadd, ev_isub, ev_imul, ev_iand, ev_ior, ev_ishl, ev_ishr, ev_idiv, ev_irem, ev_ineg, ev_ladd, ev_lsub, ev_lmul, ev_land, ev_lor, ev_ldiv, ev_lrem, ev_lshl, ev_i2l, ev_l2i, ev_i2b, ev_i2s, ev_lcmp, ev_dupI, ev_dupR, ev_dup2, ev_popI, ev_popR, ev_alen, ev_xlen, ev_xald, ev_iald, ev_lald, ev_bald, ev_zald, ev_aald, ev_iast, ev_last, ev_bast, ev_zast, ev_aast, ev_gfI, ev_gfL, ev_gfR, ev_pfI, ev_pfZ, ev_pfL, ev_pfR, ev_new, ev_newa, ev_newq, ev_copy, ev_slen, ev_schr, ev_obj, ev_mmin, ev_mabs, ev_mmax, ev_goto, ev_jsr, ev_icmp_eq, ev_if_eq, ev_icmp_ne, ev_if_ne, ev_icmp_lt, ev_if_lt, ev_icmp_ge, ev_if_ge, ev_icmp_gt, ev_if_gt, ev_icmp_le, ev_if_le, ev_ifnull0, ev_ifnull1, ev_ifnn0, ev_ifnn1, ev_tsw, ev_lsw, ev_iret, ev_zret, ev_lret, ev_aret, ev_ret, ev_call0, ev_call1, ev_call2, ev_call3, ev_call4, ev_call5, ev_call6, Option.toList_some, Option.toList_none, List.cons_append, List.nil_append, List.length_cons, List.length_nil, Nat.reduceMod, Nat.reduceDiv, Nat.reduceLeDiff, nc, ↓reduceIte, Nat.zero_le, reduceCtorEq, w32_id, Int.reduceEq, Int.reduceNe, Int.reduceLT, Int.reduceLE, Int.reduceGT, Int.reduceGE, Int.reduceAdd, Int.reduceSub, Int.reduceMul, Int.reduceNeg, ne_eq, not_true_eq_false, not_false_eq_true, eq_self, ↓if_pos, ↓if_neg, J_356_0, k_356_0, J_356_52, k_356_52, J_356_93, k_356_93, J_356_95, k_356_95, J_356_106, k_356_106, J_356_112, k_356_112, J_356_122, k_356_122, J_356_123, k_356_123, J_356_131, k_356_131, J_356_148, k_356_148, k_356_112]
      · rw [if_neg q] at es
        have w := ws.resolve_left q
        have ok3 := tdF_ok gw hl (k := k + 1)
        have lr3 := lkN_rng (p := (tdF A p (k + 1)).1)
        have cp := mP_part (i := (wsF A (tdF A p k).1 (xn A).toNat).1) c2 (by omega) w.2
        have es2 : (tdF A p (k + 1)).2 = (tdF A p k).2 + 1 := by rw [es]
        refine Or.inl ⟨49 - k, [some (vR (some 140)), some (vI (tdF A p (k + 1)).2), some (vI 1), some (vI (cosF (tdF A p k).1.1 (tdF A p k).1.2 A)), some (vI (wsF A (tdF A p k).1 (xn A).toNat).1), some (vI (wsF A (tdF A p k).1 (xn A).toNat).2), some (vI (xn A)), z7', z8'], up M2 (140 + 1) (80 + (wsF A (tdF A p k).1 (xn A).toNat).1) (-1), ?_, ⟨k + 1, 1, _, _, _, _, _, _, rfl, fun b b1 => by rw [up_ne b1, f2 b b1, fr b b1], fun j hj => by rw [up_ne2 (by omega), g2 j hj, g j hj], by rw [es]; exact cp, by omega, Or.inr ⟨rfl, by omega, by omega⟩⟩, ?_⟩
        · omega
        · rw [es2]
          generalize (tdF A p k).2 = cm at e2 c0 c1 ⊢
          generalize cosF (tdF A p k).1.1 (tdF A p k).1.2 A = cc at e2 ec ⊢
          generalize (wsF A (tdF A p k).1 (xn A).toNat).2 = ww at e2 ⊢
          have w1 := w.1
          generalize (wsF A (tdF A p k).1 (xn A).toNat).1 = wv at e2 q w1 ⊢
          simp (disch := first | assumption | decide | omega | (simp only [List.length_cons, List.length_nil] <;> omega)) only [lgt_0, lgt_s, lset_0, lset_s, lst1_0, lst1_s, lst2_0, lst2_s, ev_iconst, ev_lconst, ev_ldc, ev_null, ev_iload, ev_lload, ev_aload, ev_istore, ev_lstore, ev_astore, ev_iinc, ev_iadd, ev_isub, ev_imul, ev_iand, ev_ior, ev_ishl, ev_ishr, ev_idiv, ev_irem, ev_ineg, ev_ladd, ev_lsub, ev_lmul, ev_land, ev_lor, ev_ldiv, ev_lrem, ev_lshl, ev_i2l, ev_l2i, ev_i2b, ev_i2s, ev_lcmp, ev_dupI, ev_dupR, ev_dup2, ev_popI, ev_popR, ev_alen, ev_xlen, ev_xald, ev_iald, ev_lald, ev_bald, ev_zald, ev_aald, ev_iast, ev_last, ev_bast, ev_zast, ev_aast, ev_gfI, ev_gfL, ev_gfR, ev_pfI, ev_pfZ, ev_pfL, ev_pfR, ev_new, ev_newa, ev_newq, ev_copy, ev_slen, ev_schr, ev_obj, ev_mmin, ev_mabs, ev_mmax, ev_goto, ev_jsr, ev_icmp_eq, ev_if_eq, ev_icmp_ne, ev_if_ne, ev_icmp_lt, ev_if_lt, ev_icmp_ge, ev_if_ge, ev_icmp_gt, ev_if_gt, ev_icmp_le, ev_if_le, ev_ifnull0, ev_ifnull1, ev_ifnn0, ev_ifnn1, ev_tsw, ev_lsw, ev_iret, ev_zret, ev_lret, ev_aret, ev_ret, ev_call0, ev_call1, ev_call2, ev_call3, ev_call4, ev_call5, ev_call6, Option.toList_some, Option.toList_none, List.cons_append, List.nil_append, List.length_cons, List.length_nil, Nat.reduceMod, Nat.reduceDiv, Nat.reduceLeDiff, nc, ↓reduceIte, Nat.zero_le, reduceCtorEq, w32_id, Int.reduceEq, Int.reduceNe, Int.reduceLT, Int.reduceLE, Int.reduceGT, Int.reduceGE, Int.reduceAdd, Int.reduceSub, Int.reduceMul, Int.reduceNeg, ne_eq, not_true_eq_false, not_false_eq_true, eq_self, ↓if_pos, ↓if_neg, J_356_0, k_356_0, J_356_52, k_356_52, J_356_93, k_356_93, J_356_95, k_356_95, J_356_106, k_356_106, J_356_122, k_356_122, J_356_123, k_356_123, J_356_131, k_356_131, J_356_148, k_356_148, k_356_4, ec, e2]
          simp (disch := first | assumption | decide | omega | (simp only [List.length_cons, List.length_nil] <;> omega)) only [lgt_0, lgt_s, lset_0, lset_s, lst1_0, lst1_s, lst2_0, lst2_s, ev_iconst, ev_lconst, ev_ldc, ev_null, ev_iload, ev_lload, ev_aload, ev_istore, ev_lstore, ev_astore, ev_iinc, ev_iadd, ev_isub, ev_imul, ev_iand, ev_ior, ev_ishl, ev_ishr, ev_idiv, ev_irem, ev_ineg, ev_ladd, ev_lsub, ev_lmul, ev_land, ev_lor, ev_ldiv, ev_lrem, ev_lshl, ev_i2l, ev_l2i, ev_i2b, ev_i2s, ev_lcmp, ev_dupI, ev_dupR, ev_dup2, ev_popI, ev_popR, ev_alen, ev_xlen, ev_xald, ev_iald, ev_lald, ev_bald, ev_zald, ev_aald, ev_iast, ev_last, ev_bast, ev_zast, ev_aast, ev_gfI, ev_gfL, ev_gfR, ev_pfI, ev_pfZ, ev_pfL, ev_pfR, ev_new, ev_newa, ev_newq, ev_copy, ev_slen, ev_schr, ev_obj, ev_mmin, ev_mabs, ev_mmax, ev_goto, ev_jsr, ev_icmp_eq, ev_if_eq, ev_icmp_ne, ev_if_ne, ev_icmp_lt, ev_if_lt, ev_icmp_ge, ev_if_ge, ev_icmp_gt, ev_if_gt, ev_icmp_le, ev_if_le, ev_ifnull0, ev_ifnull1, ev_ifnn0, ev_ifnn1, ev_tsw, ev_lsw, ev_iret, ev_zret, ev_lret, ev_aret, ev_ret, ev_call0, ev_call1, ev_call2, ev_call3, ev_call4, ev_call5, ev_call6, Option.toList_some, Option.toList_none, List.cons_append, List.nil_append, List.length_cons, List.length_nil, Nat.reduceMod, Nat.reduceDiv, Nat.reduceLeDiff, nc, ↓reduceIte, Nat.zero_le, reduceCtorEq, w32_id, Int.reduceEq, Int.reduceNe, Int.reduceLT, Int.reduceLE, Int.reduceGT, Int.reduceGE, Int.reduceAdd, Int.reduceSub, Int.reduceMul, Int.reduceNeg, ne_eq, not_true_eq_false, not_false_eq_true, eq_self, ↓if_pos, ↓if_neg, J_356_0, k_356_0, J_356_52, k_356_52, J_356_93, k_356_93, J_356_95, k_356_95, J_356_106, k_356_106, J_356_112, k_356_112, J_356_122, k_356_122, J_356_123, k_356_123, J_356_131, k_356_131, J_356_148, k_356_148, k_356_112, q, r_at]) _ [some (vR (some 140)), some (vI 0), some (vI 1), none, none, none, none, none, none] M ⟨0, 1, none, none, none, none, none, none, rfl, fun _ _ => rfl, fun _ _ => rfl, hq, by omega, Or.inr ⟨rfl, rfl, rfl⟩⟩
  rw [E_356 mk0]
  simp (disch := first | assumption | decide | omega | (simp only [List.length_cons, List.length_nil] <;> omega)) only [lgt_0, lgt_s, lset_0, lset_s, lst1_0, lst1_s, lst2_0, lst2_s, ev_iconst, ev_lconst, ev_ldc, ev_null, ev_iload, ev_lload, ev_aload, ev_istore, ev_lstore, ev_astore, ev_iinc, ev_iadd, ev_isub, ev_imul, ev_iand, ev_ior, ev_ishl, ev_ishr, ev_idiv, ev_irem, ev_ineg, ev_ladd, ev_lsub, ev_lmul, ev_land, ev_lor, ev_ldiv, ev_lrem, ev_lshl, ev_i2l, ev_l2i, ev_i2b, ev_i2s, ev_lcmp, ev_dupI, ev_dupR, ev_dup2, ev_popI, ev_popR, ev_alen, ev_xlen, ev_xald, ev_iald, ev_lald, ev_bald, ev_zald, ev_aald, ev_iast, ev_last, ev_bast, ev_zast, ev_aast, ev_gfI, ev_gfL, ev_gfR, ev_pfI, ev_pfZ, ev_pfL, ev_pfR, ev_new, ev_newa, ev_newq, ev_copy, ev_slen, ev_schr, ev_obj, ev_mmin, ev_mabs, ev_mmax, ev_goto, ev_jsr, ev_icmp_eq, ev_if_eq, ev_icmp_ne, ev_if_ne, ev_icmp_lt, ev_if_lt, ev_icmp_ge, ev_if_ge, ev_icmp_gt, ev_if_gt, ev_icmp_le, ev_if_le, ev_ifnull0, ev_ifnull1, ev_ifnn0, ev_ifnn1, ev_tsw, ev_lsw, ev_iret, ev_zret, ev_lret, ev_aret, ev_ret, ev_call0, ev_call1, ev_call2, ev_call3, ev_call4, ev_call5, ev_call6, Option.toList_some, Option.toList_none, List.cons_append, List.nil_append, List.length_cons, List.length_nil, Nat.reduceMod, Nat.reduceDiv, Nat.reduceLeDiff, nc, ↓reduceIte, Nat.zero_le, reduceCtorEq, w32_id, Int.reduceEq, Int.reduceNe, Int.reduceLT, Int.reduceLE, Int.reduceGT, Int.reduceGE, Int.reduceAdd, Int.reduceSub, Int.reduceMul, Int.reduceNeg, ne_eq, not_true_eq_false, not_false_eq_true, eq_self, ↓if_pos, ↓if_neg, J_356_0, k_356_0, J_356_52, k_356_52, J_356_93, k_356_93, J_356_95, k_356_95, J_356_106, k_356_106, J_356_112, k_356_112, J_356_122, k_356_122, J_356_123, k_356_123, J_356_131, k_356_131, J_356_148, k_356_148, ]
  exact key
theorem op_tidy (h : RR' M) : OP X 206 [] 356 [] M := by
  have k0 := w0_k0; have hc4 := w0_ch4; have hmd := w0_md140; have mk0 := hmd.1; have hc4' := w0_ch4; obtain ⟨ck0, cr0, cr1, cr2, cr3, cr4, cr5, cr6, cr7, ck1, ck2, ck3, ck4, ck5, ck6, ck7, ck8, cl1, cl2, cl3, cl4, cl5, cl6, cl7, cl8⟩ := hc4'
  have n := xn_rng h
  have kv := rr_kv h
  obtain ⟨Mb, fb, cb, eb⟩ := k_tidyUp (X := X) (p := (M (13 + 1), M (13 + 2))) (rr_c h) ⟨rfl, rfl⟩ kv.2
  have okB := (tdF_ok (p := (M (13 + 1), M (13 + 2))) (rr_gwy h) kv.2 (k := 48)).1
  generalize hM1 : up Mb 0 0 0 = M1
  have m1 : ∀ b, b ≠ 0 → b ≠ 13 + 1 → b ≠ 13 + 2 → M1 b = M b := fun b b0 b1 b2 => by rw [← hM1, up_ne b0, fb b b1 b2]
  have hm : mds M M1 := fun b hb => m1 b (by omega) (by omega) (by omega)
  have qv := rr_qv h hm
  obtain ⟨N2, f2, g2, c2, e2⟩ := m_tidy (X := X) (p := (M (13 + 1), M (13 + 2))) qv
  refine ⟨vI (tdF (AA M) (M (13 + 1), M (13 + 2)) 48).2, M1, up N2 140 2 0, ?_, e2, ?_⟩
  · rw [E_206 k0]
    simp (disch := first | assumption | decide | omega | (simp only [List.length_cons, List.length_nil] <;> omega)) only [lgt_0, lgt_s, lset_0, lset_s, lst1_0, lst1_s, lst2_0, lst2_s, ev_iconst, ev_lconst, ev_ldc, ev_null, ev_iload, ev_lload, ev_aload, ev_istore, ev_lstore, ev_astore, ev_iinc, ev_iadd, ev_isub, ev_imul, ev_iand, ev_ior, ev_ishl, ev_ishr, ev_idiv, ev_irem, ev_ineg, ev_ladd, ev_lsub, ev_lmul, ev_land, ev_lor, ev_ldiv, ev_lrem, ev_lshl, ev_i2l, ev_l2i, ev_i2b, ev_i2s, ev_lcmp, ev_dupI, ev_dupR, ev_dup2, ev_popI, ev_popR, ev_alen, ev_xlen, ev_xald, ev_iald, ev_lald, ev_bald, ev_zald, ev_aald, ev_iast, ev_last, ev_bast, ev_zast, ev_aast, ev_gfI, ev_gfL, ev_gfR, ev_pfI, ev_pfZ, ev_pfL, ev_pfR, ev_new, ev_newa, ev_newq, ev_copy, ev_slen, ev_schr, ev_obj, ev_mmin, ev_mabs, ev_mmax, ev_goto, ev_jsr, ev_icmp_eq, ev_if_eq, ev_icmp_ne, ev_if_ne, ev_icmp_lt, ev_if_lt, ev_icmp_ge, ev_if_ge, ev_icmp_gt, ev_if_gt, ev_icmp_le, ev_if_le, ev_ifnull0, ev_ifnull1, ev_ifnn0, ev_ifnn1, ev_tsw, ev_lsw, ev_iret, ev_zret, ev_lret, ev_aret, ev_ret, ev_call0, ev_call1, ev_call2, ev_call3, ev_call4, ev_call5, ev_call6, Option.toList_some, Option.toList_none, List.cons_append, List.nil_append, List.length_cons, List.length_nil, Nat.reduceMod, Nat.reduceDiv, Nat.reduceLeDiff, nc, ↓reduceIte, Nat.zero_le, reduceCtorEq, w32_id, Int.reduceEq, Int.reduceNe, Int.reduceLT, Int.reduceLE, Int.reduceGT, Int.reduceGE, Int.reduceAdd, Int.reduceSub, Int.reduceMul, Int.reduceNeg, ne_eq, not_true_eq_false, not_false_eq_true, eq_self, ↓if_pos, ↓if_neg, w0_r0_3, w0_r0_4, w0_r0_5, w0_r0_6, w0_r0_7, w0_r0_8, w0_r0_10, w0_r0_11, w0_r0_12, w0_r0_13, w0_r0_14, w0_r0_15, w0_r0_16, w0_r0_17, w0_r0_18, J_206_0, k_206_0, eb, s_answer, hM1]
  · refine RR_pl (M := M) (fun i hi => ?_) (fun b b0 b1 b2 b3 b4 b5 b6 => ?_) (fun i i0 i1 => ?_) ?_ ?_ (fun k hk => ?_) (fun i a b => ?_) ?_ ?_ h
    · rw [up_ne (by omega), f2 0 (by omega), ← hM1, up_ne2 hi, fb 0 (by omega) (by omega)]
    · rw [up_ne b4, f2 b b5, m1 b (by omega) b1 b2]
    · rw [up_ne2 i1, f2 140 (by omega), m1 140 (by omega) (by omega) (by omega)]
    · rw [up_ne2 (by omega), f2 140 (by omega), m1 140 (by omega) (by omega) (by omega)]
    · rw [up_ne (by omega), f2 160 (by omega), m1 160 (by omega) (by omega) (by omega)]
    · rw [up_ne (by omega), g2 k hk, m1 _ (by omega) (by omega) (by omega)]
    · rw [up_ne (by omega), up_ne (by omega), f2 (13 + 1) (by omega), ← hM1, up_ne (by omega), cb.1]
      exact (c2.2.2.2.1 i a b).symm
    · rw [up_ne (by omega), up_ne (by omega), f2 (13 + 1) (by omega), f2 (13 + 2) (by omega), ← hM1, up_ne (by omega), up_ne (by omega), cb.1, cb.2]
      exact okB
    · rw [up_eq, up_ne (by omega), f2 0 (by omega), ← hM1, up_eq]
end TDY
