/-! CONSTRUCTORS: a block of cells that grows behind P, and what its cells hold. -/
abbrev CL : Type := List (Int → Int)
def z0 : Int → Int := fun _ => 0
/-- from cell n on M holds the functions of a list -/
def HA (M : Mem) : Nat → CL → Prop
  | _, [] => True
  | n, f :: C => M n = f ∧ HA M (n + 1) C
def qup : CL → Nat → Int → Int → CL
  | [], _, _, _ => []
  | f :: C, 0, j, z => upH f j z :: C
  | f :: C, a + 1, j, z => f :: qup C a j z
def flH (f : Int → Int) (n v : Int) : Int → Int := fun j => if 0 ≤ j ∧ j < n then v else f j
def qfl : CL → Nat → Int → Int → CL
  | [], _, _, _ => []
  | f :: C, 0, n, v => flH f n v :: C
  | f :: C, a + 1, n, v => f :: qfl C a n v
theorem HA_app {M : Mem} {C' : CL} : ∀ {C : CL} {n : Nat}, HA M n C → HA M (n + C.length) C' → HA M n (C ++ C')
  | [], _, _, h => h
  | f :: C, n, h, h' => ⟨h.1, HA_app (C := C) h.2 (by rw [List.length_cons] at h'; rw [show n + 1 + C.length = n + (C.length + 1) by omega]; exact h')⟩
theorem HA_get {M : Mem} {f : Int → Int} : ∀ {C : CL} {n j : Nat}, HA M n C → C[j]? = some f → M (n + j) = f
  | [], _, _, _, h => by cases h
  | g :: C, n, 0, h, e => by
    cases e
    exact h.1
  | g :: C, n, j + 1, h, e => by
    have e2 := HA_get (C := C) (n := n + 1) (j := j) h.2 e
    rw [show n + (j + 1) = n + 1 + j by omega]
    exact e2
theorem HA_c {M M' : Mem} : ∀ {C : CL} {n : Nat}, (∀ b, n ≤ b → b < n + C.length → M' b = M b) → HA M n C → HA M' n C
  | [], _, _, _ => trivial
  | f :: C, n, hb, h => ⟨by rw [hb n (Nat.le_refl _) (by rw [List.length_cons]; omega)]; exact h.1, HA_c (C := C) (fun b h1 h2 => hb b (by omega) (by rw [List.length_cons]; omega)) h.2⟩
theorem up_same {M : Mem} {a : Nat} {j z : Int} : up M a j z a = upH (M a) j z := by
  funext i
  rw [up_at]
  rfl
theorem mfill_same {M : Mem} {a : Nat} {n v : Int} : mfill M a n v a = flH (M a) n v := by
  funext j
  unfold mfill flH
  by_cases q : 0 ≤ j ∧ j < n
  · rw [if_pos q, if_pos ⟨rfl, q⟩]
  · rw [if_neg q, if_neg (fun z => q z.2)]
theorem clr_ne {M : Mem} {a b : Nat} (h : b ≠ a) : clr M a b = M b := by
  funext i
  unfold clr
  rw [if_neg h]
theorem clr_same {M : Mem} {a : Nat} : clr M a a = z0 := by
  funext i
  unfold clr z0
  rw [if_pos rfl]
theorem HA_up {M : Mem} {j z : Int} : ∀ {C : CL} {n : Nat} (a : Nat), HA M n C → HA (up M (n + a) j z) n (qup C a j z)
  | [], _, _, _ => trivial
  | f :: C, n, 0, h => ⟨by
      show up M n j z n = _
      rw [up_same, h.1], HA_c (fun b h1 h2 => up_ne (by omega)) h.2⟩
  | f :: C, n, a + 1, h => ⟨by rw [up_ne (by omega)]; exact h.1, by
      have := HA_up (C := C) (n := n + 1) (j := j) (z := z) a h.2
      rw [show n + 1 + a = n + (a + 1) by omega] at this
      exact this⟩
theorem HA_fl {M : Mem} {k v : Int} : ∀ {C : CL} {n : Nat} (a : Nat), HA M n C → HA (mfill M (n + a) k v) n (qfl C a k v)
  | [], _, _, _ => trivial
  | f :: C, n, 0, h => ⟨by
      show mfill M n k v n = _
      rw [mfill_same, h.1], HA_c (fun b h1 h2 => mfill_ne (by omega)) h.2⟩
  | f :: C, n, a + 1, h => ⟨by rw [mfill_ne (by omega)]; exact h.1, by
      have := HA_fl (C := C) (n := n + 1) (k := k) (v := v) a h.2
      rw [show n + 1 + a = n + (a + 1) by omega] at this
      exact this⟩
section NWP
variable {P L : List SE} {j k : Nat}
theorem knd_P : knd (P ++ L) P.length = knd L 0 := by
  unfold knd
  rw [List.getElem?_append_right (Nat.le_refl _), Nat.sub_self]
theorem knd_Pj : knd (P ++ L) (P.length + j) = knd L j := by
  unfold knd
  rw [List.getElem?_append_right (Nat.le_add_right _ _), Nat.add_sub_cancel_left]
theorem len_Pj : len (P ++ L) (P.length + j) = len L j := by
  unfold len
  rw [List.getElem?_append_right (Nat.le_add_right _ _), Nat.add_sub_cancel_left]
theorem rfs_P : rfs (P ++ L) P.length k = rfs L 0 k := by
  unfold rfs
  rw [List.getElem?_append_right (Nat.le_refl _), Nat.sub_self]
theorem shset_P {r : Option Nat} : shset (P ++ L) P.length k r = P ++ shset L 0 k r := by
  unfold shset
  rw [List.getElem?_append_right (Nat.le_refl _), Nat.sub_self]
  cases L[0]? with
  | none => rfl
  | some q =>
    show (P ++ L).set P.length _ = P ++ L.set 0 _
    rw [List.set_append_right _ _ (Nat.le_refl _), Nat.sub_self]
theorem shset_Pj {r : Option Nat} : shset (P ++ L) (P.length + j) k r = P ++ shset L j k r := by
  unfold shset
  rw [List.getElem?_append_right (Nat.le_add_right _ _), Nat.add_sub_cancel_left]
  cases L[j]? with
  | none => rfl
  | some q =>
    show (P ++ L).set (P.length + j) _ = P ++ L.set j _
    rw [List.set_append_right _ _ (Nat.le_add_right _ _), Nat.add_sub_cancel_left]
end NWP
/-- inside a constructor: P and M0 ahead, the block L behind, its cells hold C -/
def BS (P : List SE) (M0 : Mem) (L : List SE) (C : CL) (M : Mem) : Prop := (∀ b, b < P.length → M b = M0 b) ∧ HA M P.length C ∧ L.length = C.length
/-- what a constructor does behind any P -/
def CT (X : Int → Int) (k c : Nat) (ex : List PV) (B : Nat → List SE) (C : CL) : Prop := ∀ (P : List SE) (M : Mem), (B P.length).length = C.length ∧ ∃ M', evc X k (vR (some P.length) :: ex) (P ++ [(c, cN c, List.replicate (cN c) none)]) (clr M P.length) = some (none, P ++ B P.length, M') ∧ (∀ b, b < P.length → M' b = M b) ∧ HA M' P.length C
section GRP
variable {X : Int → Int} {y f : Nat} {P L L' : List SE} {M0 M : Mem} {C C' : CL} {ls : PLS}
theorem bs0 {q : SE} : BS P M0 [q] [z0] (clr M0 P.length) := ⟨fun b hb => clr_ne (by omega), ⟨clr_same, trivial⟩, rfl⟩
theorem bs_c {M' : Mem} (h : BS P M0 L C M) (hb : ∀ b, b < (P ++ L).length → M' b = M b) (hc : HA M' (P ++ L).length C') (hl : L'.length = L.length + C'.length) : BS P M0 L' (C ++ C') M' := by
  rw [List.length_append] at hb hc
  refine ⟨fun b hb' => by rw [hb b (by omega)]; exact h.1 b hb', HA_app (HA_c (fun b h1 h2 => hb b (by rw [h.2.2]; exact h2)) h.2.1) (by rw [← h.2.2]; exact hc), ?_⟩
  rw [hl, List.length_append, h.2.2]
theorem bs_up {a : Nat} {j z : Int} (h : BS P M0 L C M) (hl : (qup C a j z).length = C.length) : BS P M0 L (qup C a j z) (up M (P.length + a) j z) := ⟨fun b hb => by rw [up_ne (by omega)]; exact h.1 b hb, HA_up a h.2.1, h.2.2.trans hl.symm⟩
theorem cg0 {is : List Instr} {a : Nat} {Sh : List SE} : ev X y (.aload 0 :: .invokedynamic 3 :: is) (some (vR (some a)) :: ls) [] Sh M = ev X y is (some (vR (some a)) :: ls) [] Sh M := by
  simp (disch := first | assumption | decide | omega | (simp only [List.length_cons, List.length_nil] <;> omega)) only [lgt_0, lgt_s, lset_0, lset_s, lst1_0, lst1_s, lst2_0, lst2_s, ev_iconst, ev_lconst, ev_ldc, ev_null, ev_iload, ev_lload, ev_aload, ev_istore, ev_lstore, ev_astore, ev_iinc, ev_iadd, ev_isub, ev_imul, ev_iand, ev_ior, ev_ishl, ev_ishr, ev_idiv, ev_irem, ev_ineg, ev_ladd, ev_lsub, ev_lmul, ev_land, ev_lor, ev_ldiv, ev_lrem, ev_lshl, ev_i2l, ev_l2i, ev_i2b, ev_i2s, ev_lcmp, ev_dupI, ev_dupR, ev_dup2, ev_popI, ev_popR, ev_alen, ev_xlen, ev_xald, ev_iald, ev_lald, ev_bald, ev_zald, ev_aald, ev_iast, ev_last, ev_bast, ev_zast, ev_aast, ev_gfI, ev_gfL, ev_gfR, ev_pfI, ev_pfZ, ev_pfL, ev_pfR, ev_new, ev_newa, ev_newq, ev_copy, ev_slen, ev_schr, ev_obj, ev_mmin, ev_mabs, ev_mmax, ev_goto, ev_jsr, ev_icmp_eq, ev_if_eq, ev_icmp_ne, ev_if_ne, ev_icmp_lt, ev_if_lt, ev_icmp_ge, ev_if_ge, ev_icmp_gt, ev_if_gt, ev_icmp_le, ev_if_le, ev_ifnull0, ev_ifnull1, ev_ifnn0, ev_ifnn1, ev_tsw, ev_lsw, ev_iret, ev_zret, ev_lret, ev_aret, ev_ret, ev_call0, ev_call1, ev_call2, ev_call3, ev_call4, ev_call5, ev_call6, Option.toList_some, Option.toList_none, List.cons_append, List.nil_append, List.length_cons, List.length_nil, Nat.reduceMod, Nat.reduceDiv, Nat.reduceLeDiff, nc, ↓reduceIte, Nat.zero_le, reduceCtorEq, w32_id, Int.reduceEq, Int.reduceNe, Int.reduceLT, Int.reduceLE, Int.reduceGT, Int.reduceGE, Int.reduceAdd, Int.reduceSub, Int.reduceMul, Int.reduceNeg, ne_eq, not_true_eq_false, not_false_eq_true, eq_self, ↓if_pos, ↓if_neg]
theorem cgA {t : ArrayType} {n : Int} (h : BS P M0 L C M) (h0 : 0 < L.length) (hk : knd L 0 = f / 64) (hn : 0 ≤ n ∧ n ≤ 1000000) (hL : shset (L ++ [(kOf t, n.toNat, [])]) 0 (f % 64) (some (P.length + L.length)) = L') : ∃ M', BS P M0 L' (C ++ [z0]) M' ∧ ∀ (is : List Instr) (d : Nat), ev X y (.aload 0 :: .iconst n :: .newarray t :: .multianewarray f d :: is) (some (vR (some P.length)) :: ls) [] (P ++ L) M = ev X y is (some (vR (some P.length)) :: ls) [] (P ++ L') M' := by
  have hk' : knd (P ++ L ++ [(kOf t, n.toNat, [])]) P.length = f / 64 := by rw [List.append_assoc, knd_P, knd_app h0, hk]
  have hs : shset (P ++ L ++ [(kOf t, n.toNat, [])]) P.length (f % 64) (some (P ++ L).length) = P ++ L' := by rw [List.append_assoc, shset_P, List.length_append, hL]
  refine ⟨clr M (P ++ L).length, bs_c h (fun b hb => clr_ne (by omega)) ⟨clr_same, trivial⟩ ?_, fun is d => ?_⟩
  · rw [← hL, shset_length, List.length_append]
    rfl
  · simp (disch := first | assumption | decide | omega | (simp only [List.length_cons, List.length_nil] <;> omega)) only [lgt_0, lgt_s, lset_0, lset_s, lst1_0, lst1_s, lst2_0, lst2_s, ev_iconst, ev_lconst, ev_ldc, ev_null, ev_iload, ev_lload, ev_aload, ev_istore, ev_lstore, ev_astore, ev_iinc, ev_iadd, ev_isub, ev_imul, ev_iand, ev_ior, ev_ishl, ev_ishr, ev_idiv, ev_irem, ev_ineg, ev_ladd, ev_lsub, ev_lmul, ev_land, ev_lor, ev_ldiv, ev_lrem, ev_lshl, ev_i2l, ev_l2i, ev_i2b, ev_i2s, ev_lcmp, ev_dupI, ev_dupR, ev_dup2, ev_popI, ev_popR, ev_alen, ev_xlen, ev_xald, ev_iald, ev_lald, ev_bald, ev_zald, ev_aald, ev_iast, ev_last, ev_bast, ev_zast, ev_aast, ev_gfI, ev_gfL, ev_gfR, ev_pfI, ev_pfZ, ev_pfL, ev_pfR, ev_new, ev_newa, ev_newq, ev_copy, ev_slen, ev_schr, ev_obj, ev_mmin, ev_mabs, ev_mmax, ev_goto, ev_jsr, ev_icmp_eq, ev_if_eq, ev_icmp_ne, ev_if_ne, ev_icmp_lt, ev_if_lt, ev_icmp_ge, ev_if_ge, ev_icmp_gt, ev_if_gt, ev_icmp_le, ev_if_le, ev_ifnull0, ev_ifnull1, ev_ifnn0, ev_ifnn1, ev_tsw, ev_lsw, ev_iret, ev_zret, ev_lret, ev_aret, ev_ret, ev_call0, ev_call1, ev_call2, ev_call3, ev_call4, ev_call5, ev_call6, Option.toList_some, Option.toList_none, List.cons_append, List.nil_append, List.length_cons, List.length_nil, Nat.reduceMod, Nat.reduceDiv, Nat.reduceLeDiff, nc, ↓reduceIte, Nat.zero_le, reduceCtorEq, w32_id, Int.reduceEq, Int.reduceNe, Int.reduceLT, Int.reduceLE, Int.reduceGT, Int.reduceGE, Int.reduceAdd, Int.reduceSub, Int.reduceMul, Int.reduceNeg, ne_eq, not_true_eq_false, not_false_eq_true, eq_self, ↓if_pos, ↓if_neg, hk', hs]
theorem cgQ {q : Nat} {n : Int} (h : BS P M0 L C M) (h0 : 0 < L.length) (hk : knd L 0 = f / 64) (hn : 0 ≤ n ∧ n ≤ 1000) (hL : shset (L ++ [(q, n.toNat, List.replicate n.toNat none)]) 0 (f % 64) (some (P.length + L.length)) = L') : ∃ M', BS P M0 L' (C ++ [z0]) M' ∧ ∀ (is : List Instr) (d : Nat), ev X y (.aload 0 :: .iconst n :: .anewarray q :: .multianewarray f d :: is) (some (vR (some P.length)) :: ls) [] (P ++ L) M = ev X y is (some (vR (some P.length)) :: ls) [] (P ++ L') M' := by
  have hk' : knd (P ++ L ++ [(q, n.toNat, List.replicate n.toNat none)]) P.length = f / 64 := by rw [List.append_assoc, knd_P, knd_app h0, hk]
  have hs : shset (P ++ L ++ [(q, n.toNat, List.replicate n.toNat none)]) P.length (f % 64) (some (P ++ L).length) = P ++ L' := by rw [List.append_assoc, shset_P, List.length_append, hL]
  refine ⟨clr M (P ++ L).length, bs_c h (fun b hb => clr_ne (by omega)) ⟨clr_same, trivial⟩ ?_, fun is d => ?_⟩
  · rw [← hL, shset_length, List.length_append]
    rfl
  · simp (disch := first | assumption | decide | omega | (simp only [List.length_cons, List.length_nil] <;> omega)) only [lgt_0, lgt_s, lset_0, lset_s, lst1_0, lst1_s, lst2_0, lst2_s, ev_iconst, ev_lconst, ev_ldc, ev_null, ev_iload, ev_lload, ev_aload, ev_istore, ev_lstore, ev_astore, ev_iinc, ev_iadd, ev_isub, ev_imul, ev_iand, ev_ior, ev_ishl, ev_ishr, ev_idiv, ev_irem, ev_ineg, ev_ladd, ev_lsub, ev_lmul, ev_land, ev_lor, ev_ldiv, ev_lrem, ev_lshl, ev_i2l, ev_l2i, ev_i2b, ev_i2s, ev_lcmp, ev_dupI, ev_dupR, ev_dup2, ev_popI, ev_popR, ev_alen, ev_xlen, ev_xald, ev_iald, ev_lald, ev_bald, ev_zald, ev_aald, ev_iast, ev_last, ev_bast, ev_zast, ev_aast, ev_gfI, ev_gfL, ev_gfR, ev_pfI, ev_pfZ, ev_pfL, ev_pfR, ev_new, ev_newa, ev_newq, ev_copy, ev_slen, ev_schr, ev_obj, ev_mmin, ev_mabs, ev_mmax, ev_goto, ev_jsr, ev_icmp_eq, ev_if_eq, ev_icmp_ne, ev_if_ne, ev_icmp_lt, ev_if_lt, ev_icmp_ge, ev_if_ge, ev_icmp_gt, ev_if_gt, ev_icmp_le, ev_if_le, ev_ifnull0, ev_ifnull1, ev_ifnn0, ev_ifnn1, ev_tsw, ev_lsw, ev_iret, ev_zret, ev_lret, ev_aret, ev_ret, ev_call0, ev_call1, ev_call2, ev_call3, ev_call4, ev_call5, ev_call6, Option.toList_some, Option.toList_none, List.cons_append, List.nil_append, List.length_cons, List.length_nil, Nat.reduceMod, Nat.reduceDiv, Nat.reduceLeDiff, nc, ↓reduceIte, Nat.zero_le, reduceCtorEq, w32_id, Int.reduceEq, Int.reduceNe, Int.reduceLT, Int.reduceLE, Int.reduceGT, Int.reduceGE, Int.reduceAdd, Int.reduceSub, Int.reduceMul, Int.reduceNeg, ne_eq, not_true_eq_false, not_false_eq_true, eq_self, ↓if_pos, ↓if_neg, hk', hs]
theorem cgN {k c : Nat} {B : Nat → List SE} (hc : CT X k c [] B C') (h : BS P M0 L C M) (h0 : 0 < L.length) (hk : knd L 0 = f / 64) (hL : shset (L ++ B (P.length + L.length)) 0 (f % 64) (some (P.length + L.length)) = L') : ∃ M', BS P M0 L' (C ++ C') M' ∧ ∀ (is : List Instr) (d : Nat), ev X y (.aload 0 :: .new c :: .dup :: .invokeinterface k 1 :: .multianewarray f d :: is) (some (vR (some P.length)) :: ls) [] (P ++ L) M = ev X y is (some (vR (some P.length)) :: ls) [] (P ++ L') M' := by
  obtain ⟨c1, M', c2, c3, c4⟩ := hc (P ++ L) M
  have hk' : knd (P ++ L ++ B (P ++ L).length) P.length = f / 64 := by rw [List.append_assoc, knd_P, knd_app h0, hk]
  have hs : shset (P ++ L ++ B (P ++ L).length) P.length (f % 64) (some (P ++ L).length) = P ++ L' := by rw [List.append_assoc, shset_P, List.length_append, hL]
  refine ⟨M', bs_c h c3 c4 ?_, fun is d => ?_⟩
  · rw [← hL, shset_length, List.length_append, ← c1, List.length_append]
  · simp (disch := first | assumption | decide | omega | (simp only [List.length_cons, List.length_nil] <;> omega)) only [lgt_0, lgt_s, lset_0, lset_s, lst1_0, lst1_s, lst2_0, lst2_s, ev_iconst, ev_lconst, ev_ldc, ev_null, ev_iload, ev_lload, ev_aload, ev_istore, ev_lstore, ev_astore, ev_iinc, ev_iadd, ev_isub, ev_imul, ev_iand, ev_ior, ev_ishl, ev_ishr, ev_idiv, ev_irem, ev_ineg, ev_ladd, ev_lsub, ev_lmul, ev_land, ev_lor, ev_ldiv, ev_lrem, ev_lshl, ev_i2l, ev_l2i, ev_i2b, ev_i2s, ev_lcmp, ev_dupI, ev_dupR, ev_dup2, ev_popI, ev_popR, ev_alen, ev_xlen, ev_xald, ev_iald, ev_lald, ev_bald, ev_zald, ev_aald, ev_iast, ev_last, ev_bast, ev_zast, ev_aast, ev_gfI, ev_gfL, ev_gfR, ev_pfI, ev_pfZ, ev_pfL, ev_pfR, ev_new, ev_newa, ev_newq, ev_copy, ev_slen, ev_schr, ev_obj, ev_mmin, ev_mabs, ev_mmax, ev_goto, ev_jsr, ev_icmp_eq, ev_if_eq, ev_icmp_ne, ev_if_ne, ev_icmp_lt, ev_if_lt, ev_icmp_ge, ev_if_ge, ev_icmp_gt, ev_if_gt, ev_icmp_le, ev_if_le, ev_ifnull0, ev_ifnull1, ev_ifnn0, ev_ifnn1, ev_tsw, ev_lsw, ev_iret, ev_zret, ev_lret, ev_aret, ev_ret, ev_call0, ev_call1, ev_call2, ev_call3, ev_call4, ev_call5, ev_call6, Option.toList_some, Option.toList_none, List.cons_append, List.nil_append, List.length_cons, List.length_nil, Nat.reduceMod, Nat.reduceDiv, Nat.reduceLeDiff, nc, ↓reduceIte, Nat.zero_le, reduceCtorEq, w32_id, Int.reduceEq, Int.reduceNe, Int.reduceLT, Int.reduceLE, Int.reduceGT, Int.reduceGE, Int.reduceAdd, Int.reduceSub, Int.reduceMul, Int.reduceNeg, ne_eq, not_true_eq_false, not_false_eq_true, eq_self, ↓if_pos, ↓if_neg, c2, hk', hs]
theorem cgM {k c g : Nat} {B : Nat → List SE} {r : Option Nat} (hr : rfs L 0 (g % 64) = r) (hc : CT X k c [vR r] B C') (h : BS P M0 L C M) (h0 : 0 < L.length) (hk : knd L 0 = f / 64) (hg : knd L 0 = g / 64) (hL : shset (L ++ B (P.length + L.length)) 0 (f % 64) (some (P.length + L.length)) = L') : ∃ M', BS P M0 L' (C ++ C') M' ∧ ∀ (is : List Instr) (d : Nat), ev X y (.aload 0 :: .new c :: .dup :: .aload 0 :: .checkcast g :: .invokeinterface k 2 :: .multianewarray f d :: is) (some (vR (some P.length)) :: ls) [] (P ++ L) M = ev X y is (some (vR (some P.length)) :: ls) [] (P ++ L') M' := by
  obtain ⟨c1, M', c2, c3, c4⟩ := hc (P ++ L) M
  have hk' : knd (P ++ L ++ B (P ++ L).length) P.length = f / 64 := by rw [List.append_assoc, knd_P, knd_app h0, hk]
  have hg' : knd (P ++ L ++ [(c, cN c, List.replicate (cN c) none)]) P.length = g / 64 := by rw [List.append_assoc, knd_P, knd_app h0, hg]
  have hr' : rfs (P ++ L ++ [(c, cN c, List.replicate (cN c) none)]) P.length (g % 64) = r := by rw [List.append_assoc, rfs_P, rfs_app h0, hr]
  have hs : shset (P ++ L ++ B (P ++ L).length) P.length (f % 64) (some (P ++ L).length) = P ++ L' := by rw [List.append_assoc, shset_P, List.length_append, hL]
  refine ⟨M', bs_c h c3 c4 ?_, fun is d => ?_⟩
  · rw [← hL, shset_length, List.length_append, ← c1, List.length_append]
  · simp (disch := first | assumption | decide | omega | (simp only [List.length_cons, List.length_nil] <;> omega)) only [lgt_0, lgt_s, lset_0, lset_s, lst1_0, lst1_s, lst2_0, lst2_s, ev_iconst, ev_lconst, ev_ldc, ev_null, ev_iload, ev_lload, ev_aload, ev_istore, ev_lstore, ev_astore, ev_iinc, ev_iadd, ev_isub, ev_imul, ev_iand, ev_ior, ev_ishl, ev_ishr, ev_idiv, ev_irem, ev_ineg, ev_ladd, ev_lsub, ev_lmul, ev_land, ev_lor, ev_ldiv, ev_lrem, ev_lshl, ev_i2l, ev_l2i, ev_i2b, ev_i2s, ev_lcmp, ev_dupI, ev_dupR, ev_dup2, ev_popI, ev_popR, ev_alen, ev_xlen, ev_xald, ev_iald, ev_lald, ev_bald, ev_zald, ev_aald, ev_iast, ev_last, ev_bast, ev_zast, ev_aast, ev_gfI, ev_gfL, ev_gfR, ev_pfI, ev_pfZ, ev_pfL, ev_pfR, ev_new, ev_newa, ev_newq, ev_copy, ev_slen, ev_schr, ev_obj, ev_mmin, ev_mabs, ev_mmax, ev_goto, ev_jsr, ev_icmp_eq, ev_if_eq, ev_icmp_ne, ev_if_ne, ev_icmp_lt, ev_if_lt, ev_icmp_ge, ev_if_ge, ev_icmp_gt, ev_if_gt, ev_icmp_le, ev_if_le, ev_ifnull0, ev_ifnull1, ev_ifnn0, ev_ifnn1, ev_tsw, ev_lsw, ev_iret, ev_zret, ev_lret, ev_aret, ev_ret, ev_call0, ev_call1, ev_call2, ev_call3, ev_call4, ev_call5, ev_call6, Option.toList_some, Option.toList_none, List.cons_append, List.nil_append, List.length_cons, List.length_nil, Nat.reduceMod, Nat.reduceDiv, Nat.reduceLeDiff, nc, ↓reduceIte, Nat.zero_le, reduceCtorEq, w32_id, Int.reduceEq, Int.reduceNe, Int.reduceLT, Int.reduceLE, Int.reduceGT, Int.reduceGE, Int.reduceAdd, Int.reduceSub, Int.reduceMul, Int.reduceNeg, ne_eq, not_true_eq_false, not_false_eq_true, eq_self, ↓if_pos, ↓if_neg, c2, hk', hs, hg', hr']
theorem cgR {r : Option Nat} (h : BS P M0 L C M) (hk : knd L 0 = f / 64) (hL : shset L 0 (f % 64) r = L') : BS P M0 L' C M ∧ ∀ (is : List Instr) (d : Nat), ev X y (.aload 0 :: .aload 1 :: .multianewarray f d :: is) (some (vR (some P.length)) :: some (vR r) :: ls) [] (P ++ L) M = ev X y is (some (vR (some P.length)) :: some (vR r) :: ls) [] (P ++ L') M := by
  have hk' : knd (P ++ L) P.length = f / 64 := by rw [knd_P, hk]
  have hs : shset (P ++ L) P.length (f % 64) r = P ++ L' := by rw [shset_P, hL]
  refine ⟨⟨h.1, h.2.1, by rw [← hL, shset_length]; exact h.2.2⟩, fun is d => ?_⟩
  simp (disch := first | assumption | decide | omega | (simp only [List.length_cons, List.length_nil] <;> omega)) only [lgt_0, lgt_s, lset_0, lset_s, lst1_0, lst1_s, lst2_0, lst2_s, ev_iconst, ev_lconst, ev_ldc, ev_null, ev_iload, ev_lload, ev_aload, ev_istore, ev_lstore, ev_astore, ev_iinc, ev_iadd, ev_isub, ev_imul, ev_iand, ev_ior, ev_ishl, ev_ishr, ev_idiv, ev_irem, ev_ineg, ev_ladd, ev_lsub, ev_lmul, ev_land, ev_lor, ev_ldiv, ev_lrem, ev_lshl, ev_i2l, ev_l2i, ev_i2b, ev_i2s, ev_lcmp, ev_dupI, ev_dupR, ev_dup2, ev_popI, ev_popR, ev_alen, ev_xlen, ev_xald, ev_iald, ev_lald, ev_bald, ev_zald, ev_aald, ev_iast, ev_last, ev_bast, ev_zast, ev_aast, ev_gfI, ev_gfL, ev_gfR, ev_pfI, ev_pfZ, ev_pfL, ev_pfR, ev_new, ev_newa, ev_newq, ev_copy, ev_slen, ev_schr, ev_obj, ev_mmin, ev_mabs, ev_mmax, ev_goto, ev_jsr, ev_icmp_eq, ev_if_eq, ev_icmp_ne, ev_if_ne, ev_icmp_lt, ev_if_lt, ev_icmp_ge, ev_if_ge, ev_icmp_gt, ev_if_gt, ev_icmp_le, ev_if_le, ev_ifnull0, ev_ifnull1, ev_ifnn0, ev_ifnn1, ev_tsw, ev_lsw, ev_iret, ev_zret, ev_lret, ev_aret, ev_ret, ev_call0, ev_call1, ev_call2, ev_call3, ev_call4, ev_call5, ev_call6, Option.toList_some, Option.toList_none, List.cons_append, List.nil_append, List.length_cons, List.length_nil, Nat.reduceMod, Nat.reduceDiv, Nat.reduceLeDiff, nc, ↓reduceIte, Nat.zero_le, reduceCtorEq, w32_id, Int.reduceEq, Int.reduceNe, Int.reduceLT, Int.reduceLE, Int.reduceGT, Int.reduceGE, Int.reduceAdd, Int.reduceSub, Int.reduceMul, Int.reduceNeg, ne_eq, not_true_eq_false, not_false_eq_true, eq_self, ↓if_pos, ↓if_neg, hk', hs]
theorem cgI {v : Int} (h : BS P M0 L C M) (hk : knd L 0 = f / 64) (hl : (qup C 0 ((f % 64 : Nat) : Int) v).length = C.length) : ∃ M', BS P M0 L (qup C 0 ((f % 64 : Nat) : Int) v) M' ∧ ∀ (is : List Instr), ev X y (.aload 0 :: .iconst v :: .putfield f :: is) (some (vR (some P.length)) :: ls) [] (P ++ L) M = ev X y is (some (vR (some P.length)) :: ls) [] (P ++ L) M' := by
  have hk' : knd (P ++ L) P.length = f / 64 := by rw [knd_P, hk]
  refine ⟨up M P.length ((f % 64 : Nat) : Int) v, bs_up (a := 0) h hl, fun is => ?_⟩
  simp (disch := first | assumption | decide | omega | (simp only [List.length_cons, List.length_nil] <;> omega)) only [lgt_0, lgt_s, lset_0, lset_s, lst1_0, lst1_s, lst2_0, lst2_s, ev_iconst, ev_lconst, ev_ldc, ev_null, ev_iload, ev_lload, ev_aload, ev_istore, ev_lstore, ev_astore, ev_iinc, ev_iadd, ev_isub, ev_imul, ev_iand, ev_ior, ev_ishl, ev_ishr, ev_idiv, ev_irem, ev_ineg, ev_ladd, ev_lsub, ev_lmul, ev_land, ev_lor, ev_ldiv, ev_lrem, ev_lshl, ev_i2l, ev_l2i, ev_i2b, ev_i2s, ev_lcmp, ev_dupI, ev_dupR, ev_dup2, ev_popI, ev_popR, ev_alen, ev_xlen, ev_xald, ev_iald, ev_lald, ev_bald, ev_zald, ev_aald, ev_iast, ev_last, ev_bast, ev_zast, ev_aast, ev_gfI, ev_gfL, ev_gfR, ev_pfI, ev_pfZ, ev_pfL, ev_pfR, ev_new, ev_newa, ev_newq, ev_copy, ev_slen, ev_schr, ev_obj, ev_mmin, ev_mabs, ev_mmax, ev_goto, ev_jsr, ev_icmp_eq, ev_if_eq, ev_icmp_ne, ev_if_ne, ev_icmp_lt, ev_if_lt, ev_icmp_ge, ev_if_ge, ev_icmp_gt, ev_if_gt, ev_icmp_le, ev_if_le, ev_ifnull0, ev_ifnull1, ev_ifnn0, ev_ifnn1, ev_tsw, ev_lsw, ev_iret, ev_zret, ev_lret, ev_aret, ev_ret, ev_call0, ev_call1, ev_call2, ev_call3, ev_call4, ev_call5, ev_call6, Option.toList_some, Option.toList_none, List.cons_append, List.nil_append, List.length_cons, List.length_nil, Nat.reduceMod, Nat.reduceDiv, Nat.reduceLeDiff, nc, ↓reduceIte, Nat.zero_le, reduceCtorEq, w32_id, Int.reduceEq, Int.reduceNe, Int.reduceLT, Int.reduceLE, Int.reduceGT, Int.reduceGE, Int.reduceAdd, Int.reduceSub, Int.reduceMul, Int.reduceNeg, ne_eq, not_true_eq_false, not_false_eq_true, eq_self, ↓if_pos, ↓if_neg, hk']
theorem cgJ {v : Int} (h : BS P M0 L C M) (hk : knd L 0 = f / 64) (hl : (qup C 0 ((f % 64 : Nat) : Int) v).length = C.length) : ∃ M', BS P M0 L (qup C 0 ((f % 64 : Nat) : Int) v) M' ∧ ∀ (is : List Instr), ev X y (.aload 0 :: .goto_w v :: .putstatic f :: is) (some (vR (some P.length)) :: ls) [] (P ++ L) M = ev X y is (some (vR (some P.length)) :: ls) [] (P ++ L) M' := by
  have hk' : knd (P ++ L) P.length = f / 64 := by rw [knd_P, hk]
  refine ⟨up M P.length ((f % 64 : Nat) : Int) v, bs_up (a := 0) h hl, fun is => ?_⟩
  simp (disch := first | assumption | decide | omega | (simp only [List.length_cons, List.length_nil] <;> omega)) only [lgt_0, lgt_s, lset_0, lset_s, lst1_0, lst1_s, lst2_0, lst2_s, ev_iconst, ev_lconst, ev_ldc, ev_null, ev_iload, ev_lload, ev_aload, ev_istore, ev_lstore, ev_astore, ev_iinc, ev_iadd, ev_isub, ev_imul, ev_iand, ev_ior, ev_ishl, ev_ishr, ev_idiv, ev_irem, ev_ineg, ev_ladd, ev_lsub, ev_lmul, ev_land, ev_lor, ev_ldiv, ev_lrem, ev_lshl, ev_i2l, ev_l2i, ev_i2b, ev_i2s, ev_lcmp, ev_dupI, ev_dupR, ev_dup2, ev_popI, ev_popR, ev_alen, ev_xlen, ev_xald, ev_iald, ev_lald, ev_bald, ev_zald, ev_aald, ev_iast, ev_last, ev_bast, ev_zast, ev_aast, ev_gfI, ev_gfL, ev_gfR, ev_pfI, ev_pfZ, ev_pfL, ev_pfR, ev_new, ev_newa, ev_newq, ev_copy, ev_slen, ev_schr, ev_obj, ev_mmin, ev_mabs, ev_mmax, ev_goto, ev_jsr, ev_icmp_eq, ev_if_eq, ev_icmp_ne, ev_if_ne, ev_icmp_lt, ev_if_lt, ev_icmp_ge, ev_if_ge, ev_icmp_gt, ev_if_gt, ev_icmp_le, ev_if_le, ev_ifnull0, ev_ifnull1, ev_ifnn0, ev_ifnn1, ev_tsw, ev_lsw, ev_iret, ev_zret, ev_lret, ev_aret, ev_ret, ev_call0, ev_call1, ev_call2, ev_call3, ev_call4, ev_call5, ev_call6, Option.toList_some, Option.toList_none, List.cons_append, List.nil_append, List.length_cons, List.length_nil, Nat.reduceMod, Nat.reduceDiv, Nat.reduceLeDiff, nc, ↓reduceIte, Nat.zero_le, reduceCtorEq, w32_id, Int.reduceEq, Int.reduceNe, Int.reduceLT, Int.reduceLE, Int.reduceGT, Int.reduceGE, Int.reduceAdd, Int.reduceSub, Int.reduceMul, Int.reduceNeg, ne_eq, not_true_eq_false, not_false_eq_true, eq_self, ↓if_pos, ↓if_neg, hk']
theorem bs_fl {a : Nat} {n v : Int} (h : BS P M0 L C M) (hl : (qfl C a n v).length = C.length) : BS P M0 L (qfl C a n v) (mfill M (P.length + a) n v) := ⟨fun b hb => by rw [mfill_ne (by omega)]; exact h.1 b hb, HA_fl a h.2.1, h.2.2.trans hl.symm⟩
end GRP
section EMP
variable {X : Int → Int} {Sh : List SE} {M : Mem} {c : Nat}
theorem s_empty (h : CH Sh c) : evc X 4 [vR (some c)] Sh M = some (none, Sh, up (up (up (up (up (up (up (up (mfill (up M c 8 0) (c + 1) 15 0) (c + 1) 3 10) (c + 1) 4 5) (c + 1) 7 3) (c + 1) 8 1) (c + 1) 9 48) (c + 1) 11 1) (c + 1) 12 5) (c + 1) 13 5) := by
  obtain ⟨tk0, tr0, tr1, tr2, tr3, tr4, tr5, tr6, tr7, tk1, tk2, tk3, tk4, tk5, tk6, tk7, tk8, tl1, tl2, tl3, tl4, tl5, tl6, tl7, tl8⟩ := h
  have ef : evc X 5 [vR (some (c + 1)), vI 0] Sh (up M c 8 0) = some (none, Sh, mfill (up M c 8 0) (c + 1) 15 0) := s_fill (X := X) (M := up M c 8 0) (a := c + 1) (n := 15) (v := 0) tk1 tl1 (by omega)
  rw [E_4 tk0]
  simp (disch := first | assumption | decide | omega | (simp only [List.length_cons, List.length_nil] <;> omega)) only [lgt_0, lgt_s, lset_0, lset_s, lst1_0, lst1_s, lst2_0, lst2_s, ev_iconst, ev_lconst, ev_ldc, ev_null, ev_iload, ev_lload, ev_aload, ev_istore, ev_lstore, ev_astore, ev_iinc, ev_iadd, ev_isub, ev_imul, ev_iand, ev_ior, ev_ishl, ev_ishr, ev_idiv, ev_irem, ev_ineg, ev_ladd, ev_lsub, ev_lmul, ev_land, ev_lor, ev_ldiv, ev_lrem, ev_lshl, ev_i2l, ev_l2i, ev_i2b, ev_i2s, ev_lcmp, ev_dupI, ev_dupR, ev_dup2, ev_popI, ev_popR, ev_alen, ev_xlen, ev_xald, ev_iald, ev_lald, ev_bald, ev_zald, ev_aald, ev_iast, ev_last, ev_bast, ev_zast, ev_aast, ev_gfI, ev_gfL, ev_gfR, ev_pfI, ev_pfZ, ev_pfL, ev_pfR, ev_new, ev_newa, ev_newq, ev_copy, ev_slen, ev_schr, ev_obj, ev_mmin, ev_mabs, ev_mmax, ev_goto, ev_jsr, ev_icmp_eq, ev_if_eq, ev_icmp_ne, ev_if_ne, ev_icmp_lt, ev_if_lt, ev_icmp_ge, ev_if_ge, ev_icmp_gt, ev_if_gt, ev_icmp_le, ev_if_le, ev_ifnull0, ev_ifnull1, ev_ifnn0, ev_ifnn1, ev_tsw, ev_lsw, ev_iret, ev_zret, ev_lret, ev_aret, ev_ret, ev_call0, ev_call1, ev_call2, ev_call3, ev_call4, ev_call5, ev_call6, Option.toList_some, Option.toList_none, List.cons_append, List.nil_append, List.length_cons, List.length_nil, Nat.reduceMod, Nat.reduceDiv, Nat.reduceLeDiff, nc, ↓reduceIte, Nat.zero_le, reduceCtorEq, w32_id, Int.reduceEq, Int.reduceNe, Int.reduceLT, Int.reduceLE, Int.reduceGT, Int.reduceGE, Int.reduceAdd, Int.reduceSub, Int.reduceMul, Int.reduceNeg, ne_eq, not_true_eq_false, not_false_eq_true, eq_self, ↓if_pos, ↓if_neg, J_4_0, k_4_0, tr0, tr1, tr2, tr3, tr4, tr5, tr6, tr7, ef]
end EMP
