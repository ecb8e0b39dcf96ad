/-! CHARTS: the class's reader, its parts. -/
def cDr (M : Mem) (d : DS) : Prop := M 21 3 = d.2.2.2.2.2.1 ∧ (∀ r : Nat, r < 15 → i_and (i_shr (M 21 2) (r : Int)) 1 = d.2.2.2.2.2.2 (r : Int)) ∧ (∀ k, 0 ≤ k → k < 15 → M 23 k = d.1 k) ∧ (∀ k, 0 ≤ k → k < d.1 2 → M 24 k = c32 (d.2.1 k)) ∧ (∀ k, 0 ≤ k → k < 5 → M 25 k = d.2.2.1 k ∧ M 26 k = d.2.2.2.1 k) ∧ ∀ k, 0 ≤ k → k < 48 → M 27 k = d.2.2.2.2.1 k
/-- what the reader may change -/
def fR (M M' : Mem) : Prop := (∀ c, c ≠ 2 → c ≠ 21 → (c < 23 ∨ 27 < c) → M' c = M c) ∧ M' 2 1 = M 2 1 ∧ (RX M → RX M')
theorem fR_t {M M' M'' : Mem} (h : fR M M') (h' : fR M' M'') : fR M M'' := ⟨fun c a x y => by rw [h'.1 c a x y, h.1 c a x y], by rw [h'.2.1, h.2.1], fun z => h'.2.2 (h.2.2 z)⟩
theorem fR_f {M M' : Mem} (h : fT M M') : fR M M' := ⟨fun c a _ _ => h.1 c a, h.2, fun z => by unfold RX at z ⊢; rw [h.1 25 (by omega), h.1 26 (by omega)]; exact z⟩
theorem fR_0 {M : Mem} : fR M M := ⟨fun _ _ _ _ => rfl, rfl, id⟩
theorem fR_up {M M' : Mem} {c : Nat} {j z : Int} (h : fR M M') (hc : c = 21 ∨ c = 23 ∨ c = 24 ∨ c = 27) : fR M (up M' c j z) := ⟨fun e a x y => by rw [up_ne (by omega)]; exact h.1 e a x y, by rw [up_ne (by omega)]; exact h.2.1, fun w => by
  have r := h.2.2 w
  unfold RX at r ⊢
  rw [up_ne (by omega), up_ne (by omega)]
  exact r⟩
theorem fR_w {M M' : Mem} {w q : Int} (h : fR M M') : fR M (up (up M' 2 2 w) 2 3 q) := ⟨fun c a x y => by rw [up_ne a, up_ne a]; exact h.1 c a x y, by rw [up_ne2 (by omega), up_ne2 (by omega)]; exact h.2.1, fun z => by
  have r := h.2.2 z
  unfold RX at r ⊢
  rw [up_ne (by omega), up_ne (by omega), up_ne (by omega), up_ne (by omega)]
  exact r⟩
theorem cD_f {M M' : Mem} {d : DS} (h : cDr M d) (f : ∀ c, 21 ≤ c → c ≤ 27 → M' c = M c) : cDr M' d := by
  unfold cDr at h ⊢
  rw [f 21 (by omega) (by omega), f 23 (by omega) (by omega), f 24 (by omega) (by omega), f 25 (by omega) (by omega), f 26 (by omega) (by omega), f 27 (by omega) (by omega)]
  exact h
theorem cTc_f {M M' : Mem} {b : Int → Int} {n p : Int} (h : cTc M b n p) (f2 : M' 2 = M 2) (f3 : M' 3 = M 3) : cTc M' b n p := by
  unfold cTc cTp at h ⊢
  rw [f2, f3]
  exact h
def cRes (b : Int → Int) (n : Int) (r : PE (Int × DS)) (v : Int) (M : Mem) : Prop := (∀ e, r = .error e → v = 0 ∧ M 2 2 = e.1 ∧ M 2 3 = e.2) ∧ ∀ x, r = .ok x → v = 1 ∧ cTc M b n x.1 ∧ cDr M x.2
theorem cRes_e {b : Int → Int} {n : Int} {M : Mem} {e : Int × Int} {r : PE (Int × DS)} (hr : r = .error e) (h2 : M 2 2 = e.1) (h3 : M 2 3 = e.2) : cRes b n r 0 M := ⟨fun e' h => by
  rw [hr] at h
  injection h with h
  subst h
  exact ⟨rfl, h2, h3⟩, fun q h => by
  rw [hr] at h
  injection h⟩
theorem cRes_o {b : Int → Int} {n : Int} {M : Mem} {x : Int × DS} {r : PE (Int × DS)} (hr : r = .ok x) (h : cTc M b n x.1) (hd : cDr M x.2) : cRes b n r 1 M := ⟨fun e h' => by
  rw [hr] at h'
  injection h', fun q' h' => by
  rw [hr] at h'
  injection h' with h'
  subst h'
  exact ⟨rfl, h, hd⟩⟩
theorem ixF_no {w : List Int} : ∀ {l : List (List Int)} {m : Int}, 0 ≤ m → (ixF l w m = -1 ↔ ∀ x ∈ l, x ≠ w)
  | [], m, _ => ⟨fun _ x hx => absurd hx (by simp), fun _ => rfl⟩
  | x :: l, m, hm => by
    show (if x = w then m else ixF l w (m + 1)) = -1 ↔ _
    by_cases z : x = w
    · rw [if_pos z]
      exact ⟨fun y => by omega, fun y => absurd z (y x (List.mem_cons_self ..))⟩
    · rw [if_neg z, ixF_no (by omega)]
      constructor
      · intro y v hv
        rcases List.mem_cons.mp hv with u | u
        · rw [u]; exact z
        · exact y v u
      · intro y v hv
        exact y v (List.mem_cons_of_mem _ hv)
section RDR
variable {X : Int → Int} {M : Mem} {b : Int → Int} {n p : Int} {d : DS}
theorem cD_told (hd : cDr M d) {s : Nat} (hs : s < 15) : cDr (up M 21 2 (i_or (M 21 2) (i_shl 1 (s : Int)))) (setT d (s : Int)) := by
  obtain ⟨h1, h2, h3, h4, h5, h6⟩ := hd
  refine ⟨by rw [up_ne2 (by omega)]; exact h1, fun r hr => ?_, fun k k0 k1 => by rw [up_ne (by omega)]; exact h3 k k0 k1, fun k k0 k1 => by rw [up_ne (by omega)]; exact h4 k k0 k1, fun k k0 k1 => by rw [up_ne (by omega), up_ne (by omega)]; exact h5 k k0 k1, fun k k0 k1 => by rw [up_ne (by omega)]; exact h6 k k0 k1⟩
  rw [up_eq, i_told hs hr, h2 r hr]
  show _ = upH d.2.2.2.2.2.2 (s : Int) 1 (r : Int)
  unfold upH
  by_cases z : s = r
  · rw [if_pos z, if_pos (by omega)]
  · rw [if_neg z, if_neg (by omega)]
theorem cD_set (hd : cDr M d) {s v : Int} (hs : s ≠ 2) : cDr (up M 23 s v) (setS d s v) := by
  obtain ⟨h1, h2, h3, h4, h5, h6⟩ := hd
  have e2 : upH d.1 s v 2 = d.1 2 := if_neg (by omega)
  refine ⟨by rw [up_ne (by omega)]; exact h1, fun r hr => by rw [up_ne (by omega)]; exact h2 r hr, fun k k0 k1 => ?_, fun k k0 k1 => ?_, fun k k0 k1 => by rw [up_ne (by omega), up_ne (by omega)]; exact h5 k k0 k1, fun k k0 k1 => by rw [up_ne (by omega)]; exact h6 k k0 k1⟩
  · show up M 23 s v 23 k = upH d.1 s v k
    unfold upH
    by_cases z : k = s
    · rw [if_pos z, z, up_eq]
    · rw [if_neg z, up_ne2 z]
      exact h3 k k0 k1
  · have k1' : k < upH d.1 s v 2 := k1
    rw [e2] at k1'
    rw [up_ne (by omega)]
    exact h4 k k0 k1'
theorem c_first (h : cAt M b n p) (hd : cDr M d) {s : Nat} (hs : s < 15) : (d.2.2.2.2.2.2 (s : Int) = 1 → evc X 70 [vR (some 21), vI (s : Int)] SH0 M = some (some (vI 0), SH0, up (up M 2 2 5) 2 3 (tQ b n p))) ∧ (d.2.2.2.2.2.2 (s : Int) ≠ 1 → evc X 70 [vR (some 21), vI (s : Int)] SH0 M = some (some (vI 1), SH0, up M 21 2 (i_or (M 21 2) (i_shl 1 (s : Int))))) := by
  have k21 := w0_k21
  have r0 := w0_r21_0
  have e := hd.2.1 s hs
  have w := c_wrong (X := X) (M := M) (w := 5)
  rw [h.2.1] at w
  refine ⟨fun z => ?_, fun z => ?_⟩
  · rw [z] at e
    rw [E_70 k21]
    simp (disch := first | assumption | decide | omega | (simp only [List.length_cons, List.length_nil] <;> omega)) only [lgt_0, lgt_s, lset_0, lset_s, lst1_0, lst1_s, lst2_0, lst2_s, ev_iconst, ev_lconst, ev_ldc, ev_null, ev_iload, ev_lload, ev_aload, ev_istore, ev_lstore, ev_astore, ev_iinc, ev_iadd, ev_isub, ev_imul, ev_iand, ev_ior, ev_ishl, ev_ishr, ev_idiv, ev_irem, ev_ineg, ev_ladd, ev_lsub, ev_lmul, ev_land, ev_lor, ev_ldiv, ev_lrem, ev_lshl, ev_i2l, ev_l2i, ev_i2b, ev_i2s, ev_lcmp, ev_dupI, ev_dupR, ev_dup2, ev_popI, ev_popR, ev_alen, ev_xlen, ev_xald, ev_iald, ev_lald, ev_bald, ev_zald, ev_aald, ev_iast, ev_last, ev_bast, ev_zast, ev_aast, ev_gfI, ev_gfL, ev_gfR, ev_pfI, ev_pfZ, ev_pfL, ev_pfR, ev_new, ev_newa, ev_newq, ev_copy, ev_slen, ev_schr, ev_obj, ev_mmin, ev_mabs, ev_mmax, ev_goto, ev_jsr, ev_icmp_eq, ev_if_eq, ev_icmp_ne, ev_if_ne, ev_icmp_lt, ev_if_lt, ev_icmp_ge, ev_if_ge, ev_icmp_gt, ev_if_gt, ev_icmp_le, ev_if_le, ev_ifnull0, ev_ifnull1, ev_ifnn0, ev_ifnn1, ev_tsw, ev_lsw, ev_iret, ev_zret, ev_lret, ev_aret, ev_ret, ev_call0, ev_call1, ev_call2, ev_call3, ev_call4, ev_call5, ev_call6, Option.toList_some, Option.toList_none, List.cons_append, List.nil_append, List.length_cons, List.length_nil, Nat.reduceMod, Nat.reduceDiv, Nat.reduceLeDiff, nc, ↓reduceIte, Nat.zero_le, reduceCtorEq, w32_id, Int.reduceEq, Int.reduceNe, Int.reduceLT, Int.reduceLE, Int.reduceGT, Int.reduceGE, Int.reduceAdd, Int.reduceSub, Int.reduceMul, Int.reduceNeg, ne_eq, not_true_eq_false, not_false_eq_true, eq_self, ↓if_pos, ↓if_neg, J_70_0, k_70_0, J_70_21, k_70_21, r0, e, w]
  · rw [← e] at z
    rw [E_70 k21]
    simp (disch := first | assumption | decide | omega | (simp only [List.length_cons, List.length_nil] <;> omega)) only [lgt_0, lgt_s, lset_0, lset_s, lst1_0, lst1_s, lst2_0, lst2_s, ev_iconst, ev_lconst, ev_ldc, ev_null, ev_iload, ev_lload, ev_aload, ev_istore, ev_lstore, ev_astore, ev_iinc, ev_iadd, ev_isub, ev_imul, ev_iand, ev_ior, ev_ishl, ev_ishr, ev_idiv, ev_irem, ev_ineg, ev_ladd, ev_lsub, ev_lmul, ev_land, ev_lor, ev_ldiv, ev_lrem, ev_lshl, ev_i2l, ev_l2i, ev_i2b, ev_i2s, ev_lcmp, ev_dupI, ev_dupR, ev_dup2, ev_popI, ev_popR, ev_alen, ev_xlen, ev_xald, ev_iald, ev_lald, ev_bald, ev_zald, ev_aald, ev_iast, ev_last, ev_bast, ev_zast, ev_aast, ev_gfI, ev_gfL, ev_gfR, ev_pfI, ev_pfZ, ev_pfL, ev_pfR, ev_new, ev_newa, ev_newq, ev_copy, ev_slen, ev_schr, ev_obj, ev_mmin, ev_mabs, ev_mmax, ev_goto, ev_jsr, ev_icmp_eq, ev_if_eq, ev_icmp_ne, ev_if_ne, ev_icmp_lt, ev_if_lt, ev_icmp_ge, ev_if_ge, ev_icmp_gt, ev_if_gt, ev_icmp_le, ev_if_le, ev_ifnull0, ev_ifnull1, ev_ifnn0, ev_ifnn1, ev_tsw, ev_lsw, ev_iret, ev_zret, ev_lret, ev_aret, ev_ret, ev_call0, ev_call1, ev_call2, ev_call3, ev_call4, ev_call5, ev_call6, Option.toList_some, Option.toList_none, List.cons_append, List.nil_append, List.length_cons, List.length_nil, Nat.reduceMod, Nat.reduceDiv, Nat.reduceLeDiff, nc, ↓reduceIte, Nat.zero_le, reduceCtorEq, w32_id, Int.reduceEq, Int.reduceNe, Int.reduceLT, Int.reduceLE, Int.reduceGT, Int.reduceGE, Int.reduceAdd, Int.reduceSub, Int.reduceMul, Int.reduceNeg, ne_eq, not_true_eq_false, not_false_eq_true, eq_self, ↓if_pos, ↓if_neg, J_70_0, k_70_0, J_70_21, k_70_21, z]
theorem c_rdNum (g : gT b n) (h : cTc M b n p) (p0 : 0 ≤ p) (p1 : p ≤ n) (hd : cDr M d) {s lo hi : Int} (hs : 3 ≤ s ∧ s < 15) : ∃ v M', fR M M' ∧ (∀ e, pNum b n lo hi p = .error e → v = 0 ∧ M' 2 2 = e.1 ∧ M' 2 3 = e.2) ∧ (∀ r, pNum b n lo hi p = .ok r → v = 1 ∧ cTc M' b n r.1 ∧ cDr M' (setS d s r.2)) ∧ evc X 71 [vR (some 21), vI s, vI lo, vI hi] SH0 M = some (some (vI v), SH0, M') := by
  have k21 := w0_k21
  have r0 := w0_r21_0
  have r1 := w0_r21_1
  have ct := w0_ch22
  obtain ⟨tk0, tr0, tr1, tr2, tr3, tr4, tr5, tr6, tr7, tk1, tk2, tk3, tk4, tk5, tk6, tk7, tk8, tl1, tl2, tl3, tl4, tl5, tl6, tl7, tl8⟩ := ct
  obtain ⟨v, Ma, fa, he, ho, e⟩ := c_goNumber (X := X) g h p0 p1 (lo := lo) (hi := hi)
  rw [E_71 k21]
  cases hr : pNum b n lo hi p with
  | error er =>
    obtain ⟨hv, h2, h3⟩ := he er hr
    subst hv
    refine ⟨0, Ma, fR_f fa, fun e' h' => ?_, fun r h' => by injection h', ?_⟩
    · injection h' with h'
      subst h'
      exact ⟨rfl, h2, h3⟩
    · simp (disch := first | assumption | decide | omega | (simp only [List.length_cons, List.length_nil] <;> omega)) only [lgt_0, lgt_s, lset_0, lset_s, lst1_0, lst1_s, lst2_0, lst2_s, ev_iconst, ev_lconst, ev_ldc, ev_null, ev_iload, ev_lload, ev_aload, ev_istore, ev_lstore, ev_astore, ev_iinc, ev_iadd, ev_isub, ev_imul, ev_iand, ev_ior, ev_ishl, ev_ishr, ev_idiv, ev_irem, ev_ineg, ev_ladd, ev_lsub, ev_lmul, ev_land, ev_lor, ev_ldiv, ev_lrem, ev_lshl, ev_i2l, ev_l2i, ev_i2b, ev_i2s, ev_lcmp, ev_dupI, ev_dupR, ev_dup2, ev_popI, ev_popR, ev_alen, ev_xlen, ev_xald, ev_iald, ev_lald, ev_bald, ev_zald, ev_aald, ev_iast, ev_last, ev_bast, ev_zast, ev_aast, ev_gfI, ev_gfL, ev_gfR, ev_pfI, ev_pfZ, ev_pfL, ev_pfR, ev_new, ev_newa, ev_newq, ev_copy, ev_slen, ev_schr, ev_obj, ev_mmin, ev_mabs, ev_mmax, ev_goto, ev_jsr, ev_icmp_eq, ev_if_eq, ev_icmp_ne, ev_if_ne, ev_icmp_lt, ev_if_lt, ev_icmp_ge, ev_if_ge, ev_icmp_gt, ev_if_gt, ev_icmp_le, ev_if_le, ev_ifnull0, ev_ifnull1, ev_ifnn0, ev_ifnn1, ev_tsw, ev_lsw, ev_iret, ev_zret, ev_lret, ev_aret, ev_ret, ev_call0, ev_call1, ev_call2, ev_call3, ev_call4, ev_call5, ev_call6, Option.toList_some, Option.toList_none, List.cons_append, List.nil_append, List.length_cons, List.length_nil, Nat.reduceMod, Nat.reduceDiv, Nat.reduceLeDiff, nc, ↓reduceIte, Nat.zero_le, reduceCtorEq, w32_id, Int.reduceEq, Int.reduceNe, Int.reduceLT, Int.reduceLE, Int.reduceGT, Int.reduceGE, Int.reduceAdd, Int.reduceSub, Int.reduceMul, Int.reduceNeg, ne_eq, not_true_eq_false, not_false_eq_true, eq_self, ↓if_pos, ↓if_neg, J_71_0, k_71_0, J_71_14, k_71_14, r0, e]
  | ok r =>
    obtain ⟨hv, hc, h5⟩ := ho r hr
    subst hv
    have cd : cDr Ma d := cD_f hd fun c c0 c1 => fa.1 c (by omega)
    refine ⟨1, up Ma 23 s r.2, fR_up (fR_f fa) (by omega), fun e' h' => by injection h', fun r' h' => ?_, ?_⟩
    · injection h' with h'
      subst h'
      exact ⟨rfl, cTc_f hc (up_ne (by omega)) (up_ne (by omega)), cD_set cd (by omega)⟩
    · simp (disch := first | assumption | decide | omega | (simp only [List.length_cons, List.length_nil] <;> omega)) only [lgt_0, lgt_s, lset_0, lset_s, lst1_0, lst1_s, lst2_0, lst2_s, ev_iconst, ev_lconst, ev_ldc, ev_null, ev_iload, ev_lload, ev_aload, ev_istore, ev_lstore, ev_astore, ev_iinc, ev_iadd, ev_isub, ev_imul, ev_iand, ev_ior, ev_ishl, ev_ishr, ev_idiv, ev_irem, ev_ineg, ev_ladd, ev_lsub, ev_lmul, ev_land, ev_lor, ev_ldiv, ev_lrem, ev_lshl, ev_i2l, ev_l2i, ev_i2b, ev_i2s, ev_lcmp, ev_dupI, ev_dupR, ev_dup2, ev_popI, ev_popR, ev_alen, ev_xlen, ev_xald, ev_iald, ev_lald, ev_bald, ev_zald, ev_aald, ev_iast, ev_last, ev_bast, ev_zast, ev_aast, ev_gfI, ev_gfL, ev_gfR, ev_pfI, ev_pfZ, ev_pfL, ev_pfR, ev_new, ev_newa, ev_newq, ev_copy, ev_slen, ev_schr, ev_obj, ev_mmin, ev_mabs, ev_mmax, ev_goto, ev_jsr, ev_icmp_eq, ev_if_eq, ev_icmp_ne, ev_if_ne, ev_icmp_lt, ev_if_lt, ev_icmp_ge, ev_if_ge, ev_icmp_gt, ev_if_gt, ev_icmp_le, ev_if_le, ev_ifnull0, ev_ifnull1, ev_ifnn0, ev_ifnn1, ev_tsw, ev_lsw, ev_iret, ev_zret, ev_lret, ev_aret, ev_ret, ev_call0, ev_call1, ev_call2, ev_call3, ev_call4, ev_call5, ev_call6, Option.toList_some, Option.toList_none, List.cons_append, List.nil_append, List.length_cons, List.length_nil, Nat.reduceMod, Nat.reduceDiv, Nat.reduceLeDiff, nc, ↓reduceIte, Nat.zero_le, reduceCtorEq, w32_id, Int.reduceEq, Int.reduceNe, Int.reduceLT, Int.reduceLE, Int.reduceGT, Int.reduceGE, Int.reduceAdd, Int.reduceSub, Int.reduceMul, Int.reduceNeg, ne_eq, not_true_eq_false, not_false_eq_true, eq_self, ↓if_pos, ↓if_neg, J_71_0, k_71_0, J_71_14, k_71_14, r0, r1, e, tr0, tr1, tr2, tr3, tr4, tr5, tr6, tr7, h5]
theorem c_set (g : gT b n) (h : cAt M b n p) (p0 : 0 ≤ p) (p1 : p ≤ n) (hk : tK b n p ≠ 0) (hd : cDr M d) {s : Nat} {lo hi : Int} (hs : 3 ≤ s ∧ s < 15) : ∃ v M', fR M M' ∧ cRes b n (pSet b n (s : Int) lo hi d p) v M' ∧ evc X 69 [vR (some 21), vI (s : Int), vI lo, vI hi] SH0 M = some (some (vI v), SH0, M') := by
  have k21 := w0_k21
  have r0 := w0_r21_0
  have cf := c_first (X := X) h hd hs.2
  rw [E_69 k21]
  unfold pSet
  by_cases z : d.2.2.2.2.2.2 (s : Int) = 1
  · have e := cf.1 z
    refine ⟨0, _, fR_w fR_0, cRes_e (if_pos z) (by rw [up_ne2 (by omega), up_eq]) up_eq, ?_⟩
    simp (disch := first | assumption | decide | omega | (simp only [List.length_cons, List.length_nil] <;> omega)) only [lgt_0, lgt_s, lset_0, lset_s, lst1_0, lst1_s, lst2_0, lst2_s, ev_iconst, ev_lconst, ev_ldc, ev_null, ev_iload, ev_lload, ev_aload, ev_istore, ev_lstore, ev_astore, ev_iinc, ev_iadd, ev_isub, ev_imul, ev_iand, ev_ior, ev_ishl, ev_ishr, ev_idiv, ev_irem, ev_ineg, ev_ladd, ev_lsub, ev_lmul, ev_land, ev_lor, ev_ldiv, ev_lrem, ev_lshl, ev_i2l, ev_l2i, ev_i2b, ev_i2s, ev_lcmp, ev_dupI, ev_dupR, ev_dup2, ev_popI, ev_popR, ev_alen, ev_xlen, ev_xald, ev_iald, ev_lald, ev_bald, ev_zald, ev_aald, ev_iast, ev_last, ev_bast, ev_zast, ev_aast, ev_gfI, ev_gfL, ev_gfR, ev_pfI, ev_pfZ, ev_pfL, ev_pfR, ev_new, ev_newa, ev_newq, ev_copy, ev_slen, ev_schr, ev_obj, ev_mmin, ev_mabs, ev_mmax, ev_goto, ev_jsr, ev_icmp_eq, ev_if_eq, ev_icmp_ne, ev_if_ne, ev_icmp_lt, ev_if_lt, ev_icmp_ge, ev_if_ge, ev_icmp_gt, ev_if_gt, ev_icmp_le, ev_if_le, ev_ifnull0, ev_ifnull1, ev_ifnn0, ev_ifnn1, ev_tsw, ev_lsw, ev_iret, ev_zret, ev_lret, ev_aret, ev_ret, ev_call0, ev_call1, ev_call2, ev_call3, ev_call4, ev_call5, ev_call6, Option.toList_some, Option.toList_none, List.cons_append, List.nil_append, List.length_cons, List.length_nil, Nat.reduceMod, Nat.reduceDiv, Nat.reduceLeDiff, nc, ↓reduceIte, Nat.zero_le, reduceCtorEq, w32_id, Int.reduceEq, Int.reduceNe, Int.reduceLT, Int.reduceLE, Int.reduceGT, Int.reduceGE, Int.reduceAdd, Int.reduceSub, Int.reduceMul, Int.reduceNeg, ne_eq, not_true_eq_false, not_false_eq_true, eq_self, ↓if_pos, ↓if_neg, J_69_0, k_69_0, J_69_32, k_69_32, J_69_33, k_69_33, e]
  rw [if_neg z]
  have e := cf.2 z
  have hd1 := cD_told hd hs.2
  generalize hMa : up M 21 2 (i_or (M 21 2) (i_shl 1 (s : Int))) = Ma at e hd1
  have fa : fR M Ma := by rw [← hMa]; exact fR_up fR_0 (by omega)
  have t1 := tE_on (b := b) p1 hk p0
  have ca : cTc Ma b n (tE b n p) := cTc_f h.1 (by rw [← hMa, up_ne (by omega)]) (by rw [← hMa, up_ne (by omega)])
  obtain ⟨v, Mb, fb, he, ho, e2⟩ := c_rdNum (X := X) g ca t1.1 t1.2.1 hd1 (s := (s : Int)) (lo := lo) (hi := hi) (by omega)
  cases hr : pNum b n lo hi (tE b n p) with
  | error er =>
    obtain ⟨hv, h2, h3⟩ := he er hr
    subst hv
    refine ⟨0, Mb, fR_t fa fb, cRes_e rfl h2 h3, ?_⟩
    simp (disch := first | assumption | decide | omega | (simp only [List.length_cons, List.length_nil] <;> omega)) only [lgt_0, lgt_s, lset_0, lset_s, lst1_0, lst1_s, lst2_0, lst2_s, ev_iconst, ev_lconst, ev_ldc, ev_null, ev_iload, ev_lload, ev_aload, ev_istore, ev_lstore, ev_astore, ev_iinc, ev_iadd, ev_isub, ev_imul, ev_iand, ev_ior, ev_ishl, ev_ishr, ev_idiv, ev_irem, ev_ineg, ev_ladd, ev_lsub, ev_lmul, ev_land, ev_lor, ev_ldiv, ev_lrem, ev_lshl, ev_i2l, ev_l2i, ev_i2b, ev_i2s, ev_lcmp, ev_dupI, ev_dupR, ev_dup2, ev_popI, ev_popR, ev_alen, ev_xlen, ev_xald, ev_iald, ev_lald, ev_bald, ev_zald, ev_aald, ev_iast, ev_last, ev_bast, ev_zast, ev_aast, ev_gfI, ev_gfL, ev_gfR, ev_pfI, ev_pfZ, ev_pfL, ev_pfR, ev_new, ev_newa, ev_newq, ev_copy, ev_slen, ev_schr, ev_obj, ev_mmin, ev_mabs, ev_mmax, ev_goto, ev_jsr, ev_icmp_eq, ev_if_eq, ev_icmp_ne, ev_if_ne, ev_icmp_lt, ev_if_lt, ev_icmp_ge, ev_if_ge, ev_icmp_gt, ev_if_gt, ev_icmp_le, ev_if_le, ev_ifnull0, ev_ifnull1, ev_ifnn0, ev_ifnn1, ev_tsw, ev_lsw, ev_iret, ev_zret, ev_lret, ev_aret, ev_ret, ev_call0, ev_call1, ev_call2, ev_call3, ev_call4, ev_call5, ev_call6, Option.toList_some, Option.toList_none, List.cons_append, List.nil_append, List.length_cons, List.length_nil, Nat.reduceMod, Nat.reduceDiv, Nat.reduceLeDiff, nc, ↓reduceIte, Nat.zero_le, reduceCtorEq, w32_id, Int.reduceEq, Int.reduceNe, Int.reduceLT, Int.reduceLE, Int.reduceGT, Int.reduceGE, Int.reduceAdd, Int.reduceSub, Int.reduceMul, Int.reduceNeg, ne_eq, not_true_eq_false, not_false_eq_true, eq_self, ↓if_pos, ↓if_neg, J_69_0, k_69_0, J_69_32, k_69_32, J_69_33, k_69_33, e, e2]
  | ok r =>
    obtain ⟨hv, hc, hd2⟩ := ho r hr
    subst hv
    have pn := pNum_ok hr
    have t2 := tE_on (b := b) t1.2.1 (by rw [pn.1]; omega) t1.1
    have er1 : r.1 = tE b n (tE b n p) := by rw [pn.2.1]
    obtain ⟨v, Mc, fc, ⟨se, so⟩, e3⟩ := c_goSign (X := X) g hc (by omega) (by omega)
    rw [bnd_o]
    cases hs' : pSign b n r.1 with
    | error er =>
      obtain ⟨hv, h2, h3⟩ := se er hs'
      subst hv
      refine ⟨0, Mc, fR_t (fR_t fa fb) (fR_f fc), cRes_e rfl h2 h3, ?_⟩
      simp (disch := first | assumption | decide | omega | (simp only [List.length_cons, List.length_nil] <;> omega)) only [lgt_0, lgt_s, lset_0, lset_s, lst1_0, lst1_s, lst2_0, lst2_s, ev_iconst, ev_lconst, ev_ldc, ev_null, ev_iload, ev_lload, ev_aload, ev_istore, ev_lstore, ev_astore, ev_iinc, ev_iadd, ev_isub, ev_imul, ev_iand, ev_ior, ev_ishl, ev_ishr, ev_idiv, ev_irem, ev_ineg, ev_ladd, ev_lsub, ev_lmul, ev_land, ev_lor, ev_ldiv, ev_lrem, ev_lshl, ev_i2l, ev_l2i, ev_i2b, ev_i2s, ev_lcmp, ev_dupI, ev_dupR, ev_dup2, ev_popI, ev_popR, ev_alen, ev_xlen, ev_xald, ev_iald, ev_lald, ev_bald, ev_zald, ev_aald, ev_iast, ev_last, ev_bast, ev_zast, ev_aast, ev_gfI, ev_gfL, ev_gfR, ev_pfI, ev_pfZ, ev_pfL, ev_pfR, ev_new, ev_newa, ev_newq, ev_copy, ev_slen, ev_schr, ev_obj, ev_mmin, ev_mabs, ev_mmax, ev_goto, ev_jsr, ev_icmp_eq, ev_if_eq, ev_icmp_ne, ev_if_ne, ev_icmp_lt, ev_if_lt, ev_icmp_ge, ev_if_ge, ev_icmp_gt, ev_if_gt, ev_icmp_le, ev_if_le, ev_ifnull0, ev_ifnull1, ev_ifnn0, ev_ifnn1, ev_tsw, ev_lsw, ev_iret, ev_zret, ev_lret, ev_aret, ev_ret, ev_call0, ev_call1, ev_call2, ev_call3, ev_call4, ev_call5, ev_call6, Option.toList_some, Option.toList_none, List.cons_append, List.nil_append, List.length_cons, List.length_nil, Nat.reduceMod, Nat.reduceDiv, Nat.reduceLeDiff, nc, ↓reduceIte, Nat.zero_le, reduceCtorEq, w32_id, Int.reduceEq, Int.reduceNe, Int.reduceLT, Int.reduceLE, Int.reduceGT, Int.reduceGE, Int.reduceAdd, Int.reduceSub, Int.reduceMul, Int.reduceNeg, ne_eq, not_true_eq_false, not_false_eq_true, eq_self, ↓if_pos, ↓if_neg, J_69_0, k_69_0, J_69_32, k_69_32, J_69_33, k_69_33, r0, e, e2, e3]
    | ok q =>
      obtain ⟨hv, hcq⟩ := so q hs'
      subst hv
      refine ⟨1, Mc, fR_t (fR_t fa fb) (fR_f fc), cRes_o rfl hcq (cD_f hd2 fun c c0 c1 => fc.1 c (by omega)), ?_⟩
      simp (disch := first | assumption | decide | omega | (simp only [List.length_cons, List.length_nil] <;> omega)) only [lgt_0, lgt_s, lset_0, lset_s, lst1_0, lst1_s, lst2_0, lst2_s, ev_iconst, ev_lconst, ev_ldc, ev_null, ev_iload, ev_lload, ev_aload, ev_istore, ev_lstore, ev_astore, ev_iinc, ev_iadd, ev_isub, ev_imul, ev_iand, ev_ior, ev_ishl, ev_ishr, ev_idiv, ev_irem, ev_ineg, ev_ladd, ev_lsub, ev_lmul, ev_land, ev_lor, ev_ldiv, ev_lrem, ev_lshl, ev_i2l, ev_l2i, ev_i2b, ev_i2s, ev_lcmp, ev_dupI, ev_dupR, ev_dup2, ev_popI, ev_popR, ev_alen, ev_xlen, ev_xald, ev_iald, ev_lald, ev_bald, ev_zald, ev_aald, ev_iast, ev_last, ev_bast, ev_zast, ev_aast, ev_gfI, ev_gfL, ev_gfR, ev_pfI, ev_pfZ, ev_pfL, ev_pfR, ev_new, ev_newa, ev_newq, ev_copy, ev_slen, ev_schr, ev_obj, ev_mmin, ev_mabs, ev_mmax, ev_goto, ev_jsr, ev_icmp_eq, ev_if_eq, ev_icmp_ne, ev_if_ne, ev_icmp_lt, ev_if_lt, ev_icmp_ge, ev_if_ge, ev_icmp_gt, ev_if_gt, ev_icmp_le, ev_if_le, ev_ifnull0, ev_ifnull1, ev_ifnn0, ev_ifnn1, ev_tsw, ev_lsw, ev_iret, ev_zret, ev_lret, ev_aret, ev_ret, ev_call0, ev_call1, ev_call2, ev_call3, ev_call4, ev_call5, ev_call6, Option.toList_some, Option.toList_none, List.cons_append, List.nil_append, List.length_cons, List.length_nil, Nat.reduceMod, Nat.reduceDiv, Nat.reduceLeDiff, nc, ↓reduceIte, Nat.zero_le, reduceCtorEq, w32_id, Int.reduceEq, Int.reduceNe, Int.reduceLT, Int.reduceLE, Int.reduceGT, Int.reduceGE, Int.reduceAdd, Int.reduceSub, Int.reduceMul, Int.reduceNeg, ne_eq, not_true_eq_false, not_false_eq_true, eq_self, ↓if_pos, ↓if_neg, J_69_0, k_69_0, J_69_32, k_69_32, J_69_33, k_69_33, r0, e, e2, e3]
theorem c_pri (g : gT b n) (h : cAt M b n p) (p0 : 0 ≤ p) (p1 : p ≤ n) (hk : tK b n p ≠ 0) (hd : cDr M d) {s : Nat} {lo hi mc : Int} (hs : 3 ≤ s ∧ s < 14) : ∃ v M', fR M M' ∧ cRes b n (pPri b n (s : Int) lo hi mc d p) v M' ∧ evc X 72 [vR (some 21), vI (s : Int), vI lo, vI hi, vI mc] SH0 M = some (some (vI v), SH0, M') := by
  have k21 := w0_k21
  have r0 := w0_r21_0
  have cf := c_first (X := X) h hd (s := s) (by omega)
  rw [E_72 k21]
  unfold pPri
  by_cases z : d.2.2.2.2.2.2 (s : Int) = 1
  · have e := cf.1 z
    refine ⟨0, _, fR_w fR_0, cRes_e (if_pos z) (by rw [up_ne2 (by omega), up_eq]) up_eq, ?_⟩
    simp (disch := first | assumption | decide | omega | (simp only [List.length_cons, List.length_nil] <;> omega)) only [lgt_0, lgt_s, lset_0, lset_s, lst1_0, lst1_s, lst2_0, lst2_s, ev_iconst, ev_lconst, ev_ldc, ev_null, ev_iload, ev_lload, ev_aload, ev_istore, ev_lstore, ev_astore, ev_iinc, ev_iadd, ev_isub, ev_imul, ev_iand, ev_ior, ev_ishl, ev_ishr, ev_idiv, ev_irem, ev_ineg, ev_ladd, ev_lsub, ev_lmul, ev_land, ev_lor, ev_ldiv, ev_lrem, ev_lshl, ev_i2l, ev_l2i, ev_i2b, ev_i2s, ev_lcmp, ev_dupI, ev_dupR, ev_dup2, ev_popI, ev_popR, ev_alen, ev_xlen, ev_xald, ev_iald, ev_lald, ev_bald, ev_zald, ev_aald, ev_iast, ev_last, ev_bast, ev_zast, ev_aast, ev_gfI, ev_gfL, ev_gfR, ev_pfI, ev_pfZ, ev_pfL, ev_pfR, ev_new, ev_newa, ev_newq, ev_copy, ev_slen, ev_schr, ev_obj, ev_mmin, ev_mabs, ev_mmax, ev_goto, ev_jsr, ev_icmp_eq, ev_if_eq, ev_icmp_ne, ev_if_ne, ev_icmp_lt, ev_if_lt, ev_icmp_ge, ev_if_ge, ev_icmp_gt, ev_if_gt, ev_icmp_le, ev_if_le, ev_ifnull0, ev_ifnull1, ev_ifnn0, ev_ifnn1, ev_tsw, ev_lsw, ev_iret, ev_zret, ev_lret, ev_aret, ev_ret, ev_call0, ev_call1, ev_call2, ev_call3, ev_call4, ev_call5, ev_call6, Option.toList_some, Option.toList_none, List.cons_append, List.nil_append, List.length_cons, List.length_nil, Nat.reduceMod, Nat.reduceDiv, Nat.reduceLeDiff, nc, ↓reduceIte, Nat.zero_le, reduceCtorEq, w32_id, Int.reduceEq, Int.reduceNe, Int.reduceLT, Int.reduceLE, Int.reduceGT, Int.reduceGE, Int.reduceAdd, Int.reduceSub, Int.reduceMul, Int.reduceNeg, ne_eq, not_true_eq_false, not_false_eq_true, eq_self, ↓if_pos, ↓if_neg, J_72_0, k_72_0, J_72_57, k_72_57, J_72_58, k_72_58, e]
  rw [if_neg z]
  have e := cf.2 z
  have hd1 := cD_told hd (s := s) (by omega)
  generalize hMa : up M 21 2 (i_or (M 21 2) (i_shl 1 (s : Int))) = Ma at e hd1
  have fa : fR M Ma := by rw [← hMa]; exact fR_up fR_0 (by omega)
  have t1 := tE_on (b := b) p1 hk p0
  have ca : cTc Ma b n (tE b n p) := cTc_f h.1 (by rw [← hMa, up_ne (by omega)]) (by rw [← hMa, up_ne (by omega)])
  obtain ⟨v, Mb, fb, he, ho, e2⟩ := c_rdNum (X := X) g ca t1.1 t1.2.1 hd1 (s := (s : Int)) (lo := lo) (hi := hi) (by omega)
  cases hr : pNum b n lo hi (tE b n p) with
  | error er =>
    obtain ⟨hv, h2, h3⟩ := he er hr
    subst hv
    refine ⟨0, Mb, fR_t fa fb, cRes_e rfl h2 h3, ?_⟩
    simp (disch := first | assumption | decide | omega | (simp only [List.length_cons, List.length_nil] <;> omega)) only [lgt_0, lgt_s, lset_0, lset_s, lst1_0, lst1_s, lst2_0, lst2_s, ev_iconst, ev_lconst, ev_ldc, ev_null, ev_iload, ev_lload, ev_aload, ev_istore, ev_lstore, ev_astore, ev_iinc, ev_iadd, ev_isub, ev_imul, ev_iand, ev_ior, ev_ishl, ev_ishr, ev_idiv, ev_irem, ev_ineg, ev_ladd, ev_lsub, ev_lmul, ev_land, ev_lor, ev_ldiv, ev_lrem, ev_lshl, ev_i2l, ev_l2i, ev_i2b, ev_i2s, ev_lcmp, ev_dupI, ev_dupR, ev_dup2, ev_popI, ev_popR, ev_alen, ev_xlen, ev_xald, ev_iald, ev_lald, ev_bald, ev_zald, ev_aald, ev_iast, ev_last, ev_bast, ev_zast, ev_aast, ev_gfI, ev_gfL, ev_gfR, ev_pfI, ev_pfZ, ev_pfL, ev_pfR, ev_new, ev_newa, ev_newq, ev_copy, ev_slen, ev_schr, ev_obj, ev_mmin, ev_mabs, ev_mmax, ev_goto, ev_jsr, ev_icmp_eq, ev_if_eq, ev_icmp_ne, ev_if_ne, ev_icmp_lt, ev_if_lt, ev_icmp_ge, ev_if_ge, ev_icmp_gt, ev_if_gt, ev_icmp_le, ev_if_le, ev_ifnull0, ev_ifnull1, ev_ifnn0, ev_ifnn1, ev_tsw, ev_lsw, ev_iret, ev_zret, ev_lret, ev_aret, ev_ret, ev_call0, ev_call1, ev_call2, ev_call3, ev_call4, ev_call5, ev_call6, Option.toList_some, Option.toList_none, List.cons_append, List.nil_append, List.length_cons, List.length_nil, Nat.reduceMod, Nat.reduceDiv, Nat.reduceLeDiff, nc, ↓reduceIte, Nat.zero_le, reduceCtorEq, w32_id, Int.reduceEq, Int.reduceNe, Int.reduceLT, Int.reduceLE, Int.reduceGT, Int.reduceGE, Int.reduceAdd, Int.reduceSub, Int.reduceMul, Int.reduceNeg, ne_eq, not_true_eq_false, not_false_eq_true, eq_self, ↓if_pos, ↓if_neg, J_72_0, k_72_0, J_72_57, k_72_57, J_72_58, k_72_58, e, e2]
  | ok r =>
  obtain ⟨hv, hc, hd2⟩ := ho r hr
  subst hv
  have pn := pNum_ok hr
  have t2 := tE_on (b := b) t1.2.1 (by rw [pn.1]; omega) t1.1
  have er1 : r.1 = tE b n (tE b n p) := by rw [pn.2.1]
  rw [← er1] at t2
  obtain ⟨v, Mc, fc, ⟨we, wo⟩, e3⟩ := c_goWord (X := X) g hc (by omega) (by omega) (k := 7) (by omega)
  rw [bnd_o]
  cases hw : pWord b n (kl 7) r.1 with
  | error er =>
    obtain ⟨hv, h2, h3⟩ := we er hw
    subst hv
    refine ⟨0, Mc, fR_t (fR_t fa fb) (fR_f fc), cRes_e rfl h2 h3, ?_⟩
    simp (disch := first | assumption | decide | omega | (simp only [List.length_cons, List.length_nil] <;> omega)) only [lgt_0, lgt_s, lset_0, lset_s, lst1_0, lst1_s, lst2_0, lst2_s, ev_iconst, ev_lconst, ev_ldc, ev_null, ev_iload, ev_lload, ev_aload, ev_istore, ev_lstore, ev_astore, ev_iinc, ev_iadd, ev_isub, ev_imul, ev_iand, ev_ior, ev_ishl, ev_ishr, ev_idiv, ev_irem, ev_ineg, ev_ladd, ev_lsub, ev_lmul, ev_land, ev_lor, ev_ldiv, ev_lrem, ev_lshl, ev_i2l, ev_l2i, ev_i2b, ev_i2s, ev_lcmp, ev_dupI, ev_dupR, ev_dup2, ev_popI, ev_popR, ev_alen, ev_xlen, ev_xald, ev_iald, ev_lald, ev_bald, ev_zald, ev_aald, ev_iast, ev_last, ev_bast, ev_zast, ev_aast, ev_gfI, ev_gfL, ev_gfR, ev_pfI, ev_pfZ, ev_pfL, ev_pfR, ev_new, ev_newa, ev_newq, ev_copy, ev_slen, ev_schr, ev_obj, ev_mmin, ev_mabs, ev_mmax, ev_goto, ev_jsr, ev_icmp_eq, ev_if_eq, ev_icmp_ne, ev_if_ne, ev_icmp_lt, ev_if_lt, ev_icmp_ge, ev_if_ge, ev_icmp_gt, ev_if_gt, ev_icmp_le, ev_if_le, ev_ifnull0, ev_ifnull1, ev_ifnn0, ev_ifnn1, ev_tsw, ev_lsw, ev_iret, ev_zret, ev_lret, ev_aret, ev_ret, ev_call0, ev_call1, ev_call2, ev_call3, ev_call4, ev_call5, ev_call6, Option.toList_some, Option.toList_none, List.cons_append, List.nil_append, List.length_cons, List.length_nil, Nat.reduceMod, Nat.reduceDiv, Nat.reduceLeDiff, nc, ↓reduceIte, Nat.zero_le, reduceCtorEq, w32_id, Int.reduceEq, Int.reduceNe, Int.reduceLT, Int.reduceLE, Int.reduceGT, Int.reduceGE, Int.reduceAdd, Int.reduceSub, Int.reduceMul, Int.reduceNeg, ne_eq, not_true_eq_false, not_false_eq_true, eq_self, ↓if_pos, ↓if_neg, J_72_0, k_72_0, J_72_57, k_72_57, J_72_58, k_72_58, r0, e, e2, e3]
  | ok p2 =>
  obtain ⟨hv, hc2⟩ := wo p2 hw
  subst hv
  have pw := pWord_ok hw
  have t3 := tE_on (b := b) t2.2.1 (by rw [pw.1]; omega) t2.1
  rw [← pw.2.2] at t3
  have hd3 : cDr Mc _ := cD_f hd2 fun c c0 c1 => fc.1 c (by omega)
  obtain ⟨v, Md, fd, he4, ho4, e4⟩ := c_rdNum (X := X) g hc2 t3.1 t3.2.1 hd3 (s := (s : Int) + 1) (lo := 0) (hi := mc) (by omega)
  rw [bnd_o]
  cases hr4 : pNum b n 0 mc p2 with
  | error er =>
    obtain ⟨hv, h2, h3⟩ := he4 er hr4
    subst hv
    refine ⟨0, Md, fR_t (fR_t (fR_t fa fb) (fR_f fc)) fd, cRes_e rfl h2 h3, ?_⟩
    simp (disch := first | assumption | decide | omega | (simp only [List.length_cons, List.length_nil] <;> omega)) only [lgt_0, lgt_s, lset_0, lset_s, lst1_0, lst1_s, lst2_0, lst2_s, ev_iconst, ev_lconst, ev_ldc, ev_null, ev_iload, ev_lload, ev_aload, ev_istore, ev_lstore, ev_astore, ev_iinc, ev_iadd, ev_isub, ev_imul, ev_iand, ev_ior, ev_ishl, ev_ishr, ev_idiv, ev_irem, ev_ineg, ev_ladd, ev_lsub, ev_lmul, ev_land, ev_lor, ev_ldiv, ev_lrem, ev_lshl, ev_i2l, ev_l2i, ev_i2b, ev_i2s, ev_lcmp, ev_dupI, ev_dupR, ev_dup2, ev_popI, ev_popR, ev_alen, ev_xlen, ev_xald, ev_iald, ev_lald, ev_bald, ev_zald, ev_aald, ev_iast, ev_last, ev_bast, ev_zast, ev_aast, ev_gfI, ev_gfL, ev_gfR, ev_pfI, ev_pfZ, ev_pfL, ev_pfR, ev_new, ev_newa, ev_newq, ev_copy, ev_slen, ev_schr, ev_obj, ev_mmin, ev_mabs, ev_mmax, ev_goto, ev_jsr, ev_icmp_eq, ev_if_eq, ev_icmp_ne, ev_if_ne, ev_icmp_lt, ev_if_lt, ev_icmp_ge, ev_if_ge, ev_icmp_gt, ev_if_gt, ev_icmp_le, ev_if_le, ev_ifnull0, ev_ifnull1, ev_ifnn0, ev_ifnn1, ev_tsw, ev_lsw, ev_iret, ev_zret, ev_lret, ev_aret, ev_ret, ev_call0, ev_call1, ev_call2, ev_call3, ev_call4, ev_call5, ev_call6, Option.toList_some, Option.toList_none, List.cons_append, List.nil_append, List.length_cons, List.length_nil, Nat.reduceMod, Nat.reduceDiv, Nat.reduceLeDiff, nc, ↓reduceIte, Nat.zero_le, reduceCtorEq, w32_id, Int.reduceEq, Int.reduceNe, Int.reduceLT, Int.reduceLE, Int.reduceGT, Int.reduceGE, Int.reduceAdd, Int.reduceSub, Int.reduceMul, Int.reduceNeg, ne_eq, not_true_eq_false, not_false_eq_true, eq_self, ↓if_pos, ↓if_neg, J_72_0, k_72_0, J_72_57, k_72_57, J_72_58, k_72_58, r0, e, e2, e3, e4]
  | ok r4 =>
  obtain ⟨hv, hc4, hd4⟩ := ho4 r4 hr4
  subst hv
  have pn4 := pNum_ok hr4
  have t4 := tE_on (b := b) t3.2.1 (by rw [pn4.1]; omega) t3.1
  have er4 : r4.1 = tE b n p2 := by rw [pn4.2.1]
  rw [← er4] at t4
  obtain ⟨v, Me, fe, ⟨se, so⟩, e5⟩ := c_goSign (X := X) g hc4 t4.1 t4.2.1
  rw [bnd_o]
  cases hs' : pSign b n r4.1 with
  | error er =>
    obtain ⟨hv, h2, h3⟩ := se er hs'
    subst hv
    refine ⟨0, Me, fR_t (fR_t (fR_t (fR_t fa fb) (fR_f fc)) fd) (fR_f fe), cRes_e rfl h2 h3, ?_⟩
    simp (disch := first | assumption | decide | omega | (simp only [List.length_cons, List.length_nil] <;> omega)) only [lgt_0, lgt_s, lset_0, lset_s, lst1_0, lst1_s, lst2_0, lst2_s, ev_iconst, ev_lconst, ev_ldc, ev_null, ev_iload, ev_lload, ev_aload, ev_istore, ev_lstore, ev_astore, ev_iinc, ev_iadd, ev_isub, ev_imul, ev_iand, ev_ior, ev_ishl, ev_ishr, ev_idiv, ev_irem, ev_ineg, ev_ladd, ev_lsub, ev_lmul, ev_land, ev_lor, ev_ldiv, ev_lrem, ev_lshl, ev_i2l, ev_l2i, ev_i2b, ev_i2s, ev_lcmp, ev_dupI, ev_dupR, ev_dup2, ev_popI, ev_popR, ev_alen, ev_xlen, ev_xald, ev_iald, ev_lald, ev_bald, ev_zald, ev_aald, ev_iast, ev_last, ev_bast, ev_zast, ev_aast, ev_gfI, ev_gfL, ev_gfR, ev_pfI, ev_pfZ, ev_pfL, ev_pfR, ev_new, ev_newa, ev_newq, ev_copy, ev_slen, ev_schr, ev_obj, ev_mmin, ev_mabs, ev_mmax, ev_goto, ev_jsr, ev_icmp_eq, ev_if_eq, ev_icmp_ne, ev_if_ne, ev_icmp_lt, ev_if_lt, ev_icmp_ge, ev_if_ge, ev_icmp_gt, ev_if_gt, ev_icmp_le, ev_if_le, ev_ifnull0, ev_ifnull1, ev_ifnn0, ev_ifnn1, ev_tsw, ev_lsw, ev_iret, ev_zret, ev_lret, ev_aret, ev_ret, ev_call0, ev_call1, ev_call2, ev_call3, ev_call4, ev_call5, ev_call6, Option.toList_some, Option.toList_none, List.cons_append, List.nil_append, List.length_cons, List.length_nil, Nat.reduceMod, Nat.reduceDiv, Nat.reduceLeDiff, nc, ↓reduceIte, Nat.zero_le, reduceCtorEq, w32_id, Int.reduceEq, Int.reduceNe, Int.reduceLT, Int.reduceLE, Int.reduceGT, Int.reduceGE, Int.reduceAdd, Int.reduceSub, Int.reduceMul, Int.reduceNeg, ne_eq, not_true_eq_false, not_false_eq_true, eq_self, ↓if_pos, ↓if_neg, J_72_0, k_72_0, J_72_57, k_72_57, J_72_58, k_72_58, r0, e, e2, e3, e4, e5]
  | ok q =>
  obtain ⟨hv, hcq⟩ := so q hs'
  subst hv
  refine ⟨1, Me, fR_t (fR_t (fR_t (fR_t fa fb) (fR_f fc)) fd) (fR_f fe), cRes_o rfl hcq (cD_f hd4 fun c c0 c1 => fe.1 c (by omega)), ?_⟩
  simp (disch := first | assumption | decide | omega | (simp only [List.length_cons, List.length_nil] <;> omega)) only [lgt_0, lgt_s, lset_0, lset_s, lst1_0, lst1_s, lst2_0, lst2_s, ev_iconst, ev_lconst, ev_ldc, ev_null, ev_iload, ev_lload, ev_aload, ev_istore, ev_lstore, ev_astore, ev_iinc, ev_iadd, ev_isub, ev_imul, ev_iand, ev_ior, ev_ishl, ev_ishr, ev_idiv, ev_irem, ev_ineg, ev_ladd, ev_lsub, ev_lmul, ev_land, ev_lor, ev_ldiv, ev_lrem, ev_lshl, ev_i2l, ev_l2i, ev_i2b, ev_i2s, ev_lcmp, ev_dupI, ev_dupR, ev_dup2, ev_popI, ev_popR, ev_alen, ev_xlen, ev_xald, ev_iald, ev_lald, ev_bald, ev_zald, ev_aald, ev_iast, ev_last, ev_bast, ev_zast, ev_aast, ev_gfI, ev_gfL, ev_gfR, ev_pfI, ev_pfZ, ev_pfL, ev_pfR, ev_new, ev_newa, ev_newq, ev_copy, ev_slen, ev_schr, ev_obj, ev_mmin, ev_mabs, ev_mmax, ev_goto, ev_jsr, ev_icmp_eq, ev_if_eq, ev_icmp_ne, ev_if_ne, ev_icmp_lt, ev_if_lt, ev_icmp_ge, ev_if_ge, ev_icmp_gt, ev_if_gt, ev_icmp_le, ev_if_le, ev_ifnull0, ev_ifnull1, ev_ifnn0, ev_ifnn1, ev_tsw, ev_lsw, ev_iret, ev_zret, ev_lret, ev_aret, ev_ret, ev_call0, ev_call1, ev_call2, ev_call3, ev_call4, ev_call5, ev_call6, Option.toList_some, Option.toList_none, List.cons_append, List.nil_append, List.length_cons, List.length_nil, Nat.reduceMod, Nat.reduceDiv, Nat.reduceLeDiff, nc, ↓reduceIte, Nat.zero_le, reduceCtorEq, w32_id, Int.reduceEq, Int.reduceNe, Int.reduceLT, Int.reduceLE, Int.reduceGT, Int.reduceGE, Int.reduceAdd, Int.reduceSub, Int.reduceMul, Int.reduceNeg, ne_eq, not_true_eq_false, not_false_eq_true, eq_self, ↓if_pos, ↓if_neg, J_72_0, k_72_0, J_72_57, k_72_57, J_72_58, k_72_58, r0, e, e2, e3, e4, e5]
theorem c_rnd (g : gT b n) (h : cAt M b n p) (p0 : 0 ≤ p) (p1 : p ≤ n) (hk : tK b n p ≠ 0) (hd : cDr M d) : ∃ v M', fR M M' ∧ cRes b n (pRnd b n d p) v M' ∧ evc X 73 [vR (some 21)] SH0 M = some (some (vI v), SH0, M') := by
  have k21 := w0_k21
  have r0 := w0_r21_0
  have r1 := w0_r21_1
  have ct := w0_ch22
  obtain ⟨tk0, tr0, tr1, tr2, tr3, tr4, tr5, tr6, tr7, tk1, tk2, tk3, tk4, tk5, tk6, tk7, tk8, tl1, tl2, tl3, tl4, tl5, tl6, tl7, tl8⟩ := ct
  have cf := c_first (X := X) h hd (s := 14) (by omega)
  rw [show ((14 : Nat) : Int) = 14 from rfl] at cf
  rw [E_73 k21]
  unfold pRnd
  by_cases z : d.2.2.2.2.2.2 14 = 1
  · have e := cf.1 z
    refine ⟨0, _, fR_w fR_0, cRes_e (if_pos z) (by rw [up_ne2 (by omega), up_eq]) up_eq, ?_⟩
    simp (disch := first | assumption | decide | omega | (simp only [List.length_cons, List.length_nil] <;> omega)) only [lgt_0, lgt_s, lset_0, lset_s, lst1_0, lst1_s, lst2_0, lst2_s, ev_iconst, ev_lconst, ev_ldc, ev_null, ev_iload, ev_lload, ev_aload, ev_istore, ev_lstore, ev_astore, ev_iinc, ev_iadd, ev_isub, ev_imul, ev_iand, ev_ior, ev_ishl, ev_ishr, ev_idiv, ev_irem, ev_ineg, ev_ladd, ev_lsub, ev_lmul, ev_land, ev_lor, ev_ldiv, ev_lrem, ev_lshl, ev_i2l, ev_l2i, ev_i2b, ev_i2s, ev_lcmp, ev_dupI, ev_dupR, ev_dup2, ev_popI, ev_popR, ev_alen, ev_xlen, ev_xald, ev_iald, ev_lald, ev_bald, ev_zald, ev_aald, ev_iast, ev_last, ev_bast, ev_zast, ev_aast, ev_gfI, ev_gfL, ev_gfR, ev_pfI, ev_pfZ, ev_pfL, ev_pfR, ev_new, ev_newa, ev_newq, ev_copy, ev_slen, ev_schr, ev_obj, ev_mmin, ev_mabs, ev_mmax, ev_goto, ev_jsr, ev_icmp_eq, ev_if_eq, ev_icmp_ne, ev_if_ne, ev_icmp_lt, ev_if_lt, ev_icmp_ge, ev_if_ge, ev_icmp_gt, ev_if_gt, ev_icmp_le, ev_if_le, ev_ifnull0, ev_ifnull1, ev_ifnn0, ev_ifnn1, ev_tsw, ev_lsw, ev_iret, ev_zret, ev_lret, ev_aret, ev_ret, ev_call0, ev_call1, ev_call2, ev_call3, ev_call4, ev_call5, ev_call6, Option.toList_some, Option.toList_none, List.cons_append, List.nil_append, List.length_cons, List.length_nil, Nat.reduceMod, Nat.reduceDiv, Nat.reduceLeDiff, nc, ↓reduceIte, Nat.zero_le, reduceCtorEq, w32_id, Int.reduceEq, Int.reduceNe, Int.reduceLT, Int.reduceLE, Int.reduceGT, Int.reduceGE, Int.reduceAdd, Int.reduceSub, Int.reduceMul, Int.reduceNeg, ne_eq, not_true_eq_false, not_false_eq_true, eq_self, ↓if_pos, ↓if_neg, J_73_0, k_73_0, J_73_11, k_73_11, e]
  rw [if_neg z]
  have e := cf.2 z
  have hd1 := cD_told hd (s := 14) (by omega)
  rw [show ((14 : Nat) : Int) = 14 from rfl] at hd1
  generalize hMa : up M 21 2 (i_or (M 21 2) (i_shl 1 14)) = Ma at e hd1
  have fa : fR M Ma := by rw [← hMa]; exact fR_up fR_0 (by omega)
  have t1 := tE_on (b := b) p1 hk p0
  have hd2 := cD_set hd1 (s := 14) (v := 1) (by omega)
  generalize hMb : up Ma 23 14 1 = Mb at hd2
  have fb : fR M Mb := by rw [← hMb]; exact fR_up fa (by omega)
  have ca : cTc Mb b n (tE b n p) := cTc_f h.1 (by rw [← hMb, up_ne (by omega), ← hMa, up_ne (by omega)]) (by rw [← hMb, up_ne (by omega), ← hMa, up_ne (by omega)])
  obtain ⟨v, Mc, fc, ⟨se, so⟩, e3⟩ := c_goSign (X := X) g ca t1.1 t1.2.1
  cases hs' : pSign b n (tE b n p) with
  | error er =>
    obtain ⟨hv, h2, h3⟩ := se er hs'
    subst hv
    refine ⟨0, Mc, fR_t fb (fR_f fc), cRes_e rfl h2 h3, ?_⟩
    simp (disch := first | assumption | decide | omega | (simp only [List.length_cons, List.length_nil] <;> omega)) only [lgt_0, lgt_s, lset_0, lset_s, lst1_0, lst1_s, lst2_0, lst2_s, ev_iconst, ev_lconst, ev_ldc, ev_null, ev_iload, ev_lload, ev_aload, ev_istore, ev_lstore, ev_astore, ev_iinc, ev_iadd, ev_isub, ev_imul, ev_iand, ev_ior, ev_ishl, ev_ishr, ev_idiv, ev_irem, ev_ineg, ev_ladd, ev_lsub, ev_lmul, ev_land, ev_lor, ev_ldiv, ev_lrem, ev_lshl, ev_i2l, ev_l2i, ev_i2b, ev_i2s, ev_lcmp, ev_dupI, ev_dupR, ev_dup2, ev_popI, ev_popR, ev_alen, ev_xlen, ev_xald, ev_iald, ev_lald, ev_bald, ev_zald, ev_aald, ev_iast, ev_last, ev_bast, ev_zast, ev_aast, ev_gfI, ev_gfL, ev_gfR, ev_pfI, ev_pfZ, ev_pfL, ev_pfR, ev_new, ev_newa, ev_newq, ev_copy, ev_slen, ev_schr, ev_obj, ev_mmin, ev_mabs, ev_mmax, ev_goto, ev_jsr, ev_icmp_eq, ev_if_eq, ev_icmp_ne, ev_if_ne, ev_icmp_lt, ev_if_lt, ev_icmp_ge, ev_if_ge, ev_icmp_gt, ev_if_gt, ev_icmp_le, ev_if_le, ev_ifnull0, ev_ifnull1, ev_ifnn0, ev_ifnn1, ev_tsw, ev_lsw, ev_iret, ev_zret, ev_lret, ev_aret, ev_ret, ev_call0, ev_call1, ev_call2, ev_call3, ev_call4, ev_call5, ev_call6, Option.toList_some, Option.toList_none, List.cons_append, List.nil_append, List.length_cons, List.length_nil, Nat.reduceMod, Nat.reduceDiv, Nat.reduceLeDiff, nc, ↓reduceIte, Nat.zero_le, reduceCtorEq, w32_id, Int.reduceEq, Int.reduceNe, Int.reduceLT, Int.reduceLE, Int.reduceGT, Int.reduceGE, Int.reduceAdd, Int.reduceSub, Int.reduceMul, Int.reduceNeg, ne_eq, not_true_eq_false, not_false_eq_true, eq_self, ↓if_pos, ↓if_neg, J_73_0, k_73_0, J_73_11, k_73_11, r0, r1, tr0, tr1, tr2, tr3, tr4, tr5, tr6, tr7, e, hMb, e3]
  | ok q =>
    obtain ⟨hv, hcq⟩ := so q hs'
    subst hv
    refine ⟨1, Mc, fR_t fb (fR_f fc), cRes_o rfl hcq (cD_f hd2 fun c c0 c1 => fc.1 c (by omega)), ?_⟩
    simp (disch := first | assumption | decide | omega | (simp only [List.length_cons, List.length_nil] <;> omega)) only [lgt_0, lgt_s, lset_0, lset_s, lst1_0, lst1_s, lst2_0, lst2_s, ev_iconst, ev_lconst, ev_ldc, ev_null, ev_iload, ev_lload, ev_aload, ev_istore, ev_lstore, ev_astore, ev_iinc, ev_iadd, ev_isub, ev_imul, ev_iand, ev_ior, ev_ishl, ev_ishr, ev_idiv, ev_irem, ev_ineg, ev_ladd, ev_lsub, ev_lmul, ev_land, ev_lor, ev_ldiv, ev_lrem, ev_lshl, ev_i2l, ev_l2i, ev_i2b, ev_i2s, ev_lcmp, ev_dupI, ev_dupR, ev_dup2, ev_popI, ev_popR, ev_alen, ev_xlen, ev_xald, ev_iald, ev_lald, ev_bald, ev_zald, ev_aald, ev_iast, ev_last, ev_bast, ev_zast, ev_aast, ev_gfI, ev_gfL, ev_gfR, ev_pfI, ev_pfZ, ev_pfL, ev_pfR, ev_new, ev_newa, ev_newq, ev_copy, ev_slen, ev_schr, ev_obj, ev_mmin, ev_mabs, ev_mmax, ev_goto, ev_jsr, ev_icmp_eq, ev_if_eq, ev_icmp_ne, ev_if_ne, ev_icmp_lt, ev_if_lt, ev_icmp_ge, ev_if_ge, ev_icmp_gt, ev_if_gt, ev_icmp_le, ev_if_le, ev_ifnull0, ev_ifnull1, ev_ifnn0, ev_ifnn1, ev_tsw, ev_lsw, ev_iret, ev_zret, ev_lret, ev_aret, ev_ret, ev_call0, ev_call1, ev_call2, ev_call3, ev_call4, ev_call5, ev_call6, Option.toList_some, Option.toList_none, List.cons_append, List.nil_append, List.length_cons, List.length_nil, Nat.reduceMod, Nat.reduceDiv, Nat.reduceLeDiff, nc, ↓reduceIte, Nat.zero_le, reduceCtorEq, w32_id, Int.reduceEq, Int.reduceNe, Int.reduceLT, Int.reduceLE, Int.reduceGT, Int.reduceGE, Int.reduceAdd, Int.reduceSub, Int.reduceMul, Int.reduceNeg, ne_eq, not_true_eq_false, not_false_eq_true, eq_self, ↓if_pos, ↓if_neg, J_73_0, k_73_0, J_73_11, k_73_11, r0, r1, tr0, tr1, tr2, tr3, tr4, tr5, tr6, tr7, e, hMb, e3]
theorem nm_no {w : List Int} : ixF CK w 0 = -1 ↔ (w ≠ kl 0 ∧ w ≠ kl 1 ∧ w ≠ kl 2 ∧ w ≠ kl 3 ∧ w ≠ kl 4 ∧ w ≠ kl 5 ∧ w ≠ kl 6 ∧ w ≠ kl 7 ∧ w ≠ kl 8 ∧ w ≠ kl 9 ∧ w ≠ kl 10 ∧ w ≠ kl 11 ∧ w ≠ kl 12 ∧ w ≠ kl 13 ∧ w ≠ kl 14) := by
  rw [ixF_no (by omega)]
  constructor
  · intro h
    refine ⟨fun e => h (kl 0) (by decide) e.symm, fun e => h (kl 1) (by decide) e.symm, fun e => h (kl 2) (by decide) e.symm, fun e => h (kl 3) (by decide) e.symm, fun e => h (kl 4) (by decide) e.symm, fun e => h (kl 5) (by decide) e.symm, fun e => h (kl 6) (by decide) e.symm, fun e => h (kl 7) (by decide) e.symm, fun e => h (kl 8) (by decide) e.symm, fun e => h (kl 9) (by decide) e.symm, fun e => h (kl 10) (by decide) e.symm, fun e => h (kl 11) (by decide) e.symm, fun e => h (kl 12) (by decide) e.symm, fun e => h (kl 13) (by decide) e.symm, fun e => h (kl 14) (by decide) e.symm⟩
  · rintro ⟨h0, h1, h2, h3, h4, h5, h6, h7, h8, h9, h10, h11, h12, h13, h14⟩ x hx
    have hx' : x ∈ [kl 0, kl 1, kl 4, kl 5, kl 6, kl 8, kl 9, kl 10, kl 11, kl 12, kl 13, kl 14, kl 2, kl 3, kl 7] := hx
    simp only [List.mem_cons, List.not_mem_nil, or_false] at hx'
    rcases hx' with y | y | y | y | y | y | y | y | y | y | y | y | y | y | y <;> subst y <;> intro e <;> first | exact h0 e.symm | exact h1 e.symm | exact h2 e.symm | exact h3 e.symm | exact h4 e.symm | exact h5 e.symm | exact h6 e.symm | exact h7 e.symm | exact h8 e.symm | exact h9 e.symm | exact h10 e.symm | exact h11 e.symm | exact h12 e.symm | exact h13 e.symm | exact h14 e.symm
theorem c_isName (h : cAt M b n p) (p1 : p ≤ n) : evc X 65 [vR (some 21)] SH0 M = some (some (vI (if nmB b n CK p = true then 1 else 0)), SH0, M) := by
  have k21 := w0_k21
  have r0 := w0_r21_0
  have r := tK_rng (b := b) (n := n) (p := p)
  have i := ck_id r.1 r.2
  have h4 := h.2.2.1
  rw [E_65 k21]
  by_cases z : tK b n p = 2
  · rw [i.1.mpr z] at h4
    have h6 := h.2.2.2.2 z
    have lt := tW_lts z
    have tp := tW_pos p1 z
    by_cases y : (tW b n p).length ≤ 8
    · have wp : 0 < wc (tW b n p) := by
        unfold wc
        rw [if_neg (by omega)]
        exact (c32_nn (tW b n p).length (Nat.le_refl _) lt).2 (fun e => by rw [e] at tp; exact absurd tp (by simp))
      have q0 : ¬ (if wc (tW b n p) < 0 then (-1 : Int) else if wc (tW b n p) = 0 then 0 else 1) = 0 := by
        rw [if_neg (by omega), if_neg (by omega)]
        omega
      have e0 := c_isWord (X := X) (k := 0) (by omega) h
      have e1 := c_isWord (X := X) (k := 1) (by omega) h
      have e2 := c_isWord (X := X) (k := 2) (by omega) h
      have e3 := c_isWord (X := X) (k := 3) (by omega) h
      have e4 := c_isWord (X := X) (k := 4) (by omega) h
      have e5 := c_isWord (X := X) (k := 5) (by omega) h
      have e6 := c_isWord (X := X) (k := 6) (by omega) h
      have e7 := c_isWord (X := X) (k := 7) (by omega) h
      have e8 := c_isWord (X := X) (k := 8) (by omega) h
      have e9 := c_isWord (X := X) (k := 9) (by omega) h
      have e10 := c_isWord (X := X) (k := 10) (by omega) h
      have e11 := c_isWord (X := X) (k := 11) (by omega) h
      have e12 := c_isWord (X := X) (k := 12) (by omega) h
      have e13 := c_isWord (X := X) (k := 13) (by omega) h
      have e14 := c_isWord (X := X) (k := 14) (by omega) h
      by_cases w0 : tW b n p = kl 0
      · rw [if_pos ⟨z, w0⟩] at e0
        have nn : nmB b n CK p = false := decide_eq_false fun w => (nm_no.mp w.2.2).1 w0
        rw [nn, if_neg (by decide)]
        generalize wc (tW b n p) = wv at h6 q0
        simp (disch := first | assumption | decide | omega | (simp only [List.length_cons, List.length_nil] <;> omega)) only [lgt_0, lgt_s, lset_0, lset_s, lst1_0, lst1_s, lst2_0, lst2_s, ev_iconst, ev_lconst, ev_ldc, ev_null, ev_iload, ev_lload, ev_aload, ev_istore, ev_lstore, ev_astore, ev_iinc, ev_iadd, ev_isub, ev_imul, ev_iand, ev_ior, ev_ishl, ev_ishr, ev_idiv, ev_irem, ev_ineg, ev_ladd, ev_lsub, ev_lmul, ev_land, ev_lor, ev_ldiv, ev_lrem, ev_lshl, ev_i2l, ev_l2i, ev_i2b, ev_i2s, ev_lcmp, ev_dupI, ev_dupR, ev_dup2, ev_popI, ev_popR, ev_alen, ev_xlen, ev_xald, ev_iald, ev_lald, ev_bald, ev_zald, ev_aald, ev_iast, ev_last, ev_bast, ev_zast, ev_aast, ev_gfI, ev_gfL, ev_gfR, ev_pfI, ev_pfZ, ev_pfL, ev_pfR, ev_new, ev_newa, ev_newq, ev_copy, ev_slen, ev_schr, ev_obj, ev_mmin, ev_mabs, ev_mmax, ev_goto, ev_jsr, ev_icmp_eq, ev_if_eq, ev_icmp_ne, ev_if_ne, ev_icmp_lt, ev_if_lt, ev_icmp_ge, ev_if_ge, ev_icmp_gt, ev_if_gt, ev_icmp_le, ev_if_le, ev_ifnull0, ev_ifnull1, ev_ifnn0, ev_ifnn1, ev_tsw, ev_lsw, ev_iret, ev_zret, ev_lret, ev_aret, ev_ret, ev_call0, ev_call1, ev_call2, ev_call3, ev_call4, ev_call5, ev_call6, Option.toList_some, Option.toList_none, List.cons_append, List.nil_append, List.length_cons, List.length_nil, Nat.reduceMod, Nat.reduceDiv, Nat.reduceLeDiff, nc, ↓reduceIte, Nat.zero_le, reduceCtorEq, w32_id, Int.reduceEq, Int.reduceNe, Int.reduceLT, Int.reduceLE, Int.reduceGT, Int.reduceGE, Int.reduceAdd, Int.reduceSub, Int.reduceMul, Int.reduceNeg, ne_eq, not_true_eq_false, not_false_eq_true, eq_self, ↓if_pos, ↓if_neg, J_65_0, k_65_0, J_65_23, k_65_23, J_65_25, k_65_25, J_65_209, k_65_209, J_65_210, k_65_210, r0, h4, h6, q0, e0]
      rw [if_neg (fun w => w0 w.2)] at e0
      by_cases w1 : tW b n p = kl 1
      · rw [if_pos ⟨z, w1⟩] at e1
        have nn : nmB b n CK p = false := decide_eq_false fun w => (nm_no.mp w.2.2).2.1 w1
        rw [nn, if_neg (by decide)]
        generalize wc (tW b n p) = wv at h6 q0
        simp (disch := first | assumption | decide | omega | (simp only [List.length_cons, List.length_nil] <;> omega)) only [lgt_0, lgt_s, lset_0, lset_s, lst1_0, lst1_s, lst2_0, lst2_s, ev_iconst, ev_lconst, ev_ldc, ev_null, ev_iload, ev_lload, ev_aload, ev_istore, ev_lstore, ev_astore, ev_iinc, ev_iadd, ev_isub, ev_imul, ev_iand, ev_ior, ev_ishl, ev_ishr, ev_idiv, ev_irem, ev_ineg, ev_ladd, ev_lsub, ev_lmul, ev_land, ev_lor, ev_ldiv, ev_lrem, ev_lshl, ev_i2l, ev_l2i, ev_i2b, ev_i2s, ev_lcmp, ev_dupI, ev_dupR, ev_dup2, ev_popI, ev_popR, ev_alen, ev_xlen, ev_xald, ev_iald, ev_lald, ev_bald, ev_zald, ev_aald, ev_iast, ev_last, ev_bast, ev_zast, ev_aast, ev_gfI, ev_gfL, ev_gfR, ev_pfI, ev_pfZ, ev_pfL, ev_pfR, ev_new, ev_newa, ev_newq, ev_copy, ev_slen, ev_schr, ev_obj, ev_mmin, ev_mabs, ev_mmax, ev_goto, ev_jsr, ev_icmp_eq, ev_if_eq, ev_icmp_ne, ev_if_ne, ev_icmp_lt, ev_if_lt, ev_icmp_ge, ev_if_ge, ev_icmp_gt, ev_if_gt, ev_icmp_le, ev_if_le, ev_ifnull0, ev_ifnull1, ev_ifnn0, ev_ifnn1, ev_tsw, ev_lsw, ev_iret, ev_zret, ev_lret, ev_aret, ev_ret, ev_call0, ev_call1, ev_call2, ev_call3, ev_call4, ev_call5, ev_call6, Option.toList_some, Option.toList_none, List.cons_append, List.nil_append, List.length_cons, List.length_nil, Nat.reduceMod, Nat.reduceDiv, Nat.reduceLeDiff, nc, ↓reduceIte, Nat.zero_le, reduceCtorEq, w32_id, Int.reduceEq, Int.reduceNe, Int.reduceLT, Int.reduceLE, Int.reduceGT, Int.reduceGE, Int.reduceAdd, Int.reduceSub, Int.reduceMul, Int.reduceNeg, ne_eq, not_true_eq_false, not_false_eq_true, eq_self, ↓if_pos, ↓if_neg, J_65_0, k_65_0, J_65_23, k_65_23, J_65_25, k_65_25, J_65_209, k_65_209, J_65_210, k_65_210, r0, h4, h6, q0, e0, e1]
      rw [if_neg (fun w => w1 w.2)] at e1
      by_cases w2 : tW b n p = kl 2
      · rw [if_pos ⟨z, w2⟩] at e2
        have nn : nmB b n CK p = false := decide_eq_false fun w => (nm_no.mp w.2.2).2.2.1 w2
        rw [nn, if_neg (by decide)]
        generalize wc (tW b n p) = wv at h6 q0
        simp (disch := first | assumption | decide | omega | (simp only [List.length_cons, List.length_nil] <;> omega)) only [lgt_0, lgt_s, lset_0, lset_s, lst1_0, lst1_s, lst2_0, lst2_s, ev_iconst, ev_lconst, ev_ldc, ev_null, ev_iload, ev_lload, ev_aload, ev_istore, ev_lstore, ev_astore, ev_iinc, ev_iadd, ev_isub, ev_imul, ev_iand, ev_ior, ev_ishl, ev_ishr, ev_idiv, ev_irem, ev_ineg, ev_ladd, ev_lsub, ev_lmul, ev_land, ev_lor, ev_ldiv, ev_lrem, ev_lshl, ev_i2l, ev_l2i, ev_i2b, ev_i2s, ev_lcmp, ev_dupI, ev_dupR, ev_dup2, ev_popI, ev_popR, ev_alen, ev_xlen, ev_xald, ev_iald, ev_lald, ev_bald, ev_zald, ev_aald, ev_iast, ev_last, ev_bast, ev_zast, ev_aast, ev_gfI, ev_gfL, ev_gfR, ev_pfI, ev_pfZ, ev_pfL, ev_pfR, ev_new, ev_newa, ev_newq, ev_copy, ev_slen, ev_schr, ev_obj, ev_mmin, ev_mabs, ev_mmax, ev_goto, ev_jsr, ev_icmp_eq, ev_if_eq, ev_icmp_ne, ev_if_ne, ev_icmp_lt, ev_if_lt, ev_icmp_ge, ev_if_ge, ev_icmp_gt, ev_if_gt, ev_icmp_le, ev_if_le, ev_ifnull0, ev_ifnull1, ev_ifnn0, ev_ifnn1, ev_tsw, ev_lsw, ev_iret, ev_zret, ev_lret, ev_aret, ev_ret, ev_call0, ev_call1, ev_call2, ev_call3, ev_call4, ev_call5, ev_call6, Option.toList_some, Option.toList_none, List.cons_append, List.nil_append, List.length_cons, List.length_nil, Nat.reduceMod, Nat.reduceDiv, Nat.reduceLeDiff, nc, ↓reduceIte, Nat.zero_le, reduceCtorEq, w32_id, Int.reduceEq, Int.reduceNe, Int.reduceLT, Int.reduceLE, Int.reduceGT, Int.reduceGE, Int.reduceAdd, Int.reduceSub, Int.reduceMul, Int.reduceNeg, ne_eq, not_true_eq_false, not_false_eq_true, eq_self, ↓if_pos, ↓if_neg, J_65_0, k_65_0, J_65_23, k_65_23, J_65_25, k_65_25, J_65_209, k_65_209, J_65_210, k_65_210, r0, h4, h6, q0, e0, e1, e2]
      rw [if_neg (fun w => w2 w.2)] at e2
      by_cases w3 : tW b n p = kl 3
      · rw [if_pos ⟨z, w3⟩] at e3
        have nn : nmB b n CK p = false := decide_eq_false fun w => (nm_no.mp w.2.2).2.2.2.1 w3
        rw [nn, if_neg (by decide)]
        generalize wc (tW b n p) = wv at h6 q0
        simp (disch := first | assumption | decide | omega | (simp only [List.length_cons, List.length_nil] <;> omega)) only [lgt_0, lgt_s, lset_0, lset_s, lst1_0, lst1_s, lst2_0, lst2_s, ev_iconst, ev_lconst, ev_ldc, ev_null, ev_iload, ev_lload, ev_aload, ev_istore, ev_lstore, ev_astore, ev_iinc, ev_iadd, ev_isub, ev_imul, ev_iand, ev_ior, ev_ishl, ev_ishr, ev_idiv, ev_irem, ev_ineg, ev_ladd, ev_lsub, ev_lmul, ev_land, ev_lor, ev_ldiv, ev_lrem, ev_lshl, ev_i2l, ev_l2i, ev_i2b, ev_i2s, ev_lcmp, ev_dupI, ev_dupR, ev_dup2, ev_popI, ev_popR, ev_alen, ev_xlen, ev_xald, ev_iald, ev_lald, ev_bald, ev_zald, ev_aald, ev_iast, ev_last, ev_bast, ev_zast, ev_aast, ev_gfI, ev_gfL, ev_gfR, ev_pfI, ev_pfZ, ev_pfL, ev_pfR, ev_new, ev_newa, ev_newq, ev_copy, ev_slen, ev_schr, ev_obj, ev_mmin, ev_mabs, ev_mmax, ev_goto, ev_jsr, ev_icmp_eq, ev_if_eq, ev_icmp_ne, ev_if_ne, ev_icmp_lt, ev_if_lt, ev_icmp_ge, ev_if_ge, ev_icmp_gt, ev_if_gt, ev_icmp_le, ev_if_le, ev_ifnull0, ev_ifnull1, ev_ifnn0, ev_ifnn1, ev_tsw, ev_lsw, ev_iret, ev_zret, ev_lret, ev_aret, ev_ret, ev_call0, ev_call1, ev_call2, ev_call3, ev_call4, ev_call5, ev_call6, Option.toList_some, Option.toList_none, List.cons_append, List.nil_append, List.length_cons, List.length_nil, Nat.reduceMod, Nat.reduceDiv, Nat.reduceLeDiff, nc, ↓reduceIte, Nat.zero_le, reduceCtorEq, w32_id, Int.reduceEq, Int.reduceNe, Int.reduceLT, Int.reduceLE, Int.reduceGT, Int.reduceGE, Int.reduceAdd, Int.reduceSub, Int.reduceMul, Int.reduceNeg, ne_eq, not_true_eq_false, not_false_eq_true, eq_self, ↓if_pos, ↓if_neg, J_65_0, k_65_0, J_65_23, k_65_23, J_65_25, k_65_25, J_65_209, k_65_209, J_65_210, k_65_210, r0, h4, h6, q0, e0, e1, e2, e3]
      rw [if_neg (fun w => w3 w.2)] at e3
      by_cases w4 : tW b n p = kl 4
      · rw [if_pos ⟨z, w4⟩] at e4
        have nn : nmB b n CK p = false := decide_eq_false fun w => (nm_no.mp w.2.2).2.2.2.2.1 w4
        rw [nn, if_neg (by decide)]
        generalize wc (tW b n p) = wv at h6 q0
        simp (disch := first | assumption | decide | omega | (simp only [List.length_cons, List.length_nil] <;> omega)) only [lgt_0, lgt_s, lset_0, lset_s, lst1_0, lst1_s, lst2_0, lst2_s, ev_iconst, ev_lconst, ev_ldc, ev_null, ev_iload, ev_lload, ev_aload, ev_istore, ev_lstore, ev_astore, ev_iinc, ev_iadd, ev_isub, ev_imul, ev_iand, ev_ior, ev_ishl, ev_ishr, ev_idiv, ev_irem, ev_ineg, ev_ladd, ev_lsub, ev_lmul, ev_land, ev_lor, ev_ldiv, ev_lrem, ev_lshl, ev_i2l, ev_l2i, ev_i2b, ev_i2s, ev_lcmp, ev_dupI, ev_dupR, ev_dup2, ev_popI, ev_popR, ev_alen, ev_xlen, ev_xald, ev_iald, ev_lald, ev_bald, ev_zald, ev_aald, ev_iast, ev_last, ev_bast, ev_zast, ev_aast, ev_gfI, ev_gfL, ev_gfR, ev_pfI, ev_pfZ, ev_pfL, ev_pfR, ev_new, ev_newa, ev_newq, ev_copy, ev_slen, ev_schr, ev_obj, ev_mmin, ev_mabs, ev_mmax, ev_goto, ev_jsr, ev_icmp_eq, ev_if_eq, ev_icmp_ne, ev_if_ne, ev_icmp_lt, ev_if_lt, ev_icmp_ge, ev_if_ge, ev_icmp_gt, ev_if_gt, ev_icmp_le, ev_if_le, ev_ifnull0, ev_ifnull1, ev_ifnn0, ev_ifnn1, ev_tsw, ev_lsw, ev_iret, ev_zret, ev_lret, ev_aret, ev_ret, ev_call0, ev_call1, ev_call2, ev_call3, ev_call4, ev_call5, ev_call6, Option.toList_some, Option.toList_none, List.cons_append, List.nil_append, List.length_cons, List.length_nil, Nat.reduceMod, Nat.reduceDiv, Nat.reduceLeDiff, nc, ↓reduceIte, Nat.zero_le, reduceCtorEq, w32_id, Int.reduceEq, Int.reduceNe, Int.reduceLT, Int.reduceLE, Int.reduceGT, Int.reduceGE, Int.reduceAdd, Int.reduceSub, Int.reduceMul, Int.reduceNeg, ne_eq, not_true_eq_false, not_false_eq_true, eq_self, ↓if_pos, ↓if_neg, J_65_0, k_65_0, J_65_23, k_65_23, J_65_25, k_65_25, J_65_209, k_65_209, J_65_210, k_65_210, r0, h4, h6, q0, e0, e1, e2, e3, e4]
      rw [if_neg (fun w => w4 w.2)] at e4
      by_cases w5 : tW b n p = kl 5
      · rw [if_pos ⟨z, w5⟩] at e5
        have nn : nmB b n CK p = false := decide_eq_false fun w => (nm_no.mp w.2.2).2.2.2.2.2.1 w5
        rw [nn, if_neg (by decide)]
        generalize wc (tW b n p) = wv at h6 q0
        simp (disch := first | assumption | decide | omega | (simp only [List.length_cons, List.length_nil] <;> omega)) only [lgt_0, lgt_s, lset_0, lset_s, lst1_0, lst1_s, lst2_0, lst2_s, ev_iconst, ev_lconst, ev_ldc, ev_null, ev_iload, ev_lload, ev_aload, ev_istore, ev_lstore, ev_astore, ev_iinc, ev_iadd, ev_isub, ev_imul, ev_iand, ev_ior, ev_ishl, ev_ishr, ev_idiv, ev_irem, ev_ineg, ev_ladd, ev_lsub, ev_lmul, ev_land, ev_lor, ev_ldiv, ev_lrem, ev_lshl, ev_i2l, ev_l2i, ev_i2b, ev_i2s, ev_lcmp, ev_dupI, ev_dupR, ev_dup2, ev_popI, ev_popR, ev_alen, ev_xlen, ev_xald, ev_iald, ev_lald, ev_bald, ev_zald, ev_aald, ev_iast, ev_last, ev_bast, ev_zast, ev_aast, ev_gfI, ev_gfL, ev_gfR, ev_pfI, ev_pfZ, ev_pfL, ev_pfR, ev_new, ev_newa, ev_newq, ev_copy, ev_slen, ev_schr, ev_obj, ev_mmin, ev_mabs, ev_mmax, ev_goto, ev_jsr, ev_icmp_eq, ev_if_eq, ev_icmp_ne, ev_if_ne, ev_icmp_lt, ev_if_lt, ev_icmp_ge, ev_if_ge, ev_icmp_gt, ev_if_gt, ev_icmp_le, ev_if_le, ev_ifnull0, ev_ifnull1, ev_ifnn0, ev_ifnn1, ev_tsw, ev_lsw, ev_iret, ev_zret, ev_lret, ev_aret, ev_ret, ev_call0, ev_call1, ev_call2, ev_call3, ev_call4, ev_call5, ev_call6, Option.toList_some, Option.toList_none, List.cons_append, List.nil_append, List.length_cons, List.length_nil, Nat.reduceMod, Nat.reduceDiv, Nat.reduceLeDiff, nc, ↓reduceIte, Nat.zero_le, reduceCtorEq, w32_id, Int.reduceEq, Int.reduceNe, Int.reduceLT, Int.reduceLE, Int.reduceGT, Int.reduceGE, Int.reduceAdd, Int.reduceSub, Int.reduceMul, Int.reduceNeg, ne_eq, not_true_eq_false, not_false_eq_true, eq_self, ↓if_pos, ↓if_neg, J_65_0, k_65_0, J_65_23, k_65_23, J_65_25, k_65_25, J_65_209, k_65_209, J_65_210, k_65_210, r0, h4, h6, q0, e0, e1, e2, e3, e4, e5]
      rw [if_neg (fun w => w5 w.2)] at e5
      by_cases w6 : tW b n p = kl 6
      · rw [if_pos ⟨z, w6⟩] at e6
        have nn : nmB b n CK p = false := decide_eq_false fun w => (nm_no.mp w.2.2).2.2.2.2.2.2.1 w6
        rw [nn, if_neg (by decide)]
        generalize wc (tW b n p) = wv at h6 q0
        simp (disch := first | assumption | decide | omega | (simp only [List.length_cons, List.length_nil] <;> omega)) only [lgt_0, lgt_s, lset_0, lset_s, lst1_0, lst1_s, lst2_0, lst2_s, ev_iconst, ev_lconst, ev_ldc, ev_null, ev_iload, ev_lload, ev_aload, ev_istore, ev_lstore, ev_astore, ev_iinc, ev_iadd, ev_isub, ev_imul, ev_iand, ev_ior, ev_ishl, ev_ishr, ev_idiv, ev_irem, ev_ineg, ev_ladd, ev_lsub, ev_lmul, ev_land, ev_lor, ev_ldiv, ev_lrem, ev_lshl, ev_i2l, ev_l2i, ev_i2b, ev_i2s, ev_lcmp, ev_dupI, ev_dupR, ev_dup2, ev_popI, ev_popR, ev_alen, ev_xlen, ev_xald, ev_iald, ev_lald, ev_bald, ev_zald, ev_aald, ev_iast, ev_last, ev_bast, ev_zast, ev_aast, ev_gfI, ev_gfL, ev_gfR, ev_pfI, ev_pfZ, ev_pfL, ev_pfR, ev_new, ev_newa, ev_newq, ev_copy, ev_slen, ev_schr, ev_obj, ev_mmin, ev_mabs, ev_mmax, ev_goto, ev_jsr, ev_icmp_eq, ev_if_eq, ev_icmp_ne, ev_if_ne, ev_icmp_lt, ev_if_lt, ev_icmp_ge, ev_if_ge, ev_icmp_gt, ev_if_gt, ev_icmp_le, ev_if_le, ev_ifnull0, ev_ifnull1, ev_ifnn0, ev_ifnn1, ev_tsw, ev_lsw, ev_iret, ev_zret, ev_lret, ev_aret, ev_ret, ev_call0, ev_call1, ev_call2, ev_call3, ev_call4, ev_call5, ev_call6, Option.toList_some, Option.toList_none, List.cons_append, List.nil_append, List.length_cons, List.length_nil, Nat.reduceMod, Nat.reduceDiv, Nat.reduceLeDiff, nc, ↓reduceIte, Nat.zero_le, reduceCtorEq, w32_id, Int.reduceEq, Int.reduceNe, Int.reduceLT, Int.reduceLE, Int.reduceGT, Int.reduceGE, Int.reduceAdd, Int.reduceSub, Int.reduceMul, Int.reduceNeg, ne_eq, not_true_eq_false, not_false_eq_true, eq_self, ↓if_pos, ↓if_neg, J_65_0, k_65_0, J_65_23, k_65_23, J_65_25, k_65_25, J_65_209, k_65_209, J_65_210, k_65_210, r0, h4, h6, q0, e0, e1, e2, e3, e4, e5, e6]
      rw [if_neg (fun w => w6 w.2)] at e6
      by_cases w7 : tW b n p = kl 7
      · rw [if_pos ⟨z, w7⟩] at e7
        have nn : nmB b n CK p = false := decide_eq_false fun w => (nm_no.mp w.2.2).2.2.2.2.2.2.2.1 w7
        rw [nn, if_neg (by decide)]
        generalize wc (tW b n p) = wv at h6 q0
        simp (disch := first | assumption | decide | omega | (simp only [List.length_cons, List.length_nil] <;> omega)) only [lgt_0, lgt_s, lset_0, lset_s, lst1_0, lst1_s, lst2_0, lst2_s, ev_iconst, ev_lconst, ev_ldc, ev_null, ev_iload, ev_lload, ev_aload, ev_istore, ev_lstore, ev_astore, ev_iinc, ev_iadd, ev_isub, ev_imul, ev_iand, ev_ior, ev_ishl, ev_ishr, ev_idiv, ev_irem, ev_ineg, ev_ladd, ev_lsub, ev_lmul, ev_land, ev_lor, ev_ldiv, ev_lrem, ev_lshl, ev_i2l, ev_l2i, ev_i2b, ev_i2s, ev_lcmp, ev_dupI, ev_dupR, ev_dup2, ev_popI, ev_popR, ev_alen, ev_xlen, ev_xald, ev_iald, ev_lald, ev_bald, ev_zald, ev_aald, ev_iast, ev_last, ev_bast, ev_zast, ev_aast, ev_gfI, ev_gfL, ev_gfR, ev_pfI, ev_pfZ, ev_pfL, ev_pfR, ev_new, ev_newa, ev_newq, ev_copy, ev_slen, ev_schr, ev_obj, ev_mmin, ev_mabs, ev_mmax, ev_goto, ev_jsr, ev_icmp_eq, ev_if_eq, ev_icmp_ne, ev_if_ne, ev_icmp_lt, ev_if_lt, ev_icmp_ge, ev_if_ge, ev_icmp_gt, ev_if_gt, ev_icmp_le, ev_if_le, ev_ifnull0, ev_ifnull1, ev_ifnn0, ev_ifnn1, ev_tsw, ev_lsw, ev_iret, ev_zret, ev_lret, ev_aret, ev_ret, ev_call0, ev_call1, ev_call2, ev_call3, ev_call4, ev_call5, ev_call6, Option.toList_some, Option.toList_none, List.cons_append, List.nil_append, List.length_cons, List.length_nil, Nat.reduceMod, Nat.reduceDiv, Nat.reduceLeDiff, nc, ↓reduceIte, Nat.zero_le, reduceCtorEq, w32_id, Int.reduceEq, Int.reduceNe, Int.reduceLT, Int.reduceLE, Int.reduceGT, Int.reduceGE, Int.reduceAdd, Int.reduceSub, Int.reduceMul, Int.reduceNeg, ne_eq, not_true_eq_false, not_false_eq_true, eq_self, ↓if_pos, ↓if_neg, J_65_0, k_65_0, J_65_23, k_65_23, J_65_25, k_65_25, J_65_209, k_65_209, J_65_210, k_65_210, r0, h4, h6, q0, e0, e1, e2, e3, e4, e5, e6, e7]
      rw [if_neg (fun w => w7 w.2)] at e7
      by_cases w8 : tW b n p = kl 8
      · rw [if_pos ⟨z, w8⟩] at e8
        have nn : nmB b n CK p = false := decide_eq_false fun w => (nm_no.mp w.2.2).2.2.2.2.2.2.2.2.1 w8
        rw [nn, if_neg (by decide)]
        generalize wc (tW b n p) = wv at h6 q0
        simp (disch := first | assumption | decide | omega | (simp only [List.length_cons, List.length_nil] <;> omega)) only [lgt_0, lgt_s, lset_0, lset_s, lst1_0, lst1_s, lst2_0, lst2_s, ev_iconst, ev_lconst, ev_ldc, ev_null, ev_iload, ev_lload, ev_aload, ev_istore, ev_lstore, ev_astore, ev_iinc, ev_iadd, ev_isub, ev_imul, ev_iand, ev_ior, ev_ishl, ev_ishr, ev_idiv, ev_irem, ev_ineg, ev_ladd, ev_lsub, ev_lmul, ev_land, ev_lor, ev_ldiv, ev_lrem, ev_lshl, ev_i2l, ev_l2i, ev_i2b, ev_i2s, ev_lcmp, ev_dupI, ev_dupR, ev_dup2, ev_popI, ev_popR, ev_alen, ev_xlen, ev_xald, ev_iald, ev_lald, ev_bald, ev_zald, ev_aald, ev_iast, ev_last, ev_bast, ev_zast, ev_aast, ev_gfI, ev_gfL, ev_gfR, ev_pfI, ev_pfZ, ev_pfL, ev_pfR, ev_new, ev_newa, ev_newq, ev_copy, ev_slen, ev_schr, ev_obj, ev_mmin, ev_mabs, ev_mmax, ev_goto, ev_jsr, ev_icmp_eq, ev_if_eq, ev_icmp_ne, ev_if_ne, ev_icmp_lt, ev_if_lt, ev_icmp_ge, ev_if_ge, ev_icmp_gt, ev_if_gt, ev_icmp_le, ev_if_le, ev_ifnull0, ev_ifnull1, ev_ifnn0, ev_ifnn1, ev_tsw, ev_lsw, ev_iret, ev_zret, ev_lret, ev_aret, ev_ret, ev_call0, ev_call1, ev_call2, ev_call3, ev_call4, ev_call5, ev_call6, Option.toList_some, Option.toList_none, List.cons_append, List.nil_append, List.length_cons, List.length_nil, Nat.reduceMod, Nat.reduceDiv, Nat.reduceLeDiff, nc, ↓reduceIte, Nat.zero_le, reduceCtorEq, w32_id, Int.reduceEq, Int.reduceNe, Int.reduceLT, Int.reduceLE, Int.reduceGT, Int.reduceGE, Int.reduceAdd, Int.reduceSub, Int.reduceMul, Int.reduceNeg, ne_eq, not_true_eq_false, not_false_eq_true, eq_self, ↓if_pos, ↓if_neg, J_65_0, k_65_0, J_65_23, k_65_23, J_65_25, k_65_25, J_65_209, k_65_209, J_65_210, k_65_210, r0, h4, h6, q0, e0, e1, e2, e3, e4, e5, e6, e7, e8]
      rw [if_neg (fun w => w8 w.2)] at e8
      by_cases w9 : tW b n p = kl 9
      · rw [if_pos ⟨z, w9⟩] at e9
        have nn : nmB b n CK p = false := decide_eq_false fun w => (nm_no.mp w.2.2).2.2.2.2.2.2.2.2.2.1 w9
        rw [nn, if_neg (by decide)]
        generalize wc (tW b n p) = wv at h6 q0
        simp (disch := first | assumption | decide | omega | (simp only [List.length_cons, List.length_nil] <;> omega)) only [lgt_0, lgt_s, lset_0, lset_s, lst1_0, lst1_s, lst2_0, lst2_s, ev_iconst, ev_lconst, ev_ldc, ev_null, ev_iload, ev_lload, ev_aload, ev_istore, ev_lstore, ev_astore, ev_iinc, ev_iadd, ev_isub, ev_imul, ev_iand, ev_ior, ev_ishl, ev_ishr, ev_idiv, ev_irem, ev_ineg, ev_ladd, ev_lsub, ev_lmul, ev_land, ev_lor, ev_ldiv, ev_lrem, ev_lshl, ev_i2l, ev_l2i, ev_i2b, ev_i2s, ev_lcmp, ev_dupI, ev_dupR, ev_dup2, ev_popI, ev_popR, ev_alen, ev_xlen, ev_xald, ev_iald, ev_lald, ev_bald, ev_zald, ev_aald, ev_iast, ev_last, ev_bast, ev_zast, ev_aast, ev_gfI, ev_gfL, ev_gfR, ev_pfI, ev_pfZ, ev_pfL, ev_pfR, ev_new, ev_newa, ev_newq, ev_copy, ev_slen, ev_schr, ev_obj, ev_mmin, ev_mabs, ev_mmax, ev_goto, ev_jsr, ev_icmp_eq, ev_if_eq, ev_icmp_ne, ev_if_ne, ev_icmp_lt, ev_if_lt, ev_icmp_ge, ev_if_ge, ev_icmp_gt, ev_if_gt, ev_icmp_le, ev_if_le, ev_ifnull0, ev_ifnull1, ev_ifnn0, ev_ifnn1, ev_tsw, ev_lsw, ev_iret, ev_zret, ev_lret, ev_aret, ev_ret, ev_call0, ev_call1, ev_call2, ev_call3, ev_call4, ev_call5, ev_call6, Option.toList_some, Option.toList_none, List.cons_append, List.nil_append, List.length_cons, List.length_nil, Nat.reduceMod, Nat.reduceDiv, Nat.reduceLeDiff, nc, ↓reduceIte, Nat.zero_le, reduceCtorEq, w32_id, Int.reduceEq, Int.reduceNe, Int.reduceLT, Int.reduceLE, Int.reduceGT, Int.reduceGE, Int.reduceAdd, Int.reduceSub, Int.reduceMul, Int.reduceNeg, ne_eq, not_true_eq_false, not_false_eq_true, eq_self, ↓if_pos, ↓if_neg, J_65_0, k_65_0, J_65_23, k_65_23, J_65_25, k_65_25, J_65_209, k_65_209, J_65_210, k_65_210, r0, h4, h6, q0, e0, e1, e2, e3, e4, e5, e6, e7, e8, e9]
      rw [if_neg (fun w => w9 w.2)] at e9
      by_cases w10 : tW b n p = kl 10
      · rw [if_pos ⟨z, w10⟩] at e10
        have nn : nmB b n CK p = false := decide_eq_false fun w => (nm_no.mp w.2.2).2.2.2.2.2.2.2.2.2.2.1 w10
        rw [nn, if_neg (by decide)]
        generalize wc (tW b n p) = wv at h6 q0
        simp (disch := first | assumption | decide | omega | (simp only [List.length_cons, List.length_nil] <;> omega)) only [lgt_0, lgt_s, lset_0, lset_s, lst1_0, lst1_s, lst2_0, lst2_s, ev_iconst, ev_lconst, ev_ldc, ev_null, ev_iload, ev_lload, ev_aload, ev_istore, ev_lstore, ev_astore, ev_iinc, ev_iadd, ev_isub, ev_imul, ev_iand, ev_ior, ev_ishl, ev_ishr, ev_idiv, ev_irem, ev_ineg, ev_ladd, ev_lsub, ev_lmul, ev_land, ev_lor, ev_ldiv, ev_lrem, ev_lshl, ev_i2l, ev_l2i, ev_i2b, ev_i2s, ev_lcmp, ev_dupI, ev_dupR, ev_dup2, ev_popI, ev_popR, ev_alen, ev_xlen, ev_xald, ev_iald, ev_lald, ev_bald, ev_zald, ev_aald, ev_iast, ev_last, ev_bast, ev_zast, ev_aast, ev_gfI, ev_gfL, ev_gfR, ev_pfI, ev_pfZ, ev_pfL, ev_pfR, ev_new, ev_newa, ev_newq, ev_copy, ev_slen, ev_schr, ev_obj, ev_mmin, ev_mabs, ev_mmax, ev_goto, ev_jsr, ev_icmp_eq, ev_if_eq, ev_icmp_ne, ev_if_ne, ev_icmp_lt, ev_if_lt, ev_icmp_ge, ev_if_ge, ev_icmp_gt, ev_if_gt, ev_icmp_le, ev_if_le, ev_ifnull0, ev_ifnull1, ev_ifnn0, ev_ifnn1, ev_tsw, ev_lsw, ev_iret, ev_zret, ev_lret, ev_aret, ev_ret, ev_call0, ev_call1, ev_call2, ev_call3, ev_call4, ev_call5, ev_call6, Option.toList_some, Option.toList_none, List.cons_append, List.nil_append, List.length_cons, List.length_nil, Nat.reduceMod, Nat.reduceDiv, Nat.reduceLeDiff, nc, ↓reduceIte, Nat.zero_le, reduceCtorEq, w32_id, Int.reduceEq, Int.reduceNe, Int.reduceLT, Int.reduceLE, Int.reduceGT, Int.reduceGE, Int.reduceAdd, Int.reduceSub, Int.reduceMul, Int.reduceNeg, ne_eq, not_true_eq_false, not_false_eq_true, eq_self, ↓if_pos, ↓if_neg, J_65_0, k_65_0, J_65_23, k_65_23, J_65_25, k_65_25, J_65_209, k_65_209, J_65_210, k_65_210, r0, h4, h6, q0, e0, e1, e2, e3, e4, e5, e6, e7, e8, e9, e10]
      rw [if_neg (fun w => w10 w.2)] at e10
      by_cases w11 : tW b n p = kl 11
      · rw [if_pos ⟨z, w11⟩] at e11
        have nn : nmB b n CK p = false := decide_eq_false fun w => (nm_no.mp w.2.2).2.2.2.2.2.2.2.2.2.2.2.1 w11
        rw [nn, if_neg (by decide)]
        generalize wc (tW b n p) = wv at h6 q0
        simp (disch := first | assumption | decide | omega | (simp only [List.length_cons, List.length_nil] <;> omega)) only [lgt_0, lgt_s, lset_0, lset_s, lst1_0, lst1_s, lst2_0, lst2_s, ev_iconst, ev_lconst, ev_ldc, ev_null, ev_iload, ev_lload, ev_aload, ev_istore, ev_lstore, ev_astore, ev_iinc, ev_iadd, ev_isub, ev_imul, ev_iand, ev_ior, ev_ishl, ev_ishr, ev_idiv, ev_irem, ev_ineg, ev_ladd, ev_lsub, ev_lmul, ev_land, ev_lor, ev_ldiv, ev_lrem, ev_lshl, ev_i2l, ev_l2i, ev_i2b, ev_i2s, ev_lcmp, ev_dupI, ev_dupR, ev_dup2, ev_popI, ev_popR, ev_alen, ev_xlen, ev_xald, ev_iald, ev_lald, ev_bald, ev_zald, ev_aald, ev_iast, ev_last, ev_bast, ev_zast, ev_aast, ev_gfI, ev_gfL, ev_gfR, ev_pfI, ev_pfZ, ev_pfL, ev_pfR, ev_new, ev_newa, ev_newq, ev_copy, ev_slen, ev_schr, ev_obj, ev_mmin, ev_mabs, ev_mmax, ev_goto, ev_jsr, ev_icmp_eq, ev_if_eq, ev_icmp_ne, ev_if_ne, ev_icmp_lt, ev_if_lt, ev_icmp_ge, ev_if_ge, ev_icmp_gt, ev_if_gt, ev_icmp_le, ev_if_le, ev_ifnull0, ev_ifnull1, ev_ifnn0, ev_ifnn1, ev_tsw, ev_lsw, ev_iret, ev_zret, ev_lret, ev_aret, ev_ret, ev_call0, ev_call1, ev_call2, ev_call3, ev_call4, ev_call5, ev_call6, Option.toList_some, Option.toList_none, List.cons_append, List.nil_append, List.length_cons, List.length_nil, Nat.reduceMod, Nat.reduceDiv, Nat.reduceLeDiff, nc, ↓reduceIte, Nat.zero_le, reduceCtorEq, w32_id, Int.reduceEq, Int.reduceNe, Int.reduceLT, Int.reduceLE, Int.reduceGT, Int.reduceGE, Int.reduceAdd, Int.reduceSub, Int.reduceMul, Int.reduceNeg, ne_eq, not_true_eq_false, not_false_eq_true, eq_self, ↓if_pos, ↓if_neg, J_65_0, k_65_0, J_65_23, k_65_23, J_65_25, k_65_25, J_65_209, k_65_209, J_65_210, k_65_210, r0, h4, h6, q0, e0, e1, e2, e3, e4, e5, e6, e7, e8, e9, e10, e11]
      rw [if_neg (fun w => w11 w.2)] at e11
      by_cases w12 : tW b n p = kl 12
      · rw [if_pos ⟨z, w12⟩] at e12
        have nn : nmB b n CK p = false := decide_eq_false fun w => (nm_no.mp w.2.2).2.2.2.2.2.2.2.2.2.2.2.2.1 w12
        rw [nn, if_neg (by decide)]
        generalize wc (tW b n p) = wv at h6 q0
        simp (disch := first | assumption | decide | omega | (simp only [List.length_cons, List.length_nil] <;> omega)) only [lgt_0, lgt_s, lset_0, lset_s, lst1_0, lst1_s, lst2_0, lst2_s, ev_iconst, ev_lconst, ev_ldc, ev_null, ev_iload, ev_lload, ev_aload, ev_istore, ev_lstore, ev_astore, ev_iinc, ev_iadd, ev_isub, ev_imul, ev_iand, ev_ior, ev_ishl, ev_ishr, ev_idiv, ev_irem, ev_ineg, ev_ladd, ev_lsub, ev_lmul, ev_land, ev_lor, ev_ldiv, ev_lrem, ev_lshl, ev_i2l, ev_l2i, ev_i2b, ev_i2s, ev_lcmp, ev_dupI, ev_dupR, ev_dup2, ev_popI, ev_popR, ev_alen, ev_xlen, ev_xald, ev_iald, ev_lald, ev_bald, ev_zald, ev_aald, ev_iast, ev_last, ev_bast, ev_zast, ev_aast, ev_gfI, ev_gfL, ev_gfR, ev_pfI, ev_pfZ, ev_pfL, ev_pfR, ev_new, ev_newa, ev_newq, ev_copy, ev_slen, ev_schr, ev_obj, ev_mmin, ev_mabs, ev_mmax, ev_goto, ev_jsr, ev_icmp_eq, ev_if_eq, ev_icmp_ne, ev_if_ne, ev_icmp_lt, ev_if_lt, ev_icmp_ge, ev_if_ge, ev_icmp_gt, ev_if_gt, ev_icmp_le, ev_if_le, ev_ifnull0, ev_ifnull1, ev_ifnn0, ev_ifnn1, ev_tsw, ev_lsw, ev_iret, ev_zret, ev_lret, ev_aret, ev_ret, ev_call0, ev_call1, ev_call2, ev_call3, ev_call4, ev_call5, ev_call6, Option.toList_some, Option.toList_none, List.cons_append, List.nil_append, List.length_cons, List.length_nil, Nat.reduceMod, Nat.reduceDiv, Nat.reduceLeDiff, nc, ↓reduceIte, Nat.zero_le, reduceCtorEq, w32_id, Int.reduceEq, Int.reduceNe, Int.reduceLT, Int.reduceLE, Int.reduceGT, Int.reduceGE, Int.reduceAdd, Int.reduceSub, Int.reduceMul, Int.reduceNeg, ne_eq, not_true_eq_false, not_false_eq_true, eq_self, ↓if_pos, ↓if_neg, J_65_0, k_65_0, J_65_23, k_65_23, J_65_25, k_65_25, J_65_209, k_65_209, J_65_210, k_65_210, r0, h4, h6, q0, e0, e1, e2, e3, e4, e5, e6, e7, e8, e9, e10, e11, e12]
      rw [if_neg (fun w => w12 w.2)] at e12
      by_cases w13 : tW b n p = kl 13
      · rw [if_pos ⟨z, w13⟩] at e13
        have nn : nmB b n CK p = false := decide_eq_false fun w => (nm_no.mp w.2.2).2.2.2.2.2.2.2.2.2.2.2.2.2.1 w13
        rw [nn, if_neg (by decide)]
        generalize wc (tW b n p) = wv at h6 q0
        simp (disch := first | assumption | decide | omega | (simp only [List.length_cons, List.length_nil] <;> omega)) only [lgt_0, lgt_s, lset_0, lset_s, lst1_0, lst1_s, lst2_0, lst2_s, ev_iconst, ev_lconst, ev_ldc, ev_null, ev_iload, ev_lload, ev_aload, ev_istore, ev_lstore, ev_astore, ev_iinc, ev_iadd, ev_isub, ev_imul, ev_iand, ev_ior, ev_ishl, ev_ishr, ev_idiv, ev_irem, ev_ineg, ev_ladd, ev_lsub, ev_lmul, ev_land, ev_lor, ev_ldiv, ev_lrem, ev_lshl, ev_i2l, ev_l2i, ev_i2b, ev_i2s, ev_lcmp, ev_dupI, ev_dupR, ev_dup2, ev_popI, ev_popR, ev_alen, ev_xlen, ev_xald, ev_iald, ev_lald, ev_bald, ev_zald, ev_aald, ev_iast, ev_last, ev_bast, ev_zast, ev_aast, ev_gfI, ev_gfL, ev_gfR, ev_pfI, ev_pfZ, ev_pfL, ev_pfR, ev_new, ev_newa, ev_newq, ev_copy, ev_slen, ev_schr, ev_obj, ev_mmin, ev_mabs, ev_mmax, ev_goto, ev_jsr, ev_icmp_eq, ev_if_eq, ev_icmp_ne, ev_if_ne, ev_icmp_lt, ev_if_lt, ev_icmp_ge, ev_if_ge, ev_icmp_gt, ev_if_gt, ev_icmp_le, ev_if_le, ev_ifnull0, ev_ifnull1, ev_ifnn0, ev_ifnn1, ev_tsw, ev_lsw, ev_iret, ev_zret, ev_lret, ev_aret, ev_ret, ev_call0, ev_call1, ev_call2, ev_call3, ev_call4, ev_call5, ev_call6, Option.toList_some, Option.toList_none, List.cons_append, List.nil_append, List.length_cons, List.length_nil, Nat.reduceMod, Nat.reduceDiv, Nat.reduceLeDiff, nc, ↓reduceIte, Nat.zero_le, reduceCtorEq, w32_id, Int.reduceEq, Int.reduceNe, Int.reduceLT, Int.reduceLE, Int.reduceGT, Int.reduceGE, Int.reduceAdd, Int.reduceSub, Int.reduceMul, Int.reduceNeg, ne_eq, not_true_eq_false, not_false_eq_true, eq_self, ↓if_pos, ↓if_neg, J_65_0, k_65_0, J_65_23, k_65_23, J_65_25, k_65_25, J_65_209, k_65_209, J_65_210, k_65_210, r0, h4, h6, q0, e0, e1, e2, e3, e4, e5, e6, e7, e8, e9, e10, e11, e12, e13]
      rw [if_neg (fun w => w13 w.2)] at e13
      by_cases w14 : tW b n p = kl 14
      · rw [if_pos ⟨z, w14⟩] at e14
        have nn : nmB b n CK p = false := decide_eq_false fun w => (nm_no.mp w.2.2).2.2.2.2.2.2.2.2.2.2.2.2.2.2 w14
        rw [nn, if_neg (by decide)]
        generalize wc (tW b n p) = wv at h6 q0
        simp (disch := first | assumption | decide | omega | (simp only [List.length_cons, List.length_nil] <;> omega)) only [lgt_0, lgt_s, lset_0, lset_s, lst1_0, lst1_s, lst2_0, lst2_s, ev_iconst, ev_lconst, ev_ldc, ev_null, ev_iload, ev_lload, ev_aload, ev_istore, ev_lstore, ev_astore, ev_iinc, ev_iadd, ev_isub, ev_imul, ev_iand, ev_ior, ev_ishl, ev_ishr, ev_idiv, ev_irem, ev_ineg, ev_ladd, ev_lsub, ev_lmul, ev_land, ev_lor, ev_ldiv, ev_lrem, ev_lshl, ev_i2l, ev_l2i, ev_i2b, ev_i2s, ev_lcmp, ev_dupI, ev_dupR, ev_dup2, ev_popI, ev_popR, ev_alen, ev_xlen, ev_xald, ev_iald, ev_lald, ev_bald, ev_zald, ev_aald, ev_iast, ev_last, ev_bast, ev_zast, ev_aast, ev_gfI, ev_gfL, ev_gfR, ev_pfI, ev_pfZ, ev_pfL, ev_pfR, ev_new, ev_newa, ev_newq, ev_copy, ev_slen, ev_schr, ev_obj, ev_mmin, ev_mabs, ev_mmax, ev_goto, ev_jsr, ev_icmp_eq, ev_if_eq, ev_icmp_ne, ev_if_ne, ev_icmp_lt, ev_if_lt, ev_icmp_ge, ev_if_ge, ev_icmp_gt, ev_if_gt, ev_icmp_le, ev_if_le, ev_ifnull0, ev_ifnull1, ev_ifnn0, ev_ifnn1, ev_tsw, ev_lsw, ev_iret, ev_zret, ev_lret, ev_aret, ev_ret, ev_call0, ev_call1, ev_call2, ev_call3, ev_call4, ev_call5, ev_call6, Option.toList_some, Option.toList_none, List.cons_append, List.nil_append, List.length_cons, List.length_nil, Nat.reduceMod, Nat.reduceDiv, Nat.reduceLeDiff, nc, ↓reduceIte, Nat.zero_le, reduceCtorEq, w32_id, Int.reduceEq, Int.reduceNe, Int.reduceLT, Int.reduceLE, Int.reduceGT, Int.reduceGE, Int.reduceAdd, Int.reduceSub, Int.reduceMul, Int.reduceNeg, ne_eq, not_true_eq_false, not_false_eq_true, eq_self, ↓if_pos, ↓if_neg, J_65_0, k_65_0, J_65_23, k_65_23, J_65_25, k_65_25, J_65_209, k_65_209, J_65_210, k_65_210, r0, h4, h6, q0, e0, e1, e2, e3, e4, e5, e6, e7, e8, e9, e10, e11, e12, e13, e14]
      rw [if_neg (fun w => w14 w.2)] at e14
      have nn : nmB b n CK p = true := decide_eq_true ⟨z, y, nm_no.mpr ⟨w0, w1, w2, w3, w4, w5, w6, w7, w8, w9, w10, w11, w12, w13, w14⟩⟩
      rw [nn, if_pos rfl]
      generalize wc (tW b n p) = wv at h6 q0
      simp (disch := first | assumption | decide | omega | (simp only [List.length_cons, List.length_nil] <;> omega)) only [lgt_0, lgt_s, lset_0, lset_s, lst1_0, lst1_s, lst2_0, lst2_s, ev_iconst, ev_lconst, ev_ldc, ev_null, ev_iload, ev_lload, ev_aload, ev_istore, ev_lstore, ev_astore, ev_iinc, ev_iadd, ev_isub, ev_imul, ev_iand, ev_ior, ev_ishl, ev_ishr, ev_idiv, ev_irem, ev_ineg, ev_ladd, ev_lsub, ev_lmul, ev_land, ev_lor, ev_ldiv, ev_lrem, ev_lshl, ev_i2l, ev_l2i, ev_i2b, ev_i2s, ev_lcmp, ev_dupI, ev_dupR, ev_dup2, ev_popI, ev_popR, ev_alen, ev_xlen, ev_xald, ev_iald, ev_lald, ev_bald, ev_zald, ev_aald, ev_iast, ev_last, ev_bast, ev_zast, ev_aast, ev_gfI, ev_gfL, ev_gfR, ev_pfI, ev_pfZ, ev_pfL, ev_pfR, ev_new, ev_newa, ev_newq, ev_copy, ev_slen, ev_schr, ev_obj, ev_mmin, ev_mabs, ev_mmax, ev_goto, ev_jsr, ev_icmp_eq, ev_if_eq, ev_icmp_ne, ev_if_ne, ev_icmp_lt, ev_if_lt, ev_icmp_ge, ev_if_ge, ev_icmp_gt, ev_if_gt, ev_icmp_le, ev_if_le, ev_ifnull0, ev_ifnull1, ev_ifnn0, ev_ifnn1, ev_tsw, ev_lsw, ev_iret, ev_zret, ev_lret, ev_aret, ev_ret, ev_call0, ev_call1, ev_call2, ev_call3, ev_call4, ev_call5, ev_call6, Option.toList_some, Option.toList_none, List.cons_append, List.nil_append, List.length_cons, List.length_nil, Nat.reduceMod, Nat.reduceDiv, Nat.reduceLeDiff, nc, ↓reduceIte, Nat.zero_le, reduceCtorEq, w32_id, Int.reduceEq, Int.reduceNe, Int.reduceLT, Int.reduceLE, Int.reduceGT, Int.reduceGE, Int.reduceAdd, Int.reduceSub, Int.reduceMul, Int.reduceNeg, ne_eq, not_true_eq_false, not_false_eq_true, eq_self, ↓if_pos, ↓if_neg, J_65_0, k_65_0, J_65_23, k_65_23, J_65_25, k_65_25, J_65_209, k_65_209, J_65_210, k_65_210, r0, h4, h6, q0, e0, e1, e2, e3, e4, e5, e6, e7, e8, e9, e10, e11, e12, e13, e14]
    · have nn : nmB b n CK p = false := decide_eq_false fun w => y w.2.1
      rw [nn, if_neg (by decide)]
      have wz : wc (tW b n p) = 0 := if_pos (by omega)
      rw [wz] at h6
      simp (disch := first | assumption | decide | omega | (simp only [List.length_cons, List.length_nil] <;> omega)) only [lgt_0, lgt_s, lset_0, lset_s, lst1_0, lst1_s, lst2_0, lst2_s, ev_iconst, ev_lconst, ev_ldc, ev_null, ev_iload, ev_lload, ev_aload, ev_istore, ev_lstore, ev_astore, ev_iinc, ev_iadd, ev_isub, ev_imul, ev_iand, ev_ior, ev_ishl, ev_ishr, ev_idiv, ev_irem, ev_ineg, ev_ladd, ev_lsub, ev_lmul, ev_land, ev_lor, ev_ldiv, ev_lrem, ev_lshl, ev_i2l, ev_l2i, ev_i2b, ev_i2s, ev_lcmp, ev_dupI, ev_dupR, ev_dup2, ev_popI, ev_popR, ev_alen, ev_xlen, ev_xald, ev_iald, ev_lald, ev_bald, ev_zald, ev_aald, ev_iast, ev_last, ev_bast, ev_zast, ev_aast, ev_gfI, ev_gfL, ev_gfR, ev_pfI, ev_pfZ, ev_pfL, ev_pfR, ev_new, ev_newa, ev_newq, ev_copy, ev_slen, ev_schr, ev_obj, ev_mmin, ev_mabs, ev_mmax, ev_goto, ev_jsr, ev_icmp_eq, ev_if_eq, ev_icmp_ne, ev_if_ne, ev_icmp_lt, ev_if_lt, ev_icmp_ge, ev_if_ge, ev_icmp_gt, ev_if_gt, ev_icmp_le, ev_if_le, ev_ifnull0, ev_ifnull1, ev_ifnn0, ev_ifnn1, ev_tsw, ev_lsw, ev_iret, ev_zret, ev_lret, ev_aret, ev_ret, ev_call0, ev_call1, ev_call2, ev_call3, ev_call4, ev_call5, ev_call6, Option.toList_some, Option.toList_none, List.cons_append, List.nil_append, List.length_cons, List.length_nil, Nat.reduceMod, Nat.reduceDiv, Nat.reduceLeDiff, nc, ↓reduceIte, Nat.zero_le, reduceCtorEq, w32_id, Int.reduceEq, Int.reduceNe, Int.reduceLT, Int.reduceLE, Int.reduceGT, Int.reduceGE, Int.reduceAdd, Int.reduceSub, Int.reduceMul, Int.reduceNeg, ne_eq, not_true_eq_false, not_false_eq_true, eq_self, ↓if_pos, ↓if_neg, J_65_0, k_65_0, J_65_23, k_65_23, J_65_25, k_65_25, J_65_209, k_65_209, J_65_210, k_65_210, r0, h4, h6, Int.lt_irrefl]
  · have nn : nmB b n CK p = false := decide_eq_false fun w => z w.1
    rw [nn, if_neg (by decide)]
    have q : ¬ M 2 4 = 4 := by rw [h4, i.1]; exact z
    simp (disch := first | assumption | decide | omega | (simp only [List.length_cons, List.length_nil] <;> omega)) only [lgt_0, lgt_s, lset_0, lset_s, lst1_0, lst1_s, lst2_0, lst2_s, ev_iconst, ev_lconst, ev_ldc, ev_null, ev_iload, ev_lload, ev_aload, ev_istore, ev_lstore, ev_astore, ev_iinc, ev_iadd, ev_isub, ev_imul, ev_iand, ev_ior, ev_ishl, ev_ishr, ev_idiv, ev_irem, ev_ineg, ev_ladd, ev_lsub, ev_lmul, ev_land, ev_lor, ev_ldiv, ev_lrem, ev_lshl, ev_i2l, ev_l2i, ev_i2b, ev_i2s, ev_lcmp, ev_dupI, ev_dupR, ev_dup2, ev_popI, ev_popR, ev_alen, ev_xlen, ev_xald, ev_iald, ev_lald, ev_bald, ev_zald, ev_aald, ev_iast, ev_last, ev_bast, ev_zast, ev_aast, ev_gfI, ev_gfL, ev_gfR, ev_pfI, ev_pfZ, ev_pfL, ev_pfR, ev_new, ev_newa, ev_newq, ev_copy, ev_slen, ev_schr, ev_obj, ev_mmin, ev_mabs, ev_mmax, ev_goto, ev_jsr, ev_icmp_eq, ev_if_eq, ev_icmp_ne, ev_if_ne, ev_icmp_lt, ev_if_lt, ev_icmp_ge, ev_if_ge, ev_icmp_gt, ev_if_gt, ev_icmp_le, ev_if_le, ev_ifnull0, ev_ifnull1, ev_ifnn0, ev_ifnn1, ev_tsw, ev_lsw, ev_iret, ev_zret, ev_lret, ev_aret, ev_ret, ev_call0, ev_call1, ev_call2, ev_call3, ev_call4, ev_call5, ev_call6, Option.toList_some, Option.toList_none, List.cons_append, List.nil_append, List.length_cons, List.length_nil, Nat.reduceMod, Nat.reduceDiv, Nat.reduceLeDiff, nc, ↓reduceIte, Nat.zero_le, reduceCtorEq, w32_id, Int.reduceEq, Int.reduceNe, Int.reduceLT, Int.reduceLE, Int.reduceGT, Int.reduceGE, Int.reduceAdd, Int.reduceSub, Int.reduceMul, Int.reduceNeg, ne_eq, not_true_eq_false, not_false_eq_true, eq_self, ↓if_pos, ↓if_neg, J_65_0, k_65_0, J_65_23, k_65_23, J_65_25, k_65_25, J_65_209, k_65_209, J_65_210, k_65_210, r0, q]
end RDR
