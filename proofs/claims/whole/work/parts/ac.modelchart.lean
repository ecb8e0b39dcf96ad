/-! CHARTS: the model reads. -/
section PER
variable {b : Int → Int} {n p : Int} {d : DS} {e : Int × Int}
theorem pWord_er {w : List Int} (h : pWord b n w p = .error e) : 0 < e.1 := by
  unfold pWord at h
  split at h
  · injection h with h; subst h; simp
  · split at h
    · injection h
    · injection h with h; subst h; simp
theorem pSign_er (h : pSign b n p = .error e) : 0 < e.1 := by
  unfold pSign at h
  split at h
  · injection h with h; subst h; simp
  · split at h
    · injection h
    · injection h with h; subst h; simp
theorem pNum_er {lo hi : Int} (h : pNum b n lo hi p = .error e) : 0 < e.1 := by
  unfold pNum at h
  split at h
  · injection h with h; subst h; simp
  · split at h
    · split at h
      · injection h
      · injection h with h; subst h; simp
    · injection h with h; subst h; simp
theorem bnd_er {α β : Type} {x : PE α} {f : α → PE β} (h : bnd x f = .error e) : x = .error e ∨ ∃ a, x = .ok a ∧ f a = .error e := by
  cases x with
  | error e' =>
    have h' : (.error e' : PE β) = .error e := h
    injection h' with h'
    subst h'
    exact Or.inl rfl
  | ok a => exact Or.inr ⟨a, rfl, h⟩
theorem pSet_er {s lo hi : Int} (h : pSet b n s lo hi d p = .error e) : 0 < e.1 := by
  unfold pSet at h
  split at h
  · injection h with h; subst h; simp
  · rcases bnd_er h with h | ⟨r, _, h⟩
    · exact pNum_er h
    · rcases bnd_er h with h | ⟨q, _, h⟩
      · exact pSign_er h
      · injection h
theorem pPri_er {s lo hi mc : Int} (h : pPri b n s lo hi mc d p = .error e) : 0 < e.1 := by
  unfold pPri at h
  split at h
  · injection h with h; subst h; simp
  · rcases bnd_er h with h | ⟨r, _, h⟩
    · exact pNum_er h
    rcases bnd_er h with h | ⟨r, _, h⟩
    · exact pWord_er h
    rcases bnd_er h with h | ⟨r, _, h⟩
    · exact pNum_er h
    rcases bnd_er h with h | ⟨q, _, h⟩
    · exact pSign_er h
    · injection h
theorem pRnd_er (h : pRnd b n d p = .error e) : 0 < e.1 := by
  unfold pRnd at h
  split at h
  · injection h with h; subst h; simp
  · rcases bnd_er h with h | ⟨q, _, h⟩
    · exact pSign_er h
    · injection h
theorem pCol_er (h : pCol b n d p = .error e) : 0 < e.1 := by
  unfold pCol at h
  split at h
  · injection h with h; subst h; simp
  unfold pCol1 at h
  split at h
  · injection h with h; subst h; simp
  split at h
  · injection h with h; subst h; simp
  split at h
  · injection h with h; subst h; simp
  unfold pCol2 at h
  rcases bnd_er h with h | ⟨r, _, h⟩
  · exact pWord_er h
  rcases bnd_er h with h | ⟨r, _, h⟩
  · exact pNum_er h
  rcases bnd_er h with h | ⟨r, _, h⟩
  · exact pWord_er h
  rcases bnd_er h with h | ⟨r, _, h⟩
  · exact pNum_er h
  rcases bnd_er h with h | ⟨r, _, h⟩
  · exact pSign_er h
  · injection h
theorem pSts_er : ∀ (f : Nat) (x : Int) (d : DS) (p : Int), x + f = d.1 0 + 1 → x ≤ d.1 0 → pSts b n f x d p = .error e → 0 < e.1
  | 0, x, d, p, hx, x1, _ => by omega
  | f + 1, x, d, p, hx, x1, h => by
    unfold pSts at h
    split at h
    · injection h with h; subst h; simp
    split at h
    · split at h
      · injection h
      · injection h with h; subst h; simp
    split at h
    · injection h with h; subst h; simp
    split at h
    · injection h with h; subst h; simp
    split at h
    · injection h with h; subst h; simp
    · exact pSts_er f (x + 1) _ _ (by show x + 1 + (f : Int) = d.1 0 + 1; omega) (by show x + 1 ≤ d.1 0; omega) h
theorem pPart_er (g0 : 0 ≤ d.1 0) (h : pPart b n d p = .error e) : 0 < e.1 := by
  unfold pPart at h
  split at h
  · exact pCol_er h
  split at h
  · unfold pRow at h
    split at h
    · injection h with h; subst h; simp
    · exact pSts_er _ 0 d _ (by omega) g0 h
  split at h
  · exact pSet_er h
  split at h
  · exact pPri_er h
  split at h
  · exact pSet_er h
  split at h
  · exact pPri_er h
  split at h
  · exact pPri_er h
  split at h
  · exact pSet_er h
  split at h
  · exact pSet_er h
  split at h
  · exact pSet_er h
  split at h
  · exact pRnd_er h
  · injection h with h; subst h; simp
end PER
def nsF (k : Int) : Int := if k = 15 ∨ (80 ≤ k ∧ k < 128) then -1 else dS0 k
theorem dS0_big {k : Int} (h : 15 < k) : dS0 k = 0 := by
  unfold dS0
  rw [if_neg (by omega), if_neg (by omega), if_neg (by omega), if_neg (by omega), if_neg (by omega), if_neg (by omega), if_neg (by omega), if_neg (by omega)]
section MCH2
variable {X : Int → Int} {M : Mem} {b : Int → Int} {n p : Int} {d : DS}
theorem d_begins (g : gT b n) (hb : ∀ k, 0 ≤ k → k < n → M 146 k = b k) (ht : n ≤ M 140 10) {mx : Int} (hm : n ≤ mx) : ∃ M', (∀ c, c ≠ 140 → c ≠ 147 → M' c = M c) ∧ (∀ i, (i < 10 ∨ i = 16 ∨ 19 < i) → M' 140 i = M 140 i) ∧ M' 140 10 = 0 ∧ M' 140 19 = 0 ∧ mAt M' b n 0 ∧ mCl M' ∧ evc X 241 [vR (some 140), vI n, vI mx] SH0 M = some (some (vI 1), SH0, M') := by
  have mk0 := w0_k140
  have hmd := w0_md140
  obtain ⟨r_tape, k_tape, l_tape⟩ := md_tape w0_md140; obtain ⟨r_text, k_text, l_text⟩ := md_text w0_md140
  have n8 := g.1
  obtain ⟨ls', Ma, ⟨hls, fr, f11, i2⟩, he⟩ := ev_for (X := X) (y := 241) (Sh := SH0) (fun i ls M' => ls = [some (vR (some 140)), some (vI n), some (vI mx), some (vI (i : Int))] ∧ (∀ c, c ≠ 140 → c ≠ 147 → M' c = M c) ∧ M' 140 = up M 140 11 n 140 ∧ (∀ j : Int, 0 ≤ j → j < i → M' 147 j = b j)) J_241_26 n.toNat (fun i hi ls M' hI => by
    obtain ⟨hls, fr, f11, i2⟩ := hI
    subst hls
    have e := hb i (by omega) (by omega)
    have gb := g.2 i (by omega) (by omega)
    have e' : M' 146 (i : Int) = b i := by rw [fr 146 (by omega) (by omega)]; exact e
    refine ⟨_, up M' 147 (i : Int) (b i), ⟨rfl, fun c c0 c1 => by rw [up_ne c1]; exact fr c c0 c1, by rw [up_ne (by omega)]; exact f11, fun j j0 j1 => ?_⟩, ?_⟩
    · by_cases z : j = i
      · rw [z, up_eq]
      · rw [up_ne2 z]
        exact i2 j j0 (by omega)
    · simp (disch := first | assumption | decide | omega | (simp only [List.length_cons, List.length_nil] <;> omega)) only [lgt_0, lgt_s, lset_0, lset_s, lst1_0, lst1_s, lst2_0, lst2_s, ev_iconst, ev_lconst, ev_ldc, ev_null, ev_iload, ev_lload, ev_aload, ev_istore, ev_lstore, ev_astore, ev_iinc, ev_iadd, ev_isub, ev_imul, ev_iand, ev_ior, ev_ishl, ev_ishr, ev_idiv, ev_irem, ev_ineg, ev_ladd, ev_lsub, ev_lmul, ev_land, ev_lor, ev_ldiv, ev_lrem, ev_lshl, ev_i2l, ev_l2i, ev_i2b, ev_i2s, ev_lcmp, ev_dupI, ev_dupR, ev_dup2, ev_popI, ev_popR, ev_alen, ev_xlen, ev_xald, ev_iald, ev_lald, ev_bald, ev_zald, ev_aald, ev_iast, ev_last, ev_bast, ev_zast, ev_aast, ev_gfI, ev_gfL, ev_gfR, ev_pfI, ev_pfZ, ev_pfL, ev_pfR, ev_new, ev_newa, ev_newq, ev_copy, ev_slen, ev_schr, ev_obj, ev_mmin, ev_mabs, ev_mmax, ev_goto, ev_jsr, ev_icmp_eq, ev_if_eq, ev_icmp_ne, ev_if_ne, ev_icmp_lt, ev_if_lt, ev_icmp_ge, ev_if_ge, ev_icmp_gt, ev_if_gt, ev_icmp_le, ev_if_le, ev_ifnull0, ev_ifnull1, ev_ifnn0, ev_ifnn1, ev_tsw, ev_lsw, ev_iret, ev_zret, ev_lret, ev_aret, ev_ret, ev_call0, ev_call1, ev_call2, ev_call3, ev_call4, ev_call5, ev_call6, Option.toList_some, Option.toList_none, List.cons_append, List.nil_append, List.length_cons, List.length_nil, Nat.reduceMod, Nat.reduceDiv, Nat.reduceLeDiff, nc, ↓reduceIte, Nat.zero_le, reduceCtorEq, w32_id, Int.reduceEq, Int.reduceNe, Int.reduceLT, Int.reduceLE, Int.reduceGT, Int.reduceGE, Int.reduceAdd, Int.reduceSub, Int.reduceMul, Int.reduceNeg, ne_eq, not_true_eq_false, not_false_eq_true, eq_self, ↓if_pos, ↓if_neg, J_241_0, k_241_0, J_241_17, k_241_17, J_241_19, k_241_19, J_241_49, k_241_49, k_241_26, r_tape, r_text, e', nc_s]) [some (vR (some 140)), some (vI n), some (vI mx), some (vI 0)] (up M 140 11 n) ⟨rfl, fun c c0 _ => by rw [up_ne c0], rfl, fun j a c => by omega⟩
  subst hls
  have en : ((n.toNat : Nat) : Int) = n := by omega
  rw [en] at he
  generalize hMb : up (up (up (up (up Ma 140 10 0) 140 18 0) 140 17 (-1)) 140 14 0) 140 19 0 = Mb
  have fb : ∀ c, c ≠ 140 → Mb c = Ma c := fun c hc => by rw [← hMb, up_ne hc, up_ne hc, up_ne hc, up_ne hc, up_ne hc]
  have b2 : ∀ i, i ≠ 10 → i ≠ 18 → i ≠ 17 → i ≠ 14 → i ≠ 19 → Mb 140 i = Ma 140 i := fun i h1 h2 h3 h4 h5 => by rw [← hMb, up_ne2 h5, up_ne2 h4, up_ne2 h3, up_ne2 h2, up_ne2 h1]
  have tx : mTx Mb b n := ⟨by rw [b2 11 (by omega) (by omega) (by omega) (by omega) (by omega), f11, up_eq], fun k k0 k1 => by rw [fb 147 (by omega)]; exact i2 k k0 (by omega)⟩
  have b14 : Mb 140 14 = 0 := by rw [← hMb]; simp (disch := omega) only [up_ne, up_eq, up_ne2]
  have b10 : Mb 140 10 = 0 := by rw [← hMb]; simp (disch := omega) only [up_ne, up_eq, up_ne2]
  have b19 : Mb 140 19 = 0 := by rw [← hMb, up_eq]
  have b18 : Mb 140 18 = 0 := by rw [← hMb]; simp (disch := omega) only [up_ne, up_eq, up_ne2]
  have b17 : Mb 140 17 = -1 := by rw [← hMb]; simp (disch := omega) only [up_ne, up_eq, up_ne2]
  obtain ⟨Mc, fc, ac, ec⟩ := d_ahead (X := X) g tx b14 (Int.le_refl _) n8.1
  refine ⟨Mc, fun c c0 c1 => by rw [fc.1 c c0, fb c c0, fr c c0 c1], fun i hi => ?_, by rw [fc.2 10 (by omega)]; exact b10, by rw [fc.2 19 (by omega)]; exact b19, ac, ⟨by rw [fc.2 18 (by omega)]; exact b18, by rw [fc.2 17 (by omega)]; exact b17⟩, ?_⟩
  · rw [fc.2 i (by omega), b2 i (by omega) (by omega) (by omega) (by omega) (by omega), f11, up_ne2 (by omega)]
  · have q1 : ¬ M 140 10 < n := by omega
    have q2 : n ≤ n := Int.le_refl _
    rw [E_241 mk0]
    simp (disch := first | assumption | decide | omega | (simp only [List.length_cons, List.length_nil] <;> omega)) only [lgt_0, lgt_s, lset_0, lset_s, lst1_0, lst1_s, lst2_0, lst2_s, ev_iconst, ev_lconst, ev_ldc, ev_null, ev_iload, ev_lload, ev_aload, ev_istore, ev_lstore, ev_astore, ev_iinc, ev_iadd, ev_isub, ev_imul, ev_iand, ev_ior, ev_ishl, ev_ishr, ev_idiv, ev_irem, ev_ineg, ev_ladd, ev_lsub, ev_lmul, ev_land, ev_lor, ev_ldiv, ev_lrem, ev_lshl, ev_i2l, ev_l2i, ev_i2b, ev_i2s, ev_lcmp, ev_dupI, ev_dupR, ev_dup2, ev_popI, ev_popR, ev_alen, ev_xlen, ev_xald, ev_iald, ev_lald, ev_bald, ev_zald, ev_aald, ev_iast, ev_last, ev_bast, ev_zast, ev_aast, ev_gfI, ev_gfL, ev_gfR, ev_pfI, ev_pfZ, ev_pfL, ev_pfR, ev_new, ev_newa, ev_newq, ev_copy, ev_slen, ev_schr, ev_obj, ev_mmin, ev_mabs, ev_mmax, ev_goto, ev_jsr, ev_icmp_eq, ev_if_eq, ev_icmp_ne, ev_if_ne, ev_icmp_lt, ev_if_lt, ev_icmp_ge, ev_if_ge, ev_icmp_gt, ev_if_gt, ev_icmp_le, ev_if_le, ev_ifnull0, ev_ifnull1, ev_ifnn0, ev_ifnn1, ev_tsw, ev_lsw, ev_iret, ev_zret, ev_lret, ev_aret, ev_ret, ev_call0, ev_call1, ev_call2, ev_call3, ev_call4, ev_call5, ev_call6, Option.toList_some, Option.toList_none, List.cons_append, List.nil_append, List.length_cons, List.length_nil, Nat.reduceMod, Nat.reduceDiv, Nat.reduceLeDiff, nc, ↓reduceIte, Nat.zero_le, reduceCtorEq, w32_id, Int.reduceEq, Int.reduceNe, Int.reduceLT, Int.reduceLE, Int.reduceGT, Int.reduceGE, Int.reduceAdd, Int.reduceSub, Int.reduceMul, Int.reduceNeg, ne_eq, not_true_eq_false, not_false_eq_true, eq_self, ↓if_pos, ↓if_neg, J_241_0, k_241_0, J_241_17, k_241_17, J_241_19, k_241_19, J_241_49, k_241_49, q1]
    rw [he]
    simp (disch := first | assumption | decide | omega | (simp only [List.length_cons, List.length_nil] <;> omega)) only [lgt_0, lgt_s, lset_0, lset_s, lst1_0, lst1_s, lst2_0, lst2_s, ev_iconst, ev_lconst, ev_ldc, ev_null, ev_iload, ev_lload, ev_aload, ev_istore, ev_lstore, ev_astore, ev_iinc, ev_iadd, ev_isub, ev_imul, ev_iand, ev_ior, ev_ishl, ev_ishr, ev_idiv, ev_irem, ev_ineg, ev_ladd, ev_lsub, ev_lmul, ev_land, ev_lor, ev_ldiv, ev_lrem, ev_lshl, ev_i2l, ev_l2i, ev_i2b, ev_i2s, ev_lcmp, ev_dupI, ev_dupR, ev_dup2, ev_popI, ev_popR, ev_alen, ev_xlen, ev_xald, ev_iald, ev_lald, ev_bald, ev_zald, ev_aald, ev_iast, ev_last, ev_bast, ev_zast, ev_aast, ev_gfI, ev_gfL, ev_gfR, ev_pfI, ev_pfZ, ev_pfL, ev_pfR, ev_new, ev_newa, ev_newq, ev_copy, ev_slen, ev_schr, ev_obj, ev_mmin, ev_mabs, ev_mmax, ev_goto, ev_jsr, ev_icmp_eq, ev_if_eq, ev_icmp_ne, ev_if_ne, ev_icmp_lt, ev_if_lt, ev_icmp_ge, ev_if_ge, ev_icmp_gt, ev_if_gt, ev_icmp_le, ev_if_le, ev_ifnull0, ev_ifnull1, ev_ifnn0, ev_ifnn1, ev_tsw, ev_lsw, ev_iret, ev_zret, ev_lret, ev_aret, ev_ret, ev_call0, ev_call1, ev_call2, ev_call3, ev_call4, ev_call5, ev_call6, Option.toList_some, Option.toList_none, List.cons_append, List.nil_append, List.length_cons, List.length_nil, Nat.reduceMod, Nat.reduceDiv, Nat.reduceLeDiff, nc, ↓reduceIte, Nat.zero_le, reduceCtorEq, w32_id, Int.reduceEq, Int.reduceNe, Int.reduceLT, Int.reduceLE, Int.reduceGT, Int.reduceGE, Int.reduceAdd, Int.reduceSub, Int.reduceMul, Int.reduceNeg, ne_eq, not_true_eq_false, not_false_eq_true, eq_self, ↓if_pos, ↓if_neg, J_241_0, k_241_0, J_241_17, k_241_17, J_241_19, k_241_19, J_241_49, k_241_49, k_241_26, q2, hMb, ec]
theorem d_asNew {s : Int} (hs : 0 ≤ s ∧ s ≤ 1920) : ∃ M', (∀ c, c ≠ 141 → M' c = M c) ∧ (∀ k, (k < s ∨ s + 480 ≤ k) → M' 141 k = M 141 k) ∧ (∀ k, 0 ≤ k → k < 480 → M' 141 (s + k) = nsF k) ∧ evc X 223 [vR (some 140), vI s] SH0 M = some (none, SH0, M') := by
  have mk0 := w0_k140
  have hmd := w0_md140
  obtain ⟨r_at, k_at, l_at⟩ := md_at w0_md140
  obtain ⟨ls', Ma, ⟨hls, fr, f1, i2⟩, he⟩ := ev_for (X := X) (y := 223) (Sh := SH0) (fun i ls M' => ls = [some (vR (some 140)), some (vI s), some (vI (i : Int))] ∧ (∀ c, c ≠ 141 → M' c = M c) ∧ (∀ k, (k < s ∨ s + 480 ≤ k) → M' 141 k = M 141 k) ∧ (∀ j : Int, 0 ≤ j → j < i → M' 141 (s + j) = 0)) J_223_2 480 (fun i hi ls M' hI => by
    obtain ⟨hls, fr, f1, i2⟩ := hI
    subst hls
    refine ⟨_, up M' 141 (s + (i : Int)) 0, ⟨rfl, fun c c0 => by rw [up_ne c0]; exact fr c c0, fun k hk => by rw [up_ne2 (by omega)]; exact f1 k hk, fun j j0 j1 => ?_⟩, ?_⟩
    · by_cases z : j = i
      · rw [z, up_eq]
      · rw [up_ne2 (by omega)]
        exact i2 j j0 (by omega)
    · simp (disch := first | assumption | decide | omega | (simp only [List.length_cons, List.length_nil] <;> omega)) only [lgt_0, lgt_s, lset_0, lset_s, lst1_0, lst1_s, lst2_0, lst2_s, ev_iconst, ev_lconst, ev_ldc, ev_null, ev_iload, ev_lload, ev_aload, ev_istore, ev_lstore, ev_astore, ev_iinc, ev_iadd, ev_isub, ev_imul, ev_iand, ev_ior, ev_ishl, ev_ishr, ev_idiv, ev_irem, ev_ineg, ev_ladd, ev_lsub, ev_lmul, ev_land, ev_lor, ev_ldiv, ev_lrem, ev_lshl, ev_i2l, ev_l2i, ev_i2b, ev_i2s, ev_lcmp, ev_dupI, ev_dupR, ev_dup2, ev_popI, ev_popR, ev_alen, ev_xlen, ev_xald, ev_iald, ev_lald, ev_bald, ev_zald, ev_aald, ev_iast, ev_last, ev_bast, ev_zast, ev_aast, ev_gfI, ev_gfL, ev_gfR, ev_pfI, ev_pfZ, ev_pfL, ev_pfR, ev_new, ev_newa, ev_newq, ev_copy, ev_slen, ev_schr, ev_obj, ev_mmin, ev_mabs, ev_mmax, ev_goto, ev_jsr, ev_icmp_eq, ev_if_eq, ev_icmp_ne, ev_if_ne, ev_icmp_lt, ev_if_lt, ev_icmp_ge, ev_if_ge, ev_icmp_gt, ev_if_gt, ev_icmp_le, ev_if_le, ev_ifnull0, ev_ifnull1, ev_ifnn0, ev_ifnn1, ev_tsw, ev_lsw, ev_iret, ev_zret, ev_lret, ev_aret, ev_ret, ev_call0, ev_call1, ev_call2, ev_call3, ev_call4, ev_call5, ev_call6, Option.toList_some, Option.toList_none, List.cons_append, List.nil_append, List.length_cons, List.length_nil, Nat.reduceMod, Nat.reduceDiv, Nat.reduceLeDiff, nc, ↓reduceIte, Nat.zero_le, reduceCtorEq, w32_id, Int.reduceEq, Int.reduceNe, Int.reduceLT, Int.reduceLE, Int.reduceGT, Int.reduceGE, Int.reduceAdd, Int.reduceSub, Int.reduceMul, Int.reduceNeg, ne_eq, not_true_eq_false, not_false_eq_true, eq_self, ↓if_pos, ↓if_neg, J_223_0, k_223_0, J_223_24, k_223_24, J_223_140, k_223_140, k_223_2, r_at, nc_s]) [some (vR (some 140)), some (vI s), some (vI 0)] M ⟨rfl, fun c _ => rfl, fun _ _ => rfl, fun j a c => by omega⟩
  subst hls
  generalize hMb : up (up (up (up (up (up (up (up (up Ma 141 (s + 3) 10) 141 (s + 4) 5) 141 (s + 7) 3) 141 (s + 8) 1) 141 (s + 9) 48) 141 (s + 11) 1) 141 (s + 12) 5) 141 (s + 13) 5) 141 (s + 15) (-1) = Mb
  have fb : ∀ c, c ≠ 141 → Mb c = M c := fun c hc => by rw [← hMb, up_ne hc, up_ne hc, up_ne hc, up_ne hc, up_ne hc, up_ne hc, up_ne hc, up_ne hc, up_ne hc, fr c hc]
  have fo : ∀ k, (k < s ∨ s + 16 ≤ k) → Mb 141 k = Ma 141 k := fun k hk => by rw [← hMb, up_ne2 (by omega), up_ne2 (by omega), up_ne2 (by omega), up_ne2 (by omega), up_ne2 (by omega), up_ne2 (by omega), up_ne2 (by omega), up_ne2 (by omega), up_ne2 (by omega)]
  have bv : ∀ k, 0 ≤ k → k < 16 → Mb 141 (s + k) = nsF k := fun k k0 k1 => by
    have z : k = 0 ∨ k = 1 ∨ k = 2 ∨ k = 3 ∨ k = 4 ∨ k = 5 ∨ k = 6 ∨ k = 7 ∨ k = 8 ∨ k = 9 ∨ k = 10 ∨ k = 11 ∨ k = 12 ∨ k = 13 ∨ k = 14 ∨ k = 15 := by omega
    have a := i2 k k0 (by omega)
    rw [← hMb]
    rcases z with z | z | z | z | z | z | z | z | z | z | z | z | z | z | z | z <;> subst z <;> simp (disch := omega) only [up_eq, up_ne2, a] <;> rfl
  obtain ⟨ls2, Mc, ⟨hls2, fr2, f2, i3⟩, he2⟩ := ev_for (X := X) (y := 223) (Sh := SH0) (fun i ls M' => ls = [some (vR (some 140)), some (vI s), some (vI (i : Int))] ∧ (∀ c, c ≠ 141 → M' c = M c) ∧ (∀ k, (k < s + 80 ∨ s + 80 + (i : Int) ≤ k) → M' 141 k = Mb 141 k) ∧ (∀ j : Int, 0 ≤ j → j < i → M' 141 (s + 80 + j) = -1)) J_223_116 48 (fun i hi ls M' hI => by
    obtain ⟨hls, fr, f1, i2⟩ := hI
    subst hls
    refine ⟨_, up M' 141 (s + 80 + (i : Int)) (-1), ⟨rfl, fun c c0 => by rw [up_ne c0]; exact fr c c0, fun k hk => by rw [up_ne2 (by omega)]; exact f1 k (by omega), fun j j0 j1 => ?_⟩, ?_⟩
    · by_cases z : j = i
      · rw [z, up_eq]
      · rw [up_ne2 (by omega)]
        exact i2 j j0 (by omega)
    · simp (disch := first | assumption | decide | omega | (simp only [List.length_cons, List.length_nil] <;> omega)) only [lgt_0, lgt_s, lset_0, lset_s, lst1_0, lst1_s, lst2_0, lst2_s, ev_iconst, ev_lconst, ev_ldc, ev_null, ev_iload, ev_lload, ev_aload, ev_istore, ev_lstore, ev_astore, ev_iinc, ev_iadd, ev_isub, ev_imul, ev_iand, ev_ior, ev_ishl, ev_ishr, ev_idiv, ev_irem, ev_ineg, ev_ladd, ev_lsub, ev_lmul, ev_land, ev_lor, ev_ldiv, ev_lrem, ev_lshl, ev_i2l, ev_l2i, ev_i2b, ev_i2s, ev_lcmp, ev_dupI, ev_dupR, ev_dup2, ev_popI, ev_popR, ev_alen, ev_xlen, ev_xald, ev_iald, ev_lald, ev_bald, ev_zald, ev_aald, ev_iast, ev_last, ev_bast, ev_zast, ev_aast, ev_gfI, ev_gfL, ev_gfR, ev_pfI, ev_pfZ, ev_pfL, ev_pfR, ev_new, ev_newa, ev_newq, ev_copy, ev_slen, ev_schr, ev_obj, ev_mmin, ev_mabs, ev_mmax, ev_goto, ev_jsr, ev_icmp_eq, ev_if_eq, ev_icmp_ne, ev_if_ne, ev_icmp_lt, ev_if_lt, ev_icmp_ge, ev_if_ge, ev_icmp_gt, ev_if_gt, ev_icmp_le, ev_if_le, ev_ifnull0, ev_ifnull1, ev_ifnn0, ev_ifnn1, ev_tsw, ev_lsw, ev_iret, ev_zret, ev_lret, ev_aret, ev_ret, ev_call0, ev_call1, ev_call2, ev_call3, ev_call4, ev_call5, ev_call6, Option.toList_some, Option.toList_none, List.cons_append, List.nil_append, List.length_cons, List.length_nil, Nat.reduceMod, Nat.reduceDiv, Nat.reduceLeDiff, nc, ↓reduceIte, Nat.zero_le, reduceCtorEq, w32_id, Int.reduceEq, Int.reduceNe, Int.reduceLT, Int.reduceLE, Int.reduceGT, Int.reduceGE, Int.reduceAdd, Int.reduceSub, Int.reduceMul, Int.reduceNeg, ne_eq, not_true_eq_false, not_false_eq_true, eq_self, ↓if_pos, ↓if_neg, J_223_0, k_223_0, J_223_24, k_223_24, J_223_140, k_223_140, k_223_116, r_at, nc_s]) [some (vR (some 140)), some (vI s), some (vI 0)] Mb ⟨rfl, fb, fun _ _ => rfl, fun j a c => by omega⟩
  subst hls2
  refine ⟨Mc, fr2, fun k hk => by rw [f2 k (by omega), fo k (by omega), f1 k hk], fun k k0 k1 => ?_, ?_⟩
  · by_cases z : 80 ≤ k ∧ k < 128
    · have e := i3 (k - 80) (by omega) (by omega)
      rw [show s + 80 + (k - 80) = s + k by omega] at e
      rw [e]
      unfold nsF
      rw [if_pos (Or.inr z)]
    · rw [f2 (s + k) (by omega)]
      by_cases y : k < 16
      · exact bv k k0 y
      · rw [fo (s + k) (by omega), i2 k k0 (by omega)]
        unfold nsF
        rw [if_neg (by omega), dS0_big (by omega)]
  · rw [E_223 mk0]
    simp (disch := first | assumption | decide | omega | (simp only [List.length_cons, List.length_nil] <;> omega)) only [lgt_0, lgt_s, lset_0, lset_s, lst1_0, lst1_s, lst2_0, lst2_s, ev_iconst, ev_lconst, ev_ldc, ev_null, ev_iload, ev_lload, ev_aload, ev_istore, ev_lstore, ev_astore, ev_iinc, ev_iadd, ev_isub, ev_imul, ev_iand, ev_ior, ev_ishl, ev_ishr, ev_idiv, ev_irem, ev_ineg, ev_ladd, ev_lsub, ev_lmul, ev_land, ev_lor, ev_ldiv, ev_lrem, ev_lshl, ev_i2l, ev_l2i, ev_i2b, ev_i2s, ev_lcmp, ev_dupI, ev_dupR, ev_dup2, ev_popI, ev_popR, ev_alen, ev_xlen, ev_xald, ev_iald, ev_lald, ev_bald, ev_zald, ev_aald, ev_iast, ev_last, ev_bast, ev_zast, ev_aast, ev_gfI, ev_gfL, ev_gfR, ev_pfI, ev_pfZ, ev_pfL, ev_pfR, ev_new, ev_newa, ev_newq, ev_copy, ev_slen, ev_schr, ev_obj, ev_mmin, ev_mabs, ev_mmax, ev_goto, ev_jsr, ev_icmp_eq, ev_if_eq, ev_icmp_ne, ev_if_ne, ev_icmp_lt, ev_if_lt, ev_icmp_ge, ev_if_ge, ev_icmp_gt, ev_if_gt, ev_icmp_le, ev_if_le, ev_ifnull0, ev_ifnull1, ev_ifnn0, ev_ifnn1, ev_tsw, ev_lsw, ev_iret, ev_zret, ev_lret, ev_aret, ev_ret, ev_call0, ev_call1, ev_call2, ev_call3, ev_call4, ev_call5, ev_call6, Option.toList_some, Option.toList_none, List.cons_append, List.nil_append, List.length_cons, List.length_nil, Nat.reduceMod, Nat.reduceDiv, Nat.reduceLeDiff, nc, ↓reduceIte, Nat.zero_le, reduceCtorEq, w32_id, Int.reduceEq, Int.reduceNe, Int.reduceLT, Int.reduceLE, Int.reduceGT, Int.reduceGE, Int.reduceAdd, Int.reduceSub, Int.reduceMul, Int.reduceNeg, ne_eq, not_true_eq_false, not_false_eq_true, eq_self, ↓if_pos, ↓if_neg, J_223_0, k_223_0, J_223_24, k_223_24, J_223_140, k_223_140, ]
    rw [he]
    simp (disch := first | assumption | decide | omega | (simp only [List.length_cons, List.length_nil] <;> omega)) only [lgt_0, lgt_s, lset_0, lset_s, lst1_0, lst1_s, lst2_0, lst2_s, ev_iconst, ev_lconst, ev_ldc, ev_null, ev_iload, ev_lload, ev_aload, ev_istore, ev_lstore, ev_astore, ev_iinc, ev_iadd, ev_isub, ev_imul, ev_iand, ev_ior, ev_ishl, ev_ishr, ev_idiv, ev_irem, ev_ineg, ev_ladd, ev_lsub, ev_lmul, ev_land, ev_lor, ev_ldiv, ev_lrem, ev_lshl, ev_i2l, ev_l2i, ev_i2b, ev_i2s, ev_lcmp, ev_dupI, ev_dupR, ev_dup2, ev_popI, ev_popR, ev_alen, ev_xlen, ev_xald, ev_iald, ev_lald, ev_bald, ev_zald, ev_aald, ev_iast, ev_last, ev_bast, ev_zast, ev_aast, ev_gfI, ev_gfL, ev_gfR, ev_pfI, ev_pfZ, ev_pfL, ev_pfR, ev_new, ev_newa, ev_newq, ev_copy, ev_slen, ev_schr, ev_obj, ev_mmin, ev_mabs, ev_mmax, ev_goto, ev_jsr, ev_icmp_eq, ev_if_eq, ev_icmp_ne, ev_if_ne, ev_icmp_lt, ev_if_lt, ev_icmp_ge, ev_if_ge, ev_icmp_gt, ev_if_gt, ev_icmp_le, ev_if_le, ev_ifnull0, ev_ifnull1, ev_ifnn0, ev_ifnn1, ev_tsw, ev_lsw, ev_iret, ev_zret, ev_lret, ev_aret, ev_ret, ev_call0, ev_call1, ev_call2, ev_call3, ev_call4, ev_call5, ev_call6, Option.toList_some, Option.toList_none, List.cons_append, List.nil_append, List.length_cons, List.length_nil, Nat.reduceMod, Nat.reduceDiv, Nat.reduceLeDiff, nc, ↓reduceIte, Nat.zero_le, reduceCtorEq, w32_id, Int.reduceEq, Int.reduceNe, Int.reduceLT, Int.reduceLE, Int.reduceGT, Int.reduceGE, Int.reduceAdd, Int.reduceSub, Int.reduceMul, Int.reduceNeg, ne_eq, not_true_eq_false, not_false_eq_true, eq_self, ↓if_pos, ↓if_neg, J_223_0, k_223_0, J_223_24, k_223_24, J_223_140, k_223_140, k_223_2, r_at, hMb]
    rw [he2]
    simp (disch := first | assumption | decide | omega | (simp only [List.length_cons, List.length_nil] <;> omega)) only [lgt_0, lgt_s, lset_0, lset_s, lst1_0, lst1_s, lst2_0, lst2_s, ev_iconst, ev_lconst, ev_ldc, ev_null, ev_iload, ev_lload, ev_aload, ev_istore, ev_lstore, ev_astore, ev_iinc, ev_iadd, ev_isub, ev_imul, ev_iand, ev_ior, ev_ishl, ev_ishr, ev_idiv, ev_irem, ev_ineg, ev_ladd, ev_lsub, ev_lmul, ev_land, ev_lor, ev_ldiv, ev_lrem, ev_lshl, ev_i2l, ev_l2i, ev_i2b, ev_i2s, ev_lcmp, ev_dupI, ev_dupR, ev_dup2, ev_popI, ev_popR, ev_alen, ev_xlen, ev_xald, ev_iald, ev_lald, ev_bald, ev_zald, ev_aald, ev_iast, ev_last, ev_bast, ev_zast, ev_aast, ev_gfI, ev_gfL, ev_gfR, ev_pfI, ev_pfZ, ev_pfL, ev_pfR, ev_new, ev_newa, ev_newq, ev_copy, ev_slen, ev_schr, ev_obj, ev_mmin, ev_mabs, ev_mmax, ev_goto, ev_jsr, ev_icmp_eq, ev_if_eq, ev_icmp_ne, ev_if_ne, ev_icmp_lt, ev_if_lt, ev_icmp_ge, ev_if_ge, ev_icmp_gt, ev_if_gt, ev_icmp_le, ev_if_le, ev_ifnull0, ev_ifnull1, ev_ifnn0, ev_ifnn1, ev_tsw, ev_lsw, ev_iret, ev_zret, ev_lret, ev_aret, ev_ret, ev_call0, ev_call1, ev_call2, ev_call3, ev_call4, ev_call5, ev_call6, Option.toList_some, Option.toList_none, List.cons_append, List.nil_append, List.length_cons, List.length_nil, Nat.reduceMod, Nat.reduceDiv, Nat.reduceLeDiff, nc, ↓reduceIte, Nat.zero_le, reduceCtorEq, w32_id, Int.reduceEq, Int.reduceNe, Int.reduceLT, Int.reduceLE, Int.reduceGT, Int.reduceGE, Int.reduceAdd, Int.reduceSub, Int.reduceMul, Int.reduceNeg, ne_eq, not_true_eq_false, not_false_eq_true, eq_self, ↓if_pos, ↓if_neg, J_223_0, k_223_0, J_223_24, k_223_24, J_223_140, k_223_140, k_223_116]
theorem d_loopF (g : gT b n) : ∀ (f : Nat) (d : DS) (p gd : Int) (w3 : Option PV) (M : Mem), gd + f = 801 → 0 ≤ gd → gd ≤ p → p ≤ n → dJ d → mAt M b n p → mCl M → mDr M d (d.2.2.2.2.2.1 * d.1 0) → ∃ g' M', fM M M' ∧ ((∃ e, pLoop b n f d p = .error e ∧ M' 140 18 = e.1 ∧ M' 140 17 = e.2 ∧ 0 < e.1) ∨ (∃ d', pLoop b n f d p = .ok d' ∧ mCl M' ∧ mDr M' d' (d'.2.2.2.2.2.1 * d'.1 0))) ∧ ev X 240 (jmp 240 80) [some (vR (some 140)), some (vI n), some (vI 1), w3] [] SH0 M = ev X 240 (jmp 240 125) [some (vR (some 140)), some (vI n), some (vI g'), w3] [] SH0 M'
  | 0, d, p, gd, w3, M, hg, g0, g1, p1, _, _, _, _ => by
    have := g.1
    omega
  | f + 1, d, p, gd, w3, M, hg, g0, g1, p1, hJ, ha, hc, hd => by
    have mk0 := w0_k140
    have hmd := w0_md140
    obtain ⟨r_at, k_at, l_at⟩ := md_at w0_md140
    have h12 := ha.2.1
    have s1 : M 141 1921 = d.1 1 := hd.2.2.1 1 (by omega) (by omega)
    have h20 := hd.1
    unfold pLoop
    rw [J_240_80]
    by_cases z0 : tK b n p = 0
    · rw [z0] at h12
      rw [if_neg (by omega), if_pos z0]
      by_cases zr : d.2.2.2.2.2.1 < d.1 1
      · have ef := d_fails (X := X) ha hc.1 (w := 8)
        rw [if_neg (by omega)] at ef
        rw [if_pos zr]
        refine ⟨1, _, fM_w fM_0, Or.inl ⟨(8, tQ b n p), rfl, by rw [up_ne2 (by omega), up_eq], up_eq, by simp⟩, ?_⟩
        simp (disch := first | assumption | decide | omega | (simp only [List.length_cons, List.length_nil] <;> omega)) only [lgt_0, lgt_s, lset_0, lset_s, lst1_0, lst1_s, lst2_0, lst2_s, ev_iconst, ev_lconst, ev_ldc, ev_null, ev_iload, ev_lload, ev_aload, ev_istore, ev_lstore, ev_astore, ev_iinc, ev_iadd, ev_isub, ev_imul, ev_iand, ev_ior, ev_ishl, ev_ishr, ev_idiv, ev_irem, ev_ineg, ev_ladd, ev_lsub, ev_lmul, ev_land, ev_lor, ev_ldiv, ev_lrem, ev_lshl, ev_i2l, ev_l2i, ev_i2b, ev_i2s, ev_lcmp, ev_dupI, ev_dupR, ev_dup2, ev_popI, ev_popR, ev_alen, ev_xlen, ev_xald, ev_iald, ev_lald, ev_bald, ev_zald, ev_aald, ev_iast, ev_last, ev_bast, ev_zast, ev_aast, ev_gfI, ev_gfL, ev_gfR, ev_pfI, ev_pfZ, ev_pfL, ev_pfR, ev_new, ev_newa, ev_newq, ev_copy, ev_slen, ev_schr, ev_obj, ev_mmin, ev_mabs, ev_mmax, ev_goto, ev_jsr, ev_icmp_eq, ev_if_eq, ev_icmp_ne, ev_if_ne, ev_icmp_lt, ev_if_lt, ev_icmp_ge, ev_if_ge, ev_icmp_gt, ev_if_gt, ev_icmp_le, ev_if_le, ev_ifnull0, ev_ifnull1, ev_ifnn0, ev_ifnn1, ev_tsw, ev_lsw, ev_iret, ev_zret, ev_lret, ev_aret, ev_ret, ev_call0, ev_call1, ev_call2, ev_call3, ev_call4, ev_call5, ev_call6, Option.toList_some, Option.toList_none, List.cons_append, List.nil_append, List.length_cons, List.length_nil, Nat.reduceMod, Nat.reduceDiv, Nat.reduceLeDiff, nc, ↓reduceIte, Nat.zero_le, reduceCtorEq, w32_id, Int.reduceEq, Int.reduceNe, Int.reduceLT, Int.reduceLE, Int.reduceGT, Int.reduceGE, Int.reduceAdd, Int.reduceSub, Int.reduceMul, Int.reduceNeg, ne_eq, not_true_eq_false, not_false_eq_true, eq_self, ↓if_pos, ↓if_neg, J_240_0, k_240_0, J_240_17, k_240_17, J_240_78, k_240_78, J_240_79, k_240_79, J_240_99, k_240_99, J_240_163, k_240_163, J_240_191, k_240_191, J_240_200, k_240_200, k_240_80, r_at, h12, s1, h20, zr, ef]
      · rw [if_neg zr]
        refine ⟨1, M, fM_0, Or.inr ⟨d, rfl, hc, hd⟩, ?_⟩
        simp (disch := first | assumption | decide | omega | (simp only [List.length_cons, List.length_nil] <;> omega)) only [lgt_0, lgt_s, lset_0, lset_s, lst1_0, lst1_s, lst2_0, lst2_s, ev_iconst, ev_lconst, ev_ldc, ev_null, ev_iload, ev_lload, ev_aload, ev_istore, ev_lstore, ev_astore, ev_iinc, ev_iadd, ev_isub, ev_imul, ev_iand, ev_ior, ev_ishl, ev_ishr, ev_idiv, ev_irem, ev_ineg, ev_ladd, ev_lsub, ev_lmul, ev_land, ev_lor, ev_ldiv, ev_lrem, ev_lshl, ev_i2l, ev_l2i, ev_i2b, ev_i2s, ev_lcmp, ev_dupI, ev_dupR, ev_dup2, ev_popI, ev_popR, ev_alen, ev_xlen, ev_xald, ev_iald, ev_lald, ev_bald, ev_zald, ev_aald, ev_iast, ev_last, ev_bast, ev_zast, ev_aast, ev_gfI, ev_gfL, ev_gfR, ev_pfI, ev_pfZ, ev_pfL, ev_pfR, ev_new, ev_newa, ev_newq, ev_copy, ev_slen, ev_schr, ev_obj, ev_mmin, ev_mabs, ev_mmax, ev_goto, ev_jsr, ev_icmp_eq, ev_if_eq, ev_icmp_ne, ev_if_ne, ev_icmp_lt, ev_if_lt, ev_icmp_ge, ev_if_ge, ev_icmp_gt, ev_if_gt, ev_icmp_le, ev_if_le, ev_ifnull0, ev_ifnull1, ev_ifnn0, ev_ifnn1, ev_tsw, ev_lsw, ev_iret, ev_zret, ev_lret, ev_aret, ev_ret, ev_call0, ev_call1, ev_call2, ev_call3, ev_call4, ev_call5, ev_call6, Option.toList_some, Option.toList_none, List.cons_append, List.nil_append, List.length_cons, List.length_nil, Nat.reduceMod, Nat.reduceDiv, Nat.reduceLeDiff, nc, ↓reduceIte, Nat.zero_le, reduceCtorEq, w32_id, Int.reduceEq, Int.reduceNe, Int.reduceLT, Int.reduceLE, Int.reduceGT, Int.reduceGE, Int.reduceAdd, Int.reduceSub, Int.reduceMul, Int.reduceNeg, ne_eq, not_true_eq_false, not_false_eq_true, eq_self, ↓if_pos, ↓if_neg, J_240_0, k_240_0, J_240_17, k_240_17, J_240_78, k_240_78, J_240_79, k_240_79, J_240_99, k_240_99, J_240_163, k_240_163, J_240_191, k_240_191, J_240_200, k_240_200, k_240_80, r_at, h12, s1, h20, zr]
    · have n12 : ¬ M 140 12 = 0 := by rw [h12]; exact z0
      obtain ⟨v, Ma, fa, v01, ⟨re, ro⟩, e1⟩ := d_part (X := X) g ha hc (by omega) p1 z0 hJ hd
      by_cases z1 : tK b n p = 1
      · rw [if_pos z1] at re ro
        obtain ⟨hv, h2, h3⟩ := re _ rfl
        subst hv
        rw [if_pos z1]
        refine ⟨0, Ma, fa, Or.inl ⟨_, rfl, h2, h3, by show (0 : Int) < 1; omega⟩, ?_⟩
        simp (disch := first | assumption | decide | omega | (simp only [List.length_cons, List.length_nil] <;> omega)) only [lgt_0, lgt_s, lset_0, lset_s, lst1_0, lst1_s, lst2_0, lst2_s, ev_iconst, ev_lconst, ev_ldc, ev_null, ev_iload, ev_lload, ev_aload, ev_istore, ev_lstore, ev_astore, ev_iinc, ev_iadd, ev_isub, ev_imul, ev_iand, ev_ior, ev_ishl, ev_ishr, ev_idiv, ev_irem, ev_ineg, ev_ladd, ev_lsub, ev_lmul, ev_land, ev_lor, ev_ldiv, ev_lrem, ev_lshl, ev_i2l, ev_l2i, ev_i2b, ev_i2s, ev_lcmp, ev_dupI, ev_dupR, ev_dup2, ev_popI, ev_popR, ev_alen, ev_xlen, ev_xald, ev_iald, ev_lald, ev_bald, ev_zald, ev_aald, ev_iast, ev_last, ev_bast, ev_zast, ev_aast, ev_gfI, ev_gfL, ev_gfR, ev_pfI, ev_pfZ, ev_pfL, ev_pfR, ev_new, ev_newa, ev_newq, ev_copy, ev_slen, ev_schr, ev_obj, ev_mmin, ev_mabs, ev_mmax, ev_goto, ev_jsr, ev_icmp_eq, ev_if_eq, ev_icmp_ne, ev_if_ne, ev_icmp_lt, ev_if_lt, ev_icmp_ge, ev_if_ge, ev_icmp_gt, ev_if_gt, ev_icmp_le, ev_if_le, ev_ifnull0, ev_ifnull1, ev_ifnn0, ev_ifnn1, ev_tsw, ev_lsw, ev_iret, ev_zret, ev_lret, ev_aret, ev_ret, ev_call0, ev_call1, ev_call2, ev_call3, ev_call4, ev_call5, ev_call6, Option.toList_some, Option.toList_none, List.cons_append, List.nil_append, List.length_cons, List.length_nil, Nat.reduceMod, Nat.reduceDiv, Nat.reduceLeDiff, nc, ↓reduceIte, Nat.zero_le, reduceCtorEq, w32_id, Int.reduceEq, Int.reduceNe, Int.reduceLT, Int.reduceLE, Int.reduceGT, Int.reduceGE, Int.reduceAdd, Int.reduceSub, Int.reduceMul, Int.reduceNeg, ne_eq, not_true_eq_false, not_false_eq_true, eq_self, ↓if_pos, ↓if_neg, J_240_0, k_240_0, J_240_17, k_240_17, J_240_78, k_240_78, J_240_79, k_240_79, J_240_80, k_240_80, J_240_99, k_240_99, J_240_163, k_240_163, J_240_191, k_240_191, J_240_200, k_240_200, n12, e1]
      rw [if_neg z1] at re ro
      rw [if_neg z1, if_neg z0]
      cases hr : pPart b n d p with
      | error er =>
        obtain ⟨hv, h2, h3⟩ := re er hr
        subst hv
        refine ⟨0, Ma, fa, Or.inl ⟨er, rfl, h2, h3, pPart_er (by have := hJ.1.2.1; omega) hr⟩, ?_⟩
        simp (disch := first | assumption | decide | omega | (simp only [List.length_cons, List.length_nil] <;> omega)) only [lgt_0, lgt_s, lset_0, lset_s, lst1_0, lst1_s, lst2_0, lst2_s, ev_iconst, ev_lconst, ev_ldc, ev_null, ev_iload, ev_lload, ev_aload, ev_istore, ev_lstore, ev_astore, ev_iinc, ev_iadd, ev_isub, ev_imul, ev_iand, ev_ior, ev_ishl, ev_ishr, ev_idiv, ev_irem, ev_ineg, ev_ladd, ev_lsub, ev_lmul, ev_land, ev_lor, ev_ldiv, ev_lrem, ev_lshl, ev_i2l, ev_l2i, ev_i2b, ev_i2s, ev_lcmp, ev_dupI, ev_dupR, ev_dup2, ev_popI, ev_popR, ev_alen, ev_xlen, ev_xald, ev_iald, ev_lald, ev_bald, ev_zald, ev_aald, ev_iast, ev_last, ev_bast, ev_zast, ev_aast, ev_gfI, ev_gfL, ev_gfR, ev_pfI, ev_pfZ, ev_pfL, ev_pfR, ev_new, ev_newa, ev_newq, ev_copy, ev_slen, ev_schr, ev_obj, ev_mmin, ev_mabs, ev_mmax, ev_goto, ev_jsr, ev_icmp_eq, ev_if_eq, ev_icmp_ne, ev_if_ne, ev_icmp_lt, ev_if_lt, ev_icmp_ge, ev_if_ge, ev_icmp_gt, ev_if_gt, ev_icmp_le, ev_if_le, ev_ifnull0, ev_ifnull1, ev_ifnn0, ev_ifnn1, ev_tsw, ev_lsw, ev_iret, ev_zret, ev_lret, ev_aret, ev_ret, ev_call0, ev_call1, ev_call2, ev_call3, ev_call4, ev_call5, ev_call6, Option.toList_some, Option.toList_none, List.cons_append, List.nil_append, List.length_cons, List.length_nil, Nat.reduceMod, Nat.reduceDiv, Nat.reduceLeDiff, nc, ↓reduceIte, Nat.zero_le, reduceCtorEq, w32_id, Int.reduceEq, Int.reduceNe, Int.reduceLT, Int.reduceLE, Int.reduceGT, Int.reduceGE, Int.reduceAdd, Int.reduceSub, Int.reduceMul, Int.reduceNeg, ne_eq, not_true_eq_false, not_false_eq_true, eq_self, ↓if_pos, ↓if_neg, J_240_0, k_240_0, J_240_17, k_240_17, J_240_78, k_240_78, J_240_79, k_240_79, J_240_80, k_240_80, J_240_99, k_240_99, J_240_163, k_240_163, J_240_191, k_240_191, J_240_200, k_240_200, n12, e1]
      | ok x =>
        obtain ⟨hv, aa, ca, da⟩ := ro x hr
        subst hv
        have ok := pPart_I (by omega) p1 z0 hJ hr
        rw [bnd_o]
        obtain ⟨g', Mb, fb, res, e2⟩ := d_loopF g f x.2 x.1 (gd + 1) w3 Ma (by omega) (by omega) (by have := ok.1; omega) ok.1.2 ok.2 aa ca da
        refine ⟨g', Mb, fM_t fa fb, res, ?_⟩
        simp (disch := first | assumption | decide | omega | (simp only [List.length_cons, List.length_nil] <;> omega)) only [lgt_0, lgt_s, lset_0, lset_s, lst1_0, lst1_s, lst2_0, lst2_s, ev_iconst, ev_lconst, ev_ldc, ev_null, ev_iload, ev_lload, ev_aload, ev_istore, ev_lstore, ev_astore, ev_iinc, ev_iadd, ev_isub, ev_imul, ev_iand, ev_ior, ev_ishl, ev_ishr, ev_idiv, ev_irem, ev_ineg, ev_ladd, ev_lsub, ev_lmul, ev_land, ev_lor, ev_ldiv, ev_lrem, ev_lshl, ev_i2l, ev_l2i, ev_i2b, ev_i2s, ev_lcmp, ev_dupI, ev_dupR, ev_dup2, ev_popI, ev_popR, ev_alen, ev_xlen, ev_xald, ev_iald, ev_lald, ev_bald, ev_zald, ev_aald, ev_iast, ev_last, ev_bast, ev_zast, ev_aast, ev_gfI, ev_gfL, ev_gfR, ev_pfI, ev_pfZ, ev_pfL, ev_pfR, ev_new, ev_newa, ev_newq, ev_copy, ev_slen, ev_schr, ev_obj, ev_mmin, ev_mabs, ev_mmax, ev_goto, ev_jsr, ev_icmp_eq, ev_if_eq, ev_icmp_ne, ev_if_ne, ev_icmp_lt, ev_if_lt, ev_icmp_ge, ev_if_ge, ev_icmp_gt, ev_if_gt, ev_icmp_le, ev_if_le, ev_ifnull0, ev_ifnull1, ev_ifnn0, ev_ifnn1, ev_tsw, ev_lsw, ev_iret, ev_zret, ev_lret, ev_aret, ev_ret, ev_call0, ev_call1, ev_call2, ev_call3, ev_call4, ev_call5, ev_call6, Option.toList_some, Option.toList_none, List.cons_append, List.nil_append, List.length_cons, List.length_nil, Nat.reduceMod, Nat.reduceDiv, Nat.reduceLeDiff, nc, ↓reduceIte, Nat.zero_le, reduceCtorEq, w32_id, Int.reduceEq, Int.reduceNe, Int.reduceLT, Int.reduceLE, Int.reduceGT, Int.reduceGE, Int.reduceAdd, Int.reduceSub, Int.reduceMul, Int.reduceNeg, ne_eq, not_true_eq_false, not_false_eq_true, eq_self, ↓if_pos, ↓if_neg, J_240_0, k_240_0, J_240_17, k_240_17, J_240_78, k_240_78, J_240_79, k_240_79, J_240_99, k_240_99, J_240_163, k_240_163, J_240_191, k_240_191, J_240_200, k_240_200, k_240_80, n12, e1, e2]
end MCH2
