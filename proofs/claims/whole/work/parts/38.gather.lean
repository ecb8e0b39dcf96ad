/-! PAIRING: what is gathered by a choice. -/
def cntB (q : Int → Bool) (i : Nat) : Int := sumN (fun j => if q j = true then 1 else 0) i
def ownB (q : Int → Bool) (n : Nat) : Int → Int := fun x => firstN (fun i => q i && decide (cntB q i.toNat = x)) n
theorem cntB_rng {q : Int → Bool} {i : Nat} : 0 ≤ cntB q i ∧ cntB q i ≤ i := by
  have e := sumN_le (f := fun j => if q j = true then 1 else 0) (a := 0) (b := 1) (n := i) (fun j _ => by split <;> omega)
  unfold cntB
  omega
theorem cntB_s {q : Int → Bool} {i : Nat} : cntB q (i + 1) = cntB q i + if q i = true then 1 else 0 := rfl
theorem cntB_mono {q : Int → Bool} {i : Nat} : ∀ {j : Nat}, i ≤ j → cntB q i ≤ cntB q j
  | 0, h => by rw [Nat.le_zero.mp h]; exact Int.le_refl _
  | j + 1, h => by
    rcases Nat.lt_or_ge j i with z | z
    · rw [show i = j + 1 from by omega]; exact Int.le_refl _
    · have e := cntB_mono (q := q) z
      rw [cntB_s]
      split <;> omega
theorem cntB_lt {q : Int → Bool} {i j : Nat} (h : i < j) (hq : q i = true) : cntB q i < cntB q j := by
  have e := cntB_mono (q := q) (show i + 1 ≤ j from h)
  rw [cntB_s, if_pos hq] at e
  omega
theorem ownB_at {q : Int → Bool} {n i : Nat} (h : i < n) (hq : q i = true) : ownB q n (cntB q i) = i := by
  unfold ownB
  refine firstN_at (k := i) ?_ ?_ h
  · rw [hq, Int.toNat_natCast]; exact decide_eq_true rfl
  · intro j hj
    by_cases z : q j = true
    · have e := cntB_lt hj z
      rw [z, Int.toNat_natCast]
      exact decide_eq_false (by omega)
    · rw [Bool.eq_false_iff.mpr z]; rfl
theorem ownB_ex {q : Int → Bool} {n : Nat} {x : Int} (h0 : 0 ≤ x) (h1 : x < cntB q n) : ∃ i : Nat, i < n ∧ q i = true ∧ cntB q i = x ∧ ownB q n x = i := by
  have key : ∀ m : Nat, x < cntB q m → ∃ i : Nat, i < m ∧ q i = true ∧ cntB q i = x := by
    intro m
    induction m with
    | zero => intro h; have : cntB q 0 = 0 := rfl; omega
    | succ m ih =>
      intro h
      by_cases z : x < cntB q m
      · obtain ⟨i, a, b, c⟩ := ih z
        exact ⟨i, by omega, b, c⟩
      · rw [cntB_s] at h
        by_cases w : q m = true
        · rw [if_pos w] at h
          exact ⟨m, by omega, w, by omega⟩
        · rw [if_neg w] at h
          omega
  obtain ⟨i, a, b, c⟩ := key n h1
  exact ⟨i, a, b, c, by rw [← c]; exact ownB_at a b⟩
/-- what a link costs: 1000000 where there can be none -/
def lnk (S H P R W : Int → Int) (n byc i j : Int) : Int := if wayF S H P R n i j = 0 then 1000000 else if byc = 0 then priF S H W (wayF S H P R n i j) i j else 0
def frm (lo hi : Nat) (M M' : Mem) : Prop := ∀ b, b < lo ∨ hi < b → M' b = M b
section GAT
variable {X : Int → Int} {Sh : List SE} {M : Mem} {p c : Nat}
theorem frm_r {lo hi : Nat} : frm lo hi M M := fun _ _ => rfl
theorem frm_t {lo hi : Nat} {M' M'' : Mem} (h1 : frm lo hi M M') (h2 : frm lo hi M' M'') : frm lo hi M M'' := fun b hb => (h2 b hb).trans (h1 b hb)
theorem frm_w {lo hi lo' hi' : Nat} {M' : Mem} (h : frm lo hi M M') (h1 : lo' ≤ lo) (h2 : hi ≤ hi') : frm lo' hi' M M' := fun b hb => h b (by omega)
theorem frm_up {lo hi a : Nat} {j z : Int} (h : lo ≤ a ∧ a ≤ hi) : frm lo hi M (up M a j z) := fun b hb => up_ne (by omega)
theorem goodC_c {M' : Mem} (hm : ∀ b, c ≤ b → b ≤ c + 8 → M' b = M b) (g : goodC M c) : goodC M' c := by
  unfold goodC at g ⊢
  rw [hm (c + 1) (by omega) (by omega), hm (c + 6) (by omega) (by omega), hm (c + 7) (by omega) (by omega), hm (c + 8) (by omega) (by omega), hm c (by omega) (by omega)]
  exact g
theorem goodW_c {M' : Mem} (hm : ∀ b, c ≤ b → b ≤ c + 8 → M' b = M b) (g : goodW M c) : goodW M' c := by
  unfold goodW at g ⊢
  rw [hm (c + 3) (by omega) (by omega)]
  exact g
/-- gathering by hue -/
theorem s_gather (h : PA Sh p) (hc : CH Sh c) (hd : c + 8 < p ∨ p + 9 < c) {n k : Int} (hn : M c 8 = n) (hn2 : 0 ≤ n ∧ n ≤ 48) :
    ∃ M', (∀ b, b ≠ p → b ≠ p + 1 → b ≠ p + 2 → M' b = M b) ∧ M' p 2 = cntB (fun i => decide (M (c + 6) i = k)) n.toNat ∧ M' p 3 = cntB (fun i => decide (M (c + 6) i = k)) n.toNat ∧
      (∀ x, 0 ≤ x → x < cntB (fun i => decide (M (c + 6) i = k)) n.toNat → M' (p + 1) x = ownB (fun i => decide (M (c + 6) i = k)) n.toNat x ∧ M' (p + 2) x = ownB (fun i => decide (M (c + 6) i = k)) n.toNat x) ∧
      evc X 142 [vR (some p), vR (some c), vI k] Sh M = some (none, Sh, M') := by
  have hk0 := h.1
  obtain ⟨ck0, cr0, cr1, cr2, cr3, cr4, cr5, cr6, cr7, ck1, ck2, ck3, ck4, ck5, ck6, ck7, ck8, cl1, cl2, cl3, cl4, cl5, cl6, cl7, cl8⟩ := hc
  generalize hq : (fun i => decide (M (c + 6) i = k)) = q
  have hqi : ∀ i, q i = decide (M (c + 6) i = k) := fun i => by rw [← hq]
  obtain ⟨ls', M', ⟨hls, fr, i1, i2, i3⟩, he⟩ := ev_for (X := X) (y := 142) (Sh := Sh) (fun i ls M' => ls = [some (vR (some p)), some (vR (some c)), some (vI k), some (vI (i : Int))] ∧ (∀ b, b ≠ p → b ≠ p + 1 → b ≠ p + 2 → M' b = M b) ∧ M' p 2 = cntB q i ∧ M' p 3 = cntB q i ∧ (∀ x, 0 ≤ x → x < cntB q i → M' (p + 1) x = ownB q n.toNat x ∧ M' (p + 2) x = ownB q n.toNat x)) J_142_12 n.toNat (fun i hi ls M' hI => by
    obtain ⟨hls, fr, i1, i2, i3⟩ := hI
    subst hls
    have fc := fr c (by omega) (by omega) (by omega)
    have fc6 := fr (c + 6) (by omega) (by omega) (by omega)
    have q0 : ¬ n ≤ (i : Int) := by omega
    have e0 := cntB_rng (q := q) (i := i)
    by_cases q1 : M (c + 6) i = k
    · have hqt : q i = true := by rw [hqi]; exact decide_eq_true q1
      have e1 := s_addSource (X := X) (M := M') h (i := i) (by omega)
      rw [i1] at e1
      have e2 := s_addGoal (X := X) (M := up (up M' (p + 1) (cntB q i) i) p 2 (cntB q i + 1)) h (i := i) (by rw [up_ne2 (by omega), up_ne (by omega)]; omega)
      have e3 : up (up M' (p + 1) (cntB q i) i) p 2 (cntB q i + 1) p 3 = cntB q i := by rw [up_ne2 (by omega), up_ne (by omega), i2]
      rw [e3] at e2
      have e4 : cntB q (i + 1) = cntB q i + 1 := by rw [cntB_s, if_pos hqt]
      refine ⟨_, up (up (up (up M' (p + 1) (cntB q i) i) p 2 (cntB q i + 1)) (p + 2) (cntB q i) i) p 3 (cntB q i + 1), ⟨rfl, ?_, ?_, ?_, ?_⟩, ?_⟩
      rotate_left 4
      · simp (disch := first | assumption | decide | omega | (simp only [List.length_cons, List.length_nil] <;> omega)) only [lgt_0, lgt_s, lset_0, lset_s, lst1_0, lst1_s, lst2_0, lst2_s, ev_iconst, ev_lconst, ev_ldc, ev_null, ev_iload, ev_lload, ev_aload, ev_istore, ev_lstore, ev_astore, ev_iinc, ev_iadd, ev_isub, ev_imul, ev_iand, ev_ior, ev_ishl, ev_ishr, ev_idiv, ev_irem, ev_ineg, ev_ladd, ev_lsub, ev_lmul, ev_land, ev_lor, ev_ldiv, ev_lrem, ev_lshl, ev_i2l, ev_l2i, ev_i2b, ev_i2s, ev_lcmp, ev_dupI, ev_dupR, ev_dup2, ev_popI, ev_popR, ev_alen, ev_xlen, ev_xald, ev_iald, ev_lald, ev_bald, ev_zald, ev_aald, ev_iast, ev_last, ev_bast, ev_zast, ev_aast, ev_gfI, ev_gfL, ev_gfR, ev_pfI, ev_pfZ, ev_pfL, ev_pfR, ev_new, ev_newa, ev_newq, ev_copy, ev_slen, ev_schr, ev_obj, ev_mmin, ev_mabs, ev_mmax, ev_goto, ev_jsr, ev_icmp_eq, ev_if_eq, ev_icmp_ne, ev_if_ne, ev_icmp_lt, ev_if_lt, ev_icmp_ge, ev_if_ge, ev_icmp_gt, ev_if_gt, ev_icmp_le, ev_if_le, ev_ifnull0, ev_ifnull1, ev_ifnn0, ev_ifnn1, ev_tsw, ev_lsw, ev_iret, ev_zret, ev_lret, ev_aret, ev_ret, ev_call0, ev_call1, ev_call2, ev_call3, ev_call4, ev_call5, ev_call6, Option.toList_some, Option.toList_none, List.cons_append, List.nil_append, List.length_cons, List.length_nil, Nat.reduceMod, Nat.reduceDiv, Nat.reduceAdd, Nat.reduceLeDiff, nc, ↓reduceIte, Nat.zero_le, reduceCtorEq, w32_id, Int.reduceEq, Int.reduceNe, Int.reduceLT, Int.reduceLE, Int.reduceGT, Int.reduceGE, Int.reduceAdd, Int.reduceSub, Int.reduceMul, Int.reduceNeg, ne_eq, not_true_eq_false, not_false_eq_true, eq_self, cr0, cr1, cr2, cr3, cr4, cr5, cr6, cr7, k_142_12, J_142_0, k_142_0, J_142_40, k_142_40, J_142_46, k_142_46, fc, hn, fc6, q0, q1, e1, e2, nc_s]
      · intro b h0 h1 h2
        simp (disch := omega) only [up_ne, up_eq, up_ne2]
        exact fr b h0 h1 h2
      · simp (disch := omega) only [up_ne, up_eq, up_ne2]
        exact e4.symm
      · simp (disch := omega) only [up_ne, up_eq, up_ne2]
        exact e4.symm
      · intro x x0 x1
        rw [e4] at x1
        by_cases z : x = cntB q i
        · have o := ownB_at (q := q) (n := n.toNat) hi hqt
          subst z
          constructor
          · simp (disch := omega) only [up_ne, up_eq, up_ne2]
            exact o.symm
          · simp (disch := omega) only [up_ne, up_eq, up_ne2]
            exact o.symm
        · have o := i3 x x0 (by omega)
          simp (disch := omega) only [up_ne, up_eq, up_ne2]
          exact o
    · have hqf : ¬ q i = true := by rw [hqi]; exact fun z => q1 (of_decide_eq_true z)
      have e4 : cntB q (i + 1) = cntB q i := by rw [cntB_s, if_neg hqf]; omega
      refine ⟨_, _, ⟨rfl, fr, by rw [e4]; exact i1, by rw [e4]; exact i2, by rw [e4]; exact i3⟩, ?_⟩
      simp (disch := first | assumption | decide | omega | (simp only [List.length_cons, List.length_nil] <;> omega)) only [lgt_0, lgt_s, lset_0, lset_s, lst1_0, lst1_s, lst2_0, lst2_s, ev_iconst, ev_lconst, ev_ldc, ev_null, ev_iload, ev_lload, ev_aload, ev_istore, ev_lstore, ev_astore, ev_iinc, ev_iadd, ev_isub, ev_imul, ev_iand, ev_ior, ev_ishl, ev_ishr, ev_idiv, ev_irem, ev_ineg, ev_ladd, ev_lsub, ev_lmul, ev_land, ev_lor, ev_ldiv, ev_lrem, ev_lshl, ev_i2l, ev_l2i, ev_i2b, ev_i2s, ev_lcmp, ev_dupI, ev_dupR, ev_dup2, ev_popI, ev_popR, ev_alen, ev_xlen, ev_xald, ev_iald, ev_lald, ev_bald, ev_zald, ev_aald, ev_iast, ev_last, ev_bast, ev_zast, ev_aast, ev_gfI, ev_gfL, ev_gfR, ev_pfI, ev_pfZ, ev_pfL, ev_pfR, ev_new, ev_newa, ev_newq, ev_copy, ev_slen, ev_schr, ev_obj, ev_mmin, ev_mabs, ev_mmax, ev_goto, ev_jsr, ev_icmp_eq, ev_if_eq, ev_icmp_ne, ev_if_ne, ev_icmp_lt, ev_if_lt, ev_icmp_ge, ev_if_ge, ev_icmp_gt, ev_if_gt, ev_icmp_le, ev_if_le, ev_ifnull0, ev_ifnull1, ev_ifnn0, ev_ifnn1, ev_tsw, ev_lsw, ev_iret, ev_zret, ev_lret, ev_aret, ev_ret, ev_call0, ev_call1, ev_call2, ev_call3, ev_call4, ev_call5, ev_call6, Option.toList_some, Option.toList_none, List.cons_append, List.nil_append, List.length_cons, List.length_nil, Nat.reduceMod, Nat.reduceDiv, Nat.reduceAdd, Nat.reduceLeDiff, nc, ↓reduceIte, Nat.zero_le, reduceCtorEq, w32_id, Int.reduceEq, Int.reduceNe, Int.reduceLT, Int.reduceLE, Int.reduceGT, Int.reduceGE, Int.reduceAdd, Int.reduceSub, Int.reduceMul, Int.reduceNeg, ne_eq, not_true_eq_false, not_false_eq_true, eq_self, cr0, cr1, cr2, cr3, cr4, cr5, cr6, cr7, k_142_12, J_142_0, k_142_0, J_142_40, k_142_40, J_142_46, k_142_46, fc, hn, fc6, q0, q1, nc_s]) [some (vR (some p)), some (vR (some c)), some (vI k), some (vI 0)] (up (up M p 2 0) p 3 0) ⟨rfl, fun b h0 _ _ => by rw [up_ne h0, up_ne h0], by rw [up_ne2 (by omega), up_eq]; rfl, by rw [up_eq]; rfl, fun x x0 x1 => by have : cntB q 0 = 0 := rfl; omega⟩
  subst hls
  refine ⟨M', fr, i1, i2, i3, ?_⟩
  rw [E_142 hk0]
  simp (disch := first | assumption | decide | omega | (simp only [List.length_cons, List.length_nil] <;> omega)) only [lgt_0, lgt_s, lset_0, lset_s, lst1_0, lst1_s, lst2_0, lst2_s, ev_iconst, ev_lconst, ev_ldc, ev_null, ev_iload, ev_lload, ev_aload, ev_istore, ev_lstore, ev_astore, ev_iinc, ev_iadd, ev_isub, ev_imul, ev_iand, ev_ior, ev_ishl, ev_ishr, ev_idiv, ev_irem, ev_ineg, ev_ladd, ev_lsub, ev_lmul, ev_land, ev_lor, ev_ldiv, ev_lrem, ev_lshl, ev_i2l, ev_l2i, ev_i2b, ev_i2s, ev_lcmp, ev_dupI, ev_dupR, ev_dup2, ev_popI, ev_popR, ev_alen, ev_xlen, ev_xald, ev_iald, ev_lald, ev_bald, ev_zald, ev_aald, ev_iast, ev_last, ev_bast, ev_zast, ev_aast, ev_gfI, ev_gfL, ev_gfR, ev_pfI, ev_pfZ, ev_pfL, ev_pfR, ev_new, ev_newa, ev_newq, ev_copy, ev_slen, ev_schr, ev_obj, ev_mmin, ev_mabs, ev_mmax, ev_goto, ev_jsr, ev_icmp_eq, ev_if_eq, ev_icmp_ne, ev_if_ne, ev_icmp_lt, ev_if_lt, ev_icmp_ge, ev_if_ge, ev_icmp_gt, ev_if_gt, ev_icmp_le, ev_if_le, ev_ifnull0, ev_ifnull1, ev_ifnn0, ev_ifnn1, ev_tsw, ev_lsw, ev_iret, ev_zret, ev_lret, ev_aret, ev_ret, ev_call0, ev_call1, ev_call2, ev_call3, ev_call4, ev_call5, ev_call6, Option.toList_some, Option.toList_none, List.cons_append, List.nil_append, List.length_cons, List.length_nil, Nat.reduceMod, Nat.reduceDiv, Nat.reduceAdd, Nat.reduceLeDiff, nc, ↓reduceIte, Nat.zero_le, reduceCtorEq, w32_id, Int.reduceEq, Int.reduceNe, Int.reduceLT, Int.reduceLE, Int.reduceGT, Int.reduceGE, Int.reduceAdd, Int.reduceSub, Int.reduceMul, Int.reduceNeg, ne_eq, not_true_eq_false, not_false_eq_true, eq_self, J_142_0, k_142_0, J_142_40, k_142_40, J_142_46, k_142_46]
  rw [he]
  have fc := fr c (by omega) (by omega) (by omega)
  have e : ((n.toNat : Nat) : Int) = n := by omega
  simp (disch := first | assumption | decide | omega | (simp only [List.length_cons, List.length_nil] <;> omega)) only [lgt_0, lgt_s, lset_0, lset_s, lst1_0, lst1_s, lst2_0, lst2_s, ev_iconst, ev_lconst, ev_ldc, ev_null, ev_iload, ev_lload, ev_aload, ev_istore, ev_lstore, ev_astore, ev_iinc, ev_iadd, ev_isub, ev_imul, ev_iand, ev_ior, ev_ishl, ev_ishr, ev_idiv, ev_irem, ev_ineg, ev_ladd, ev_lsub, ev_lmul, ev_land, ev_lor, ev_ldiv, ev_lrem, ev_lshl, ev_i2l, ev_l2i, ev_i2b, ev_i2s, ev_lcmp, ev_dupI, ev_dupR, ev_dup2, ev_popI, ev_popR, ev_alen, ev_xlen, ev_xald, ev_iald, ev_lald, ev_bald, ev_zald, ev_aald, ev_iast, ev_last, ev_bast, ev_zast, ev_aast, ev_gfI, ev_gfL, ev_gfR, ev_pfI, ev_pfZ, ev_pfL, ev_pfR, ev_new, ev_newa, ev_newq, ev_copy, ev_slen, ev_schr, ev_obj, ev_mmin, ev_mabs, ev_mmax, ev_goto, ev_jsr, ev_icmp_eq, ev_if_eq, ev_icmp_ne, ev_if_ne, ev_icmp_lt, ev_if_lt, ev_icmp_ge, ev_if_ge, ev_icmp_gt, ev_if_gt, ev_icmp_le, ev_if_le, ev_ifnull0, ev_ifnull1, ev_ifnn0, ev_ifnn1, ev_tsw, ev_lsw, ev_iret, ev_zret, ev_lret, ev_aret, ev_ret, ev_call0, ev_call1, ev_call2, ev_call3, ev_call4, ev_call5, ev_call6, Option.toList_some, Option.toList_none, List.cons_append, List.nil_append, List.length_cons, List.length_nil, Nat.reduceMod, Nat.reduceDiv, Nat.reduceAdd, Nat.reduceLeDiff, nc, ↓reduceIte, Nat.zero_le, reduceCtorEq, w32_id, Int.reduceEq, Int.reduceNe, Int.reduceLT, Int.reduceLE, Int.reduceGT, Int.reduceGE, Int.reduceAdd, Int.reduceSub, Int.reduceMul, Int.reduceNeg, ne_eq, not_true_eq_false, not_false_eq_true, eq_self, k_142_12, J_142_0, k_142_0, J_142_40, k_142_40, J_142_46, k_142_46, fc, hn, e, Int.le_refl]
end GAT
