/-! CHARTS: the model's reader, parts told. -/
def mSemi (b : Int → Int) (n : Int) (r : PE (Int × DS)) (v : Int) (M : Mem) : Prop := (∃ e, r = .error e ∧ v = 0 ∧ M 140 18 = e.1 ∧ M 140 17 = e.2) ∨ (∃ q d', r = bnd (pSign b n q) (fun p' => .ok (p', d')) ∧ v = 1 ∧ mAt M b n q ∧ mCl M ∧ (∀ p', pSign b n q = .ok p' → mDr M d' (d'.2.2.2.2.2.1 * d'.1 0)) ∧ 0 ≤ q ∧ q ≤ n)
def mRes (b : Int → Int) (n : Int) (r : PE (Int × DS)) (v : Int) (M : Mem) : Prop := (∀ e, r = .error e → v = 0 ∧ M 140 18 = e.1 ∧ M 140 17 = e.2) ∧ ∀ x, r = .ok x → v = 1 ∧ mAt M b n x.1 ∧ mCl M ∧ mDr M x.2 (x.2.2.2.2.2.2.1 * x.2.1 0)
section MRP
variable {X : Int → Int} {M : Mem} {b : Int → Int} {n p : Int} {d : DS}
theorem mSemi_e {e : Int × Int} {r : PE (Int × DS)} {M' : Mem} (hr : r = .error e) (hM : M' = up (up M 140 18 e.1) 140 17 e.2) : mSemi b n r 0 M' := Or.inl ⟨e, hr, rfl, by rw [hM, up_ne2 (by omega), up_eq], by rw [hM, up_eq]⟩
theorem mDr_set {m s v : Int} (h : mDr M d m) (hs : s ≠ 2 ∧ 0 ≤ s ∧ s < 15) : mDr (up M 141 (1920 + s) v) (setS d s v) m := by
  obtain ⟨h1, h2, h3, h4, h5, h6⟩ := h
  have e2 : upH d.1 s v 2 = d.1 2 := if_neg (by omega)
  refine ⟨by rw [up_ne (by omega)]; exact h1, fun k k0 k1 => by rw [up_ne (by omega)]; exact h2 k k0 k1, fun k k0 k1 => ?_, fun k k0 k1 => ?_, fun k k0 k1 => by rw [up_ne2 (by omega), up_ne2 (by omega)]; exact h5 k k0 k1, fun k k0 k1 => by rw [up_ne2 (by omega)]; exact h6 k k0 k1⟩
  · show _ = upH d.1 s v k
    unfold upH
    by_cases z : k = s
    · rw [if_pos z, z, up_eq]
    · rw [if_neg z, up_ne2 (by omega)]
      exact h3 k k0 k1
  · have k1' : k < upH d.1 s v 2 := k1
    rw [e2] at k1'
    rw [up_ne (by omega), up_ne2 (by omega), up_ne2 (by omega)]
    exact h4 k k0 k1'
theorem mDr_told {m : Int} (h : mDr M d m) {k : Nat} (k0 : 3 ≤ k) (k1 : k < 12) : mDr (up M 140 19 (i_or (M 140 19) (i_shl 1 (k : Int)))) (setT d (sOf k)) m := by
  obtain ⟨h1, h2, h3, h4, h5, h6⟩ := h
  refine ⟨by rw [up_ne2 (by omega)]; exact h1, fun r r0 r1 => ?_, fun k k0 k1 => by rw [up_ne (by omega)]; exact h3 k k0 k1, fun k k0 k1 => by rw [up_ne (by omega), up_ne (by omega)]; exact h4 k k0 k1, fun k k0 k1 => by rw [up_ne (by omega)]; exact h5 k k0 k1, fun k k0 k1 => by rw [up_ne (by omega)]; exact h6 k k0 k1⟩
  rw [up_eq, i_told (by omega) (by omega), h2 r r0 r1]
  show _ = upH d.2.2.2.2.2.2 (sOf k) 1 (sOf r)
  unfold upH
  have inj : sOf r = sOf k ↔ k = r := by
    have zk : k = 3 ∨ k = 4 ∨ k = 5 ∨ k = 6 ∨ k = 7 ∨ k = 8 ∨ k = 9 ∨ k = 10 ∨ k = 11 := by omega
    have zr : r = 3 ∨ r = 4 ∨ r = 5 ∨ r = 6 ∨ r = 7 ∨ r = 8 ∨ r = 9 ∨ r = 10 ∨ r = 11 := by omega
    rcases zk with z | z | z | z | z | z | z | z | z <;> subst z <;> rcases zr with y | y | y | y | y | y | y | y | y <;> subst y <;> decide
  by_cases z : k = r
  · rw [if_pos z, if_pos (inj.mpr z)]
  · rw [if_neg z, if_neg (fun y => z (inj.mp y))]
theorem mDr_seen {m : Int} (h : mDr M d m) {k : Nat} (k1 : k < 3) : mDr (up M 140 19 (i_or (M 140 19) (i_shl 1 (k : Int)))) d m := by
  obtain ⟨h1, h2, h3, h4, h5, h6⟩ := h
  refine ⟨by rw [up_ne2 (by omega)]; exact h1, fun r r0 r1 => ?_, fun k k0 k1 => by rw [up_ne (by omega)]; exact h3 k k0 k1, fun k k0 k1 => by rw [up_ne (by omega), up_ne (by omega)]; exact h4 k k0 k1, fun k k0 k1 => by rw [up_ne (by omega)]; exact h5 k k0 k1, fun k k0 k1 => by rw [up_ne (by omega)]; exact h6 k k0 k1⟩
  rw [up_eq, i_told (by omega) (by omega), if_neg (by omega)]
  exact h2 r r0 r1
theorem rows_set {d : DS} {s v : Int} (hs : s ≠ 0) : (setS d s v).2.2.2.2.2.1 * (setS d s v).1 0 = d.2.2.2.2.2.1 * d.1 0 := by
  show d.2.2.2.2.2.1 * upH d.1 s v 0 = _
  unfold upH
  rw [if_neg (by omega)]
/-- a number into a setting -/
theorem d_setN (g : gT b n) (h : mAt M b n p) (hc : mCl M) (p0 : 0 ≤ p) (p1 : p ≤ n) {m s lo hi : Int} (hd : mDr M d m) (hs : s ≠ 2 ∧ 0 ≤ s ∧ s < 15) : ∃ v M', fM M M' ∧ (∀ e, pNum b n lo hi p = .error e → v = 0 ∧ M' 140 18 = e.1 ∧ M' 140 17 = e.2) ∧ (∀ r, pNum b n lo hi p = .ok r → v = 1 ∧ mAt M' b n r.1 ∧ mCl M' ∧ mDr M' (setS d s r.2) m) ∧ evc X 250 [vR (some 140), vI (1920 + s), vI lo, vI hi] SH0 M = some (some (vI v), SH0, M') := by
  obtain ⟨v, M', he, ho, e⟩ := d_number (X := X) g h hc p0 p1 (t := 1920 + s) (lo := lo) (hi := hi) (by omega)
  cases hr : pNum b n lo hi p with
  | error er =>
    obtain ⟨hv, hM⟩ := he er hr
    refine ⟨v, M', by rw [hM]; exact fM_w fM_0, fun e' h' => ?_, fun r h' => by injection h', e⟩
    injection h' with h'
    subst h'
    exact ⟨hv, by rw [hM, up_ne2 (by omega), up_eq], by rw [hM, up_eq]⟩
  | ok r =>
    obtain ⟨hv, f, a⟩ := ho r hr
    refine ⟨v, M', fM_t (fM_141 fM_0 (by omega)) (fM_A f), fun e' h' => by injection h', fun r' h' => ?_, e⟩
    injection h' with h'
    subst h'
    exact ⟨hv, a, mCl_A ⟨by rw [up_ne (by omega)]; exact hc.1, by rw [up_ne (by omega)]; exact hc.2⟩ f, mDr_A (mDr_set hd hs) f⟩
theorem d_set (g : gT b n) (h : mAt M b n p) (hc : mCl M) (p0 : 0 ≤ p) (p1 : p ≤ n) (hd : mDr M d (d.2.2.2.2.2.1 * d.1 0)) {s lo hi : Int} (hs : 3 ≤ s ∧ s < 15) : ∃ v M', fM M M' ∧ mSemi b n (bnd (pNum b n lo hi p) fun r => bnd (pSign b n r.1) fun p' => .ok (p', setS d s r.2)) v M' ∧ evc X 250 [vR (some 140), vI (1920 + s), vI lo, vI hi] SH0 M = some (some (vI v), SH0, M') := by
  obtain ⟨v, M', f, he, ho, e⟩ := d_setN (X := X) g h hc p0 p1 hd (s := s) (lo := lo) (hi := hi) (by omega)
  refine ⟨v, M', f, ?_, e⟩
  cases hr : pNum b n lo hi p with
  | error er =>
    obtain ⟨hv, h2, h3⟩ := he er hr
    exact Or.inl ⟨er, rfl, hv, h2, h3⟩
  | ok r =>
    obtain ⟨hv, a, cl, md⟩ := ho r hr
    have pn := pNum_ok hr
    have t := tE_on (b := b) p1 (by rw [pn.1]; omega) p0
    have er1 : r.1 = tE b n p := by rw [pn.2.1]
    exact Or.inr ⟨r.1, setS d s r.2, rfl, hv, a, cl, fun _ _ => by rw [rows_set (by omega)]; exact md, by omega, by omega⟩
theorem d_withCost (g : gT b n) (h : mAt M b n p) (hc : mCl M) (p0 : 0 ≤ p) (p1 : p ≤ n) (hd : mDr M d (d.2.2.2.2.2.1 * d.1 0)) {s lo hi mc : Int} (hs : 3 ≤ s ∧ s < 14) : ∃ v M', fM M M' ∧ mSemi b n (bnd (pNum b n lo hi p) fun r => bnd (pWord b n (kl 7) r.1) fun p2 => bnd (pNum b n 0 mc p2) fun r2 => bnd (pSign b n r2.1) fun p' => .ok (p', setS (setS d s r.2) (s + 1) r2.2)) v M' ∧ evc X 260 [vR (some 140), vI s, vI lo, vI hi, vI mc] SH0 M = some (some (vI v), SH0, M') := by
  have mk0 := w0_k140
  rw [E_260 mk0]
  obtain ⟨v, Ma, fa, he, ho, e1⟩ := d_setN (X := X) g h hc p0 p1 hd (s := s) (lo := lo) (hi := hi) (by omega)
  cases hr : pNum b n lo hi p with
  | error er =>
    obtain ⟨hv, h2, h3⟩ := he er hr
    subst hv
    refine ⟨0, Ma, fa, Or.inl ⟨er, rfl, rfl, h2, h3⟩, ?_⟩
    simp (disch := first | assumption | decide | omega | (simp only [List.length_cons, List.length_nil] <;> omega)) only [lgt_0, lgt_s, lset_0, lset_s, lst1_0, lst1_s, lst2_0, lst2_s, ev_iconst, ev_lconst, ev_ldc, ev_null, ev_iload, ev_lload, ev_aload, ev_istore, ev_lstore, ev_astore, ev_iinc, ev_iadd, ev_isub, ev_imul, ev_iand, ev_ior, ev_ishl, ev_ishr, ev_idiv, ev_irem, ev_ineg, ev_ladd, ev_lsub, ev_lmul, ev_land, ev_lor, ev_ldiv, ev_lrem, ev_lshl, ev_i2l, ev_l2i, ev_i2b, ev_i2s, ev_lcmp, ev_dupI, ev_dupR, ev_dup2, ev_popI, ev_popR, ev_alen, ev_xlen, ev_xald, ev_iald, ev_lald, ev_bald, ev_zald, ev_aald, ev_iast, ev_last, ev_bast, ev_zast, ev_aast, ev_gfI, ev_gfL, ev_gfR, ev_pfI, ev_pfZ, ev_pfL, ev_pfR, ev_new, ev_newa, ev_newq, ev_copy, ev_slen, ev_schr, ev_obj, ev_mmin, ev_mabs, ev_mmax, ev_goto, ev_jsr, ev_icmp_eq, ev_if_eq, ev_icmp_ne, ev_if_ne, ev_icmp_lt, ev_if_lt, ev_icmp_ge, ev_if_ge, ev_icmp_gt, ev_if_gt, ev_icmp_le, ev_if_le, ev_ifnull0, ev_ifnull1, ev_ifnn0, ev_ifnn1, ev_tsw, ev_lsw, ev_iret, ev_zret, ev_lret, ev_aret, ev_ret, ev_call0, ev_call1, ev_call2, ev_call3, ev_call4, ev_call5, ev_call6, Option.toList_some, Option.toList_none, List.cons_append, List.nil_append, List.length_cons, List.length_nil, Nat.reduceMod, Nat.reduceDiv, Nat.reduceLeDiff, nc, ↓reduceIte, Nat.zero_le, reduceCtorEq, w32_id, Int.reduceEq, Int.reduceNe, Int.reduceLT, Int.reduceLE, Int.reduceGT, Int.reduceGE, Int.reduceAdd, Int.reduceSub, Int.reduceMul, Int.reduceNeg, ne_eq, not_true_eq_false, not_false_eq_true, eq_self, ↓if_pos, ↓if_neg, J_260_0, k_260_0, J_260_46, k_260_46, J_260_47, k_260_47, e1]
  | ok r =>
  obtain ⟨hv, a, cl, md⟩ := ho r hr
  subst hv
  have pn := pNum_ok hr
  have t := tE_on (b := b) p1 (by rw [pn.1]; omega) p0
  have er1 : r.1 = tE b n p := by rw [pn.2.1]
  rw [← er1] at t
  rw [bnd_o]
  obtain ⟨v, Mb, fb, ⟨we, wo⟩, e2⟩ := d_wantWord (X := X) g a cl t.1 t.2.1 kOK_C (j := 14) (w := kl 7) (fun v => ck_iff (by omega))
  rw [show ((14 : Nat) : Int) = 14 from rfl] at e2
  have fb' : fM Ma Mb := by
    rcases fb with f | ⟨w, q, f⟩
    · exact fM_A f
    · rw [f]; exact fM_w fM_0
  cases hr2 : pWord b n (kl 7) r.1 with
  | error er =>
    obtain ⟨hv, h2, h3⟩ := we er hr2
    subst hv
    refine ⟨0, Mb, fM_t fa fb', Or.inl ⟨er, rfl, rfl, h2, h3⟩, ?_⟩
    simp (disch := first | assumption | decide | omega | (simp only [List.length_cons, List.length_nil] <;> omega)) only [lgt_0, lgt_s, lset_0, lset_s, lst1_0, lst1_s, lst2_0, lst2_s, ev_iconst, ev_lconst, ev_ldc, ev_null, ev_iload, ev_lload, ev_aload, ev_istore, ev_lstore, ev_astore, ev_iinc, ev_iadd, ev_isub, ev_imul, ev_iand, ev_ior, ev_ishl, ev_ishr, ev_idiv, ev_irem, ev_ineg, ev_ladd, ev_lsub, ev_lmul, ev_land, ev_lor, ev_ldiv, ev_lrem, ev_lshl, ev_i2l, ev_l2i, ev_i2b, ev_i2s, ev_lcmp, ev_dupI, ev_dupR, ev_dup2, ev_popI, ev_popR, ev_alen, ev_xlen, ev_xald, ev_iald, ev_lald, ev_bald, ev_zald, ev_aald, ev_iast, ev_last, ev_bast, ev_zast, ev_aast, ev_gfI, ev_gfL, ev_gfR, ev_pfI, ev_pfZ, ev_pfL, ev_pfR, ev_new, ev_newa, ev_newq, ev_copy, ev_slen, ev_schr, ev_obj, ev_mmin, ev_mabs, ev_mmax, ev_goto, ev_jsr, ev_icmp_eq, ev_if_eq, ev_icmp_ne, ev_if_ne, ev_icmp_lt, ev_if_lt, ev_icmp_ge, ev_if_ge, ev_icmp_gt, ev_if_gt, ev_icmp_le, ev_if_le, ev_ifnull0, ev_ifnull1, ev_ifnn0, ev_ifnn1, ev_tsw, ev_lsw, ev_iret, ev_zret, ev_lret, ev_aret, ev_ret, ev_call0, ev_call1, ev_call2, ev_call3, ev_call4, ev_call5, ev_call6, Option.toList_some, Option.toList_none, List.cons_append, List.nil_append, List.length_cons, List.length_nil, Nat.reduceMod, Nat.reduceDiv, Nat.reduceLeDiff, nc, ↓reduceIte, Nat.zero_le, reduceCtorEq, w32_id, Int.reduceEq, Int.reduceNe, Int.reduceLT, Int.reduceLE, Int.reduceGT, Int.reduceGE, Int.reduceAdd, Int.reduceSub, Int.reduceMul, Int.reduceNeg, ne_eq, not_true_eq_false, not_false_eq_true, eq_self, ↓if_pos, ↓if_neg, J_260_0, k_260_0, J_260_46, k_260_46, J_260_47, k_260_47, e1, e2]
  | ok p2 =>
  obtain ⟨hv, a2, cl2⟩ := wo p2 hr2
  subst hv
  have pw := pWord_ok hr2
  have t2 := tE_on (b := b) t.2.1 (by rw [pw.1]; omega) t.1
  rw [← pw.2.2] at t2
  rw [bnd_o]
  have md2 : mDr Mb (setS d s r.2) (d.2.2.2.2.2.1 * d.1 0) := by
    rcases fb with f | ⟨w, q, f⟩
    · exact mDr_A md f
    · rw [f] at cl2
      have c1 := cl2.1
      rw [up_ne2 (by omega), up_eq] at c1
      rw [f]
      exact mDr_f md (by rw [up_ne (by omega), up_ne (by omega)]) (by rw [up_ne (by omega), up_ne (by omega)]) (by rw [up_ne2 (by omega), up_ne2 (by omega)]) (by rw [up_ne2 (by omega), up_ne2 (by omega)])
  obtain ⟨v, Mc, fc, he3, ho3, e3⟩ := d_setN (X := X) g a2 cl2 t2.1 t2.2.1 md2 (s := s + 1) (lo := 0) (hi := mc) (by omega)
  have ea : 1920 + (s + 1) = 1920 + s + 1 := by omega
  rw [ea] at e3
  cases hr3 : pNum b n 0 mc p2 with
  | error er =>
    obtain ⟨hv, h2, h3⟩ := he3 er hr3
    subst hv
    refine ⟨0, Mc, fM_t (fM_t fa fb') fc, Or.inl ⟨er, rfl, rfl, h2, h3⟩, ?_⟩
    simp (disch := first | assumption | decide | omega | (simp only [List.length_cons, List.length_nil] <;> omega)) only [lgt_0, lgt_s, lset_0, lset_s, lst1_0, lst1_s, lst2_0, lst2_s, ev_iconst, ev_lconst, ev_ldc, ev_null, ev_iload, ev_lload, ev_aload, ev_istore, ev_lstore, ev_astore, ev_iinc, ev_iadd, ev_isub, ev_imul, ev_iand, ev_ior, ev_ishl, ev_ishr, ev_idiv, ev_irem, ev_ineg, ev_ladd, ev_lsub, ev_lmul, ev_land, ev_lor, ev_ldiv, ev_lrem, ev_lshl, ev_i2l, ev_l2i, ev_i2b, ev_i2s, ev_lcmp, ev_dupI, ev_dupR, ev_dup2, ev_popI, ev_popR, ev_alen, ev_xlen, ev_xald, ev_iald, ev_lald, ev_bald, ev_zald, ev_aald, ev_iast, ev_last, ev_bast, ev_zast, ev_aast, ev_gfI, ev_gfL, ev_gfR, ev_pfI, ev_pfZ, ev_pfL, ev_pfR, ev_new, ev_newa, ev_newq, ev_copy, ev_slen, ev_schr, ev_obj, ev_mmin, ev_mabs, ev_mmax, ev_goto, ev_jsr, ev_icmp_eq, ev_if_eq, ev_icmp_ne, ev_if_ne, ev_icmp_lt, ev_if_lt, ev_icmp_ge, ev_if_ge, ev_icmp_gt, ev_if_gt, ev_icmp_le, ev_if_le, ev_ifnull0, ev_ifnull1, ev_ifnn0, ev_ifnn1, ev_tsw, ev_lsw, ev_iret, ev_zret, ev_lret, ev_aret, ev_ret, ev_call0, ev_call1, ev_call2, ev_call3, ev_call4, ev_call5, ev_call6, Option.toList_some, Option.toList_none, List.cons_append, List.nil_append, List.length_cons, List.length_nil, Nat.reduceMod, Nat.reduceDiv, Nat.reduceLeDiff, nc, ↓reduceIte, Nat.zero_le, reduceCtorEq, w32_id, Int.reduceEq, Int.reduceNe, Int.reduceLT, Int.reduceLE, Int.reduceGT, Int.reduceGE, Int.reduceAdd, Int.reduceSub, Int.reduceMul, Int.reduceNeg, ne_eq, not_true_eq_false, not_false_eq_true, eq_self, ↓if_pos, ↓if_neg, J_260_0, k_260_0, J_260_46, k_260_46, J_260_47, k_260_47, e1, e2, e3]
  | ok r3 =>
  obtain ⟨hv, a3, cl3, md3⟩ := ho3 r3 hr3
  subst hv
  have pn3 := pNum_ok hr3
  have t3 := tE_on (b := b) t2.2.1 (by rw [pn3.1]; omega) t2.1
  have er3 : r3.1 = tE b n p2 := by rw [pn3.2.1]
  rw [← er3] at t3
  refine ⟨1, Mc, fM_t (fM_t fa fb') fc, Or.inr ⟨r3.1, _, rfl, rfl, a3, cl3, fun _ _ => by rw [rows_set (by omega), rows_set (by omega)]; exact md3, t3.1, t3.2.1⟩, ?_⟩
  simp (disch := first | assumption | decide | omega | (simp only [List.length_cons, List.length_nil] <;> omega)) only [lgt_0, lgt_s, lset_0, lset_s, lst1_0, lst1_s, lst2_0, lst2_s, ev_iconst, ev_lconst, ev_ldc, ev_null, ev_iload, ev_lload, ev_aload, ev_istore, ev_lstore, ev_astore, ev_iinc, ev_iadd, ev_isub, ev_imul, ev_iand, ev_ior, ev_ishl, ev_ishr, ev_idiv, ev_irem, ev_ineg, ev_ladd, ev_lsub, ev_lmul, ev_land, ev_lor, ev_ldiv, ev_lrem, ev_lshl, ev_i2l, ev_l2i, ev_i2b, ev_i2s, ev_lcmp, ev_dupI, ev_dupR, ev_dup2, ev_popI, ev_popR, ev_alen, ev_xlen, ev_xald, ev_iald, ev_lald, ev_bald, ev_zald, ev_aald, ev_iast, ev_last, ev_bast, ev_zast, ev_aast, ev_gfI, ev_gfL, ev_gfR, ev_pfI, ev_pfZ, ev_pfL, ev_pfR, ev_new, ev_newa, ev_newq, ev_copy, ev_slen, ev_schr, ev_obj, ev_mmin, ev_mabs, ev_mmax, ev_goto, ev_jsr, ev_icmp_eq, ev_if_eq, ev_icmp_ne, ev_if_ne, ev_icmp_lt, ev_if_lt, ev_icmp_ge, ev_if_ge, ev_icmp_gt, ev_if_gt, ev_icmp_le, ev_if_le, ev_ifnull0, ev_ifnull1, ev_ifnn0, ev_ifnn1, ev_tsw, ev_lsw, ev_iret, ev_zret, ev_lret, ev_aret, ev_ret, ev_call0, ev_call1, ev_call2, ev_call3, ev_call4, ev_call5, ev_call6, Option.toList_some, Option.toList_none, List.cons_append, List.nil_append, List.length_cons, List.length_nil, Nat.reduceMod, Nat.reduceDiv, Nat.reduceLeDiff, nc, ↓reduceIte, Nat.zero_le, reduceCtorEq, w32_id, Int.reduceEq, Int.reduceNe, Int.reduceLT, Int.reduceLE, Int.reduceGT, Int.reduceGE, Int.reduceAdd, Int.reduceSub, Int.reduceMul, Int.reduceNeg, ne_eq, not_true_eq_false, not_false_eq_true, eq_self, ↓if_pos, ↓if_neg, J_260_0, k_260_0, J_260_46, k_260_46, J_260_47, k_260_47, e1, e2, e3]
theorem mDr_cells {m m' : Int} (h : mDr M d m) (hm : m' ≤ m) : mDr M d m' := ⟨h.1, h.2.1, h.2.2.1, h.2.2.2.1, h.2.2.2.2.1, fun k k0 k1 => h.2.2.2.2.2 k k0 (by omega)⟩
/-- the names told, for findHere -/
theorem mDr_N {m : Int} (h : mDr M d m) (hI : dI d) : ∀ k, 0 ≤ k → k < d.1 2 → M 142 (20 + k) = c256 (d.2.1 k) ∧ lts (d.2.1 k) := fun k k0 k1 => ⟨(h.2.2.2.1 k k0 k1).1, (hI.2.2.2.2.1 k k0 k1).1⟩
theorem d_col (g : gT b n) (h : mAt M b n p) (hc : mCl M) (p0 : 0 ≤ p) (p1 : p ≤ n) (hk1 : tK b n p ≠ 1) (hk : tK b n p ≠ 0) (hI : dI d) (hd : mDr M d (d.2.2.2.2.2.1 * d.1 0)) : ∃ v M', fM M M' ∧ mSemi b n (pCol b n d p) v M' ∧ evc X 254 [vR (some 140)] SH0 M = some (some (vI v), SH0, M') := by
  have mk0 := w0_k140
  have hmd := w0_md140
  obtain ⟨r_at, k_at, l_at⟩ := md_at w0_md140; obtain ⟨r_names, k_names, l_names⟩ := md_names w0_md140
  have g2 := hI.1.2.2.1
  have s2 : M 141 1922 = d.1 2 := hd.2.2.1 2 (by omega) (by omega)
  rw [E_254 mk0]
  unfold pCol
  by_cases z5 : 5 ≤ d.1 2
  · have ef := d_fails (X := X) h hc.1 (w := 6)
    rw [if_neg hk1] at ef
    have s5 : d.1 2 = 5 := by omega
    rw [s5] at s2
    refine ⟨0, _, fM_w fM_0, mSemi_e (e := (6, tQ b n p)) (if_pos z5) rfl, ?_⟩
    simp (disch := first | assumption | decide | omega | (simp only [List.length_cons, List.length_nil] <;> omega)) only [lgt_0, lgt_s, lset_0, lset_s, lst1_0, lst1_s, lst2_0, lst2_s, ev_iconst, ev_lconst, ev_ldc, ev_null, ev_iload, ev_lload, ev_aload, ev_istore, ev_lstore, ev_astore, ev_iinc, ev_iadd, ev_isub, ev_imul, ev_iand, ev_ior, ev_ishl, ev_ishr, ev_idiv, ev_irem, ev_ineg, ev_ladd, ev_lsub, ev_lmul, ev_land, ev_lor, ev_ldiv, ev_lrem, ev_lshl, ev_i2l, ev_l2i, ev_i2b, ev_i2s, ev_lcmp, ev_dupI, ev_dupR, ev_dup2, ev_popI, ev_popR, ev_alen, ev_xlen, ev_xald, ev_iald, ev_lald, ev_bald, ev_zald, ev_aald, ev_iast, ev_last, ev_bast, ev_zast, ev_aast, ev_gfI, ev_gfL, ev_gfR, ev_pfI, ev_pfZ, ev_pfL, ev_pfR, ev_new, ev_newa, ev_newq, ev_copy, ev_slen, ev_schr, ev_obj, ev_mmin, ev_mabs, ev_mmax, ev_goto, ev_jsr, ev_icmp_eq, ev_if_eq, ev_icmp_ne, ev_if_ne, ev_icmp_lt, ev_if_lt, ev_icmp_ge, ev_if_ge, ev_icmp_gt, ev_if_gt, ev_icmp_le, ev_if_le, ev_ifnull0, ev_ifnull1, ev_ifnn0, ev_ifnn1, ev_tsw, ev_lsw, ev_iret, ev_zret, ev_lret, ev_aret, ev_ret, ev_call0, ev_call1, ev_call2, ev_call3, ev_call4, ev_call5, ev_call6, Option.toList_some, Option.toList_none, List.cons_append, List.nil_append, List.length_cons, List.length_nil, Nat.reduceMod, Nat.reduceDiv, Nat.reduceLeDiff, nc, ↓reduceIte, Nat.zero_le, reduceCtorEq, w32_id, Int.reduceEq, Int.reduceNe, Int.reduceLT, Int.reduceLE, Int.reduceGT, Int.reduceGE, Int.reduceAdd, Int.reduceSub, Int.reduceMul, Int.reduceNeg, ne_eq, not_true_eq_false, not_false_eq_true, eq_self, ↓if_pos, ↓if_neg, J_254_0, k_254_0, J_254_21, k_254_21, J_254_40, k_254_40, J_254_57, k_254_57, J_254_128, k_254_128, J_254_130, k_254_130, r_at, s2, ef]
  rw [if_neg z5]
  have n5 : ¬ d.1 2 = 5 := by omega
  unfold pCol1
  have t1 := tE_on (b := b) p1 hk p0
  obtain ⟨Ma, fa, aa, e1⟩ := d_go (X := X) g h p0 p1
  have ca := mCl_A hc fa
  have da := mDr_A hd fa
  have en := d_isName (X := X) g aa t1.1 t1.2.1 kOK_C
  have ef := d_fails (X := X) aa ca.1 (w := 2)
  by_cases zk : tK b n (tE b n p) = 1
  · rw [if_pos zk]
    rw [if_pos zk] at ef
    have en' := en.2 (fun w => by have := w.1; omega)
    refine ⟨0, _, fM_w (fM_A fa), mSemi_e (e := (1, tQ b n (tE b n p))) rfl rfl, ?_⟩
    simp (disch := first | assumption | decide | omega | (simp only [List.length_cons, List.length_nil] <;> omega)) only [lgt_0, lgt_s, lset_0, lset_s, lst1_0, lst1_s, lst2_0, lst2_s, ev_iconst, ev_lconst, ev_ldc, ev_null, ev_iload, ev_lload, ev_aload, ev_istore, ev_lstore, ev_astore, ev_iinc, ev_iadd, ev_isub, ev_imul, ev_iand, ev_ior, ev_ishl, ev_ishr, ev_idiv, ev_irem, ev_ineg, ev_ladd, ev_lsub, ev_lmul, ev_land, ev_lor, ev_ldiv, ev_lrem, ev_lshl, ev_i2l, ev_l2i, ev_i2b, ev_i2s, ev_lcmp, ev_dupI, ev_dupR, ev_dup2, ev_popI, ev_popR, ev_alen, ev_xlen, ev_xald, ev_iald, ev_lald, ev_bald, ev_zald, ev_aald, ev_iast, ev_last, ev_bast, ev_zast, ev_aast, ev_gfI, ev_gfL, ev_gfR, ev_pfI, ev_pfZ, ev_pfL, ev_pfR, ev_new, ev_newa, ev_newq, ev_copy, ev_slen, ev_schr, ev_obj, ev_mmin, ev_mabs, ev_mmax, ev_goto, ev_jsr, ev_icmp_eq, ev_if_eq, ev_icmp_ne, ev_if_ne, ev_icmp_lt, ev_if_lt, ev_icmp_ge, ev_if_ge, ev_icmp_gt, ev_if_gt, ev_icmp_le, ev_if_le, ev_ifnull0, ev_ifnull1, ev_ifnn0, ev_ifnn1, ev_tsw, ev_lsw, ev_iret, ev_zret, ev_lret, ev_aret, ev_ret, ev_call0, ev_call1, ev_call2, ev_call3, ev_call4, ev_call5, ev_call6, Option.toList_some, Option.toList_none, List.cons_append, List.nil_append, List.length_cons, List.length_nil, Nat.reduceMod, Nat.reduceDiv, Nat.reduceLeDiff, nc, ↓reduceIte, Nat.zero_le, reduceCtorEq, w32_id, Int.reduceEq, Int.reduceNe, Int.reduceLT, Int.reduceLE, Int.reduceGT, Int.reduceGE, Int.reduceAdd, Int.reduceSub, Int.reduceMul, Int.reduceNeg, ne_eq, not_true_eq_false, not_false_eq_true, eq_self, ↓if_pos, ↓if_neg, J_254_0, k_254_0, J_254_21, k_254_21, J_254_40, k_254_40, J_254_57, k_254_57, J_254_128, k_254_128, J_254_130, k_254_130, r_at, s2, n5, e1, en', ef]
  rw [if_neg zk]
  rw [if_neg zk] at ef
  by_cases zn : nmB b n CK (tE b n p) = false
  · rw [if_pos zn]
    have en' := en.2 (fun w => by
      have : nmB b n CK (tE b n p) = true := decide_eq_true w
      rw [zn] at this
      exact absurd this (by decide))
    refine ⟨0, _, fM_w (fM_A fa), mSemi_e (e := (2, tQ b n (tE b n p))) rfl rfl, ?_⟩
    simp (disch := first | assumption | decide | omega | (simp only [List.length_cons, List.length_nil] <;> omega)) only [lgt_0, lgt_s, lset_0, lset_s, lst1_0, lst1_s, lst2_0, lst2_s, ev_iconst, ev_lconst, ev_ldc, ev_null, ev_iload, ev_lload, ev_aload, ev_istore, ev_lstore, ev_astore, ev_iinc, ev_iadd, ev_isub, ev_imul, ev_iand, ev_ior, ev_ishl, ev_ishr, ev_idiv, ev_irem, ev_ineg, ev_ladd, ev_lsub, ev_lmul, ev_land, ev_lor, ev_ldiv, ev_lrem, ev_lshl, ev_i2l, ev_l2i, ev_i2b, ev_i2s, ev_lcmp, ev_dupI, ev_dupR, ev_dup2, ev_popI, ev_popR, ev_alen, ev_xlen, ev_xald, ev_iald, ev_lald, ev_bald, ev_zald, ev_aald, ev_iast, ev_last, ev_bast, ev_zast, ev_aast, ev_gfI, ev_gfL, ev_gfR, ev_pfI, ev_pfZ, ev_pfL, ev_pfR, ev_new, ev_newa, ev_newq, ev_copy, ev_slen, ev_schr, ev_obj, ev_mmin, ev_mabs, ev_mmax, ev_goto, ev_jsr, ev_icmp_eq, ev_if_eq, ev_icmp_ne, ev_if_ne, ev_icmp_lt, ev_if_lt, ev_icmp_ge, ev_if_ge, ev_icmp_gt, ev_if_gt, ev_icmp_le, ev_if_le, ev_ifnull0, ev_ifnull1, ev_ifnn0, ev_ifnn1, ev_tsw, ev_lsw, ev_iret, ev_zret, ev_lret, ev_aret, ev_ret, ev_call0, ev_call1, ev_call2, ev_call3, ev_call4, ev_call5, ev_call6, Option.toList_some, Option.toList_none, List.cons_append, List.nil_append, List.length_cons, List.length_nil, Nat.reduceMod, Nat.reduceDiv, Nat.reduceLeDiff, nc, ↓reduceIte, Nat.zero_le, reduceCtorEq, w32_id, Int.reduceEq, Int.reduceNe, Int.reduceLT, Int.reduceLE, Int.reduceGT, Int.reduceGE, Int.reduceAdd, Int.reduceSub, Int.reduceMul, Int.reduceNeg, ne_eq, not_true_eq_false, not_false_eq_true, eq_self, ↓if_pos, ↓if_neg, J_254_0, k_254_0, J_254_21, k_254_21, J_254_40, k_254_40, J_254_57, k_254_57, J_254_128, k_254_128, J_254_130, k_254_130, r_at, s2, n5, e1, en', ef]
  rw [if_neg zn]
  have nm := nmB_t (by simpa using zn : nmB b n CK (tE b n p) = true)
  have en' := en.1 nm
  have efh := d_findHere (X := X) g aa t1.1 t1.2.1 nm.1 nm.2.1 (NW := d.2.1) (base := 20) (m := d.1 2) (by omega) g2 (mDr_N da hI)
  have enh := d_nameHere (X := X) g aa t1.1 t1.2.1 nm.1 nm.2.1
  have t2 := tE_on (b := b) t1.2.1 (by rw [nm.1]; omega) t1.1
  have lw := tW_lts nm.1
  generalize hw : tW b n (tE b n p) = w at efh enh nm lw ⊢
  by_cases zf : fnF d.2.1 (d.1 2) w ≠ -1
  · rw [if_pos zf]
    have ef3 := d_fails (X := X) aa ca.1 (w := 3)
    rw [if_neg zk] at ef3
    refine ⟨0, _, fM_w (fM_A fa), mSemi_e (e := (3, tQ b n (tE b n p))) rfl rfl, ?_⟩
    generalize fnF d.2.1 (d.1 2) w = fv at efh zf
    simp (disch := first | assumption | decide | omega | (simp only [List.length_cons, List.length_nil] <;> omega)) only [lgt_0, lgt_s, lset_0, lset_s, lst1_0, lst1_s, lst2_0, lst2_s, ev_iconst, ev_lconst, ev_ldc, ev_null, ev_iload, ev_lload, ev_aload, ev_istore, ev_lstore, ev_astore, ev_iinc, ev_iadd, ev_isub, ev_imul, ev_iand, ev_ior, ev_ishl, ev_ishr, ev_idiv, ev_irem, ev_ineg, ev_ladd, ev_lsub, ev_lmul, ev_land, ev_lor, ev_ldiv, ev_lrem, ev_lshl, ev_i2l, ev_l2i, ev_i2b, ev_i2s, ev_lcmp, ev_dupI, ev_dupR, ev_dup2, ev_popI, ev_popR, ev_alen, ev_xlen, ev_xald, ev_iald, ev_lald, ev_bald, ev_zald, ev_aald, ev_iast, ev_last, ev_bast, ev_zast, ev_aast, ev_gfI, ev_gfL, ev_gfR, ev_pfI, ev_pfZ, ev_pfL, ev_pfR, ev_new, ev_newa, ev_newq, ev_copy, ev_slen, ev_schr, ev_obj, ev_mmin, ev_mabs, ev_mmax, ev_goto, ev_jsr, ev_icmp_eq, ev_if_eq, ev_icmp_ne, ev_if_ne, ev_icmp_lt, ev_if_lt, ev_icmp_ge, ev_if_ge, ev_icmp_gt, ev_if_gt, ev_icmp_le, ev_if_le, ev_ifnull0, ev_ifnull1, ev_ifnn0, ev_ifnn1, ev_tsw, ev_lsw, ev_iret, ev_zret, ev_lret, ev_aret, ev_ret, ev_call0, ev_call1, ev_call2, ev_call3, ev_call4, ev_call5, ev_call6, Option.toList_some, Option.toList_none, List.cons_append, List.nil_append, List.length_cons, List.length_nil, Nat.reduceMod, Nat.reduceDiv, Nat.reduceLeDiff, nc, ↓reduceIte, Nat.zero_le, reduceCtorEq, w32_id, Int.reduceEq, Int.reduceNe, Int.reduceLT, Int.reduceLE, Int.reduceGT, Int.reduceGE, Int.reduceAdd, Int.reduceSub, Int.reduceMul, Int.reduceNeg, ne_eq, not_true_eq_false, not_false_eq_true, eq_self, ↓if_pos, ↓if_neg, J_254_0, k_254_0, J_254_21, k_254_21, J_254_40, k_254_40, J_254_57, k_254_57, J_254_128, k_254_128, J_254_130, k_254_130, r_at, s2, n5, e1, en', efh, zf, ef3]
  rw [if_neg zf]
  have zf' : fnF d.2.1 (d.1 2) w = -1 := Classical.not_not.mp zf
  rw [zf'] at efh
  -- the name
  generalize hMb : up Ma 142 (20 + d.1 2) (c256 w) = Mb
  have fb : fM M Mb := by rw [← hMb]; exact fM_142 (fM_A fa) (by omega)
  have ab : mAt Mb b n (tE b n p) := mAt_f aa (fun i _ _ => by rw [← hMb, up_ne (by omega)]) (by rw [← hMb, up_ne (by omega)])
  have cb : mCl Mb := ⟨by rw [← hMb, up_ne (by omega)]; exact ca.1, by rw [← hMb, up_ne (by omega)]; exact ca.2⟩
  have db : mDr Mb d (d.2.2.2.2.2.1 * d.1 0) := by
    obtain ⟨h1, h2, h3, h4, h5, h6⟩ := da
    rw [← hMb]
    exact ⟨by rw [up_ne (by omega)]; exact h1, fun k k0 k1 => by rw [up_ne (by omega)]; exact h2 k k0 k1, fun k k0 k1 => by rw [up_ne (by omega)]; exact h3 k k0 k1, fun k k0 k1 => by rw [up_ne2 (by omega), up_ne (by omega)]; exact h4 k k0 k1, fun k k0 k1 => by rw [up_ne (by omega)]; exact h5 k k0 k1, fun k k0 k1 => by rw [up_ne (by omega)]; exact h6 k k0 k1⟩
  have nb : Mb 142 (20 + d.1 2) = c256 w := by rw [← hMb, up_eq]
  obtain ⟨Mc, fc, ac, e2⟩ := d_go (X := X) g ab t1.1 t1.2.1
  have cc := mCl_A cb fc
  have dc := mDr_A db fc
  have nc' : Mc 142 (20 + d.1 2) = c256 w := by rw [fc.1 142 (by omega)]; exact nb
  unfold pCol2
  obtain ⟨v, Md, fd, ⟨we, wo⟩, e3⟩ := d_wantWord (X := X) g ac cc t2.1 t2.2.1 kOK_C (j := 12) (w := kl 2) (fun v => ck_iff (by omega))
  rw [show ((12 : Nat) : Int) = 12 from rfl] at e3
  have fd' : fM Mc Md := by
    rcases fd with f | ⟨w, q, f⟩
    · exact fM_A f
    · rw [f]; exact fM_w fM_0
  have dkeep : ∀ {M1 M2 : Mem} {dd : DS} {mm : Int}, (fA M1 M2 ∨ ∃ w q, M2 = up (up M1 140 18 w) 140 17 q) → mDr M1 dd mm → mDr M2 dd mm ∧ M2 142 = M1 142 := fun f hm => by
    rcases f with f | ⟨w, q, f⟩
    · exact ⟨mDr_A hm f, f.1 142 (by omega)⟩
    · rw [f]
      exact ⟨mDr_f hm (by rw [up_ne (by omega), up_ne (by omega)]) (by rw [up_ne (by omega), up_ne (by omega)]) (by rw [up_ne2 (by omega), up_ne2 (by omega)]) (by rw [up_ne2 (by omega), up_ne2 (by omega)]), by rw [up_ne (by omega), up_ne (by omega)]⟩
  cases hr2 : pWord b n (kl 2) (tE b n (tE b n p)) with
  | error er =>
    obtain ⟨hv, q2, q3⟩ := we er hr2
    subst hv
    refine ⟨0, Md, fM_t fb (fM_t (fM_A fc) fd'), Or.inl ⟨er, rfl, rfl, q2, q3⟩, ?_⟩
    simp (disch := first | assumption | decide | omega | (simp only [List.length_cons, List.length_nil] <;> omega)) only [lgt_0, lgt_s, lset_0, lset_s, lst1_0, lst1_s, lst2_0, lst2_s, ev_iconst, ev_lconst, ev_ldc, ev_null, ev_iload, ev_lload, ev_aload, ev_istore, ev_lstore, ev_astore, ev_iinc, ev_iadd, ev_isub, ev_imul, ev_iand, ev_ior, ev_ishl, ev_ishr, ev_idiv, ev_irem, ev_ineg, ev_ladd, ev_lsub, ev_lmul, ev_land, ev_lor, ev_ldiv, ev_lrem, ev_lshl, ev_i2l, ev_l2i, ev_i2b, ev_i2s, ev_lcmp, ev_dupI, ev_dupR, ev_dup2, ev_popI, ev_popR, ev_alen, ev_xlen, ev_xald, ev_iald, ev_lald, ev_bald, ev_zald, ev_aald, ev_iast, ev_last, ev_bast, ev_zast, ev_aast, ev_gfI, ev_gfL, ev_gfR, ev_pfI, ev_pfZ, ev_pfL, ev_pfR, ev_new, ev_newa, ev_newq, ev_copy, ev_slen, ev_schr, ev_obj, ev_mmin, ev_mabs, ev_mmax, ev_goto, ev_jsr, ev_icmp_eq, ev_if_eq, ev_icmp_ne, ev_if_ne, ev_icmp_lt, ev_if_lt, ev_icmp_ge, ev_if_ge, ev_icmp_gt, ev_if_gt, ev_icmp_le, ev_if_le, ev_ifnull0, ev_ifnull1, ev_ifnn0, ev_ifnn1, ev_tsw, ev_lsw, ev_iret, ev_zret, ev_lret, ev_aret, ev_ret, ev_call0, ev_call1, ev_call2, ev_call3, ev_call4, ev_call5, ev_call6, Option.toList_some, Option.toList_none, List.cons_append, List.nil_append, List.length_cons, List.length_nil, Nat.reduceMod, Nat.reduceDiv, Nat.reduceLeDiff, nc, ↓reduceIte, Nat.zero_le, reduceCtorEq, w32_id, Int.reduceEq, Int.reduceNe, Int.reduceLT, Int.reduceLE, Int.reduceGT, Int.reduceGE, Int.reduceAdd, Int.reduceSub, Int.reduceMul, Int.reduceNeg, ne_eq, not_true_eq_false, not_false_eq_true, eq_self, ↓if_pos, ↓if_neg, J_254_0, k_254_0, J_254_21, k_254_21, J_254_40, k_254_40, J_254_57, k_254_57, J_254_128, k_254_128, J_254_130, k_254_130, r_at, r_names, s2, n5, e1, en', efh, enh, hMb, e2, e3]
  | ok p2 =>
  obtain ⟨hv, ad, cd'⟩ := wo p2 hr2
  subst hv
  have a1 := pWord_ok hr2
  have t3 := tE_on (b := b) t2.2.1 (by rw [a1.1]; omega) t2.1
  rw [← a1.2.2] at t3
  rw [bnd_o]
  obtain ⟨dd, dn⟩ := dkeep fd dc
  obtain ⟨v, Me, he, ho, e4⟩ := d_number (X := X) g ad cd' t3.1 t3.2.1 (t := 1936 + 2 * d.1 2) (lo := 0) (hi := 9) (by omega)
  cases hr3 : pNum b n 0 9 p2 with
  | error er =>
    obtain ⟨hv, hM⟩ := he er hr3
    subst hv
    refine ⟨0, Me, by rw [hM]; exact fM_w (fM_t fb (fM_t (fM_A fc) fd')), mSemi_e (e := er) rfl hM, ?_⟩
    simp (disch := first | assumption | decide | omega | (simp only [List.length_cons, List.length_nil] <;> omega)) only [lgt_0, lgt_s, lset_0, lset_s, lst1_0, lst1_s, lst2_0, lst2_s, ev_iconst, ev_lconst, ev_ldc, ev_null, ev_iload, ev_lload, ev_aload, ev_istore, ev_lstore, ev_astore, ev_iinc, ev_iadd, ev_isub, ev_imul, ev_iand, ev_ior, ev_ishl, ev_ishr, ev_idiv, ev_irem, ev_ineg, ev_ladd, ev_lsub, ev_lmul, ev_land, ev_lor, ev_ldiv, ev_lrem, ev_lshl, ev_i2l, ev_l2i, ev_i2b, ev_i2s, ev_lcmp, ev_dupI, ev_dupR, ev_dup2, ev_popI, ev_popR, ev_alen, ev_xlen, ev_xald, ev_iald, ev_lald, ev_bald, ev_zald, ev_aald, ev_iast, ev_last, ev_bast, ev_zast, ev_aast, ev_gfI, ev_gfL, ev_gfR, ev_pfI, ev_pfZ, ev_pfL, ev_pfR, ev_new, ev_newa, ev_newq, ev_copy, ev_slen, ev_schr, ev_obj, ev_mmin, ev_mabs, ev_mmax, ev_goto, ev_jsr, ev_icmp_eq, ev_if_eq, ev_icmp_ne, ev_if_ne, ev_icmp_lt, ev_if_lt, ev_icmp_ge, ev_if_ge, ev_icmp_gt, ev_if_gt, ev_icmp_le, ev_if_le, ev_ifnull0, ev_ifnull1, ev_ifnn0, ev_ifnn1, ev_tsw, ev_lsw, ev_iret, ev_zret, ev_lret, ev_aret, ev_ret, ev_call0, ev_call1, ev_call2, ev_call3, ev_call4, ev_call5, ev_call6, Option.toList_some, Option.toList_none, List.cons_append, List.nil_append, List.length_cons, List.length_nil, Nat.reduceMod, Nat.reduceDiv, Nat.reduceLeDiff, nc, ↓reduceIte, Nat.zero_le, reduceCtorEq, w32_id, Int.reduceEq, Int.reduceNe, Int.reduceLT, Int.reduceLE, Int.reduceGT, Int.reduceGE, Int.reduceAdd, Int.reduceSub, Int.reduceMul, Int.reduceNeg, ne_eq, not_true_eq_false, not_false_eq_true, eq_self, ↓if_pos, ↓if_neg, J_254_0, k_254_0, J_254_21, k_254_21, J_254_40, k_254_40, J_254_57, k_254_57, J_254_128, k_254_128, J_254_130, k_254_130, r_at, r_names, s2, n5, e1, en', efh, enh, hMb, e2, e3, e4]
  | ok r3 =>
  obtain ⟨hv, fe, ae⟩ := ho r3 hr3
  subst hv
  have a2 := pNum_ok hr3
  have t4 := tE_on (b := b) t3.2.1 (by rw [a2.1]; omega) t3.1
  have er3 : r3.1 = tE b n p2 := by rw [a2.2.1]
  rw [← er3] at t4
  rw [bnd_o]
  have fe' : fM M Me := fM_t (fM_141 (fM_t fb (fM_t (fM_A fc) fd')) (by omega)) (fM_A fe)
  have ce : mCl Me := mCl_A ⟨by rw [up_ne (by omega)]; exact cd'.1, by rw [up_ne (by omega)]; exact cd'.2⟩ fe
  -- from here on by hand: the cells of 141
  have e141 : Me 141 = fun k => if k = 1936 + 2 * d.1 2 then r3.2 else Md 141 k := by
    rw [fe.1 141 (by omega)]
    exact up_fun rfl
  obtain ⟨v, Mf, ff, ⟨we2, wo2⟩, e5⟩ := d_wantWord (X := X) g ae ce t4.1 t4.2.1 kOK_C (j := 13) (w := kl 3) (fun v => ck_iff (by omega))
  rw [show ((13 : Nat) : Int) = 13 from rfl] at e5
  have ff' : fM Me Mf := by
    rcases ff with f | ⟨w, q, f⟩
    · exact fM_A f
    · rw [f]; exact fM_w fM_0
  have f141 : Mf 141 = Me 141 ∧ Mf 142 = Me 142 ∧ Mf 140 19 = Me 140 19 ∧ Mf 140 20 = Me 140 20 := by
    rcases ff with f | ⟨w, q, f⟩
    · exact ⟨f.1 141 (by omega), f.1 142 (by omega), f.2 19 (by omega), f.2 20 (by omega)⟩
    · rw [f]
      exact ⟨by rw [up_ne (by omega), up_ne (by omega)], by rw [up_ne (by omega), up_ne (by omega)], by rw [up_ne2 (by omega), up_ne2 (by omega)], by rw [up_ne2 (by omega), up_ne2 (by omega)]⟩
  cases hr4 : pWord b n (kl 3) r3.1 with
  | error er =>
    obtain ⟨hv, q2, q3⟩ := we2 er hr4
    subst hv
    refine ⟨0, Mf, fM_t fe' ff', Or.inl ⟨er, rfl, rfl, q2, q3⟩, ?_⟩
    simp (disch := first | assumption | decide | omega | (simp only [List.length_cons, List.length_nil] <;> omega)) only [lgt_0, lgt_s, lset_0, lset_s, lst1_0, lst1_s, lst2_0, lst2_s, ev_iconst, ev_lconst, ev_ldc, ev_null, ev_iload, ev_lload, ev_aload, ev_istore, ev_lstore, ev_astore, ev_iinc, ev_iadd, ev_isub, ev_imul, ev_iand, ev_ior, ev_ishl, ev_ishr, ev_idiv, ev_irem, ev_ineg, ev_ladd, ev_lsub, ev_lmul, ev_land, ev_lor, ev_ldiv, ev_lrem, ev_lshl, ev_i2l, ev_l2i, ev_i2b, ev_i2s, ev_lcmp, ev_dupI, ev_dupR, ev_dup2, ev_popI, ev_popR, ev_alen, ev_xlen, ev_xald, ev_iald, ev_lald, ev_bald, ev_zald, ev_aald, ev_iast, ev_last, ev_bast, ev_zast, ev_aast, ev_gfI, ev_gfL, ev_gfR, ev_pfI, ev_pfZ, ev_pfL, ev_pfR, ev_new, ev_newa, ev_newq, ev_copy, ev_slen, ev_schr, ev_obj, ev_mmin, ev_mabs, ev_mmax, ev_goto, ev_jsr, ev_icmp_eq, ev_if_eq, ev_icmp_ne, ev_if_ne, ev_icmp_lt, ev_if_lt, ev_icmp_ge, ev_if_ge, ev_icmp_gt, ev_if_gt, ev_icmp_le, ev_if_le, ev_ifnull0, ev_ifnull1, ev_ifnn0, ev_ifnn1, ev_tsw, ev_lsw, ev_iret, ev_zret, ev_lret, ev_aret, ev_ret, ev_call0, ev_call1, ev_call2, ev_call3, ev_call4, ev_call5, ev_call6, Option.toList_some, Option.toList_none, List.cons_append, List.nil_append, List.length_cons, List.length_nil, Nat.reduceMod, Nat.reduceDiv, Nat.reduceLeDiff, nc, ↓reduceIte, Nat.zero_le, reduceCtorEq, w32_id, Int.reduceEq, Int.reduceNe, Int.reduceLT, Int.reduceLE, Int.reduceGT, Int.reduceGE, Int.reduceAdd, Int.reduceSub, Int.reduceMul, Int.reduceNeg, ne_eq, not_true_eq_false, not_false_eq_true, eq_self, ↓if_pos, ↓if_neg, J_254_0, k_254_0, J_254_21, k_254_21, J_254_40, k_254_40, J_254_57, k_254_57, J_254_128, k_254_128, J_254_130, k_254_130, r_at, r_names, s2, n5, e1, en', efh, enh, hMb, e2, e3, e4, e5]
  | ok p3 =>
  obtain ⟨hv, af, cf⟩ := wo2 p3 hr4
  subst hv
  have a3 := pWord_ok hr4
  have t5 := tE_on (b := b) t4.2.1 (by rw [a3.1]; omega) t4.1
  rw [← a3.2.2] at t5
  rw [bnd_o]
  obtain ⟨v, Mg, he5, ho5, e6⟩ := d_number (X := X) g af cf t5.1 t5.2.1 (t := 1936 + 2 * d.1 2 + 1) (lo := 1) (hi := 99) (by omega)
  cases hr5 : pNum b n 1 99 p3 with
  | error er =>
    obtain ⟨hv, hM⟩ := he5 er hr5
    subst hv
    refine ⟨0, Mg, by rw [hM]; exact fM_w (fM_t fe' ff'), mSemi_e (e := er) rfl hM, ?_⟩
    simp (disch := first | assumption | decide | omega | (simp only [List.length_cons, List.length_nil] <;> omega)) only [lgt_0, lgt_s, lset_0, lset_s, lst1_0, lst1_s, lst2_0, lst2_s, ev_iconst, ev_lconst, ev_ldc, ev_null, ev_iload, ev_lload, ev_aload, ev_istore, ev_lstore, ev_astore, ev_iinc, ev_iadd, ev_isub, ev_imul, ev_iand, ev_ior, ev_ishl, ev_ishr, ev_idiv, ev_irem, ev_ineg, ev_ladd, ev_lsub, ev_lmul, ev_land, ev_lor, ev_ldiv, ev_lrem, ev_lshl, ev_i2l, ev_l2i, ev_i2b, ev_i2s, ev_lcmp, ev_dupI, ev_dupR, ev_dup2, ev_popI, ev_popR, ev_alen, ev_xlen, ev_xald, ev_iald, ev_lald, ev_bald, ev_zald, ev_aald, ev_iast, ev_last, ev_bast, ev_zast, ev_aast, ev_gfI, ev_gfL, ev_gfR, ev_pfI, ev_pfZ, ev_pfL, ev_pfR, ev_new, ev_newa, ev_newq, ev_copy, ev_slen, ev_schr, ev_obj, ev_mmin, ev_mabs, ev_mmax, ev_goto, ev_jsr, ev_icmp_eq, ev_if_eq, ev_icmp_ne, ev_if_ne, ev_icmp_lt, ev_if_lt, ev_icmp_ge, ev_if_ge, ev_icmp_gt, ev_if_gt, ev_icmp_le, ev_if_le, ev_ifnull0, ev_ifnull1, ev_ifnn0, ev_ifnn1, ev_tsw, ev_lsw, ev_iret, ev_zret, ev_lret, ev_aret, ev_ret, ev_call0, ev_call1, ev_call2, ev_call3, ev_call4, ev_call5, ev_call6, Option.toList_some, Option.toList_none, List.cons_append, List.nil_append, List.length_cons, List.length_nil, Nat.reduceMod, Nat.reduceDiv, Nat.reduceLeDiff, nc, ↓reduceIte, Nat.zero_le, reduceCtorEq, w32_id, Int.reduceEq, Int.reduceNe, Int.reduceLT, Int.reduceLE, Int.reduceGT, Int.reduceGE, Int.reduceAdd, Int.reduceSub, Int.reduceMul, Int.reduceNeg, ne_eq, not_true_eq_false, not_false_eq_true, eq_self, ↓if_pos, ↓if_neg, J_254_0, k_254_0, J_254_21, k_254_21, J_254_40, k_254_40, J_254_57, k_254_57, J_254_128, k_254_128, J_254_130, k_254_130, r_at, r_names, s2, n5, e1, en', efh, enh, hMb, e2, e3, e4, e5, e6]
  | ok r5 =>
  obtain ⟨hv, fg, ag⟩ := ho5 r5 hr5
  subst hv
  have a4 := pNum_ok hr5
  have t6 := tE_on (b := b) t5.2.1 (by rw [a4.1]; omega) t5.1
  have er5 : r5.1 = tE b n p3 := by rw [a4.2.1]
  rw [← er5] at t6
  rw [bnd_o]
  have cg : mCl Mg := mCl_A ⟨by rw [up_ne (by omega)]; exact cf.1, by rw [up_ne (by omega)]; exact cf.2⟩ fg
  have fg' : fM M Mg := fM_t (fM_141 (fM_t fe' ff') (by omega)) (fM_A fg)
  have g141 : ∀ k, Mg 141 k = if k = 1937 + 2 * d.1 2 then r5.2 else if k = 1936 + 2 * d.1 2 then r3.2 else Md 141 k := fun k => by
    rw [fg.1 141 (by omega), up_at, f141.1, e141]
    have eq1 : (141 = 141 ∧ k = 1936 + 2 * d.1 2 + 1) ↔ k = 1937 + 2 * d.1 2 := by omega
    by_cases y : k = 1937 + 2 * d.1 2
    · rw [if_pos (by omega), if_pos y]
    · rw [if_neg (by omega), if_neg y]
  have g142 : Mg 142 = Md 142 := by rw [fg.1 142 (by omega), up_ne (by omega), f141.2.1, fe.1 142 (by omega), up_ne (by omega)]
  have g19 : Mg 140 19 = Md 140 19 := by rw [fg.2 19 (by omega), up_ne (by omega), f141.2.2.1, fe.2 19 (by omega), up_ne (by omega)]
  have g20 : Mg 140 20 = Md 140 20 := by rw [fg.2 20 (by omega), up_ne (by omega), f141.2.2.2, fe.2 20 (by omega), up_ne (by omega)]
  have gs2 : Mg 141 1922 = d.1 2 := by
    rw [g141, if_neg (by omega), if_neg (by omega)]
    exact dd.2.2.1 2 (by omega) (by omega)
  generalize hMh : up Mg 141 1922 (d.1 2 + 1) = Mh
  have ah : mAt Mh b n r5.1 := mAt_f ag (fun i _ _ => by rw [← hMh, up_ne (by omega)]) (by rw [← hMh, up_ne (by omega)])
  have chh : mCl Mh := ⟨by rw [← hMh, up_ne (by omega)]; exact cg.1, by rw [← hMh, up_ne (by omega)]; exact cg.2⟩
  have fh : fM M Mh := by rw [← hMh]; exact fM_141 fg' (by omega)
  refine ⟨1, Mh, fh, Or.inr ⟨r5.1, _, rfl, rfl, ah, chh, fun _ _ => ?_, t6.1, t6.2.1⟩, ?_⟩
  · obtain ⟨h1, h2, h3, h4, h5, h6⟩ := dd
    have w0 : upH d.1 2 (d.1 2 + 1) 0 = d.1 0 := if_neg (by omega)
    refine ⟨by rw [← hMh, up_ne (by omega), g20]; exact h1, fun k k0 k1 => by rw [← hMh, up_ne (by omega), g19]; exact h2 k k0 k1, fun k k0 k1 => ?_, fun k k0 k1 => ?_, fun k k0 k1 => ?_, fun k k0 k1 => ?_⟩
    · show Mh 141 (1920 + k) = upH d.1 2 (d.1 2 + 1) k
      unfold upH
      rw [← hMh]
      by_cases y : k = 2
      · rw [if_pos y, y]
        exact up_eq
      · rw [if_neg y, up_ne2 (by omega), g141, if_neg (by omega), if_neg (by omega)]
        exact h3 k k0 k1
    · have k1' : k < upH d.1 2 (d.1 2 + 1) 2 := k1
      unfold upH at k1'
      rw [if_pos rfl] at k1'
      rw [← hMh, up_ne (by omega), g142, up_ne2 (by omega), up_ne2 (by omega), g141, g141]
      show Md 142 (20 + k) = c256 (upL d.2.1 (d.1 2) w k) ∧ _ = upH d.2.2.1 (d.1 2) r3.2 k ∧ _ = upH d.2.2.2.1 (d.1 2) r5.2 k
      unfold upL upH
      by_cases y : k = d.1 2
      · rw [if_pos y, if_pos y, if_pos y, y, dn, if_neg (by omega), if_pos rfl, if_pos rfl]
        exact ⟨nc', rfl, rfl⟩
      · rw [if_neg y, if_neg y, if_neg y, if_neg (by omega), if_neg (by omega), if_neg (by omega), if_neg (by omega)]
        exact h4 k k0 (by omega)
    · rw [← hMh, up_ne2 (by omega), up_ne2 (by omega), g141, g141]
      have b2 := a2.2.2
      have b4 := a4.2.2
      have b6 := h5 k k0 k1
      by_cases y : k = d.1 2
      · rw [if_neg (by omega), if_pos (by omega), if_pos (by omega)]
        omega
      · rw [if_neg (by omega), if_neg (by omega), if_neg (by omega), if_neg (by omega)]
        exact b6
    · have k1' : k < d.2.2.2.2.2.1 * upH d.1 2 (d.1 2 + 1) 0 := k1
      rw [w0] at k1'
      rw [← hMh, up_ne2 (by omega), g141, if_neg (by omega), if_neg (by omega)]
      exact h6 k k0 k1'
  · simp (disch := first | assumption | decide | omega | (simp only [List.length_cons, List.length_nil] <;> omega)) only [lgt_0, lgt_s, lset_0, lset_s, lst1_0, lst1_s, lst2_0, lst2_s, ev_iconst, ev_lconst, ev_ldc, ev_null, ev_iload, ev_lload, ev_aload, ev_istore, ev_lstore, ev_astore, ev_iinc, ev_iadd, ev_isub, ev_imul, ev_iand, ev_ior, ev_ishl, ev_ishr, ev_idiv, ev_irem, ev_ineg, ev_ladd, ev_lsub, ev_lmul, ev_land, ev_lor, ev_ldiv, ev_lrem, ev_lshl, ev_i2l, ev_l2i, ev_i2b, ev_i2s, ev_lcmp, ev_dupI, ev_dupR, ev_dup2, ev_popI, ev_popR, ev_alen, ev_xlen, ev_xald, ev_iald, ev_lald, ev_bald, ev_zald, ev_aald, ev_iast, ev_last, ev_bast, ev_zast, ev_aast, ev_gfI, ev_gfL, ev_gfR, ev_pfI, ev_pfZ, ev_pfL, ev_pfR, ev_new, ev_newa, ev_newq, ev_copy, ev_slen, ev_schr, ev_obj, ev_mmin, ev_mabs, ev_mmax, ev_goto, ev_jsr, ev_icmp_eq, ev_if_eq, ev_icmp_ne, ev_if_ne, ev_icmp_lt, ev_if_lt, ev_icmp_ge, ev_if_ge, ev_icmp_gt, ev_if_gt, ev_icmp_le, ev_if_le, ev_ifnull0, ev_ifnull1, ev_ifnn0, ev_ifnn1, ev_tsw, ev_lsw, ev_iret, ev_zret, ev_lret, ev_aret, ev_ret, ev_call0, ev_call1, ev_call2, ev_call3, ev_call4, ev_call5, ev_call6, Option.toList_some, Option.toList_none, List.cons_append, List.nil_append, List.length_cons, List.length_nil, Nat.reduceMod, Nat.reduceDiv, Nat.reduceLeDiff, nc, ↓reduceIte, Nat.zero_le, reduceCtorEq, w32_id, Int.reduceEq, Int.reduceNe, Int.reduceLT, Int.reduceLE, Int.reduceGT, Int.reduceGE, Int.reduceAdd, Int.reduceSub, Int.reduceMul, Int.reduceNeg, ne_eq, not_true_eq_false, not_false_eq_true, eq_self, ↓if_pos, ↓if_neg, J_254_0, k_254_0, J_254_21, k_254_21, J_254_40, k_254_40, J_254_57, k_254_57, J_254_128, k_254_128, J_254_130, k_254_130, r_at, r_names, s2, n5, e1, en', efh, enh, hMb, e2, e3, e4, e5, e6, gs2, hMh]
end MRP
