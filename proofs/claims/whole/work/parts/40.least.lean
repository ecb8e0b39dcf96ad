/-! PAIRING: settling, and the least as a function of what is seen. -/
/-- prices in range -/
theorem pri_rng {S H P R W : Int → Int} {n i j : Int} (g : goodN S H P R n) (gw : ∀ k, 0 ≤ k → k < 5 → 0 ≤ W k ∧ W k ≤ 9) : 0 ≤ priF S H W (wayF S H P R n i j) i j ∧ priF S H W (wayF S H P R n i j) i j ≤ 1000 := by
  obtain ⟨⟨g0, g1, g2, g3, g4, g5, g6, g7, g8, -⟩, ⟨gn0, gn1⟩, gi⟩ := g
  generalize hw : wayF S H P R n i j = w
  unfold priF
  by_cases w4 : w = 4
  · rw [if_pos w4]; omega
  · rw [if_neg w4]
    by_cases w0 : w = 0
    · rw [if_neg (by omega), if_neg (by omega)]; omega
    have hin := wayF_in (S := S) (H := H) (P := P) (R := R) (n := n) (i := i) (j := j) (by omega)
    have hd : 0 ≤ (j - i - 1) * S 5 ∧ (j - i - 1) * S 5 ≤ 48 * 9 := ⟨Int.mul_nonneg (by omega) (by omega), Int.mul_le_mul (by omega) (by omega) (by omega) (by omega)⟩
    by_cases w3 : w = 3
    · rw [if_pos w3]
      have p6 : S 6 ≠ 0 := wayF_3 (hw.trans w3)
      have hd0 : 0 ≤ (j - i - 1) / S 6 := Int.ediv_nonneg (by omega) (by omega)
      have hd1 : (j - i - 1) / S 6 ≤ j - i - 1 := Int.ediv_le_self _ (by omega)
      have e := sumN_le (f := fun m => W (H (i + S 6 * (m + 1)))) (a := 0) (b := 9) (n := ((j - i - 1) / S 6).toNat) (fun m hm => by
        have e1 : ((m : Int) + 1) * S 6 ≤ j - i - 1 := (Int.le_ediv_iff_mul_le (by omega)).mp (by omega)
        rw [Int.mul_comm] at e1
        have e2 : 0 ≤ S 6 * ((m : Int) + 1) := Int.mul_nonneg (by omega) (by omega)
        have e3 := (gi (i + S 6 * ((m : Int) + 1)) (by omega) (by omega)).1
        exact gw _ e3.1 (by omega))
      omega
    · rw [if_neg w3]
      split <;> omega
theorem lnk_rng {S H P R W : Int → Int} {n byc i j : Int} (g : goodN S H P R n) (gw : ∀ k, 0 ≤ k → k < 5 → 0 ≤ W k ∧ W k ≤ 9) : 0 ≤ lnk S H P R W n byc i j ∧ lnk S H P R W n byc i j ≤ 1000000 := by
  have e := pri_rng (i := i) (j := j) g gw
  unfold lnk
  split
  · omega
  · split <;> omega
theorem costM_rng {a : Int → Int → Int} {al : Int} {h : Int → Int} {n g : Nat} (ha : ∀ x k : Nat, x < g → k < n → 0 ≤ a x k) (h0 : 0 ≤ al) (hm : matchF h n g) : 0 ≤ costM a al h n g := by
  unfold costM
  have e1 : 0 ≤ sumN (fun k => if 0 ≤ h k then a (h k) k else 0) n := sumN_nn fun k hk => by
    by_cases q : 0 ≤ h k
    · rw [if_pos q]
      have e := ha (h k).toNat k (by have := hm.2 k hk; omega) hk
      rw [Int.toNat_of_nonneg q] at e
      exact e
    · rw [if_neg q]; exact Int.le_refl _
  have e2 : 0 ≤ sumN (fun x => if sumN (fun k => if h k = x then 1 else 0) n = 0 then al else 0) g := sumN_nn fun x _ => by split <;> omega
  omega
theorem isMin_rng {a : Int → Int → Int} {al : Int} {n g : Nat} {v : Int} (h : isMin a al n g v) (ha : ∀ x k : Nat, x < g → k < n → 0 ≤ a x k) (h0 : 0 ≤ al) : 0 ≤ v ∧ v ≤ g * al := by
  obtain ⟨⟨h, m1, c1⟩, l1⟩ := h
  refine ⟨by rw [← c1]; exact costM_rng ha h0 m1, ?_⟩
  have e := l1 (fun _ => -1) ⟨fun i j _ _ h => by dsimp only at h; omega, fun i _ => by dsimp only; omega⟩
  have e2 : costM a al (fun _ => -1) n g = g * al := by
    unfold costM
    have z : ∀ x : Nat, sumN (fun k => if (-1 : Int) = (x : Int) then 1 else 0) n = 0 := fun x => sumN_z fun k _ => if_neg (by omega)
    rw [sumN_z (n := n) (fun k _ => if_neg (by dsimp only; omega)), sumN_congr (n := g) (g := fun _ => al) (fun x _ => if_pos (z x)), sumN_c]
    omega
  omega
section LEA
variable {X : Int → Int} {Sh : List SE} {M : Mem} {p c : Nat}
theorem s_settle (h : PA Sh p) {n g al : Int} {a : Int → Int → Int} (sk : SK n g al a p M) : ∃ v M', isMin (fun x k => a x (k + 1)) al n.toNat g.toNat v ∧ frm (p + 4) (p + 9) M M' ∧ evc X 146 [vR (some p)] Sh M = some (some (vI v), Sh, M') := by
  have hk0 := h.1; obtain ⟨r_prices, k_prices, l_prices⟩ := pa_prices h; obtain ⟨r_goalShares, k_goalShares, l_goalShares⟩ := pa_goalShares h; obtain ⟨r_columnShares, k_columnShares, l_columnShares⟩ := pa_columnShares h; obtain ⟨r_holders, k_holders, l_holders⟩ := pa_holders h
  have hh := h
  have sk0 := sk
  obtain ⟨⟨t1, t2, t3⟩, ⟨u1, u2, u3⟩, ⟨t7, t8⟩, t9, t10, t14⟩ := sk
  rw [E_146 hk0]
  have f1 := s_fill (X := X) (M := M) (a := p + 6) (n := 50) (v := -1) k_holders l_holders (by omega)
  have f2 := s_fill (X := X) (M := mfill M (p + 6) 50 (-1)) (a := p + 4) (n := 48) (v := 0) k_goalShares l_goalShares (by omega)
  have f3 := s_fill (X := X) (M := mfill (mfill M (p + 6) 50 (-1)) (p + 4) 48 0) (a := p + 5) (n := 50) (v := 0) k_columnShares l_columnShares (by omega)
  simp (disch := first | assumption | decide | omega | (simp only [List.length_cons, List.length_nil] <;> omega)) only [lgt_0, lgt_s, lset_0, lset_s, lst1_0, lst1_s, lst2_0, lst2_s, ev_iconst, ev_lconst, ev_ldc, ev_null, ev_iload, ev_lload, ev_aload, ev_istore, ev_lstore, ev_astore, ev_iinc, ev_iadd, ev_isub, ev_imul, ev_iand, ev_ior, ev_ishl, ev_ishr, ev_idiv, ev_irem, ev_ineg, ev_ladd, ev_lsub, ev_lmul, ev_land, ev_lor, ev_ldiv, ev_lrem, ev_lshl, ev_i2l, ev_l2i, ev_i2b, ev_i2s, ev_lcmp, ev_dupI, ev_dupR, ev_dup2, ev_popI, ev_popR, ev_alen, ev_xlen, ev_xald, ev_iald, ev_lald, ev_bald, ev_zald, ev_aald, ev_iast, ev_last, ev_bast, ev_zast, ev_aast, ev_gfI, ev_gfL, ev_gfR, ev_pfI, ev_pfZ, ev_pfL, ev_pfR, ev_new, ev_newa, ev_newq, ev_copy, ev_slen, ev_schr, ev_obj, ev_mmin, ev_mabs, ev_mmax, ev_goto, ev_jsr, ev_icmp_eq, ev_if_eq, ev_icmp_ne, ev_if_ne, ev_icmp_lt, ev_if_lt, ev_icmp_ge, ev_if_ge, ev_icmp_gt, ev_if_gt, ev_icmp_le, ev_if_le, ev_ifnull0, ev_ifnull1, ev_ifnn0, ev_ifnn1, ev_tsw, ev_lsw, ev_iret, ev_zret, ev_lret, ev_aret, ev_ret, ev_call0, ev_call1, ev_call2, ev_call3, ev_call4, ev_call5, ev_call6, Option.toList_some, Option.toList_none, List.cons_append, List.nil_append, List.length_cons, List.length_nil, Nat.reduceMod, Nat.reduceDiv, Nat.reduceAdd, Nat.reduceLeDiff, nc, ↓reduceIte, Nat.zero_le, reduceCtorEq, w32_id, Int.reduceEq, Int.reduceNe, Int.reduceLT, Int.reduceLE, Int.reduceGT, Int.reduceGE, Int.reduceAdd, Int.reduceSub, Int.reduceMul, Int.reduceNeg, ne_eq, not_true_eq_false, not_false_eq_true, eq_self, r_goalShares, r_columnShares, r_holders, J_146_0, k_146_0, J_146_45, k_146_45, J_146_94, k_146_94, J_146_100, k_146_100, f1, f2, f3]
  generalize hM1 : mfill (mfill (mfill M (p + 6) 50 (-1)) (p + 4) 48 0) (p + 5) 50 0 = M1
  have m1 : frm (p + 4) (p + 9) M M1 := fun b hb => by rw [← hM1, mfill_ne (by omega), mfill_ne (by omega), mfill_ne (by omega)]
  have a6 : ∀ c, 0 ≤ c → c < 50 → M1 (p + 6) c = -1 := fun c c0 c1 => by rw [← hM1, mfill_ne (by omega), mfill_ne (by omega), mfill_in (by omega)]
  have a4 : ∀ c, 0 ≤ c → c < 48 → M1 (p + 4) c = 0 := fun c c0 c1 => by rw [← hM1, mfill_ne (by omega), mfill_in (by omega)]
  have a5 : ∀ c, 0 ≤ c → c < 50 → M1 (p + 5) c = 0 := fun c c0 c1 => by rw [← hM1, mfill_in (by omega)]
  have ss0 : SS n g al a p M1 0 := by
    have cn : ∀ c, paC n c → 0 ≤ c ∧ c < 50 := fun c hc => ⟨hc.1, by have := hc.2; omega⟩
    refine ⟨⟨fun x c hx => ?_, fun c hc hn => absurd (a6 c (cn c hc).1 (cn c hc).2) hn, fun c hc => ?_, fun c e hc _ hn => absurd (a6 c (cn c hc).1 (cn c hc).2) hn, fun x hx => ?_⟩, fun x x0 x1 => by omega, fun x x0 x1 => a4 x x0 x1, a6 0 (by omega) (by omega), ?_, ?_⟩
    · have := hx.1; have := hx.2; omega
    · rw [a5 c (cn c hc).1 (cn c hc).2]; exact ⟨by omega, fun _ => rfl⟩
    · have := hx.1; have := hx.2; omega
    · rw [a5 _ (by omega) (by omega)]; omega
    · rw [a5 _ (by omega) (by omega)]; omega
  have skf : ∀ M', frm (p + 4) (p + 9) M M' → SK n g al a p M' := fun M' fr => by
    refine ⟨⟨by rw [fr p (by omega)]; exact t1, t2, t3⟩, ⟨by rw [fr p (by omega)]; exact u1, u2, u3⟩, ⟨t7, t8⟩, t9, t10, fun x c => by rw [fr (p + 3) (by omega)]; exact t14 x c⟩
  obtain ⟨ls', M2, ⟨hls, fr, ss⟩, he⟩ := ev_for (X := X) (y := 146) (Sh := Sh) (fun i ls M' => ls = [some (vR (some p)), some (vI (i : Int)), none, none] ∧ frm (p + 4) (p + 9) M M' ∧ SS n g al a p M' i) J_146_26 g.toNat (fun i hi ls M' hI => by
    obtain ⟨hls, fr, ss⟩ := hI
    subst hls
    obtain ⟨M3, e1, e2, e3⟩ := s_bringIn (X := X) hh (skf M' fr) ss (t := i) (by omega)
    refine ⟨_, M3, ⟨rfl, fun b hb => by rw [e1 b hb]; exact fr b hb, e2⟩, ?_⟩
    have q0 : ¬ g ≤ (i : Int) := by omega
    have f0 := fr p (by omega)
    simp (disch := first | assumption | decide | omega | (simp only [List.length_cons, List.length_nil] <;> omega)) only [lgt_0, lgt_s, lset_0, lset_s, lst1_0, lst1_s, lst2_0, lst2_s, ev_iconst, ev_lconst, ev_ldc, ev_null, ev_iload, ev_lload, ev_aload, ev_istore, ev_lstore, ev_astore, ev_iinc, ev_iadd, ev_isub, ev_imul, ev_iand, ev_ior, ev_ishl, ev_ishr, ev_idiv, ev_irem, ev_ineg, ev_ladd, ev_lsub, ev_lmul, ev_land, ev_lor, ev_ldiv, ev_lrem, ev_lshl, ev_i2l, ev_l2i, ev_i2b, ev_i2s, ev_lcmp, ev_dupI, ev_dupR, ev_dup2, ev_popI, ev_popR, ev_alen, ev_xlen, ev_xald, ev_iald, ev_lald, ev_bald, ev_zald, ev_aald, ev_iast, ev_last, ev_bast, ev_zast, ev_aast, ev_gfI, ev_gfL, ev_gfR, ev_pfI, ev_pfZ, ev_pfL, ev_pfR, ev_new, ev_newa, ev_newq, ev_copy, ev_slen, ev_schr, ev_obj, ev_mmin, ev_mabs, ev_mmax, ev_goto, ev_jsr, ev_icmp_eq, ev_if_eq, ev_icmp_ne, ev_if_ne, ev_icmp_lt, ev_if_lt, ev_icmp_ge, ev_if_ge, ev_icmp_gt, ev_if_gt, ev_icmp_le, ev_if_le, ev_ifnull0, ev_ifnull1, ev_ifnn0, ev_ifnn1, ev_tsw, ev_lsw, ev_iret, ev_zret, ev_lret, ev_aret, ev_ret, ev_call0, ev_call1, ev_call2, ev_call3, ev_call4, ev_call5, ev_call6, Option.toList_some, Option.toList_none, List.cons_append, List.nil_append, List.length_cons, List.length_nil, Nat.reduceMod, Nat.reduceDiv, Nat.reduceAdd, Nat.reduceLeDiff, nc, ↓reduceIte, Nat.zero_le, reduceCtorEq, w32_id, Int.reduceEq, Int.reduceNe, Int.reduceLT, Int.reduceLE, Int.reduceGT, Int.reduceGE, Int.reduceAdd, Int.reduceSub, Int.reduceMul, Int.reduceNeg, ne_eq, not_true_eq_false, not_false_eq_true, eq_self, k_146_26, J_146_0, k_146_0, J_146_45, k_146_45, J_146_94, k_146_94, J_146_100, k_146_100, f0, u1, q0, e3, nc_s]) [some (vR (some p)), some (vI 0), none, none] M1 ⟨rfl, m1, ss0⟩
  subst hls
  have eg : ((g.toNat : Nat) : Int) = g := by omega
  have en : ((n.toNat : Nat) : Int) = n := by omega
  rw [eg] at ss he
  rw [he]
  have f0 := fr p (by omega)
  have f3 := fr (p + 3) (by omega)
  have q0 : g ≤ g := Int.le_refl _
  simp (disch := first | assumption | decide | omega | (simp only [List.length_cons, List.length_nil] <;> omega)) only [lgt_0, lgt_s, lset_0, lset_s, lst1_0, lst1_s, lst2_0, lst2_s, ev_iconst, ev_lconst, ev_ldc, ev_null, ev_iload, ev_lload, ev_aload, ev_istore, ev_lstore, ev_astore, ev_iinc, ev_iadd, ev_isub, ev_imul, ev_iand, ev_ior, ev_ishl, ev_ishr, ev_idiv, ev_irem, ev_ineg, ev_ladd, ev_lsub, ev_lmul, ev_land, ev_lor, ev_ldiv, ev_lrem, ev_lshl, ev_i2l, ev_l2i, ev_i2b, ev_i2s, ev_lcmp, ev_dupI, ev_dupR, ev_dup2, ev_popI, ev_popR, ev_alen, ev_xlen, ev_xald, ev_iald, ev_lald, ev_bald, ev_zald, ev_aald, ev_iast, ev_last, ev_bast, ev_zast, ev_aast, ev_gfI, ev_gfL, ev_gfR, ev_pfI, ev_pfZ, ev_pfL, ev_pfR, ev_new, ev_newa, ev_newq, ev_copy, ev_slen, ev_schr, ev_obj, ev_mmin, ev_mabs, ev_mmax, ev_goto, ev_jsr, ev_icmp_eq, ev_if_eq, ev_icmp_ne, ev_if_ne, ev_icmp_lt, ev_if_lt, ev_icmp_ge, ev_if_ge, ev_icmp_gt, ev_if_gt, ev_icmp_le, ev_if_le, ev_ifnull0, ev_ifnull1, ev_ifnn0, ev_ifnn1, ev_tsw, ev_lsw, ev_iret, ev_zret, ev_lret, ev_aret, ev_ret, ev_call0, ev_call1, ev_call2, ev_call3, ev_call4, ev_call5, ev_call6, Option.toList_some, Option.toList_none, List.cons_append, List.nil_append, List.length_cons, List.length_nil, Nat.reduceMod, Nat.reduceDiv, Nat.reduceAdd, Nat.reduceLeDiff, nc, ↓reduceIte, Nat.zero_le, reduceCtorEq, w32_id, Int.reduceEq, Int.reduceNe, Int.reduceLT, Int.reduceLE, Int.reduceGT, Int.reduceGE, Int.reduceAdd, Int.reduceSub, Int.reduceMul, Int.reduceNeg, ne_eq, not_true_eq_false, not_false_eq_true, eq_self, k_146_26, J_146_0, k_146_0, J_146_45, k_146_45, J_146_94, k_146_94, J_146_100, k_146_100, f0, u1, q0]
  obtain ⟨⟨b1, b2, b3, b4, b5⟩, c1, c2, c3, c4, c5⟩ := ss
  generalize hH : M2 (p + 6) = H at b2 b3 b4 c1 c3
  generalize hu : M2 (p + 4) = u at b1 b2 b5 c1 c2
  generalize hv : M2 (p + 5) = v at b1 b2 b3 c4 c5
  have c0 : paC n 0 := ⟨by omega, t2⟩
  have v0 := (b3 0 c0).2 c3
  have ule : ∀ x, paG g x → 0 ≤ u x ∧ u x ≤ al := fun x hx => by
    have e1 := b1 x 0 hx c0
    have e2 := t10 x hx
    have e3 := b5 x hx
    omega
  have kc : ∀ k : Nat, k < n.toNat → paC n ((k : Int) + 1) := fun k hk => ⟨by omega, by omega⟩
  have hge : ∀ k : Nat, k < n.toNat → (0 ≤ H ((k : Int) + 1) ↔ H ((k : Int) + 1) ≠ -1) := fun k hk => by
    constructor
    · intro z; omega
    · intro z; exact (b2 _ (kc k hk) z).1.1
  have hm : matchF (fun k => H (k + 1)) n.toNat g.toNat := by
    constructor
    · intro i j hi hj h0 heq
      dsimp only at h0 heq
      have := b4 _ _ (kc i hi) (kc j hj) (by omega) heq
      omega
    · intro i hi
      dsimp only
      by_cases z : H ((i : Int) + 1) = -1
      · omega
      · have := (b2 _ (kc i hi) z).1.2
        omega
  have tight : ∀ k : Nat, k < n.toNat → 0 ≤ H ((k : Int) + 1) → u (H ((k : Int) + 1)) + v ((k : Int) + 1) = a (H ((k : Int) + 1)) ((k : Int) + 1) := fun k hk h0 => (b2 _ (kc k hk) (by omega)).2
  have hM := min_of_dual (a := fun x k => a x (k + 1)) (al := al) (u := u) (v := fun k => v (k + 1)) hm (fun k hk => (b3 _ (kc k hk)).1) (fun x hx => (ule x ⟨by omega, by omega⟩).2) (fun x k hx hk => b1 x _ ⟨by omega, by omega⟩ (kc k hk)) (fun k hk hn => (b3 _ (kc k hk)).2 (by have := hge k hk; omega)) (fun x hx hz => by
    rcases c1 x (by omega) (by omega) with ⟨c, hc, hcx⟩ | z
    · have cne : c ≠ 0 := fun z => by rw [z, c3] at hcx; omega
      have := sum01_z (f := fun k => if H (k + 1) = (x : Int) then 1 else 0) (fun k _ => by split <;> omega) hz (c - 1).toNat (by have := hc.1; have := hc.2; omega)
      have e : (((c - 1).toNat : Nat) : Int) + 1 = c := by have := hc.1; omega
      rw [e, if_pos hcx] at this
      omega
    · rw [z]; exact t10 x ⟨by omega, by omega⟩) tight
  have sb : ∀ i : Nat, i ≤ n.toNat → (0 ≤ sumN (fun k => if H (k + 1) = -1 then 0 else a (H (k + 1)) (k + 1)) i ∧ sumN (fun k => if H (k + 1) = -1 then 0 else a (H (k + 1)) (k + 1)) i ≤ 198 * i) ∧ 0 ≤ sumN (fun k => if H (k + 1) = -1 then 0 else 1) i ∧ sumN (fun k => if H (k + 1) = -1 then 0 else 1) i ≤ 1 * i := fun i hi => by
    have e1 := sumN_le (f := fun k => if H (k + 1) = -1 then 0 else a (H (k + 1)) (k + 1)) (a := 0) (b := 198) (n := i) (fun k hk => by
      by_cases z : H ((k : Int) + 1) = -1
      · rw [if_pos z]; omega
      · rw [if_neg z]
        have e2 := b2 _ (kc k (by omega)) z
        have e3 := ule _ e2.1
        have e4 := (b3 _ (kc k (by omega))).1
        have e5 := t9 _ _ e2.1 (kc k (by omega))
        omega)
    have e2 := sumN_le (f := fun k => if H (k + 1) = -1 then 0 else 1) (a := 0) (b := 1) (n := i) (fun k _ => by split <;> omega)
    omega
  have hL := ev_loopK (X := X) (y := 146) (Sh := Sh) (K := k_146_54) (fun i => [some (vR (some p)), some (vI (sumN (fun k => if H (k + 1) = -1 then 0 else a (H (k + 1)) (k + 1)) i)), some (vI (g - sumN (fun k => if H (k + 1) = -1 then 0 else 1) i)), some (vI ((i : Int) + 1))]) (fun _ => M2) n.toNat J_146_54 (fun i hi => by
    have e1 := sb i (by omega)
    have e2 := sb (i + 1) (by omega)
    rw [sumN_s, sumN_s] at e2
    rw [sumN_s, sumN_s]
    generalize sumN (fun k => if H (k + 1) = -1 then 0 else a (H (k + 1)) (k + 1)) i = s1 at e1 e2 ⊢
    generalize sumN (fun k => if H (k + 1) = -1 then 0 else 1) i = s2 at e1 e2 ⊢
    have q1 : ¬ n < (i : Int) + 1 := by omega
    by_cases z : H ((i : Int) + 1) = -1
    · simp (disch := first | assumption | decide | omega | (simp only [List.length_cons, List.length_nil] <;> omega)) only [lgt_0, lgt_s, lset_0, lset_s, lst1_0, lst1_s, lst2_0, lst2_s, ev_iconst, ev_lconst, ev_ldc, ev_null, ev_iload, ev_lload, ev_aload, ev_istore, ev_lstore, ev_astore, ev_iinc, ev_iadd, ev_isub, ev_imul, ev_iand, ev_ior, ev_ishl, ev_ishr, ev_idiv, ev_irem, ev_ineg, ev_ladd, ev_lsub, ev_lmul, ev_land, ev_lor, ev_ldiv, ev_lrem, ev_lshl, ev_i2l, ev_l2i, ev_i2b, ev_i2s, ev_lcmp, ev_dupI, ev_dupR, ev_dup2, ev_popI, ev_popR, ev_alen, ev_xlen, ev_xald, ev_iald, ev_lald, ev_bald, ev_zald, ev_aald, ev_iast, ev_last, ev_bast, ev_zast, ev_aast, ev_gfI, ev_gfL, ev_gfR, ev_pfI, ev_pfZ, ev_pfL, ev_pfR, ev_new, ev_newa, ev_newq, ev_copy, ev_slen, ev_schr, ev_obj, ev_mmin, ev_mabs, ev_mmax, ev_goto, ev_jsr, ev_icmp_eq, ev_if_eq, ev_icmp_ne, ev_if_ne, ev_icmp_lt, ev_if_lt, ev_icmp_ge, ev_if_ge, ev_icmp_gt, ev_if_gt, ev_icmp_le, ev_if_le, ev_ifnull0, ev_ifnull1, ev_ifnn0, ev_ifnn1, ev_tsw, ev_lsw, ev_iret, ev_zret, ev_lret, ev_aret, ev_ret, ev_call0, ev_call1, ev_call2, ev_call3, ev_call4, ev_call5, ev_call6, Option.toList_some, Option.toList_none, List.cons_append, List.nil_append, List.length_cons, List.length_nil, Nat.reduceMod, Nat.reduceDiv, Nat.reduceAdd, Nat.reduceLeDiff, nc, ↓reduceIte, Nat.zero_le, reduceCtorEq, w32_id, Int.reduceEq, Int.reduceNe, Int.reduceLT, Int.reduceLE, Int.reduceGT, Int.reduceGE, Int.reduceAdd, Int.reduceSub, Int.reduceMul, Int.reduceNeg, ne_eq, not_true_eq_false, not_false_eq_true, eq_self, r_prices, r_holders, k_146_54, J_146_0, k_146_0, J_146_45, k_146_45, J_146_94, k_146_94, J_146_100, k_146_100, f0, t1, hH, z, q1, nc_s, Int.add_zero]
    · rw [if_neg z, if_neg z] at e2 ⊢
      have e3 := (b2 _ (kc i hi) z).1
      have e4 := e3.1
      have e5 := e3.2
      have e6 : M (p + 3) (H ((i : Int) + 1) * 50 + ((i : Int) + 1)) = a (H ((i : Int) + 1)) ((i : Int) + 1) := t14 _ _
      have e7 : g - s2 - 1 = g - (s2 + 1) := by omega
      have e8 : g - s2 + -1 = g - (s2 + 1) := by omega
      simp (disch := first | assumption | decide | omega | (simp only [List.length_cons, List.length_nil] <;> omega)) only [lgt_0, lgt_s, lset_0, lset_s, lst1_0, lst1_s, lst2_0, lst2_s, ev_iconst, ev_lconst, ev_ldc, ev_null, ev_iload, ev_lload, ev_aload, ev_istore, ev_lstore, ev_astore, ev_iinc, ev_iadd, ev_isub, ev_imul, ev_iand, ev_ior, ev_ishl, ev_ishr, ev_idiv, ev_irem, ev_ineg, ev_ladd, ev_lsub, ev_lmul, ev_land, ev_lor, ev_ldiv, ev_lrem, ev_lshl, ev_i2l, ev_l2i, ev_i2b, ev_i2s, ev_lcmp, ev_dupI, ev_dupR, ev_dup2, ev_popI, ev_popR, ev_alen, ev_xlen, ev_xald, ev_iald, ev_lald, ev_bald, ev_zald, ev_aald, ev_iast, ev_last, ev_bast, ev_zast, ev_aast, ev_gfI, ev_gfL, ev_gfR, ev_pfI, ev_pfZ, ev_pfL, ev_pfR, ev_new, ev_newa, ev_newq, ev_copy, ev_slen, ev_schr, ev_obj, ev_mmin, ev_mabs, ev_mmax, ev_goto, ev_jsr, ev_icmp_eq, ev_if_eq, ev_icmp_ne, ev_if_ne, ev_icmp_lt, ev_if_lt, ev_icmp_ge, ev_if_ge, ev_icmp_gt, ev_if_gt, ev_icmp_le, ev_if_le, ev_ifnull0, ev_ifnull1, ev_ifnn0, ev_ifnn1, ev_tsw, ev_lsw, ev_iret, ev_zret, ev_lret, ev_aret, ev_ret, ev_call0, ev_call1, ev_call2, ev_call3, ev_call4, ev_call5, ev_call6, Option.toList_some, Option.toList_none, List.cons_append, List.nil_append, List.length_cons, List.length_nil, Nat.reduceMod, Nat.reduceDiv, Nat.reduceAdd, Nat.reduceLeDiff, nc, ↓reduceIte, Nat.zero_le, reduceCtorEq, w32_id, Int.reduceEq, Int.reduceNe, Int.reduceLT, Int.reduceLE, Int.reduceGT, Int.reduceGE, Int.reduceAdd, Int.reduceSub, Int.reduceMul, Int.reduceNeg, ne_eq, not_true_eq_false, not_false_eq_true, eq_self, r_prices, r_holders, k_146_54, J_146_0, k_146_0, J_146_45, k_146_45, J_146_94, k_146_94, J_146_100, k_146_100, f0, f3, t1, hH, z, q1, nc_s, e6, e7, e8])
  have sbn := sb n.toNat (Nat.le_refl _)
  have eS : sumN (fun k => if 0 ≤ H (k + 1) then a (H (k + 1)) (k + 1) else 0) n.toNat = sumN (fun k => if H (k + 1) = -1 then 0 else a (H (k + 1)) (k + 1)) n.toNat := sumN_congr fun k hk => by
    have := hge k hk
    by_cases z : H ((k : Int) + 1) = -1
    · rw [if_pos z, if_neg (by omega)]
    · rw [if_neg z, if_pos (this.mpr z)]
  have eA := sumN_inj (h := fun k => H (k + 1)) (f := fun _ => 1) hm.1 hm.2
  rw [sumN_c] at eA
  have eB : sumN (fun k => if 0 ≤ H (k + 1) then 1 else 0) n.toNat = sumN (fun k => if H (k + 1) = -1 then 0 else 1) n.toNat := sumN_congr fun k hk => by
    have := hge k hk
    by_cases z : H ((k : Int) + 1) = -1
    · rw [if_pos z, if_neg (by omega)]
    · rw [if_neg z, if_pos (this.mpr z)]
  have eC : sumN (fun x => if sumN (fun k => if H (k + 1) = x then 1 else 0) n.toNat = 0 then al else 0) g.toNat = sumN (fun x => if sumN (fun k => if H (k + 1) = x then 1 else 0) n.toNat = 0 then 1 else 0) g.toNat * al := by
    rw [← sumN_mul]
    exact sumN_congr fun x _ => by split <;> omega
  unfold costM at hM
  dsimp only at hM eA
  rw [eS, eC] at hM
  rw [eB] at eA
  rw [sumN_0, sumN_0, show ((0 : Nat) : Int) + 1 = 1 from rfl, show g - 0 = g from Int.sub_zero g] at hL
  rw [hL]
  clear hL
  have uz := sumN_le (f := fun x => if sumN (fun k => if H (k + 1) = x then 1 else 0) n.toNat = 0 then 1 else 0) (a := 0) (b := 1) (n := g.toNat) (fun k _ => by split <;> omega)
  generalize sumN (fun k => if H (k + 1) = -1 then 0 else a (H (k + 1)) (k + 1)) n.toNat = s1 at hM sbn ⊢
  generalize sumN (fun k => if H (k + 1) = -1 then 0 else 1) n.toNat = s2 at eA sbn ⊢
  generalize sumN (fun x => if sumN (fun k => if H (k + 1) = x then 1 else 0) n.toNat = 0 then 1 else 0) g.toNat = s3 at hM eA uz
  have e3 : g - s2 = s3 := by omega
  have ez : s3 * M (p + 3) 0 = s3 * al ∧ 0 ≤ s3 * al ∧ s3 * al ≤ 48 * 198 := by
    refine ⟨?_, Int.mul_nonneg (by omega) (by omega), Int.mul_le_mul (by omega) (by omega) (by omega) (by omega)⟩
    by_cases z : g = 0
    · have : s3 = 0 := by omega
      rw [this, Int.zero_mul, Int.zero_mul]
    · have e4 := t14 0 0
      rw [t10 0 ⟨by omega, by omega⟩] at e4
      rw [← e4]
      rfl
  refine ⟨s1 + s3 * al, M2, hM, fr, ?_⟩
  have q1 : n < n + 1 := by omega
  obtain ⟨ez1, ez2, ez3⟩ := ez
  have ez4 : -2147483648 ≤ s3 * al := by omega
  have ez5 : s3 * al < 2147483648 := by omega
  rw [en, e3]
  simp (disch := first | assumption | decide | omega | (simp only [List.length_cons, List.length_nil] <;> omega)) only [lgt_0, lgt_s, lset_0, lset_s, lst1_0, lst1_s, lst2_0, lst2_s, ev_iconst, ev_lconst, ev_ldc, ev_null, ev_iload, ev_lload, ev_aload, ev_istore, ev_lstore, ev_astore, ev_iinc, ev_iadd, ev_isub, ev_imul, ev_iand, ev_ior, ev_ishl, ev_ishr, ev_idiv, ev_irem, ev_ineg, ev_ladd, ev_lsub, ev_lmul, ev_land, ev_lor, ev_ldiv, ev_lrem, ev_lshl, ev_i2l, ev_l2i, ev_i2b, ev_i2s, ev_lcmp, ev_dupI, ev_dupR, ev_dup2, ev_popI, ev_popR, ev_alen, ev_xlen, ev_xald, ev_iald, ev_lald, ev_bald, ev_zald, ev_aald, ev_iast, ev_last, ev_bast, ev_zast, ev_aast, ev_gfI, ev_gfL, ev_gfR, ev_pfI, ev_pfZ, ev_pfL, ev_pfR, ev_new, ev_newa, ev_newq, ev_copy, ev_slen, ev_schr, ev_obj, ev_mmin, ev_mabs, ev_mmax, ev_goto, ev_jsr, ev_icmp_eq, ev_if_eq, ev_icmp_ne, ev_if_ne, ev_icmp_lt, ev_if_lt, ev_icmp_ge, ev_if_ge, ev_icmp_gt, ev_if_gt, ev_icmp_le, ev_if_le, ev_ifnull0, ev_ifnull1, ev_ifnn0, ev_ifnn1, ev_tsw, ev_lsw, ev_iret, ev_zret, ev_lret, ev_aret, ev_ret, ev_call0, ev_call1, ev_call2, ev_call3, ev_call4, ev_call5, ev_call6, Option.toList_some, Option.toList_none, List.cons_append, List.nil_append, List.length_cons, List.length_nil, Nat.reduceMod, Nat.reduceDiv, Nat.reduceAdd, Nat.reduceLeDiff, nc, ↓reduceIte, Nat.zero_le, reduceCtorEq, w32_id, Int.reduceEq, Int.reduceNe, Int.reduceLT, Int.reduceLE, Int.reduceGT, Int.reduceGE, Int.reduceAdd, Int.reduceSub, Int.reduceMul, Int.reduceNeg, ne_eq, not_true_eq_false, not_false_eq_true, eq_self, r_prices, k_146_54, J_146_0, k_146_0, J_146_45, k_146_45, J_146_94, k_146_94, J_146_100, k_146_100, f0, f3, t1, q1, ez1]
/-- the least as a function of what is seen -/
noncomputable def lstV (S H P R W : Int → Int) (n byc : Int) (qs qg : Int → Bool) : Int := lstF (fun x s => lnk S H P R W n byc (ownB qs n.toNat s) (ownB qg n.toNat x)) (if byc = 0 then 2 * S 3 else 1) (cntB qs n.toNat).toNat (cntB qg n.toNat).toNat
noncomputable abbrev lstC (M : Mem) (c : Nat) (byc : Int) (qs qg : Int → Bool) : Int := lstV (M (c + 1)) (M (c + 6)) (M (c + 7)) (M (c + 8)) (M (c + 3)) (M c 8) byc qs qg
theorem s_reckon (h : PA Sh p) (hc : CH Sh c) (hd : c + 8 < p ∨ p + 9 < c) (gc : goodC M c) (gw : goodW M c) {byc : Int} (hb : byc = 0 ∨ byc = 1) {qs qg : Int → Bool} (h1 : M p 2 = cntB qs (M c 8).toNat) (h2 : M p 3 = cntB qg (M c 8).toNat)
    (h3 : ∀ x, 0 ≤ x → x < cntB qs (M c 8).toNat → M (p + 1) x = ownB qs (M c 8).toNat x) (h4 : ∀ x, 0 ≤ x → x < cntB qg (M c 8).toNat → M (p + 2) x = ownB qg (M c 8).toNat x) :
    ∃ M1 M2, evc X 145 [vR (some p), vR (some c), vI byc] Sh M = some (none, Sh, M1) ∧ evc X 146 [vR (some p)] Sh M1 = some (some (vI (lstC M c byc qs qg)), Sh, M2) ∧ frm p (p + 9) M M2 ∧ 0 ≤ lstC M c byc qs qg ∧ lstC M c byc qs qg ≤ 9504 := by
  have gn := gc.2.1
  have k1 := cntB_rng (q := qs) (i := (M c 8).toNat)
  have k2 := cntB_rng (q := qg) (i := (M c 8).toNat)
  have hs : ∀ k, 0 ≤ k → k < cntB qs (M c 8).toNat → 0 ≤ M (p + 1) k ∧ M (p + 1) k < 48 := fun k a b => by
    obtain ⟨i, i1, i2, i3, i4⟩ := ownB_ex a b
    rw [h3 k a b, i4]; omega
  have hg : ∀ k, 0 ≤ k → k < cntB qg (M c 8).toNat → 0 ≤ M (p + 2) k ∧ M (p + 2) k < 48 := fun k a b => by
    obtain ⟨i, i1, i2, i3, i4⟩ := ownB_ex a b
    rw [h4 k a b, i4]; omega
  obtain ⟨M1, fr, pr, e1⟩ := s_price (X := X) h hc hd gc gw (n := cntB qs (M c 8).toNat) (g := cntB qg (M c 8).toNat) ⟨h1, by omega, by omega⟩ ⟨h2, by omega, by omega⟩ hb hs hg
  have gs3 := gc.1.2.2.2.1
  have lr : ∀ i j, 0 ≤ lnkC M c byc i j ∧ lnkC M c byc i j ≤ 1000000 := fun i j => lnk_rng gc gw
  generalize hal : (if byc = 0 then 2 * M (c + 1) 3 else 1) = al at pr
  have hal2 : 0 ≤ al ∧ al ≤ 198 := by rw [← hal]; split <;> omega
  have sk : SK (cntB qs (M c 8).toNat) (cntB qg (M c 8).toNat) al (fun x s => M1 (p + 3) (x * 50 + s)) p M1 := by
    refine ⟨⟨by rw [fr p (by omega)]; exact h1, by omega, by omega⟩, ⟨by rw [fr p (by omega)]; exact h2, by omega, by omega⟩, hal2, fun x s hx hs => ?_, fun x hx => ?_, fun _ _ => rfl⟩
    · obtain ⟨x0, x1⟩ := hx
      obtain ⟨s0, s1⟩ := hs
      have e := pr x x0 x1
      show 0 ≤ M1 (p + 3) (x * 50 + s) ∧ M1 (p + 3) (x * 50 + s) ≤ 1000000
      by_cases z : s = 0
      · rw [z, Int.add_zero, e.1]; omega
      · have e2 := e.2 (s - 1) (by omega) (by omega)
        rw [show s - 1 + 1 = s by omega] at e2
        rw [e2]
        exact lr _ _
    · obtain ⟨x0, x1⟩ := hx
      show M1 (p + 3) (x * 50 + 0) = al
      rw [Int.add_zero]
      exact (pr x x0 x1).1
  obtain ⟨v, M2, hM, fr2, e2⟩ := s_settle (X := X) h sk
  have hM2 : isMin (fun x s => lnkC M c byc (ownB qs (M c 8).toNat s) (ownB qg (M c 8).toNat x)) al (cntB qs (M c 8).toNat).toNat (cntB qg (M c 8).toNat).toNat v := isMin_congr (fun x k hx hk => by
    have e := (pr x (by omega) (by omega)).2 k (by omega) (by omega)
    rw [e, h3 k (by omega) (by omega), h4 x (by omega) (by omega)]) hM
  have hv : lstC M c byc qs qg = v := by
    unfold lstC lstV
    rw [hal]
    exact lstF_is hM2
  have vr := isMin_rng hM2 (fun x k _ _ => (lr _ _).1) hal2.1
  have vr2 : (((cntB qg (M c 8).toNat).toNat : Nat) : Int) * al ≤ 48 * 198 := Int.mul_le_mul (by omega) (by omega) (by omega) (by omega)
  refine ⟨M1, M2, e1, by rw [hv]; exact e2, fun b hb => ?_, by omega, by omega⟩
  rw [fr2 b (by omega)]
  exact fr b (by omega)
end LEA
