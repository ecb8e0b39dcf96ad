/-! PAIRING: a goal brought in; settling. -/
/-- t goals stand: n sources, g goals, al alone -/
def SS (n g al : Int) (a : Int → Int → Int) (p : Nat) (M : Mem) (t : Int) : Prop :=
  HB (paC n) (paG t) (-1) a (M (p + 4)) (M (p + 5)) (M (p + 6)) ∧ (∀ x, 0 ≤ x → x < t → (∃ c, paC n c ∧ M (p + 6) c = x) ∨ M (p + 4) x = a x 0) ∧ (∀ x, t ≤ x → x < 48 → M (p + 4) x = 0) ∧ M (p + 6) 0 = -1 ∧ -198 * t ≤ M (p + 5) (n + 1) ∧ M (p + 5) (n + 1) ≤ 0
/-- the numbers of a pairing -/
def SK (n g al : Int) (a : Int → Int → Int) (p : Nat) (M : Mem) : Prop :=
  (M p 2 = n ∧ 0 ≤ n ∧ n ≤ 48) ∧ (M p 3 = g ∧ 0 ≤ g ∧ g ≤ 48) ∧ (0 ≤ al ∧ al ≤ 198) ∧ (∀ x c, paG g x → paC n c → 0 ≤ a x c ∧ a x c ≤ 1000000) ∧ (∀ x, paG g x → a x 0 = al) ∧ ∀ x c, M (p + 3) (x * 50 + c) = a x c
section SET
variable {X : Int → Int} {Sh : List SE} {M : Mem} {p : Nat}
theorem s_bringIn (h : PA Sh p) {n g al t : Int} {a : Int → Int → Int} (sk : SK n g al a p M) (ss : SS n g al a p M t) (ht : 0 ≤ t ∧ t < g) :
    ∃ M', (∀ b, b < p + 4 ∨ p + 9 < b → M' b = M b) ∧ SS n g al a p M' (t + 1) ∧ evc X 147 [vR (some p), vI t] Sh M = some (none, Sh, M') := by
  have hk0 := h.1; obtain ⟨r_holders, k_holders, l_holders⟩ := pa_holders h; obtain ⟨r_distances, k_distances, l_distances⟩ := pa_distances h; obtain ⟨r_reached, k_reached, l_reached⟩ := pa_reached h
  have hh := h
  obtain ⟨⟨t1, t2, t3⟩, ⟨u1, u2, u3⟩, ⟨t7, t8⟩, t9, t10, t14⟩ := sk
  obtain ⟨⟨b1, b2, b3, b4, b5⟩, c1, c2, c3, c4, c5⟩ := ss
  rw [E_147 hk0]
  have f1 := s_fill (X := X) (M := M) (a := p + 8) (n := 50) (v := 2000000) k_distances l_distances (by omega)
  simp (disch := first | assumption | decide | omega | (simp only [List.length_cons, List.length_nil] <;> omega)) only [lgt_0, lgt_s, lset_0, lset_s, lst1_0, lst1_s, lst2_0, lst2_s, ev_iconst, ev_lconst, ev_ldc, ev_null, ev_iload, ev_lload, ev_aload, ev_istore, ev_lstore, ev_astore, ev_iinc, ev_iadd, ev_isub, ev_imul, ev_iand, ev_ior, ev_ishl, ev_ishr, ev_idiv, ev_irem, ev_ineg, ev_ladd, ev_lsub, ev_lmul, ev_land, ev_lor, ev_ldiv, ev_lrem, ev_lshl, ev_i2l, ev_l2i, ev_i2b, ev_i2s, ev_lcmp, ev_dupI, ev_dupR, ev_dup2, ev_popI, ev_popR, ev_alen, ev_xlen, ev_xald, ev_iald, ev_lald, ev_bald, ev_zald, ev_aald, ev_iast, ev_last, ev_bast, ev_zast, ev_aast, ev_gfI, ev_gfL, ev_gfR, ev_pfI, ev_pfZ, ev_pfL, ev_pfR, ev_new, ev_newa, ev_newq, ev_copy, ev_slen, ev_schr, ev_obj, ev_mmin, ev_mabs, ev_mmax, ev_goto, ev_jsr, ev_icmp_eq, ev_if_eq, ev_icmp_ne, ev_if_ne, ev_icmp_lt, ev_if_lt, ev_icmp_ge, ev_if_ge, ev_icmp_gt, ev_if_gt, ev_icmp_le, ev_if_le, ev_ifnull0, ev_ifnull1, ev_ifnn0, ev_ifnn1, ev_tsw, ev_lsw, ev_iret, ev_zret, ev_lret, ev_aret, ev_ret, ev_call0, ev_call1, ev_call2, ev_call3, ev_call4, ev_call5, ev_call6, Option.toList_some, Option.toList_none, List.cons_append, List.nil_append, List.length_cons, List.length_nil, Nat.reduceMod, Nat.reduceDiv, Nat.reduceAdd, Nat.reduceLeDiff, nc, ↓reduceIte, Nat.zero_le, reduceCtorEq, w32_id, Int.reduceEq, Int.reduceNe, Int.reduceLT, Int.reduceLE, Int.reduceGT, Int.reduceGE, Int.reduceAdd, Int.reduceSub, Int.reduceMul, Int.reduceNeg, ne_eq, not_true_eq_false, not_false_eq_true, eq_self, r_distances, J_147_0, k_147_0, J_147_36, k_147_36, J_147_98, k_147_98, f1, t1]
  generalize hM1 : mfill M (p + 8) 50 2000000 = M1
  have m1 : ∀ b, b ≠ p + 8 → M1 b = M b := fun b hb => by rw [← hM1]; exact mfill_ne hb
  have m18 : ∀ c, paC n c → M1 (p + 8) c = 2000000 := fun c hc => by rw [← hM1]; exact mfill_in (by have := hc.1; have := hc.2; omega)
  have hL := ev_loopK (X := X) (y := 147) (Sh := Sh) (K := k_147_18) (fun i => [some (vR (some p)), some (vI t), some (vI (n + 1)), some (vI i), none]) (fun i => mfill M1 (p + 9) i 0) (n + 2).toNat J_147_18 (fun i hi => by
    have q0 : ¬ n + 1 < (i : Int) := by omega
    simp (disch := first | assumption | decide | omega | (simp only [List.length_cons, List.length_nil] <;> omega)) only [lgt_0, lgt_s, lset_0, lset_s, lst1_0, lst1_s, lst2_0, lst2_s, ev_iconst, ev_lconst, ev_ldc, ev_null, ev_iload, ev_lload, ev_aload, ev_istore, ev_lstore, ev_astore, ev_iinc, ev_iadd, ev_isub, ev_imul, ev_iand, ev_ior, ev_ishl, ev_ishr, ev_idiv, ev_irem, ev_ineg, ev_ladd, ev_lsub, ev_lmul, ev_land, ev_lor, ev_ldiv, ev_lrem, ev_lshl, ev_i2l, ev_l2i, ev_i2b, ev_i2s, ev_lcmp, ev_dupI, ev_dupR, ev_dup2, ev_popI, ev_popR, ev_alen, ev_xlen, ev_xald, ev_iald, ev_lald, ev_bald, ev_zald, ev_aald, ev_iast, ev_last, ev_bast, ev_zast, ev_aast, ev_gfI, ev_gfL, ev_gfR, ev_pfI, ev_pfZ, ev_pfL, ev_pfR, ev_new, ev_newa, ev_newq, ev_copy, ev_slen, ev_schr, ev_obj, ev_mmin, ev_mabs, ev_mmax, ev_goto, ev_jsr, ev_icmp_eq, ev_if_eq, ev_icmp_ne, ev_if_ne, ev_icmp_lt, ev_if_lt, ev_icmp_ge, ev_if_ge, ev_icmp_gt, ev_if_gt, ev_icmp_le, ev_if_le, ev_ifnull0, ev_ifnull1, ev_ifnn0, ev_ifnn1, ev_tsw, ev_lsw, ev_iret, ev_zret, ev_lret, ev_aret, ev_ret, ev_call0, ev_call1, ev_call2, ev_call3, ev_call4, ev_call5, ev_call6, Option.toList_some, Option.toList_none, List.cons_append, List.nil_append, List.length_cons, List.length_nil, Nat.reduceMod, Nat.reduceDiv, Nat.reduceAdd, Nat.reduceLeDiff, nc, ↓reduceIte, Nat.zero_le, reduceCtorEq, w32_id, Int.reduceEq, Int.reduceNe, Int.reduceLT, Int.reduceLE, Int.reduceGT, Int.reduceGE, Int.reduceAdd, Int.reduceSub, Int.reduceMul, Int.reduceNeg, ne_eq, not_true_eq_false, not_false_eq_true, eq_self, r_reached, k_147_18, J_147_0, k_147_0, J_147_36, k_147_36, J_147_98, k_147_98, q0, mfill_s, nc_s])
  rw [show ((0 : Nat) : Int) = 0 from rfl, mfill_0] at hL
  rw [hL]
  have e2 : (((n + 2).toNat : Nat) : Int) = n + 2 := by omega
  rw [e2]
  have q0 : n + 1 < n + 2 := by omega
  have fp : mfill M1 (p + 9) (n + 2) 0 (p + 6) = M (p + 6) := by rw [mfill_ne (by omega), m1 _ (by omega)]
  simp (disch := first | assumption | decide | omega | (simp only [List.length_cons, List.length_nil] <;> omega)) only [lgt_0, lgt_s, lset_0, lset_s, lst1_0, lst1_s, lst2_0, lst2_s, ev_iconst, ev_lconst, ev_ldc, ev_null, ev_iload, ev_lload, ev_aload, ev_istore, ev_lstore, ev_astore, ev_iinc, ev_iadd, ev_isub, ev_imul, ev_iand, ev_ior, ev_ishl, ev_ishr, ev_idiv, ev_irem, ev_ineg, ev_ladd, ev_lsub, ev_lmul, ev_land, ev_lor, ev_ldiv, ev_lrem, ev_lshl, ev_i2l, ev_l2i, ev_i2b, ev_i2s, ev_lcmp, ev_dupI, ev_dupR, ev_dup2, ev_popI, ev_popR, ev_alen, ev_xlen, ev_xald, ev_iald, ev_lald, ev_bald, ev_zald, ev_aald, ev_iast, ev_last, ev_bast, ev_zast, ev_aast, ev_gfI, ev_gfL, ev_gfR, ev_pfI, ev_pfZ, ev_pfL, ev_pfR, ev_new, ev_newa, ev_newq, ev_copy, ev_slen, ev_schr, ev_obj, ev_mmin, ev_mabs, ev_mmax, ev_goto, ev_jsr, ev_icmp_eq, ev_if_eq, ev_icmp_ne, ev_if_ne, ev_icmp_lt, ev_if_lt, ev_icmp_ge, ev_if_ge, ev_icmp_gt, ev_if_gt, ev_icmp_le, ev_if_le, ev_ifnull0, ev_ifnull1, ev_ifnn0, ev_ifnn1, ev_tsw, ev_lsw, ev_iret, ev_zret, ev_lret, ev_aret, ev_ret, ev_call0, ev_call1, ev_call2, ev_call3, ev_call4, ev_call5, ev_call6, Option.toList_some, Option.toList_none, List.cons_append, List.nil_append, List.length_cons, List.length_nil, Nat.reduceMod, Nat.reduceDiv, Nat.reduceAdd, Nat.reduceLeDiff, nc, ↓reduceIte, Nat.zero_le, reduceCtorEq, w32_id, Int.reduceEq, Int.reduceNe, Int.reduceLT, Int.reduceLE, Int.reduceGT, Int.reduceGE, Int.reduceAdd, Int.reduceSub, Int.reduceMul, Int.reduceNeg, ne_eq, not_true_eq_false, not_false_eq_true, eq_self, r_holders, k_147_18, J_147_0, k_147_0, J_147_36, k_147_36, J_147_98, k_147_98, q0]
  generalize hM3 : up (mfill M1 (p + 9) (n + 2) 0) (p + 6) (n + 1) t = M3
  have m3 : ∀ b, b ≠ p + 6 → b ≠ p + 8 → b ≠ p + 9 → M3 b = M b := fun b h6 h8 h9 => by rw [← hM3, up_ne h6, mfill_ne h9, m1 b h8]
  have m39 : ∀ c, 0 ≤ c → c ≤ n + 1 → M3 (p + 9) c = 0 := fun c c0 c1 => by rw [← hM3, up_ne (by omega), mfill_in (by omega)]
  have m38 : ∀ c, paC n c → M3 (p + 8) c = 2000000 := fun c hc => by rw [← hM3, up_ne (by omega), mfill_ne (by omega), m18 c hc]
  have m36 : ∀ c, c ≠ n + 1 → M3 (p + 6) c = M (p + 6) c := fun c hc => by rw [← hM3, up_ne2 hc, fp]
  have m36r : M3 (p + 6) (n + 1) = t := by rw [← hM3, up_eq]
  have m34 := m3 (p + 4) (by omega) (by omega) (by omega)
  have m35 := m3 (p + 5) (by omega) (by omega) (by omega)
  have m33 := m3 (p + 3) (by omega) (by omega) (by omega)
  have m30 := m3 p (by omega) (by omega) (by omega)
  have cne : ∀ c, paC n c → c ≠ n + 1 := fun c hc z => by have := hc.2; omega
  have v0 : ∀ c, paC n c → M (p + 5) c ≤ 0 := fun c hc => (b3 c hc).1
  have hB : HB (paC n) (paG (t + 1)) (-1) a (M3 (p + 4)) (M3 (p + 5)) (M3 (p + 6)) := by
    rw [m34, m35]
    refine ⟨fun x c hx hc => ?_, fun c hc hn => ?_, fun c hc => ?_, fun c e hc he hn heq => ?_, fun x hx => ?_⟩
    · by_cases q : x = t
      · rw [q, c2 t (by omega) (by omega)]
        have := v0 c hc
        have := t9 t c ⟨by omega, by omega⟩ hc
        omega
      · exact b1 x c ⟨hx.1, by have := hx.2; omega⟩ hc
    · rw [m36 c (cne c hc)] at hn ⊢
      have e := b2 c hc hn
      exact ⟨⟨e.1.1, by have := e.1.2; omega⟩, e.2⟩
    · rw [m36 c (cne c hc)]
      exact b3 c hc
    · rw [m36 c (cne c hc)] at hn heq
      rw [m36 e (cne e he)] at heq
      exact b4 c e hc he hn heq
    · by_cases q : x = t
      · rw [q, c2 t (by omega) (by omega)]; exact Int.le_refl _
      · exact b5 x ⟨hx.1, by have := hx.2; omega⟩
  have hne : ∀ c, paC n c → M3 (p + 6) c ≠ t := fun c hc e => by
    rw [m36 c (cne c hc)] at e
    have := (b2 c hc (by omega)).1.2
    omega
  have hG : HG (paC n) (paG (t + 1)) (-1) a (n + 1) 2000000 (M3 (p + 4)) (M3 (p + 5)) (M3 (p + 6)) (paT M3 p (n + 1)) (M3 (p + 7)) (M3 (p + 8)) (fun _ => 0) 0 := by
    have pz : ∀ c, paT M3 p (n + 1) c ≠ 1 := fun c => by
      unfold paT
      by_cases q : 0 ≤ c ∧ c ≤ n + 1
      · rw [if_pos q, m39 c q.1 q.2]; omega
      · rw [if_neg q]; omega
    refine ⟨hB, ⟨?_, ?_, fun z => by have := z.2; omega, fun c hc => ?_⟩, fun c z => absurd z (pz c), fun c z => absurd z (pz c), fun c t _ _ z => absurd z (pz t), fun c hc _ => Or.inr ⟨rfl, m38 c hc⟩⟩
    · rw [m36r]; exact ⟨by omega, by omega⟩
    · rw [m36r]; omega
    · rw [m36r]; exact hne c hc
  generalize hH : M3 (p + 6) = H at hB hG hne m36 m36r
  generalize hV : M (p + 5) (n + 1) = V0 at c4 c5
  have tk3 : ∀ M' : Mem, M' p = M3 p → M' (p + 3) = M3 (p + 3) → M' (p + 6) = H → TK n t g al a H p M' := fun M' e0 e3 e6 => by
    refine ⟨⟨by rw [e0, m30]; exact t1, t2, t3⟩, ⟨ht.1, ht.2, u3⟩, ⟨t7, t8⟩, t9, t10, ?_, m36r, e6, fun x c => by rw [e3, m33]; exact t14 x c⟩
    rw [m36 0 (by omega)]; exact c3
  have tt3 : TT n t g a H V0 p M3 (n + 1) 0 := by
    refine ⟨⟨_, hG⟩, by omega, m39 _ (by omega) (by omega), Or.inl ⟨rfl, rfl⟩, ?_, fun c c0 c1 => Or.inl (m39 c c0 c1), fun z => by omega, ?_, fun x x0 x1 => ?_, fun x x0 x1 => ?_⟩
    · exact sumN_z fun i hi => m39 i (by omega) (by omega)
    · rw [m34, m35, c2 t (by omega) (by omega), hV]; omega
    · rw [m34]
      rcases c1 x x0 x1 with ⟨c, hc, hx⟩ | z
      · exact Or.inl ⟨c, hc, by rw [m36 c (cne c hc)]; exact hx⟩
      · exact Or.inr z
    · rw [m34]; exact c2 x (by omega) x1
  have key := ev_while (X := X) (y := 147) (Sh := Sh) (fun m ls M' => ∃ at_ k, ls = [some (vR (some p)), some (vI t), some (vI (n + 1)), some (vI at_), some (vI k)] ∧ (∀ b, b ≠ p + 4 → b ≠ p + 5 → b ≠ p + 7 → b ≠ p + 8 → b ≠ p + 9 → M' b = M3 b) ∧ TT n t g a H V0 p M' at_ k ∧ m = (50 - k).toNat)
    (fun o => ∃ M', (∀ b, b < p + 4 ∨ p + 9 < b → M' b = M3 b) ∧ SS n g al a p M' (t + 1) ∧ o = some (none, Sh, M')) J_147_48 (fun m ls M' hI => by
    obtain ⟨at_, k, hls, fr, tt, hm⟩ := hI
    subst hls
    have f0 := fr p (by omega) (by omega) (by omega) (by omega) (by omega)
    have f3 := fr (p + 3) (by omega) (by omega) (by omega) (by omega) (by omega)
    have f6 := fr (p + 6) (by omega) (by omega) (by omega) (by omega) (by omega)
    rw [hH] at f6
    have tk := tk3 M' f0 f3 f6
    obtain ⟨d1, d2, d3, d4, d5, d6, d7, d8⟩ := tt_bd tk tt
    have hat := tt.2.1
    have q1 : ¬ 50 ≤ k := by omega
    by_cases qx : at_ = 0 ∨ H at_ = -1
    · -- the end: the change along
      refine Or.inr ?_
      obtain ⟨⟨rk, hg⟩, a1, a2, a3, a4, a5, a6, a7, a8, a9⟩ := tt
      have hgr := hg.2.1
      have hgB := hg.1
      have h00 : H 0 = -1 := tk.2.2.2.2.2.1
      have hHa : H at_ = -1 := by
        rcases qx with z | z
        · rw [z]; exact h00
        · exact z
      have a3' : 0 < k ∧ paC n at_ ∧ M' (p + 8) at_ = 0 := by
        rcases a3 with z | z
        · rw [z.2, m36r] at hHa; omega
        · exact z
      have hg2 : HG (paC n) (paG (t + 1)) (-1) a (n + 1) 2000000 (M' (p + 4)) (M' (p + 5)) H (paT M' p (n + 1)) (M' (p + 7)) (M' (p + 8)) (fun c => if c = at_ then k else rk c) k := by
        obtain ⟨x1, x2, x3, x4, x5, x6⟩ := hg
        have na : paT M' p (n + 1) at_ ≠ 1 := by unfold paT; rw [if_pos a1]; omega
        refine ⟨x1, x2, fun c hc => ?_, fun c hc hr => ?_, x5, x6⟩
        · have ne : c ≠ at_ := fun z => na (z ▸ hc)
          dsimp only
          rw [if_neg ne]
          exact x3 c hc
        · have ne : c ≠ at_ := fun z => na (z ▸ hc)
          have e := x4 c hc hr
          have ne2 : M' (p + 7) c ≠ at_ := fun z => na (z ▸ e.1)
          dsimp only
          rw [if_neg ne, if_neg ne2]
          exact e
      have hj := hj_0 (Pl := paG (t + 1)) (lone := fun x => M' (p + 4) x = a x 0) hg2 (t0 := at_) (by unfold paT; rw [if_pos a1]; omega) hHa a3' (if_pos rfl) (fun x hx => by
        refine ⟨by have := hx.1; omega, ?_⟩
        by_cases z : x = t
        · exact Or.inl (by rw [z]; exact m36r.symm)
        · exact Or.inr (a8 x hx.1 (by have := hx.2; omega)))
      rw [← f6] at hj h00
      obtain ⟨M'', g1, g2, g3, g4, g5⟩ := s_changeAlong (X := X) hh ⟨t2, t3⟩ rfl hj (by rw [if_pos rfl]; omega) h00 hgB.1 (fun c hc => (hgB.2.2.1 c hc).1) hgB.2.2.2.2
      refine ⟨M'', fun b hb => by rw [g1 b (by omega)]; exact fr b (by omega) (by omega) (by omega) (by omega) (by omega), ⟨?_, ?_, fun x x0 x1 => ?_, g4, ?_, ?_⟩, ?_⟩
      · rw [g1 (p + 4) (by omega), g1 (p + 5) (by omega)]; exact g2
      · intro x x0 x1
        rw [g1 (p + 4) (by omega)]
        exact g3 x ⟨x0, x1⟩
      · rw [g1 (p + 4) (by omega)]; exact a9 x (by omega) x1
      · rw [g1 (p + 5) (by omega)]
        have := d1 t ⟨ht.1, by omega⟩
        omega
      · rw [g1 (p + 5) (by omega)]
        have := d1 t ⟨ht.1, by omega⟩
        omega
      · by_cases q2 : at_ = 0
        · simp (disch := first | assumption | decide | omega | (simp only [List.length_cons, List.length_nil] <;> omega)) only [lgt_0, lgt_s, lset_0, lset_s, lst1_0, lst1_s, lst2_0, lst2_s, ev_iconst, ev_lconst, ev_ldc, ev_null, ev_iload, ev_lload, ev_aload, ev_istore, ev_lstore, ev_astore, ev_iinc, ev_iadd, ev_isub, ev_imul, ev_iand, ev_ior, ev_ishl, ev_ishr, ev_idiv, ev_irem, ev_ineg, ev_ladd, ev_lsub, ev_lmul, ev_land, ev_lor, ev_ldiv, ev_lrem, ev_lshl, ev_i2l, ev_l2i, ev_i2b, ev_i2s, ev_lcmp, ev_dupI, ev_dupR, ev_dup2, ev_popI, ev_popR, ev_alen, ev_xlen, ev_xald, ev_iald, ev_lald, ev_bald, ev_zald, ev_aald, ev_iast, ev_last, ev_bast, ev_zast, ev_aast, ev_gfI, ev_gfL, ev_gfR, ev_pfI, ev_pfZ, ev_pfL, ev_pfR, ev_new, ev_newa, ev_newq, ev_copy, ev_slen, ev_schr, ev_obj, ev_mmin, ev_mabs, ev_mmax, ev_goto, ev_jsr, ev_icmp_eq, ev_if_eq, ev_icmp_ne, ev_if_ne, ev_icmp_lt, ev_if_lt, ev_icmp_ge, ev_if_ge, ev_icmp_gt, ev_if_gt, ev_icmp_le, ev_if_le, ev_ifnull0, ev_ifnull1, ev_ifnn0, ev_ifnn1, ev_tsw, ev_lsw, ev_iret, ev_zret, ev_lret, ev_aret, ev_ret, ev_call0, ev_call1, ev_call2, ev_call3, ev_call4, ev_call5, ev_call6, Option.toList_some, Option.toList_none, List.cons_append, List.nil_append, List.length_cons, List.length_nil, Nat.reduceMod, Nat.reduceDiv, Nat.reduceAdd, Nat.reduceLeDiff, nc, ↓reduceIte, Nat.zero_le, reduceCtorEq, w32_id, Int.reduceEq, Int.reduceNe, Int.reduceLT, Int.reduceLE, Int.reduceGT, Int.reduceGE, Int.reduceAdd, Int.reduceSub, Int.reduceMul, Int.reduceNeg, ne_eq, not_true_eq_false, not_false_eq_true, eq_self, r_holders, k_147_48, J_147_0, k_147_0, J_147_36, k_147_36, J_147_98, k_147_98, q1, q2]
          rw [q2] at g5
          simp (disch := first | assumption | decide | omega | (simp only [List.length_cons, List.length_nil] <;> omega)) only [lgt_0, lgt_s, lset_0, lset_s, lst1_0, lst1_s, lst2_0, lst2_s, ev_iconst, ev_lconst, ev_ldc, ev_null, ev_iload, ev_lload, ev_aload, ev_istore, ev_lstore, ev_astore, ev_iinc, ev_iadd, ev_isub, ev_imul, ev_iand, ev_ior, ev_ishl, ev_ishr, ev_idiv, ev_irem, ev_ineg, ev_ladd, ev_lsub, ev_lmul, ev_land, ev_lor, ev_ldiv, ev_lrem, ev_lshl, ev_i2l, ev_l2i, ev_i2b, ev_i2s, ev_lcmp, ev_dupI, ev_dupR, ev_dup2, ev_popI, ev_popR, ev_alen, ev_xlen, ev_xald, ev_iald, ev_lald, ev_bald, ev_zald, ev_aald, ev_iast, ev_last, ev_bast, ev_zast, ev_aast, ev_gfI, ev_gfL, ev_gfR, ev_pfI, ev_pfZ, ev_pfL, ev_pfR, ev_new, ev_newa, ev_newq, ev_copy, ev_slen, ev_schr, ev_obj, ev_mmin, ev_mabs, ev_mmax, ev_goto, ev_jsr, ev_icmp_eq, ev_if_eq, ev_icmp_ne, ev_if_ne, ev_icmp_lt, ev_if_lt, ev_icmp_ge, ev_if_ge, ev_icmp_gt, ev_if_gt, ev_icmp_le, ev_if_le, ev_ifnull0, ev_ifnull1, ev_ifnn0, ev_ifnn1, ev_tsw, ev_lsw, ev_iret, ev_zret, ev_lret, ev_aret, ev_ret, ev_call0, ev_call1, ev_call2, ev_call3, ev_call4, ev_call5, ev_call6, Option.toList_some, Option.toList_none, List.cons_append, List.nil_append, List.length_cons, List.length_nil, Nat.reduceMod, Nat.reduceDiv, Nat.reduceAdd, Nat.reduceLeDiff, nc, ↓reduceIte, Nat.zero_le, reduceCtorEq, w32_id, Int.reduceEq, Int.reduceNe, Int.reduceLT, Int.reduceLE, Int.reduceGT, Int.reduceGE, Int.reduceAdd, Int.reduceSub, Int.reduceMul, Int.reduceNeg, ne_eq, not_true_eq_false, not_false_eq_true, eq_self, g5]
        · simp (disch := first | assumption | decide | omega | (simp only [List.length_cons, List.length_nil] <;> omega)) only [lgt_0, lgt_s, lset_0, lset_s, lst1_0, lst1_s, lst2_0, lst2_s, ev_iconst, ev_lconst, ev_ldc, ev_null, ev_iload, ev_lload, ev_aload, ev_istore, ev_lstore, ev_astore, ev_iinc, ev_iadd, ev_isub, ev_imul, ev_iand, ev_ior, ev_ishl, ev_ishr, ev_idiv, ev_irem, ev_ineg, ev_ladd, ev_lsub, ev_lmul, ev_land, ev_lor, ev_ldiv, ev_lrem, ev_lshl, ev_i2l, ev_l2i, ev_i2b, ev_i2s, ev_lcmp, ev_dupI, ev_dupR, ev_dup2, ev_popI, ev_popR, ev_alen, ev_xlen, ev_xald, ev_iald, ev_lald, ev_bald, ev_zald, ev_aald, ev_iast, ev_last, ev_bast, ev_zast, ev_aast, ev_gfI, ev_gfL, ev_gfR, ev_pfI, ev_pfZ, ev_pfL, ev_pfR, ev_new, ev_newa, ev_newq, ev_copy, ev_slen, ev_schr, ev_obj, ev_mmin, ev_mabs, ev_mmax, ev_goto, ev_jsr, ev_icmp_eq, ev_if_eq, ev_icmp_ne, ev_if_ne, ev_icmp_lt, ev_if_lt, ev_icmp_ge, ev_if_ge, ev_icmp_gt, ev_if_gt, ev_icmp_le, ev_if_le, ev_ifnull0, ev_ifnull1, ev_ifnn0, ev_ifnn1, ev_tsw, ev_lsw, ev_iret, ev_zret, ev_lret, ev_aret, ev_ret, ev_call0, ev_call1, ev_call2, ev_call3, ev_call4, ev_call5, ev_call6, Option.toList_some, Option.toList_none, List.cons_append, List.nil_append, List.length_cons, List.length_nil, Nat.reduceMod, Nat.reduceDiv, Nat.reduceAdd, Nat.reduceLeDiff, nc, ↓reduceIte, Nat.zero_le, reduceCtorEq, w32_id, Int.reduceEq, Int.reduceNe, Int.reduceLT, Int.reduceLE, Int.reduceGT, Int.reduceGE, Int.reduceAdd, Int.reduceSub, Int.reduceMul, Int.reduceNeg, ne_eq, not_true_eq_false, not_false_eq_true, eq_self, r_holders, k_147_48, J_147_0, k_147_0, J_147_36, k_147_36, J_147_98, k_147_98, q1, q2, f6, hHa, g5]
    · refine Or.inl ?_
      have q2 : ¬ at_ = 0 := fun z => qx (Or.inl z)
      have q3 : ¬ H at_ = -1 := fun z => qx (Or.inr z)
      obtain ⟨M2, t', M4, e1, e2, e3, e4, e5⟩ := s_turn (X := X) hh tk (by omega) tt q2 q3
      refine ⟨_, _, M4, ?_, ⟨t', k + 1, rfl, fun b h4 h5 h7 h8 h9 => by rw [e5 b h4 h5 h7 h8 h9]; exact fr b h4 h5 h7 h8 h9, e4, rfl⟩, ?_⟩
      · omega
      · simp (disch := first | assumption | decide | omega | (simp only [List.length_cons, List.length_nil] <;> omega)) only [lgt_0, lgt_s, lset_0, lset_s, lst1_0, lst1_s, lst2_0, lst2_s, ev_iconst, ev_lconst, ev_ldc, ev_null, ev_iload, ev_lload, ev_aload, ev_istore, ev_lstore, ev_astore, ev_iinc, ev_iadd, ev_isub, ev_imul, ev_iand, ev_ior, ev_ishl, ev_ishr, ev_idiv, ev_irem, ev_ineg, ev_ladd, ev_lsub, ev_lmul, ev_land, ev_lor, ev_ldiv, ev_lrem, ev_lshl, ev_i2l, ev_l2i, ev_i2b, ev_i2s, ev_lcmp, ev_dupI, ev_dupR, ev_dup2, ev_popI, ev_popR, ev_alen, ev_xlen, ev_xald, ev_iald, ev_lald, ev_bald, ev_zald, ev_aald, ev_iast, ev_last, ev_bast, ev_zast, ev_aast, ev_gfI, ev_gfL, ev_gfR, ev_pfI, ev_pfZ, ev_pfL, ev_pfR, ev_new, ev_newa, ev_newq, ev_copy, ev_slen, ev_schr, ev_obj, ev_mmin, ev_mabs, ev_mmax, ev_goto, ev_jsr, ev_icmp_eq, ev_if_eq, ev_icmp_ne, ev_if_ne, ev_icmp_lt, ev_if_lt, ev_icmp_ge, ev_if_ge, ev_icmp_gt, ev_if_gt, ev_icmp_le, ev_if_le, ev_ifnull0, ev_ifnull1, ev_ifnn0, ev_ifnn1, ev_tsw, ev_lsw, ev_iret, ev_zret, ev_lret, ev_aret, ev_ret, ev_call0, ev_call1, ev_call2, ev_call3, ev_call4, ev_call5, ev_call6, Option.toList_some, Option.toList_none, List.cons_append, List.nil_append, List.length_cons, List.length_nil, Nat.reduceMod, Nat.reduceDiv, Nat.reduceAdd, Nat.reduceLeDiff, nc, ↓reduceIte, Nat.zero_le, reduceCtorEq, w32_id, Int.reduceEq, Int.reduceNe, Int.reduceLT, Int.reduceLE, Int.reduceGT, Int.reduceGE, Int.reduceAdd, Int.reduceSub, Int.reduceMul, Int.reduceNeg, ne_eq, not_true_eq_false, not_false_eq_true, eq_self, r_holders, r_reached, k_147_48, J_147_0, k_147_0, J_147_36, k_147_36, J_147_98, k_147_98, q1, q2, f6, q3, e1, e2, e3])
  obtain ⟨M', a1, a2, a3⟩ := key 50 [some (vR (some p)), some (vI t), some (vI (n + 1)), some (vI (n + 1)), some (vI 0)] M3 ⟨n + 1, 0, rfl, fun _ _ _ _ _ _ => rfl, tt3, rfl⟩
  refine ⟨M', fun b hb => ?_, a2, a3⟩
  rw [a1 b hb]
  exact m3 b (by omega) (by omega) (by omega)
end SET
