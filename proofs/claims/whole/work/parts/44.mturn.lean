/-! THE MODEL: a turn of the search; a row given its column. -/
/-- t rows stand -/
def SSm (n N : Int) (a : Int → Int → Int) (m : Nat) (M : Mem) (t : Int) : Prop :=
  HB (zC N) (zG t) 0 a (M (m + 13)) (M (m + 14)) (M (m + 15)) ∧ (∀ x, 1 ≤ x → x ≤ t → (∃ c, zC N c ∧ M (m + 15) c = x)) ∧ (∀ x, t < x → x ≤ n → M (m + 13) x = 0) ∧ -198 * t ≤ M (m + 14) 0 ∧ M (m + 14) 0 ≤ 0
def SKm (n N : Int) (a : Int → Int → Int) (m : Nat) (M : Mem) : Prop :=
  (0 ≤ n ∧ n ≤ N ∧ N ≤ 48) ∧ (∀ x c, zG n x → zC N c → 0 ≤ a x c ∧ a x c ≤ 198) ∧ ∀ x c, M (m + 12) (56 * (x - 1) + c - 1) = a x c
section MTU
variable {X : Int → Int} {Sh : List SE} {M : Mem} {m : Nat}
theorem m_turn (h : MD Sh m) {n N t V0 at_ k r : Int} {a : Int → Int → Int} {H : Int → Int} (tk : TKm n N t a H m M) (hV : -10000 ≤ V0 ∧ V0 ≤ 0) (tt : TTm n N t a H V0 m M at_ k) (hH : H at_ ≠ 0) {w4 w5 w6 w7 w8 : Option PV} :
    ∃ M3 t' y4 y5 y6 y7 y8, TTm n N t a H V0 m M3 t' (k + 1) ∧ (∀ b, b ≠ m + 13 → b ≠ m + 14 → b ≠ m + 16 → b ≠ m + 17 → b ≠ m + 18 → M3 b = M b) ∧
      ev X 313 k_313_42 [some (vR (some m)), some (vI r), some (vI N), some (vI at_), w4, w5, w6, w7, w8] [] Sh M = ev X 313 (jmp 313 42) [some (vR (some m)), some (vI r), some (vI N), some (vI t'), y4, y5, y6, y7, y8] [] Sh M3 := by
  have hmd := h
  have hk0 := h.1; obtain ⟨r_given, k_given, l_given⟩ := md_given h; obtain ⟨r_used, k_used, l_used⟩ := md_used h
  obtain ⟨bu, bv, bs, bd, ⟨k0, k1⟩, ⟨fc, hfc, hf0, hfz⟩⟩ := ttm_bd tk tt
  obtain ⟨⟨t1, t2, t3, t4⟩, t9, t12, t13, t14, -⟩ := tk
  obtain ⟨⟨rk, hg⟩, a1, a2, a3, a4, a5, a6, a7, a9⟩ := tt
  have hg' := hg
  obtain ⟨⟨b1, b2, b3, b4, b5⟩, ⟨r1, r2, r3, r4⟩, g1, g2, g3, g4⟩ := hg'
  have hGat : zG t (H at_) := by
    rcases a3 with z | z
    · rw [z.2]; exact r1
    · exact (b2 _ z.2.1 hH).1
  have hGat1 := hGat.1
  have hGat2 := hGat.2
  -- M1
  have m1 : ∀ b, b ≠ m + 18 → up M (m + 18) at_ 1 b = M b := fun b hb => up_ne hb
  have m12 := m1 (m + 12) (by omega)
  have m13 := m1 (m + 13) (by omega)
  have m14 := m1 (m + 14) (by omega)
  have m15 := m1 (m + 15) (by omega)
  have m16 := m1 (m + 16) (by omega)
  have m17 := m1 (m + 17) (by omega)
  generalize hM1 : up M (m + 18) at_ 1 = M1 at m1 m12 m13 m14 m15 m16 m17
  have T1 : M1 (m + 18) at_ = 1 := by rw [← hM1, up_eq]
  have T2 : ∀ c, c ≠ at_ → M1 (m + 18) c = M (m + 18) c := fun c hc => by rw [← hM1, up_ne2 hc]
  have ncat : ∀ c, M1 (m + 18) c = 0 → c ≠ at_ ∧ M (m + 18) c = 0 := fun c hc => by
    have ne : c ≠ at_ := fun z => by rw [z, T1] at hc; omega
    exact ⟨ne, by rw [← T2 c ne]; exact hc⟩
  have fne : fc ≠ at_ := fun z => hH (z ▸ hf0)
  obtain ⟨M2, t', w', fr2, tr, tz, tmin, tle, hd, hf, he1⟩ := m_scan (X := X) (M := M1) hmd (n := n) (N := N) (t := t) (j0 := at_) (x := H at_) (a := a) (by omega) (by omega) a1 (fun x c => by rw [m12]; exact t14 x c) (fun c hc hz => by
      rw [m13, m14]
      exact bs _ c hGat hc) (fun c hc hz => by
      rw [m13]
      have e1 := t9 (H at_) c ⟨hGat1, by omega⟩ hc
      have e2 := bu _ hGat
      omega) (f := fc) ⟨hfc, by rw [T2 fc fne]; exact hfz⟩ (w := w8) (r := r)
  rw [m13, m14, m17, m16] at hd
  rw [m16] at hf
  have n18 := fr2 (m + 18) (by omega) (by omega)
  have n13 : M2 (m + 13) = M (m + 13) := by rw [fr2 _ (by omega) (by omega), m13]
  have n14 : M2 (m + 14) = M (m + 14) := by rw [fr2 _ (by omega) (by omega), m14]
  have n15 : M2 (m + 15) = H := by rw [fr2 _ (by omega) (by omega), m15, t13]
  have z2 : ∀ c, 0 ≤ c → c ≤ N → M2 (m + 18) c = 0 ∨ M2 (m + 18) c = 1 := fun c c0 c1 => by
    rw [n18]
    by_cases q : c = at_
    · rw [q]; exact Or.inr T1
    · rw [T2 c q]; exact a5 c c0 c1
  have bd2 : ∀ c, zC N c → M2 (m + 18) c = 0 → 0 ≤ M2 (m + 17) c ∧ M2 (m + 17) c ≤ 1000000 := fun c hc hz => by
    rw [n18] at hz
    have e1 := bs (H at_) c hGat hc
    have e2 := bd c hc (ncat c hz).2
    rcases hd c hc hz with z | z <;> omega
  have Tr : M2 (m + 18) 0 = 1 := by
    rw [n18]
    rcases a3 with z | z
    · rw [← z.2]; exact T1
    · have ne : 0 ≠ at_ := fun e => by have := z.2.1.1; omega
      rw [T2 _ ne]
      exact a6 z.1
  have memT : ∀ c, 0 ≤ c → c ≤ N → M2 (m + 18) c ≠ 0 → (zC N c ∨ c = 0) ∧ H c ≠ 0 ∧ zG t (H c) := fun c c0 c1 hz => by
    rw [n18] at hz
    by_cases q : c = at_
    · rw [q]
      refine ⟨?_, hH, hGat⟩
      rcases a3 with z | z
      · exact Or.inr z.2
      · exact Or.inl z.2.1
    · rw [T2 c q] at hz
      have e1 := g1 c (by unfold zT; rw [if_pos ⟨c0, c1⟩]; exact (a5 c c0 c1).resolve_left hz)
      refine ⟨e1.1, e1.2.1, ?_⟩
      rcases e1.1 with z | z
      · exact (b2 _ z e1.2.1).1
      · rw [z]; exact r1
  have injT : ∀ c e, 0 ≤ c → c ≤ N → 0 ≤ e → e ≤ N → M2 (m + 18) c ≠ 0 → M2 (m + 18) e ≠ 0 → H c = H e → c = e := fun c e c0 c1 e0 e1 hc he heq => by
    have x1 := memT c c0 c1 hc
    have x2 := memT e e0 e1 he
    rcases x1.1 with z | z
    · rcases x2.1 with w | w
      · exact b4 c e z w x1.2.1 heq
      · subst w; exact absurd heq (r4 c z)
    · rcases x2.1 with w | w
      · subst z; exact absurd heq.symm (r4 e w)
      · rw [z, w]
  have bt := bd2 t' tr (by rw [n18]; exact tz)
  have but := bu t ⟨by omega, by omega⟩
  obtain ⟨M3, w7', fr, s1, s2, s3, s4, he2⟩ := m_shift (X := X) (M := M2) hmd (N := N) (s := M2 (m + 17) t') (r := r) (j0 := at_) (x := H at_) (t' := t') (by omega) (by omega) (fun c c0 c1 hz => by
      by_cases q : c = 0
      · rw [q, Tr] at hz; omega
      · have := bd2 c ⟨by omega, c1⟩ hz
        omega) (fun c c0 c1 => by
      rw [n14]
      by_cases q : c = 0
      · rw [q]; omega
      · have := bv c ⟨by omega, c1⟩
        omega) (fun c c0 c1 hz => by
      rw [n15, n13]
      have := bu _ (memT c c0 c1 hz).2.2
      omega) (fun c c0 c1 hz => by
      rw [n15]
      have e1 := (memT c c0 c1 hz).2.2.1
      have e2 := (memT c c0 c1 hz).2.2.2
      omega) (fun c e c0 c1 e0 e1 hc he heq => by
      rw [n15] at heq
      exact injT c e c0 c1 e0 e1 hc he heq) (w6 := some (vI t')) (w7 := some (vI (N + 1))) (w8 := w')
  rw [n13, n15] at s1 s2
  rw [n14] at s3
  refine ⟨M3, t', some (vI (H at_)), some (vI (M2 (m + 17) t')), some (vI t'), w7', w', ?_, fun b h4 h5 h7 h8 h9 => by rw [fr b h4 h5 h8, fr2 b h7 h8, m1 b h9], ?_⟩
  rotate_left 1
  · rw [← he2, ← he1]
    simp (disch := first | assumption | decide | omega | (simp only [List.length_cons, List.length_nil] <;> omega)) only [lgt_0, lgt_s, lset_0, lset_s, lst1_0, lst1_s, lst2_0, lst2_s, ev_iconst, ev_lconst, ev_ldc, ev_null, ev_iload, ev_lload, ev_aload, ev_istore, ev_lstore, ev_astore, ev_iinc, ev_iadd, ev_isub, ev_imul, ev_iand, ev_ior, ev_ishl, ev_ishr, ev_idiv, ev_irem, ev_ineg, ev_ladd, ev_lsub, ev_lmul, ev_land, ev_lor, ev_ldiv, ev_lrem, ev_lshl, ev_i2l, ev_l2i, ev_i2b, ev_i2s, ev_lcmp, ev_dupI, ev_dupR, ev_dup2, ev_popI, ev_popR, ev_alen, ev_xlen, ev_xald, ev_iald, ev_lald, ev_bald, ev_zald, ev_aald, ev_iast, ev_last, ev_bast, ev_zast, ev_aast, ev_gfI, ev_gfL, ev_gfR, ev_pfI, ev_pfZ, ev_pfL, ev_pfR, ev_new, ev_newa, ev_newq, ev_copy, ev_slen, ev_schr, ev_obj, ev_mmin, ev_mabs, ev_mmax, ev_goto, ev_jsr, ev_icmp_eq, ev_if_eq, ev_icmp_ne, ev_if_ne, ev_icmp_lt, ev_if_lt, ev_icmp_ge, ev_if_ge, ev_icmp_gt, ev_if_gt, ev_icmp_le, ev_if_le, ev_ifnull0, ev_ifnull1, ev_ifnn0, ev_ifnn1, ev_tsw, ev_lsw, ev_iret, ev_zret, ev_lret, ev_aret, ev_ret, ev_call0, ev_call1, ev_call2, ev_call3, ev_call4, ev_call5, ev_call6, Option.toList_some, Option.toList_none, List.cons_append, List.nil_append, List.length_cons, List.length_nil, Nat.reduceMod, Nat.reduceDiv, Nat.reduceAdd, Nat.reduceLeDiff, nc, ↓reduceIte, Nat.zero_le, reduceCtorEq, w32_id, Int.reduceEq, Int.reduceNe, Int.reduceLT, Int.reduceLE, Int.reduceGT, Int.reduceGE, Int.reduceAdd, Int.reduceSub, Int.reduceMul, Int.reduceNeg, ne_eq, not_true_eq_false, not_false_eq_true, eq_self, r_given, r_used, k_313_42, J_313_0, k_313_0, J_313_96, k_313_96, J_313_160, k_313_160, J_313_185, k_313_185, J_313_191, k_313_191, J_313_242, k_313_242, J_313_254, k_313_254, J_313_260, k_313_260, J_313_297, k_313_297, t13, hH, hM1, m15]
  have f9 := fr (m + 18) (by omega) (by omega) (by omega)
  have f7 := fr (m + 16) (by omega) (by omega) (by omega)
  have pT : ∀ c, zT M3 m N c = 1 ↔ (0 ≤ c ∧ c ≤ N ∧ M2 (m + 18) c ≠ 0) := fun c => by
    unfold zT
    rw [f9]
    constructor
    · intro z
      by_cases q : 0 ≤ c ∧ c ≤ N
      · rw [if_pos q] at z
        exact ⟨q.1, q.2, by omega⟩
      · rw [if_neg q] at z; omega
    · intro z
      rw [if_pos ⟨z.1, z.2.1⟩]
      have := z2 c z.1 z.2.1
      omega
  have pC : ∀ c, zC N c → (zT M3 m N c ≠ 1 ↔ M2 (m + 18) c = 0) := fun c hc => by
    have c0 := hc.1
    have c1 := hc.2
    constructor
    · intro z
      have := z2 c (by omega) c1
      rcases this with w | w
      · exact w
      · exact absurd ((pT c).mpr ⟨by omega, c1, by omega⟩) z
    · intro z w
      exact ((pT c).mp w).2.2 z
  have G := grow hg (fun x c hx hc => by have := bs x c hx hc; omega) (t := at_) (by unfold zT; rw [if_pos a1]; omega) hH (T' := zT M3 m N) (d1 := M2 (m + 17)) (f1 := M3 (m + 16)) (u' := M3 (m + 13)) (v' := M3 (m + 14)) (d' := M3 (m + 17)) (s := M2 (m + 17) t') (t' := t')
    a3 ((pT at_).mpr ⟨a1.1, a1.2, by rw [n18, T1]; omega⟩) (fun c hc => by
      rw [pT, n18, T2 c hc]
      unfold zT
      constructor
      · intro z
        rw [if_pos ⟨z.1, z.2.1⟩]
        have := a5 c z.1 z.2.1
        omega
      · intro z
        by_cases q : 0 ≤ c ∧ c ≤ N
        · rw [if_pos q] at z
          exact ⟨q.1, q.2, by omega⟩
        · rw [if_neg q] at z; omega) (fun c hc hz => by
      rw [f7]
      exact hd c hc (by rw [← n18]; exact (pC c hc).mp hz)) (fun c hz => by
      rw [f7]
      exact hf c (by rw [← n18]; exact ((pT c).mp hz).2.2)) tr ((pC t' tr).mpr (by rw [n18]; exact tz)) (fun c hc hz => tmin c hc (by rw [← n18]; exact (pC c hc).mp hz)) rfl (fun c hz => by
      have z := (pT c).mp hz
      exact s1 c z.1 z.2.1 z.2.2) (fun x hx => s2 x fun c c0 c1 hz => hx c ((pT c).mpr ⟨c0, c1, hz⟩)) (fun c hc hz => by
      have c0 := hc.1
      have c1 := hc.2
      have z := (pT c).mp hz
      rw [s3 c (by omega) c1, if_neg z.2.2]) (fun c hc hz => by
      have c0 := hc.1
      have c1 := hc.2
      rw [s3 c (by omega) c1, if_pos ((pC c hc).mp hz)]) (fun c hc hz => by
      have c0 := hc.1
      have c1 := hc.2
      rw [s4 c (by omega) c1, if_pos ((pC c hc).mp hz)])
  obtain ⟨G1, G2, G3⟩ := G
  have tr1 := tr.1
  have tr2 := tr.2
  refine ⟨⟨_, G1⟩, by omega, by rw [f9, n18]; exact tz, Or.inr ⟨by omega, tr, G2⟩, ?_, fun c c0 c1 => by rw [f9]; exact z2 c c0 c1, fun _ => by rw [f9]; exact Tr, ?_, ?_⟩
  · rw [f9, n18, ← hM1]
    have e1 : sumN (up M (m + 18) at_ 1 (m + 18)) (N + 1).toNat = sumN (fun c => M (m + 18) c + if c = at_ then 1 else 0) (N + 1).toNat := sumN_congr fun c _ => by
      by_cases q : (c : Int) = at_
      · rw [q, up_eq, a2, if_pos rfl]; rfl
      · rw [up_ne2 q, if_neg q]; omega
    rw [e1, sumN_add, sumN_one (f := fun _ => 1), if_pos (by omega), a4]
  · have e1 := s1 0 (by omega) (by omega) (by omega)
    rw [t12] at e1
    have e2 := s3 0 (by omega) (by omega)
    rw [if_neg (by omega)] at e2
    omega
  · intro x x0 x1
    rw [s2 x, a9 x x0 x1]
    intro c c0 c1 hz e
    have e1 := (memT c c0 c1 hz).2.2.2
    omega
/-- columns cannot all be held by fewer rows -/
theorem free_col {N t : Int} {H : Int → Int} (hN : 0 ≤ t ∧ t < N) (h1 : ∀ c, zC N c → H c ≠ 0 → 1 ≤ H c ∧ H c ≤ t) (h2 : ∀ c d, zC N c → zC N d → H c ≠ 0 → H c = H d → c = d) : ∃ f, zC N f ∧ H f = 0 := by
  by_cases q : ∃ f, zC N f ∧ H f = 0
  · exact q
  · have all : ∀ c, zC N c → H c ≠ 0 := fun c hc z => q ⟨c, hc, z⟩
    have kc : ∀ k : Nat, k < N.toNat → zC N ((k : Int) + 1) := fun k hk => ⟨by omega, by omega⟩
    have e := sumN_inj (h := fun k => H (k + 1) - 1) (f := fun _ => 1) (n := N.toNat) (g := t.toNat) (fun i j hi hj _ heq => by
      have := h2 _ _ (kc i hi) (kc j hj) (all _ (kc i hi)) (by omega)
      omega) (fun i hi => by
      have := h1 _ (kc i hi) (all _ (kc i hi))
      omega)
    have e1 : sumN (fun k => if 0 ≤ H (k + 1) - 1 then 1 else 0) N.toNat = N := by
      rw [sumN_congr (g := fun _ => 1) (fun k hk => by
        have := h1 _ (kc k hk) (all _ (kc k hk))
        rw [if_pos (by omega)]), sumN_c]
      omega
    rw [sumN_c] at e
    rw [e1] at e
    have e2 := sumN_nn (f := fun x => if sumN (fun k => if H (k + 1) - 1 = x then 1 else 0) N.toNat = 0 then 1 else 0) (n := t.toNat) (fun i _ => by split <;> omega)
    omega
theorem m_givesOne (h : MD Sh m) {n N t : Int} {a : Int → Int → Int} (sk : SKm n N a m M) (ss : SSm n N a m M (t - 1)) (ht : 1 ≤ t ∧ t ≤ n) :
    ∃ M', frm (m + 13) (m + 18) M M' ∧ SSm n N a m M' t ∧ evc X 313 [vR (some m), vI t, vI N] Sh M = some (none, Sh, M') := by
  have hmd := h
  have hk0 := h.1; obtain ⟨r_given, k_given, l_given⟩ := md_given h; obtain ⟨r_nearest, k_nearest, l_nearest⟩ := md_nearest h; obtain ⟨r_used, k_used, l_used⟩ := md_used h
  obtain ⟨⟨t1, t2, t3⟩, t9, t14⟩ := sk
  obtain ⟨⟨b1, b2, b3, b4, b5⟩, c1, c2, c4, c5⟩ := ss
  rw [E_313 hk0]
  simp (disch := first | assumption | decide | omega | (simp only [List.length_cons, List.length_nil] <;> omega)) only [lgt_0, lgt_s, lset_0, lset_s, lst1_0, lst1_s, lst2_0, lst2_s, ev_iconst, ev_lconst, ev_ldc, ev_null, ev_iload, ev_lload, ev_aload, ev_istore, ev_lstore, ev_astore, ev_iinc, ev_iadd, ev_isub, ev_imul, ev_iand, ev_ior, ev_ishl, ev_ishr, ev_idiv, ev_irem, ev_ineg, ev_ladd, ev_lsub, ev_lmul, ev_land, ev_lor, ev_ldiv, ev_lrem, ev_lshl, ev_i2l, ev_l2i, ev_i2b, ev_i2s, ev_lcmp, ev_dupI, ev_dupR, ev_dup2, ev_popI, ev_popR, ev_alen, ev_xlen, ev_xald, ev_iald, ev_lald, ev_bald, ev_zald, ev_aald, ev_iast, ev_last, ev_bast, ev_zast, ev_aast, ev_gfI, ev_gfL, ev_gfR, ev_pfI, ev_pfZ, ev_pfL, ev_pfR, ev_new, ev_newa, ev_newq, ev_copy, ev_slen, ev_schr, ev_obj, ev_mmin, ev_mabs, ev_mmax, ev_goto, ev_jsr, ev_icmp_eq, ev_if_eq, ev_icmp_ne, ev_if_ne, ev_icmp_lt, ev_if_lt, ev_icmp_ge, ev_if_ge, ev_icmp_gt, ev_if_gt, ev_icmp_le, ev_if_le, ev_ifnull0, ev_ifnull1, ev_ifnn0, ev_ifnn1, ev_tsw, ev_lsw, ev_iret, ev_zret, ev_lret, ev_aret, ev_ret, ev_call0, ev_call1, ev_call2, ev_call3, ev_call4, ev_call5, ev_call6, Option.toList_some, Option.toList_none, List.cons_append, List.nil_append, List.length_cons, List.length_nil, Nat.reduceMod, Nat.reduceDiv, Nat.reduceAdd, Nat.reduceLeDiff, nc, ↓reduceIte, Nat.zero_le, reduceCtorEq, w32_id, Int.reduceEq, Int.reduceNe, Int.reduceLT, Int.reduceLE, Int.reduceGT, Int.reduceGE, Int.reduceAdd, Int.reduceSub, Int.reduceMul, Int.reduceNeg, ne_eq, not_true_eq_false, not_false_eq_true, eq_self, r_given, J_313_0, k_313_0, J_313_96, k_313_96, J_313_160, k_313_160, J_313_185, k_313_185, J_313_191, k_313_191, J_313_242, k_313_242, J_313_254, k_313_254, J_313_260, k_313_260, J_313_297, k_313_297]
  obtain ⟨ls', M3, ⟨hls, fr, i1, i2⟩, he⟩ := ev_for (X := X) (y := 313) (Sh := Sh) (fun i ls M' => ls = [some (vR (some m)), some (vI t), some (vI N), some (vI 0), some (vI (i : Int)), none, none, none, none] ∧ (∀ b, b ≠ m + 17 → b ≠ m + 18 → M' b = up M (m + 15) 0 t b) ∧ (∀ c : Int, 0 ≤ c → c < i → M' (m + 17) c = 1000000) ∧ (∀ c : Int, 0 ≤ c → c < i → M' (m + 18) c = 0)) J_313_12 (N + 1).toNat (fun i hi ls M' hI => by
    obtain ⟨hls, fr, i1, i2⟩ := hI
    subst hls
    have q0 : ¬ N < (i : Int) := by omega
    refine ⟨_, up (up M' (m + 17) i 1000000) (m + 18) i 0, ⟨rfl, fun b b0 b1 => by simp (disch := omega) only [up_ne, up_eq, up_ne2]; exact fr b b0 b1, fun c c0 c1 => ?_, fun c c0 c1 => ?_⟩, ?_⟩
    · by_cases z : c = i
      · subst z; simp (disch := omega) only [up_ne, up_eq, up_ne2]
      · simp (disch := omega) only [up_ne, up_eq, up_ne2]; exact i1 c c0 (by omega)
    · by_cases z : c = i
      · subst z; simp (disch := omega) only [up_ne, up_eq, up_ne2]
      · simp (disch := omega) only [up_ne, up_eq, up_ne2]; exact i2 c c0 (by omega)
    · simp (disch := first | assumption | decide | omega | (simp only [List.length_cons, List.length_nil] <;> omega)) only [lgt_0, lgt_s, lset_0, lset_s, lst1_0, lst1_s, lst2_0, lst2_s, ev_iconst, ev_lconst, ev_ldc, ev_null, ev_iload, ev_lload, ev_aload, ev_istore, ev_lstore, ev_astore, ev_iinc, ev_iadd, ev_isub, ev_imul, ev_iand, ev_ior, ev_ishl, ev_ishr, ev_idiv, ev_irem, ev_ineg, ev_ladd, ev_lsub, ev_lmul, ev_land, ev_lor, ev_ldiv, ev_lrem, ev_lshl, ev_i2l, ev_l2i, ev_i2b, ev_i2s, ev_lcmp, ev_dupI, ev_dupR, ev_dup2, ev_popI, ev_popR, ev_alen, ev_xlen, ev_xald, ev_iald, ev_lald, ev_bald, ev_zald, ev_aald, ev_iast, ev_last, ev_bast, ev_zast, ev_aast, ev_gfI, ev_gfL, ev_gfR, ev_pfI, ev_pfZ, ev_pfL, ev_pfR, ev_new, ev_newa, ev_newq, ev_copy, ev_slen, ev_schr, ev_obj, ev_mmin, ev_mabs, ev_mmax, ev_goto, ev_jsr, ev_icmp_eq, ev_if_eq, ev_icmp_ne, ev_if_ne, ev_icmp_lt, ev_if_lt, ev_icmp_ge, ev_if_ge, ev_icmp_gt, ev_if_gt, ev_icmp_le, ev_if_le, ev_ifnull0, ev_ifnull1, ev_ifnn0, ev_ifnn1, ev_tsw, ev_lsw, ev_iret, ev_zret, ev_lret, ev_aret, ev_ret, ev_call0, ev_call1, ev_call2, ev_call3, ev_call4, ev_call5, ev_call6, Option.toList_some, Option.toList_none, List.cons_append, List.nil_append, List.length_cons, List.length_nil, Nat.reduceMod, Nat.reduceDiv, Nat.reduceAdd, Nat.reduceLeDiff, nc, ↓reduceIte, Nat.zero_le, reduceCtorEq, w32_id, Int.reduceEq, Int.reduceNe, Int.reduceLT, Int.reduceLE, Int.reduceGT, Int.reduceGE, Int.reduceAdd, Int.reduceSub, Int.reduceMul, Int.reduceNeg, ne_eq, not_true_eq_false, not_false_eq_true, eq_self, r_nearest, r_used, k_313_12, J_313_0, k_313_0, J_313_96, k_313_96, J_313_160, k_313_160, J_313_185, k_313_185, J_313_191, k_313_191, J_313_242, k_313_242, J_313_254, k_313_254, J_313_260, k_313_260, J_313_297, k_313_297, q0, nc_s]) [some (vR (some m)), some (vI t), some (vI N), some (vI 0), some (vI 0), none, none, none, none] (up M (m + 15) 0 t) ⟨rfl, fun _ _ _ => rfl, fun c c0 c1 => by omega, fun c c0 c1 => by omega⟩
  subst hls
  have e : (((N + 1).toNat : Nat) : Int) = N + 1 := by omega
  rw [e] at i1 i2 he
  rw [he]
  have q0 : N < N + 1 := by omega
  simp (disch := first | assumption | decide | omega | (simp only [List.length_cons, List.length_nil] <;> omega)) only [lgt_0, lgt_s, lset_0, lset_s, lst1_0, lst1_s, lst2_0, lst2_s, ev_iconst, ev_lconst, ev_ldc, ev_null, ev_iload, ev_lload, ev_aload, ev_istore, ev_lstore, ev_astore, ev_iinc, ev_iadd, ev_isub, ev_imul, ev_iand, ev_ior, ev_ishl, ev_ishr, ev_idiv, ev_irem, ev_ineg, ev_ladd, ev_lsub, ev_lmul, ev_land, ev_lor, ev_ldiv, ev_lrem, ev_lshl, ev_i2l, ev_l2i, ev_i2b, ev_i2s, ev_lcmp, ev_dupI, ev_dupR, ev_dup2, ev_popI, ev_popR, ev_alen, ev_xlen, ev_xald, ev_iald, ev_lald, ev_bald, ev_zald, ev_aald, ev_iast, ev_last, ev_bast, ev_zast, ev_aast, ev_gfI, ev_gfL, ev_gfR, ev_pfI, ev_pfZ, ev_pfL, ev_pfR, ev_new, ev_newa, ev_newq, ev_copy, ev_slen, ev_schr, ev_obj, ev_mmin, ev_mabs, ev_mmax, ev_goto, ev_jsr, ev_icmp_eq, ev_if_eq, ev_icmp_ne, ev_if_ne, ev_icmp_lt, ev_if_lt, ev_icmp_ge, ev_if_ge, ev_icmp_gt, ev_if_gt, ev_icmp_le, ev_if_le, ev_ifnull0, ev_ifnull1, ev_ifnn0, ev_ifnn1, ev_tsw, ev_lsw, ev_iret, ev_zret, ev_lret, ev_aret, ev_ret, ev_call0, ev_call1, ev_call2, ev_call3, ev_call4, ev_call5, ev_call6, Option.toList_some, Option.toList_none, List.cons_append, List.nil_append, List.length_cons, List.length_nil, Nat.reduceMod, Nat.reduceDiv, Nat.reduceAdd, Nat.reduceLeDiff, nc, ↓reduceIte, Nat.zero_le, reduceCtorEq, w32_id, Int.reduceEq, Int.reduceNe, Int.reduceLT, Int.reduceLE, Int.reduceGT, Int.reduceGE, Int.reduceAdd, Int.reduceSub, Int.reduceMul, Int.reduceNeg, ne_eq, not_true_eq_false, not_false_eq_true, eq_self, k_313_12, J_313_0, k_313_0, J_313_96, k_313_96, J_313_160, k_313_160, J_313_185, k_313_185, J_313_191, k_313_191, J_313_242, k_313_242, J_313_254, k_313_254, J_313_260, k_313_260, J_313_297, k_313_297, q0]
  clear he
  have m3 : ∀ b, b ≠ m + 15 → b ≠ m + 17 → b ≠ m + 18 → M3 b = M b := fun b h6 h8 h9 => by rw [fr b h8 h9, up_ne h6]
  have m315 := fr (m + 15) (by omega) (by omega)
  have m36 : ∀ c, zC N c → M3 (m + 15) c = M (m + 15) c := fun c hc => by rw [m315, up_ne2 (by have := hc.1; omega)]
  have m36r : M3 (m + 15) 0 = t := by rw [m315, up_eq]
  have m34 := m3 (m + 13) (by omega) (by omega) (by omega)
  have m35 := m3 (m + 14) (by omega) (by omega) (by omega)
  have m33 := m3 (m + 12) (by omega) (by omega) (by omega)
  have hB : HB (zC N) (zG t) 0 a (M3 (m + 13)) (M3 (m + 14)) (M3 (m + 15)) := by
    rw [m34, m35]
    refine ⟨fun x c hx hc => ?_, fun c hc hn => ?_, fun c hc => ?_, fun c e hc he hn heq => ?_, fun x hx => ?_⟩
    · by_cases q : x = t
      · rw [q, c2 t (by omega) (by omega)]
        have := (b3 c hc).1
        have := t9 t c ⟨by omega, by omega⟩ hc
        omega
      · exact b1 x c ⟨hx.1, by have := hx.2; omega⟩ hc
    · rw [m36 c hc] at hn ⊢
      have e := b2 c hc hn
      exact ⟨⟨e.1.1, by have := e.1.2; omega⟩, e.2⟩
    · rw [m36 c hc]
      exact b3 c hc
    · rw [m36 c hc] at hn heq
      rw [m36 e he] at heq
      exact b4 c e hc he hn heq
    · by_cases q : x = t
      · rw [q, c2 t (by omega) (by omega)]; exact Int.le_refl _
      · exact b5 x ⟨hx.1, by have := hx.2; omega⟩
  have hne : ∀ c, zC N c → M3 (m + 15) c ≠ t := fun c hc e => by
    rw [m36 c hc] at e
    have := (b2 c hc (by omega)).1.2
    omega
  have hG : HG (zC N) (zG t) 0 a 0 1000000 (M3 (m + 13)) (M3 (m + 14)) (M3 (m + 15)) (zT M3 m N) (M3 (m + 16)) (M3 (m + 17)) (fun _ => 0) 0 := by
    have pz : ∀ c, zT M3 m N c ≠ 1 := fun c => by
      unfold zT
      by_cases q : 0 ≤ c ∧ c ≤ N
      · rw [if_pos q, i2 c q.1 (by omega)]; omega
      · rw [if_neg q]; omega
    refine ⟨hB, ⟨?_, ?_, fun z => by have := z.1; omega, fun c hc => ?_⟩, fun c z => absurd z (pz c), fun c z => absurd z (pz c), fun c t _ _ z => absurd z (pz t), fun c hc _ => Or.inr ⟨rfl, i1 c (by have := hc.1; omega) (by have := hc.2; omega)⟩⟩
    · rw [m36r]; exact ⟨by omega, by omega⟩
    · rw [m36r]; omega
    · rw [m36r]; exact hne c hc
  have hfree : ∃ f, zC N f ∧ M3 (m + 15) f = 0 := by
    obtain ⟨f, f1, f2⟩ := free_col (N := N) (t := t - 1) (H := M (m + 15)) (by omega) (fun c hc hn => (b2 c hc hn).1) b4
    exact ⟨f, f1, by rw [m36 f f1]; exact f2⟩
  generalize hH : M3 (m + 15) = H at hB hG hne m36 m36r hfree
  generalize hV : M (m + 14) 0 = V0 at c4 c5
  have tk3 : ∀ M' : Mem, M' (m + 12) = M3 (m + 12) → M' (m + 15) = H → TKm n N t a H m M' := fun M' e3 e6 => ⟨⟨ht.1, ht.2, t2, t3⟩, t9, m36r, e6, fun x c => by rw [e3, m33]; exact t14 x c, hfree⟩
  have tt3 : TTm n N t a H V0 m M3 0 0 := by
    refine ⟨⟨_, hG⟩, by omega, i2 _ (by omega) (by omega), Or.inl ⟨rfl, rfl⟩, ?_, fun c c0 c1 => Or.inl (i2 c c0 (by omega)), fun z => by omega, ?_, fun x x0 x1 => ?_⟩
    · exact sumN_z fun i hi => i2 i (by omega) (by omega)
    · rw [m34, m35, c2 t (by omega) (by omega), hV]; omega
    · rw [m34]; exact c2 x (by omega) x1
  have key := ev_while (X := X) (y := 313) (Sh := Sh) (fun q ls M' => ∃ at_ k w4 w5 w6 w7 w8, ls = [some (vR (some m)), some (vI t), some (vI N), some (vI at_), w4, w5, w6, w7, w8] ∧ (∀ b, b ≠ m + 13 → b ≠ m + 14 → b ≠ m + 16 → b ≠ m + 17 → b ≠ m + 18 → M' b = M3 b) ∧ TTm n N t a H V0 m M' at_ k ∧ q = (N + 1 - k).toNat)
    (fun o => ∃ M', (∀ b, b < m + 13 ∨ m + 18 < b → M' b = M3 b) ∧ SSm n N a m M' t ∧ o = some (none, Sh, M')) J_313_42 (fun q ls M' hI => by
    obtain ⟨at_, k, w4, w5, w6, w7, w8, hls, fr, tt, hm⟩ := hI
    subst hls
    have f3 := fr (m + 12) (by omega) (by omega) (by omega) (by omega) (by omega)
    have f6 := fr (m + 15) (by omega) (by omega) (by omega) (by omega) (by omega)
    rw [hH] at f6
    have tk := tk3 M' f3 f6
    obtain ⟨d1, d2, d3, d4, ⟨d5, d6⟩, d7⟩ := ttm_bd tk tt
    have hat := tt.2.1
    by_cases qx : H at_ = 0
    · refine Or.inr ?_
      obtain ⟨⟨rk, hg⟩, a1, a2, a3, a4, a5, a6, a7, a9⟩ := tt
      have hgB := hg.1
      have a3' : 0 < k ∧ zC N at_ ∧ M' (m + 17) at_ = 0 := by
        rcases a3 with z | z
        · rw [z.2, m36r] at qx; omega
        · exact z
      have hg2 : HG (zC N) (zG t) 0 a 0 1000000 (M' (m + 13)) (M' (m + 14)) H (zT M' m N) (M' (m + 16)) (M' (m + 17)) (fun c => if c = at_ then k else rk c) k := by
        obtain ⟨x1, x2, x3, x4, x5, x6⟩ := hg
        have na : zT M' m N at_ ≠ 1 := by unfold zT; rw [if_pos a1]; omega
        refine ⟨x1, x2, fun c hc => ?_, fun c hc hr => ?_, x5, x6⟩
        · have ne : c ≠ at_ := fun z => na (z ▸ hc)
          dsimp only
          rw [if_neg ne]
          exact x3 c hc
        · have ne : c ≠ at_ := fun z => na (z ▸ hc)
          have e := x4 c hc hr
          have ne2 : M' (m + 16) c ≠ at_ := fun z => na (z ▸ e.1)
          dsimp only
          rw [if_neg ne, if_neg ne2]
          exact e
      have hj := hj_0 (Pl := zG t) (lone := fun _ => False) hg2 (t0 := at_) (by unfold zT; rw [if_pos a1]; omega) qx a3' (if_pos rfl) (fun x hx => by
        refine ⟨by have := hx.1; omega, ?_⟩
        by_cases z : x = t
        · exact Or.inl (by rw [z]; exact m36r.symm)
        · obtain ⟨c, hc, hcx⟩ := c1 x hx.1 (by have := hx.2; omega)
          exact Or.inr (Or.inl ⟨c, hc, by rw [m36 c hc]; exact hcx⟩))
      rw [← f6] at hj
      obtain ⟨M'', g1, g2, g3, g5⟩ := m_change (X := X) hmd (N := N) (by omega) rfl hj (by rw [if_pos rfl]; omega) hgB.1 (fun c hc => (hgB.2.2.1 c hc).1) hgB.2.2.2.2 (r := t) (w4 := w4) (w5 := w5) (w6 := w6) (w7 := w7) (w8 := w8)
      refine ⟨M'', fun b hb => by rw [g1 b (by omega)]; exact fr b (by omega) (by omega) (by omega) (by omega) (by omega), ⟨?_, ?_, fun x x0 x1 => ?_, ?_, ?_⟩, ?_⟩
      · rw [g1 (m + 13) (by omega), g1 (m + 14) (by omega)]; exact g2
      · intro x x0 x1
        exact g3 x ⟨x0, x1⟩
      · rw [g1 (m + 13) (by omega)]; exact a9 x x0 x1
      · rw [g1 (m + 14) (by omega)]
        have := d1 t ⟨by omega, by omega⟩
        omega
      · rw [g1 (m + 14) (by omega)]
        have := d1 t ⟨by omega, by omega⟩
        omega
      · rw [← g5]
        simp (disch := first | assumption | decide | omega | (simp only [List.length_cons, List.length_nil] <;> omega)) only [lgt_0, lgt_s, lset_0, lset_s, lst1_0, lst1_s, lst2_0, lst2_s, ev_iconst, ev_lconst, ev_ldc, ev_null, ev_iload, ev_lload, ev_aload, ev_istore, ev_lstore, ev_astore, ev_iinc, ev_iadd, ev_isub, ev_imul, ev_iand, ev_ior, ev_ishl, ev_ishr, ev_idiv, ev_irem, ev_ineg, ev_ladd, ev_lsub, ev_lmul, ev_land, ev_lor, ev_ldiv, ev_lrem, ev_lshl, ev_i2l, ev_l2i, ev_i2b, ev_i2s, ev_lcmp, ev_dupI, ev_dupR, ev_dup2, ev_popI, ev_popR, ev_alen, ev_xlen, ev_xald, ev_iald, ev_lald, ev_bald, ev_zald, ev_aald, ev_iast, ev_last, ev_bast, ev_zast, ev_aast, ev_gfI, ev_gfL, ev_gfR, ev_pfI, ev_pfZ, ev_pfL, ev_pfR, ev_new, ev_newa, ev_newq, ev_copy, ev_slen, ev_schr, ev_obj, ev_mmin, ev_mabs, ev_mmax, ev_goto, ev_jsr, ev_icmp_eq, ev_if_eq, ev_icmp_ne, ev_if_ne, ev_icmp_lt, ev_if_lt, ev_icmp_ge, ev_if_ge, ev_icmp_gt, ev_if_gt, ev_icmp_le, ev_if_le, ev_ifnull0, ev_ifnull1, ev_ifnn0, ev_ifnn1, ev_tsw, ev_lsw, ev_iret, ev_zret, ev_lret, ev_aret, ev_ret, ev_call0, ev_call1, ev_call2, ev_call3, ev_call4, ev_call5, ev_call6, Option.toList_some, Option.toList_none, List.cons_append, List.nil_append, List.length_cons, List.length_nil, Nat.reduceMod, Nat.reduceDiv, Nat.reduceAdd, Nat.reduceLeDiff, nc, ↓reduceIte, Nat.zero_le, reduceCtorEq, w32_id, Int.reduceEq, Int.reduceNe, Int.reduceLT, Int.reduceLE, Int.reduceGT, Int.reduceGE, Int.reduceAdd, Int.reduceSub, Int.reduceMul, Int.reduceNeg, ne_eq, not_true_eq_false, not_false_eq_true, eq_self, r_given, k_313_42, J_313_0, k_313_0, J_313_96, k_313_96, J_313_160, k_313_160, J_313_185, k_313_185, J_313_191, k_313_191, J_313_242, k_313_242, J_313_254, k_313_254, J_313_260, k_313_260, J_313_297, k_313_297, f6, qx]
    · refine Or.inl ?_
      obtain ⟨M4, t', y4, y5, y6, y7, y8, e1, e2, e3⟩ := m_turn (X := X) hmd tk (by omega) tt qx (r := t) (w4 := w4) (w5 := w5) (w6 := w6) (w7 := w7) (w8 := w8)
      exact ⟨_, _, M4, by omega, ⟨t', k + 1, y4, y5, y6, y7, y8, rfl, fun b h4 h5 h7 h8 h9 => by rw [e2 b h4 h5 h7 h8 h9]; exact fr b h4 h5 h7 h8 h9, e1, rfl⟩, e3⟩)
  obtain ⟨M', a1, a2, a3⟩ := key (N + 1).toNat _ M3 ⟨0, 0, _, _, _, _, _, rfl, fun _ _ _ _ _ _ => rfl, tt3, by rw [Int.sub_zero]⟩
  refine ⟨M', fun b hb => ?_, a2, a3⟩
  rw [a1 b hb]
  exact m3 b (by omega) (by omega) (by omega)
end MTU
