/-! THE MODEL: growing a tree, the loops of givesOne. -/
def zC (N : Int) : Int → Prop := fun c => 1 ≤ c ∧ c ≤ N
def zG (t : Int) : Int → Prop := fun x => 1 ≤ x ∧ x ≤ t
def zT (M : Mem) (m : Nat) (N : Int) : Int → Int := fun c => if 0 ≤ c ∧ c ≤ N then M (m + 18) c else 0
/-- what stands through the search -/
def TKm (n N t : Int) (a : Int → Int → Int) (H : Int → Int) (m : Nat) (M : Mem) : Prop :=
  (1 ≤ t ∧ t ≤ n ∧ n ≤ N ∧ N ≤ 48) ∧ (∀ x c, zG n x → zC N c → 0 ≤ a x c ∧ a x c ≤ 198) ∧ H 0 = t ∧ M (m + 15) = H ∧ (∀ x c, M (m + 12) (56 * (x - 1) + c - 1) = a x c) ∧ ∃ f, zC N f ∧ H f = 0
/-- what changes -/
def TTm (n N t : Int) (a : Int → Int → Int) (H : Int → Int) (V0 : Int) (m : Nat) (M : Mem) (at_ k : Int) : Prop :=
  (∃ rk, HG (zC N) (zG t) 0 a 0 1000000 (M (m + 13)) (M (m + 14)) H (zT M m N) (M (m + 16)) (M (m + 17)) rk k) ∧ (0 ≤ at_ ∧ at_ ≤ N) ∧ M (m + 18) at_ = 0 ∧
  ((k = 0 ∧ at_ = 0) ∨ (0 < k ∧ zC N at_ ∧ M (m + 17) at_ = 0)) ∧ sumN (M (m + 18)) (N + 1).toNat = k ∧ (∀ c, 0 ≤ c → c ≤ N → M (m + 18) c = 0 ∨ M (m + 18) c = 1) ∧ (0 < k → M (m + 18) 0 = 1) ∧
  M (m + 14) 0 + M (m + 13) t = V0 ∧ (∀ x, t < x → x ≤ n → M (m + 13) x = 0)
section MTR
variable {X : Int → Int} {Sh : List SE} {M : Mem} {m : Nat}
theorem ttm_bd {n N t V0 at_ k : Int} {a : Int → Int → Int} {H : Int → Int} (tk : TKm n N t a H m M) (tt : TTm n N t a H V0 m M at_ k) :
    (∀ x, zG t x → 0 ≤ M (m + 13) x ∧ M (m + 13) x ≤ 198) ∧ (∀ c, zC N c → -198 ≤ M (m + 14) c ∧ M (m + 14) c ≤ 0) ∧ (∀ x c, zG t x → zC N c → 0 ≤ a x c - M (m + 13) x - M (m + 14) c ∧ a x c - M (m + 13) x - M (m + 14) c ≤ 396) ∧ (∀ c, zC N c → M (m + 18) c = 0 → 0 ≤ M (m + 17) c ∧ M (m + 17) c ≤ 1000000) ∧ (0 ≤ k ∧ k ≤ N) ∧ ∃ f, zC N f ∧ H f = 0 ∧ M (m + 18) f = 0 := by
  obtain ⟨⟨t1, t2, t3, t4⟩, t9, t12, t13, t14, ⟨f, f1, f2⟩⟩ := tk
  obtain ⟨⟨rk, hg⟩, a1, a2, a3, a4, a5, a6, a7, a9⟩ := tt
  obtain ⟨⟨b1, b2, b3, b4, b5⟩, ⟨r1, r2, r3, r4⟩, g1, g2, g3, g4⟩ := hg
  have v0 := (b3 f f1).2 f2
  have hu : ∀ x, zG t x → 0 ≤ M (m + 13) x ∧ M (m + 13) x ≤ 198 := fun x hx => by
    have e1 := b5 x hx
    have e2 := b1 x f hx f1
    have e3 := t9 x f ⟨hx.1, by have := hx.2; omega⟩ f1
    omega
  have hv : ∀ c, zC N c → -198 ≤ M (m + 14) c ∧ M (m + 14) c ≤ 0 := fun c hc => by
    have e1 := b3 c hc
    by_cases q : H c = 0
    · have := e1.2 q
      omega
    · have e2 := b2 c hc q
      have e3 := hu _ e2.1
      have e4 := t9 (H c) c ⟨e2.1.1, by have := e2.1.2; omega⟩ hc
      omega
  have hs : ∀ x c, zG t x → zC N c → 0 ≤ a x c - M (m + 13) x - M (m + 14) c ∧ a x c - M (m + 13) x - M (m + 14) c ≤ 396 := fun x c hx hc => by
    have e1 := b1 x c hx hc
    have e2 := hu x hx
    have e3 := hv c hc
    have e4 := t9 x c ⟨hx.1, by have := hx.2; omega⟩ hc
    omega
  have le1 : ∀ i : Nat, i < (N + 1).toNat → M (m + 18) i ≤ 1 := fun i hi => by
    have := a5 i (by omega) (by omega)
    omega
  have z0 : M (m + 18) f = 0 := by
    have f3 := f1.1
    have f4 := f1.2
    rcases a5 f (by omega) (by omega) with z | z
    · exact z
    · have := (g1 f (by unfold zT; rw [if_pos (by omega)]; exact z)).2.1
      exact absurd f2 this
  have k0 : 0 ≤ k := by omega
  refine ⟨hu, hv, hs, ?_, ⟨k0, ?_⟩, f, f1, f2, z0⟩
  · intro c hc hz
    rcases g4 c hc (by unfold zT; rw [if_pos ⟨by have := hc.1; omega, hc.2⟩]; omega) with w | w
    · have hG : zG t (H (M (m + 16) c)) := by
        have e1 := g1 _ w.2.1
        rcases e1.1 with z | z
        · exact (b2 _ z e1.2.1).1
        · rw [z]; exact r1
      have := hs _ c hG hc
      omega
    · omega
  · have e := sum_1z (f := M (m + 18)) (n := (N + 1).toNat) (a := at_) le1 (by omega) a2
    omega
/-- the scan: measuring from j0, whose row is x, and the nearest -/
theorem m_scan (h : MD Sh m) {n N t j0 x : Int} {a : Int → Int → Int} (hN : 1 ≤ N ∧ N ≤ 48) (hx : 1 ≤ x ∧ x ≤ 48) (hj0 : 0 ≤ j0 ∧ j0 ≤ N) (ha : ∀ x c, M (m + 12) (56 * (x - 1) + c - 1) = a x c)
    (hb : ∀ c, zC N c → M (m + 18) c = 0 → 0 ≤ a x c - M (m + 13) x - M (m + 14) c ∧ a x c - M (m + 13) x - M (m + 14) c ≤ 396) (hr : ∀ c, zC N c → M (m + 18) c = 0 → (-1000 ≤ a x c ∧ a x c ≤ 1000) ∧ -1000 ≤ M (m + 13) x ∧ M (m + 13) x ≤ 1000)
    {f : Int} (hf : zC N f ∧ M (m + 18) f = 0) {w : Option PV} {r : Int} :
    ∃ M2 t' w', (∀ b, b ≠ m + 16 → b ≠ m + 17 → M2 b = M b) ∧ zC N t' ∧ M (m + 18) t' = 0 ∧ (∀ c, zC N c → M (m + 18) c = 0 → M2 (m + 17) t' ≤ M2 (m + 17) c) ∧ M2 (m + 17) t' ≤ 396 ∧
      (∀ c, zC N c → M (m + 18) c = 0 → (a x c - M (m + 13) x - M (m + 14) c < M (m + 17) c ∧ M2 (m + 17) c = a x c - M (m + 13) x - M (m + 14) c ∧ M2 (m + 16) c = j0) ∨ (M (m + 17) c ≤ a x c - M (m + 13) x - M (m + 14) c ∧ M2 (m + 17) c = M (m + 17) c ∧ M2 (m + 16) c = M (m + 16) c)) ∧
      (∀ c, M (m + 18) c ≠ 0 → M2 (m + 16) c = M (m + 16) c) ∧
      ev X 313 (jmp 313 77) [some (vR (some m)), some (vI r), some (vI N), some (vI j0), some (vI x), some (vI 1000000), some (vI 0), some (vI 1), w] [] Sh M = ev X 313 (jmp 313 191) [some (vR (some m)), some (vI r), some (vI N), some (vI j0), some (vI x), some (vI (M2 (m + 17) t')), some (vI t'), some (vI (N + 1)), w'] [] Sh M2 := by
  have hk0 := h.1; obtain ⟨r_weight, k_weight, l_weight⟩ := md_weight h; obtain ⟨r_price, k_price, l_price⟩ := md_price h; obtain ⟨r_worthOf, k_worthOf, l_worthOf⟩ := md_worthOf h; obtain ⟨r_by, k_by, l_by⟩ := md_by h; obtain ⟨r_nearest, k_nearest, l_nearest⟩ := md_nearest h; obtain ⟨r_used, k_used, l_used⟩ := md_used h
  obtain ⟨ls', M2, ⟨w', le, nx, hls, fr, i1, i2, i3, i4, i5⟩, he⟩ := ev_for (X := X) (y := 313) (Sh := Sh) (fun i ls M2 => ∃ w le nx, ls = [some (vR (some m)), some (vI r), some (vI N), some (vI j0), some (vI x), some (vI le), some (vI nx), some (vI ((i : Int) + 1)), w] ∧ (∀ b, b ≠ m + 16 → b ≠ m + 17 → M2 b = M b) ∧
      (∀ c, (1 ≤ c ∧ c ≤ (i : Int)) → M (m + 18) c = 0 → ((a x c - M (m + 13) x - M (m + 14) c < M (m + 17) c ∧ M2 (m + 17) c = a x c - M (m + 13) x - M (m + 14) c ∧ M2 (m + 16) c = j0) ∨ (M (m + 17) c ≤ a x c - M (m + 13) x - M (m + 14) c ∧ M2 (m + 17) c = M (m + 17) c ∧ M2 (m + 16) c = M (m + 16) c)) ∧ le ≤ M2 (m + 17) c) ∧
      (∀ c, (M (m + 18) c ≠ 0 ∨ (i : Int) < c) → M2 (m + 16) c = M (m + 16) c ∧ M2 (m + 17) c = M (m + 17) c) ∧ (nx = 0 → le = 1000000) ∧ (nx ≠ 0 → (1 ≤ nx ∧ nx ≤ (i : Int)) ∧ M (m + 18) nx = 0 ∧ le = M2 (m + 17) nx) ∧ (0 ≤ nx ∧ le ≤ 1000000)) J_313_77 N.toNat (fun i hi ls M2 hI => by
    obtain ⟨w, le, nx, hls, fr, i1, i2, i3, i4, i5⟩ := hI
    subst hls
    have f12 := fr (m + 12) (by omega) (by omega)
    have f13 := fr (m + 13) (by omega) (by omega)
    have f14 := fr (m + 14) (by omega) (by omega)
    have f18 := fr (m + 18) (by omega) (by omega)
    have q0 : ¬ N < (i : Int) + 1 := by omega
    have jj := i2 ((i : Int) + 1) (Or.inr (by omega))
    have hai := ha x ((i : Int) + 1)
    by_cases q1 : M (m + 18) ((i : Int) + 1) = 0
    · have hbi := hb ((i : Int) + 1) ⟨by omega, by omega⟩ q1
      have hri := hr ((i : Int) + 1) ⟨by omega, by omega⟩ q1
      generalize hs : a x ((i : Int) + 1) - M (m + 13) x - M (m + 14) ((i : Int) + 1) = sl at hbi
      have hs2 : a x ((i : Int) + 1) - M (m + 13) x = sl + M (m + 14) ((i : Int) + 1) := by omega
      have fin : ∀ M3 : Mem, (∀ b, b ≠ m + 16 → b ≠ m + 17 → M3 b = M2 b) → (∀ c, c ≠ (i : Int) + 1 → M3 (m + 16) c = M2 (m + 16) c ∧ M3 (m + 17) c = M2 (m + 17) c) → ((sl < M (m + 17) ((i : Int) + 1) ∧ M3 (m + 17) ((i : Int) + 1) = sl ∧ M3 (m + 16) ((i : Int) + 1) = j0) ∨ (M (m + 17) ((i : Int) + 1) ≤ sl ∧ M3 (m + 17) ((i : Int) + 1) = M (m + 17) ((i : Int) + 1) ∧ M3 (m + 16) ((i : Int) + 1) = M (m + 16) ((i : Int) + 1))) → ∀ le' nx' : Int, ((M3 (m + 17) ((i : Int) + 1) < le ∧ le' = M3 (m + 17) ((i : Int) + 1) ∧ nx' = (i : Int) + 1) ∨ (le ≤ M3 (m + 17) ((i : Int) + 1) ∧ le' = le ∧ nx' = nx)) →
          (∀ b, b ≠ m + 16 → b ≠ m + 17 → M3 b = M b) ∧
          (∀ c, (1 ≤ c ∧ c ≤ ((i + 1 : Nat) : Int)) → M (m + 18) c = 0 → ((a x c - M (m + 13) x - M (m + 14) c < M (m + 17) c ∧ M3 (m + 17) c = a x c - M (m + 13) x - M (m + 14) c ∧ M3 (m + 16) c = j0) ∨ (M (m + 17) c ≤ a x c - M (m + 13) x - M (m + 14) c ∧ M3 (m + 17) c = M (m + 17) c ∧ M3 (m + 16) c = M (m + 16) c)) ∧ le' ≤ M3 (m + 17) c) ∧
          (∀ c, (M (m + 18) c ≠ 0 ∨ ((i + 1 : Nat) : Int) < c) → M3 (m + 16) c = M (m + 16) c ∧ M3 (m + 17) c = M (m + 17) c) ∧ (nx' = 0 → le' = 1000000) ∧ (nx' ≠ 0 → (1 ≤ nx' ∧ nx' ≤ ((i + 1 : Nat) : Int)) ∧ M (m + 18) nx' = 0 ∧ le' = M3 (m + 17) nx') ∧ (0 ≤ nx' ∧ le' ≤ 1000000) := fun M3 h1 h2 h3 le' nx' h4 => by
        refine ⟨fun b b1 b2 => (h1 b b1 b2).trans (fr b b1 b2), fun c hc hz => ?_, fun c hc => ?_, fun z => ?_, fun z => ?_, ?_⟩
        · by_cases z : c = (i : Int) + 1
          · subst z
            rw [hs]
            refine ⟨h3, by omega⟩
          · have e := i1 c ⟨hc.1, by omega⟩ hz
            have e2 := h2 c z
            rw [e2.1, e2.2]
            exact ⟨e.1, by omega⟩
        · have z : c ≠ (i : Int) + 1 := fun z => by
            rw [z] at hc
            omega
          have e2 := h2 c z
          rw [e2.1, e2.2]
          exact i2 c (by omega)
        · rcases h4 with y | y
          · omega
          · rw [y.2.1]; exact i3 (by omega)
        · rcases h4 with y | y
          · rw [y.2.2]; exact ⟨by omega, q1, y.2.1⟩
          · have e := i4 (by omega)
            have e2 := h2 nx (by omega)
            rw [y.2.2, y.2.1, e2.2]
            exact ⟨by omega, e.2⟩
        · rcases h4 with y | y <;> omega
      by_cases q2 : sl < M (m + 17) ((i : Int) + 1)
      · have q2' : ¬ M (m + 17) ((i : Int) + 1) ≤ sl := by omega
        by_cases q3 : sl < le
        · have q3' : ¬ le ≤ sl := by omega
          refine ⟨_, up (up M2 (m + 17) ((i : Int) + 1) sl) (m + 16) ((i : Int) + 1) j0, ⟨some (vI sl), sl, (i : Int) + 1, rfl, fin _ (fun b b1 b2 => by simp (disch := omega) only [up_ne, up_eq, up_ne2]) (fun c hc => ⟨by simp (disch := omega) only [up_ne, up_eq, up_ne2], by simp (disch := omega) only [up_ne, up_eq, up_ne2]⟩) (Or.inl ⟨q2, by simp (disch := omega) only [up_ne, up_eq, up_ne2], by simp (disch := omega) only [up_ne, up_eq, up_ne2]⟩) sl _ (Or.inl ⟨by simp (disch := omega) only [up_ne, up_eq, up_ne2]; exact q3, by simp (disch := omega) only [up_ne, up_eq, up_ne2], rfl⟩)⟩, ?_⟩
          simp (disch := first | assumption | decide | omega | (simp only [List.length_cons, List.length_nil] <;> omega)) only [lgt_0, lgt_s, lset_0, lset_s, lst1_0, lst1_s, lst2_0, lst2_s, ev_iconst, ev_lconst, ev_ldc, ev_null, ev_iload, ev_lload, ev_aload, ev_istore, ev_lstore, ev_astore, ev_iinc, ev_iadd, ev_isub, ev_imul, ev_iand, ev_ior, ev_ishl, ev_ishr, ev_idiv, ev_irem, ev_ineg, ev_ladd, ev_lsub, ev_lmul, ev_land, ev_lor, ev_ldiv, ev_lrem, ev_lshl, ev_i2l, ev_l2i, ev_i2b, ev_i2s, ev_lcmp, ev_dupI, ev_dupR, ev_dup2, ev_popI, ev_popR, ev_alen, ev_xlen, ev_xald, ev_iald, ev_lald, ev_bald, ev_zald, ev_aald, ev_iast, ev_last, ev_bast, ev_zast, ev_aast, ev_gfI, ev_gfL, ev_gfR, ev_pfI, ev_pfZ, ev_pfL, ev_pfR, ev_new, ev_newa, ev_newq, ev_copy, ev_slen, ev_schr, ev_obj, ev_mmin, ev_mabs, ev_mmax, ev_goto, ev_jsr, ev_icmp_eq, ev_if_eq, ev_icmp_ne, ev_if_ne, ev_icmp_lt, ev_if_lt, ev_icmp_ge, ev_if_ge, ev_icmp_gt, ev_if_gt, ev_icmp_le, ev_if_le, ev_ifnull0, ev_ifnull1, ev_ifnn0, ev_ifnn1, ev_tsw, ev_lsw, ev_iret, ev_zret, ev_lret, ev_aret, ev_ret, ev_call0, ev_call1, ev_call2, ev_call3, ev_call4, ev_call5, ev_call6, Option.toList_some, Option.toList_none, List.cons_append, List.nil_append, List.length_cons, List.length_nil, Nat.reduceMod, Nat.reduceDiv, Nat.reduceAdd, Nat.reduceLeDiff, nc, ↓reduceIte, Nat.zero_le, reduceCtorEq, w32_id, Int.reduceEq, Int.reduceNe, Int.reduceLT, Int.reduceLE, Int.reduceGT, Int.reduceGE, Int.reduceAdd, Int.reduceSub, Int.reduceMul, Int.reduceNeg, ne_eq, not_true_eq_false, not_false_eq_true, eq_self, r_weight, r_price, r_worthOf, r_by, r_nearest, r_used, k_313_77, J_313_0, k_313_0, J_313_96, k_313_96, J_313_160, k_313_160, J_313_185, k_313_185, J_313_191, k_313_191, J_313_242, k_313_242, J_313_254, k_313_254, J_313_260, k_313_260, J_313_297, k_313_297, q0, f12, f13, f14, f18, q1, hai, hs2, jj.2, q2', q3', nc_s, up_ne, up_eq, Int.add_sub_cancel]
        · have q3' : le ≤ sl := by omega
          refine ⟨_, up (up M2 (m + 17) ((i : Int) + 1) sl) (m + 16) ((i : Int) + 1) j0, ⟨some (vI sl), le, nx, rfl, fin _ (fun b b1 b2 => by simp (disch := omega) only [up_ne, up_eq, up_ne2]) (fun c hc => ⟨by simp (disch := omega) only [up_ne, up_eq, up_ne2], by simp (disch := omega) only [up_ne, up_eq, up_ne2]⟩) (Or.inl ⟨q2, by simp (disch := omega) only [up_ne, up_eq, up_ne2], by simp (disch := omega) only [up_ne, up_eq, up_ne2]⟩) le nx (Or.inr ⟨by simp (disch := omega) only [up_ne, up_eq, up_ne2]; exact q3', rfl, rfl⟩)⟩, ?_⟩
          simp (disch := first | assumption | decide | omega | (simp only [List.length_cons, List.length_nil] <;> omega)) only [lgt_0, lgt_s, lset_0, lset_s, lst1_0, lst1_s, lst2_0, lst2_s, ev_iconst, ev_lconst, ev_ldc, ev_null, ev_iload, ev_lload, ev_aload, ev_istore, ev_lstore, ev_astore, ev_iinc, ev_iadd, ev_isub, ev_imul, ev_iand, ev_ior, ev_ishl, ev_ishr, ev_idiv, ev_irem, ev_ineg, ev_ladd, ev_lsub, ev_lmul, ev_land, ev_lor, ev_ldiv, ev_lrem, ev_lshl, ev_i2l, ev_l2i, ev_i2b, ev_i2s, ev_lcmp, ev_dupI, ev_dupR, ev_dup2, ev_popI, ev_popR, ev_alen, ev_xlen, ev_xald, ev_iald, ev_lald, ev_bald, ev_zald, ev_aald, ev_iast, ev_last, ev_bast, ev_zast, ev_aast, ev_gfI, ev_gfL, ev_gfR, ev_pfI, ev_pfZ, ev_pfL, ev_pfR, ev_new, ev_newa, ev_newq, ev_copy, ev_slen, ev_schr, ev_obj, ev_mmin, ev_mabs, ev_mmax, ev_goto, ev_jsr, ev_icmp_eq, ev_if_eq, ev_icmp_ne, ev_if_ne, ev_icmp_lt, ev_if_lt, ev_icmp_ge, ev_if_ge, ev_icmp_gt, ev_if_gt, ev_icmp_le, ev_if_le, ev_ifnull0, ev_ifnull1, ev_ifnn0, ev_ifnn1, ev_tsw, ev_lsw, ev_iret, ev_zret, ev_lret, ev_aret, ev_ret, ev_call0, ev_call1, ev_call2, ev_call3, ev_call4, ev_call5, ev_call6, Option.toList_some, Option.toList_none, List.cons_append, List.nil_append, List.length_cons, List.length_nil, Nat.reduceMod, Nat.reduceDiv, Nat.reduceAdd, Nat.reduceLeDiff, nc, ↓reduceIte, Nat.zero_le, reduceCtorEq, w32_id, Int.reduceEq, Int.reduceNe, Int.reduceLT, Int.reduceLE, Int.reduceGT, Int.reduceGE, Int.reduceAdd, Int.reduceSub, Int.reduceMul, Int.reduceNeg, ne_eq, not_true_eq_false, not_false_eq_true, eq_self, r_weight, r_price, r_worthOf, r_by, r_nearest, r_used, k_313_77, J_313_0, k_313_0, J_313_96, k_313_96, J_313_160, k_313_160, J_313_185, k_313_185, J_313_191, k_313_191, J_313_242, k_313_242, J_313_254, k_313_254, J_313_260, k_313_260, J_313_297, k_313_297, q0, f12, f13, f14, f18, q1, hai, hs2, jj.2, q2', q3', nc_s, up_ne, up_eq, Int.add_sub_cancel]
      · have q2' : M (m + 17) ((i : Int) + 1) ≤ sl := by omega
        by_cases q3 : M (m + 17) ((i : Int) + 1) < le
        · have q3' : ¬ le ≤ M (m + 17) ((i : Int) + 1) := by omega
          refine ⟨_, M2, ⟨some (vI sl), M (m + 17) ((i : Int) + 1), (i : Int) + 1, rfl, fin M2 (fun b b1 b2 => rfl) (fun c hc => ⟨rfl, rfl⟩) (Or.inr ⟨q2', jj.2, jj.1⟩) _ _ (Or.inl ⟨by rw [jj.2]; exact q3, jj.2.symm, rfl⟩)⟩, ?_⟩
          simp (disch := first | assumption | decide | omega | (simp only [List.length_cons, List.length_nil] <;> omega)) only [lgt_0, lgt_s, lset_0, lset_s, lst1_0, lst1_s, lst2_0, lst2_s, ev_iconst, ev_lconst, ev_ldc, ev_null, ev_iload, ev_lload, ev_aload, ev_istore, ev_lstore, ev_astore, ev_iinc, ev_iadd, ev_isub, ev_imul, ev_iand, ev_ior, ev_ishl, ev_ishr, ev_idiv, ev_irem, ev_ineg, ev_ladd, ev_lsub, ev_lmul, ev_land, ev_lor, ev_ldiv, ev_lrem, ev_lshl, ev_i2l, ev_l2i, ev_i2b, ev_i2s, ev_lcmp, ev_dupI, ev_dupR, ev_dup2, ev_popI, ev_popR, ev_alen, ev_xlen, ev_xald, ev_iald, ev_lald, ev_bald, ev_zald, ev_aald, ev_iast, ev_last, ev_bast, ev_zast, ev_aast, ev_gfI, ev_gfL, ev_gfR, ev_pfI, ev_pfZ, ev_pfL, ev_pfR, ev_new, ev_newa, ev_newq, ev_copy, ev_slen, ev_schr, ev_obj, ev_mmin, ev_mabs, ev_mmax, ev_goto, ev_jsr, ev_icmp_eq, ev_if_eq, ev_icmp_ne, ev_if_ne, ev_icmp_lt, ev_if_lt, ev_icmp_ge, ev_if_ge, ev_icmp_gt, ev_if_gt, ev_icmp_le, ev_if_le, ev_ifnull0, ev_ifnull1, ev_ifnn0, ev_ifnn1, ev_tsw, ev_lsw, ev_iret, ev_zret, ev_lret, ev_aret, ev_ret, ev_call0, ev_call1, ev_call2, ev_call3, ev_call4, ev_call5, ev_call6, Option.toList_some, Option.toList_none, List.cons_append, List.nil_append, List.length_cons, List.length_nil, Nat.reduceMod, Nat.reduceDiv, Nat.reduceAdd, Nat.reduceLeDiff, nc, ↓reduceIte, Nat.zero_le, reduceCtorEq, w32_id, Int.reduceEq, Int.reduceNe, Int.reduceLT, Int.reduceLE, Int.reduceGT, Int.reduceGE, Int.reduceAdd, Int.reduceSub, Int.reduceMul, Int.reduceNeg, ne_eq, not_true_eq_false, not_false_eq_true, eq_self, r_weight, r_price, r_worthOf, r_by, r_nearest, r_used, k_313_77, J_313_0, k_313_0, J_313_96, k_313_96, J_313_160, k_313_160, J_313_185, k_313_185, J_313_191, k_313_191, J_313_242, k_313_242, J_313_254, k_313_254, J_313_260, k_313_260, J_313_297, k_313_297, q0, f12, f13, f14, f18, q1, hai, hs2, jj.2, q2', q3', nc_s, Int.add_sub_cancel]
        · have q3' : le ≤ M (m + 17) ((i : Int) + 1) := by omega
          refine ⟨_, M2, ⟨some (vI sl), le, nx, rfl, fin M2 (fun b b1 b2 => rfl) (fun c hc => ⟨rfl, rfl⟩) (Or.inr ⟨q2', jj.2, jj.1⟩) le nx (Or.inr ⟨by rw [jj.2]; exact q3', rfl, rfl⟩)⟩, ?_⟩
          simp (disch := first | assumption | decide | omega | (simp only [List.length_cons, List.length_nil] <;> omega)) only [lgt_0, lgt_s, lset_0, lset_s, lst1_0, lst1_s, lst2_0, lst2_s, ev_iconst, ev_lconst, ev_ldc, ev_null, ev_iload, ev_lload, ev_aload, ev_istore, ev_lstore, ev_astore, ev_iinc, ev_iadd, ev_isub, ev_imul, ev_iand, ev_ior, ev_ishl, ev_ishr, ev_idiv, ev_irem, ev_ineg, ev_ladd, ev_lsub, ev_lmul, ev_land, ev_lor, ev_ldiv, ev_lrem, ev_lshl, ev_i2l, ev_l2i, ev_i2b, ev_i2s, ev_lcmp, ev_dupI, ev_dupR, ev_dup2, ev_popI, ev_popR, ev_alen, ev_xlen, ev_xald, ev_iald, ev_lald, ev_bald, ev_zald, ev_aald, ev_iast, ev_last, ev_bast, ev_zast, ev_aast, ev_gfI, ev_gfL, ev_gfR, ev_pfI, ev_pfZ, ev_pfL, ev_pfR, ev_new, ev_newa, ev_newq, ev_copy, ev_slen, ev_schr, ev_obj, ev_mmin, ev_mabs, ev_mmax, ev_goto, ev_jsr, ev_icmp_eq, ev_if_eq, ev_icmp_ne, ev_if_ne, ev_icmp_lt, ev_if_lt, ev_icmp_ge, ev_if_ge, ev_icmp_gt, ev_if_gt, ev_icmp_le, ev_if_le, ev_ifnull0, ev_ifnull1, ev_ifnn0, ev_ifnn1, ev_tsw, ev_lsw, ev_iret, ev_zret, ev_lret, ev_aret, ev_ret, ev_call0, ev_call1, ev_call2, ev_call3, ev_call4, ev_call5, ev_call6, Option.toList_some, Option.toList_none, List.cons_append, List.nil_append, List.length_cons, List.length_nil, Nat.reduceMod, Nat.reduceDiv, Nat.reduceAdd, Nat.reduceLeDiff, nc, ↓reduceIte, Nat.zero_le, reduceCtorEq, w32_id, Int.reduceEq, Int.reduceNe, Int.reduceLT, Int.reduceLE, Int.reduceGT, Int.reduceGE, Int.reduceAdd, Int.reduceSub, Int.reduceMul, Int.reduceNeg, ne_eq, not_true_eq_false, not_false_eq_true, eq_self, r_weight, r_price, r_worthOf, r_by, r_nearest, r_used, k_313_77, J_313_0, k_313_0, J_313_96, k_313_96, J_313_160, k_313_160, J_313_185, k_313_185, J_313_191, k_313_191, J_313_242, k_313_242, J_313_254, k_313_254, J_313_260, k_313_260, J_313_297, k_313_297, q0, f12, f13, f14, f18, q1, hai, hs2, jj.2, q2', q3', nc_s, Int.add_sub_cancel]
    · refine ⟨_, M2, ⟨w, le, nx, rfl, fr, fun c hc hz => ?_, fun c hc => ?_, i3, fun z => ?_, i5⟩, ?_⟩
      · have z : c ≠ (i : Int) + 1 := fun z => q1 (z ▸ hz)
        exact i1 c ⟨hc.1, by omega⟩ hz
      · rcases hc with y | y
        · exact i2 c (Or.inl y)
        · exact i2 c (Or.inr (by omega))
      · have e := i4 z
        exact ⟨by omega, e.2⟩
      · simp (disch := first | assumption | decide | omega | (simp only [List.length_cons, List.length_nil] <;> omega)) only [lgt_0, lgt_s, lset_0, lset_s, lst1_0, lst1_s, lst2_0, lst2_s, ev_iconst, ev_lconst, ev_ldc, ev_null, ev_iload, ev_lload, ev_aload, ev_istore, ev_lstore, ev_astore, ev_iinc, ev_iadd, ev_isub, ev_imul, ev_iand, ev_ior, ev_ishl, ev_ishr, ev_idiv, ev_irem, ev_ineg, ev_ladd, ev_lsub, ev_lmul, ev_land, ev_lor, ev_ldiv, ev_lrem, ev_lshl, ev_i2l, ev_l2i, ev_i2b, ev_i2s, ev_lcmp, ev_dupI, ev_dupR, ev_dup2, ev_popI, ev_popR, ev_alen, ev_xlen, ev_xald, ev_iald, ev_lald, ev_bald, ev_zald, ev_aald, ev_iast, ev_last, ev_bast, ev_zast, ev_aast, ev_gfI, ev_gfL, ev_gfR, ev_pfI, ev_pfZ, ev_pfL, ev_pfR, ev_new, ev_newa, ev_newq, ev_copy, ev_slen, ev_schr, ev_obj, ev_mmin, ev_mabs, ev_mmax, ev_goto, ev_jsr, ev_icmp_eq, ev_if_eq, ev_icmp_ne, ev_if_ne, ev_icmp_lt, ev_if_lt, ev_icmp_ge, ev_if_ge, ev_icmp_gt, ev_if_gt, ev_icmp_le, ev_if_le, ev_ifnull0, ev_ifnull1, ev_ifnn0, ev_ifnn1, ev_tsw, ev_lsw, ev_iret, ev_zret, ev_lret, ev_aret, ev_ret, ev_call0, ev_call1, ev_call2, ev_call3, ev_call4, ev_call5, ev_call6, Option.toList_some, Option.toList_none, List.cons_append, List.nil_append, List.length_cons, List.length_nil, Nat.reduceMod, Nat.reduceDiv, Nat.reduceAdd, Nat.reduceLeDiff, nc, ↓reduceIte, Nat.zero_le, reduceCtorEq, w32_id, Int.reduceEq, Int.reduceNe, Int.reduceLT, Int.reduceLE, Int.reduceGT, Int.reduceGE, Int.reduceAdd, Int.reduceSub, Int.reduceMul, Int.reduceNeg, ne_eq, not_true_eq_false, not_false_eq_true, eq_self, r_used, k_313_77, J_313_0, k_313_0, J_313_96, k_313_96, J_313_160, k_313_160, J_313_185, k_313_185, J_313_191, k_313_191, J_313_242, k_313_242, J_313_254, k_313_254, J_313_260, k_313_260, J_313_297, k_313_297, q0, f18, q1, nc_s]) [some (vR (some m)), some (vI r), some (vI N), some (vI j0), some (vI x), some (vI 1000000), some (vI 0), some (vI 1), w] M ⟨w, 1000000, 0, rfl, fun _ _ _ => rfl, fun c hc => by omega, fun c _ => ⟨rfl, rfl⟩, fun _ => rfl, fun z => absurd rfl z, by omega⟩
  subst hls
  have e : ((N.toNat : Nat) : Int) = N := by omega
  rw [e] at i1 i2 i4 he
  have ef := i1 f hf.1 hf.2
  have ef2 := hb f hf.1 hf.2
  have lf : M2 (m + 17) f ≤ 396 := by rcases ef.1 with z | z <;> omega
  have hnx : nx ≠ 0 := fun z => by have := i3 z; omega
  have e4 := i4 hnx
  refine ⟨M2, nx, w', fr, e4.1, e4.2.1, fun c hc hz => by rw [← e4.2.2]; exact (i1 c hc hz).2, by omega, fun c hc hz => (i1 c hc hz).1, fun c hc => (i2 c (Or.inl hc)).1, ?_⟩
  rw [he, ← e4.2.2]
  have q0 : N < N + 1 := by omega
  simp (disch := first | assumption | decide | omega | (simp only [List.length_cons, List.length_nil] <;> omega)) only [lgt_0, lgt_s, lset_0, lset_s, lst1_0, lst1_s, lst2_0, lst2_s, ev_iconst, ev_lconst, ev_ldc, ev_null, ev_iload, ev_lload, ev_aload, ev_istore, ev_lstore, ev_astore, ev_iinc, ev_iadd, ev_isub, ev_imul, ev_iand, ev_ior, ev_ishl, ev_ishr, ev_idiv, ev_irem, ev_ineg, ev_ladd, ev_lsub, ev_lmul, ev_land, ev_lor, ev_ldiv, ev_lrem, ev_lshl, ev_i2l, ev_l2i, ev_i2b, ev_i2s, ev_lcmp, ev_dupI, ev_dupR, ev_dup2, ev_popI, ev_popR, ev_alen, ev_xlen, ev_xald, ev_iald, ev_lald, ev_bald, ev_zald, ev_aald, ev_iast, ev_last, ev_bast, ev_zast, ev_aast, ev_gfI, ev_gfL, ev_gfR, ev_pfI, ev_pfZ, ev_pfL, ev_pfR, ev_new, ev_newa, ev_newq, ev_copy, ev_slen, ev_schr, ev_obj, ev_mmin, ev_mabs, ev_mmax, ev_goto, ev_jsr, ev_icmp_eq, ev_if_eq, ev_icmp_ne, ev_if_ne, ev_icmp_lt, ev_if_lt, ev_icmp_ge, ev_if_ge, ev_icmp_gt, ev_if_gt, ev_icmp_le, ev_if_le, ev_ifnull0, ev_ifnull1, ev_ifnn0, ev_ifnn1, ev_tsw, ev_lsw, ev_iret, ev_zret, ev_lret, ev_aret, ev_ret, ev_call0, ev_call1, ev_call2, ev_call3, ev_call4, ev_call5, ev_call6, Option.toList_some, Option.toList_none, List.cons_append, List.nil_append, List.length_cons, List.length_nil, Nat.reduceMod, Nat.reduceDiv, Nat.reduceAdd, Nat.reduceLeDiff, nc, ↓reduceIte, Nat.zero_le, reduceCtorEq, w32_id, Int.reduceEq, Int.reduceNe, Int.reduceLT, Int.reduceLE, Int.reduceGT, Int.reduceGE, Int.reduceAdd, Int.reduceSub, Int.reduceMul, Int.reduceNeg, ne_eq, not_true_eq_false, not_false_eq_true, eq_self, k_313_77, q0]
end MTR
