/-! PAIRING: a turn of the search, and a goal brought in. -/
theorem sum_le1 {f : Int → Int} {n : Nat} (h : ∀ i : Nat, i < n → f i ≤ 1) : sumN f n ≤ n := by
  have e := sumN_mono (f := f) (g := fun _ => 1) h
  rw [sumN_c] at e
  omega
theorem sum_1z {f : Int → Int} {n : Nat} {a : Int} (h : ∀ i : Nat, i < n → f i ≤ 1) (ha : 0 ≤ a ∧ a < n) (hf : f a = 0) : sumN f n ≤ n - 1 := by
  have e := sum_le1 (f := fun i => f i + if i = a then 1 else 0) (n := n) (fun i hi => by
    by_cases q : (i : Int) = a
    · rw [if_pos q, q, hf]; omega
    · rw [if_neg q]; have := h i hi; omega)
  rw [sumN_add, sumN_one (f := fun _ => 1), if_pos ha] at e
  omega
theorem sum_2z {f : Int → Int} {n : Nat} {a b : Int} (h : ∀ i : Nat, i < n → f i ≤ 1) (ha : 0 ≤ a ∧ a < n) (hf : f a = 0) (hb : 0 ≤ b ∧ b < n) (hg : f b = 0) (hab : a ≠ b) : sumN f n ≤ n - 2 := by
  have e := sum_1z (f := fun i => f i + if i = a then 1 else 0) (n := n) (a := b) (fun i hi => by
    by_cases q : (i : Int) = a
    · rw [if_pos q, q, hf]; omega
    · rw [if_neg q]; have := h i hi; omega) hb (by rw [if_neg (fun z => hab z.symm), hg]; rfl)
  rw [sumN_add, sumN_one (f := fun _ => 1), if_pos ha] at e
  omega
theorem mfill_in {M : Mem} {a : Nat} {n v j : Int} (h : 0 ≤ j ∧ j < n) : mfill M a n v a j = v := by
  unfold mfill
  rw [if_pos ⟨rfl, h⟩]
theorem mfill_ne {M : Mem} {a b : Nat} {n v : Int} (h : b ≠ a) : mfill M a n v b = M b := by
  funext j
  unfold mfill
  rw [if_neg (fun z => h z.1)]
def paT (M : Mem) (p : Nat) (r : Int) : Int → Int := fun c => if 0 ≤ c ∧ c ≤ r then M (p + 9) c else 0
/-- what stands through the search: n sources, goal t, g goals, al alone, H holders -/
def TK (n t g al : Int) (a : Int → Int → Int) (H : Int → Int) (p : Nat) (M : Mem) : Prop :=
  (M p 2 = n ∧ 0 ≤ n ∧ n ≤ 48) ∧ (0 ≤ t ∧ t < g ∧ g ≤ 48) ∧ (0 ≤ al ∧ al ≤ 198) ∧ (∀ x c, paG g x → paC n c → 0 ≤ a x c ∧ a x c ≤ 1000000) ∧ (∀ x, paG g x → a x 0 = al) ∧ H 0 = -1 ∧ H (n + 1) = t ∧ M (p + 6) = H ∧ ∀ x c, M (p + 3) (x * 50 + c) = a x c
/-- what changes: k turns done, at is the column now -/
def TT (n t g : Int) (a : Int → Int → Int) (H : Int → Int) (V0 : Int) (p : Nat) (M : Mem) (at_ k : Int) : Prop :=
  (∃ rk, HG (paC n) (paG (t + 1)) (-1) a (n + 1) 2000000 (M (p + 4)) (M (p + 5)) H (paT M p (n + 1)) (M (p + 7)) (M (p + 8)) rk k) ∧ (0 ≤ at_ ∧ at_ ≤ n + 1) ∧ M (p + 9) at_ = 0 ∧
  ((k = 0 ∧ at_ = n + 1) ∨ (0 < k ∧ paC n at_ ∧ M (p + 8) at_ = 0)) ∧ sumN (M (p + 9)) (n + 2).toNat = k ∧ (∀ c, 0 ≤ c → c ≤ n + 1 → M (p + 9) c = 0 ∨ M (p + 9) c = 1) ∧ (0 < k → M (p + 9) (n + 1) = 1) ∧
  M (p + 5) (n + 1) + M (p + 4) t = V0 ∧ (∀ x, 0 ≤ x → x < t → (∃ c, paC n c ∧ H c = x) ∨ M (p + 4) x = a x 0) ∧ (∀ x, t < x → x < 48 → M (p + 4) x = 0)
section TUR
variable {X : Int → Int} {Sh : List SE} {M : Mem} {p : Nat}
theorem tt_bd {n t g al V0 at_ k : Int} {a : Int → Int → Int} {H : Int → Int} (tk : TK n t g al a H p M) (tt : TT n t g a H V0 p M at_ k) :
    (∀ x, paG (t + 1) x → 0 ≤ M (p + 4) x ∧ M (p + 4) x ≤ 198) ∧ (∀ c, paC n c → -198 ≤ M (p + 5) c ∧ M (p + 5) c ≤ 0) ∧ (∀ x c, paG (t + 1) x → paC n c → 0 ≤ a x c - M (p + 4) x - M (p + 5) c ∧ a x c - M (p + 4) x - M (p + 5) c ≤ 1000198) ∧ (∀ c, paC n c → M (p + 9) c = 0 → 0 ≤ M (p + 8) c ∧ M (p + 8) c ≤ 2000000) ∧ 0 ≤ k ∧ k ≤ 49 ∧ (at_ ≠ 0 → M (p + 9) 0 = 0 → k ≤ 48) ∧ M (p + 9) 0 = 0 := by
  obtain ⟨⟨t1, t2, t3⟩, ⟨t4, t5, t6⟩, ⟨t7, t8⟩, t9, t10, t11, t12, t13, t14⟩ := tk
  obtain ⟨⟨rk, hg⟩, a1, a2, a3, a4, a5, a6, a7, a8, a9⟩ := tt
  obtain ⟨⟨b1, b2, b3, b4, b5⟩, ⟨r1, r2, r3, r4⟩, g1, g2, g3, g4⟩ := hg
  have c0 : paC n 0 := ⟨by omega, t2⟩
  have v0 := (b3 0 c0).2 t11
  have hu : ∀ x, paG (t + 1) x → 0 ≤ M (p + 4) x ∧ M (p + 4) x ≤ 198 := fun x hx => by
    have e1 := b5 x hx
    have e2 := b1 x 0 hx c0
    have e3 := t10 x ⟨hx.1, by have := hx.2; omega⟩
    omega
  have hv : ∀ c, paC n c → -198 ≤ M (p + 5) c ∧ M (p + 5) c ≤ 0 := fun c hc => by
    have e1 := b3 c hc
    by_cases q : H c = -1
    · have := e1.2 q
      omega
    · have e2 := b2 c hc q
      have e3 := hu _ e2.1
      have e4 := t9 (H c) c ⟨e2.1.1, by have := e2.1.2; omega⟩ hc
      omega
  have hs : ∀ x c, paG (t + 1) x → paC n c → 0 ≤ a x c - M (p + 4) x - M (p + 5) c ∧ a x c - M (p + 4) x - M (p + 5) c ≤ 1000198 := fun x c hx hc => by
    have e1 := b1 x c hx hc
    have e2 := hu x hx
    have e3 := hv c hc
    have e4 := t9 x c ⟨hx.1, by have := hx.2; omega⟩ hc
    omega
  have z0 : M (p + 9) 0 = 0 := by
    rcases a5 0 (by omega) (by omega) with z | z
    · exact z
    · have := (g1 0 (by unfold paT; rw [if_pos (by omega)]; exact z)).2.1
      exact absurd t11 this
  have le1 : ∀ i : Nat, i < (n + 2).toNat → M (p + 9) i ≤ 1 := fun i hi => by
    have := a5 i (by omega) (by omega)
    omega
  have k0 : 0 ≤ k := by omega
  refine ⟨hu, hv, hs, ?_, k0, ?_, ?_, z0⟩
  · intro c hc hz
    rcases g4 c hc (by unfold paT; rw [if_pos ⟨hc.1, by have := hc.2; omega⟩]; omega) with w | w
    · have hG : paG (t + 1) (H (M (p + 7) c)) := by
        have e1 := g1 _ w.2.1
        rcases e1.1 with z | z
        · exact (b2 _ z e1.2.1).1
        · rw [z]; exact r1
      have := hs _ c hG hc
      omega
    · omega
  · have e := sum_1z (f := M (p + 9)) (n := (n + 2).toNat) (a := at_) le1 (by omega) a2
    omega
  · intro q1 q2
    have e := sum_2z (f := M (p + 9)) (n := (n + 2).toNat) (a := at_) (b := 0) le1 (by omega) a2 (by omega) q2 q1
    omega
theorem s_turn (h : PA Sh p) {n t g al V0 at_ k : Int} {a : Int → Int → Int} {H : Int → Int} (tk : TK n t g al a H p M) (hV : -10000 ≤ V0 ∧ V0 ≤ 0) (tt : TT n t g a H V0 p M at_ k) (hat : at_ ≠ 0) (hH : H at_ ≠ -1) :
    ∃ M2 t' M3, evc X 148 [vR (some p), vI at_] Sh (up M (p + 9) at_ 1) = some (none, Sh, M2) ∧ evc X 149 [vR (some p)] Sh M2 = some (some (vI t'), Sh, M2) ∧ evc X 150 [vR (some p), vI t', vI (n + 1)] Sh M2 = some (none, Sh, M3) ∧
      TT n t g a H V0 p M3 t' (k + 1) ∧ ∀ b, b ≠ p + 4 → b ≠ p + 5 → b ≠ p + 7 → b ≠ p + 8 → b ≠ p + 9 → M3 b = M b := by
  obtain ⟨bu, bv, bs, bd, k0, k1, k2, z0⟩ := tt_bd tk tt
  obtain ⟨⟨t1, t2, t3⟩, ⟨t4, t5, t6⟩, ⟨t7, t8⟩, t9, t10, t11, t12, t13, t14⟩ := tk
  obtain ⟨⟨rk, hg⟩, a1, a2, a3, a4, a5, a6, a7, a8, a9⟩ := tt
  have hg' := hg
  obtain ⟨⟨b1, b2, b3, b4, b5⟩, ⟨r1, r2, r3, r4⟩, g1, g2, g3, g4⟩ := hg'
  have hGat : paG (t + 1) (H at_) := by
    rcases a3 with z | z
    · rw [z.2]; exact r1
    · exact (b2 _ z.2.1 hH).1
  -- M1
  have m1 : ∀ b, b ≠ p + 9 → up M (p + 9) at_ 1 b = M b := fun b hb => up_ne hb
  have m1p := m1 p (by omega)
  have m14 := m1 (p + 4) (by omega)
  have m15 := m1 (p + 5) (by omega)
  have m16 := m1 (p + 6) (by omega)
  have m13 := m1 (p + 3) (by omega)
  have m17 := m1 (p + 7) (by omega)
  have m18 := m1 (p + 8) (by omega)
  have h148 := s_measure (X := X) (M := up M (p + 9) at_ 1) h (t := at_) (by
    rw [m16, t13]
    refine ⟨by rw [m1p]; omega, fun c c0 c1 => ?_, ?_, fun c c0 c1 => ?_⟩
    · rw [m13, t14]
      rw [m1p] at c1
      have := t9 (H at_) c ⟨hGat.1, by have := hGat.2; omega⟩ ⟨c0, by omega⟩
      omega
    · rw [m14]
      have := bu _ hGat
      omega
    · rw [m15]
      rw [m1p] at c1
      have := bv c ⟨c0, by omega⟩
      omega) (by omega) (by rw [m16, t13]; have := hGat.1; have := hGat.2; omega)
  rw [m1p, t1] at h148
  generalize hM2 : meas (up M (p + 9) at_ 1) p at_ (n + 1) = M2 at h148
  have m2 : ∀ b, b ≠ p + 8 → b ≠ p + 7 → M2 b = up M (p + 9) at_ 1 b := fun b h8 h7 => by rw [← hM2]; exact meas_oth h8 h7
  have m2p : M2 p = M p := by rw [m2 p (by omega) (by omega), m1p]
  have m24 : M2 (p + 4) = M (p + 4) := by rw [m2 _ (by omega) (by omega), m14]
  have m25 : M2 (p + 5) = M (p + 5) := by rw [m2 _ (by omega) (by omega), m15]
  have m26 : M2 (p + 6) = H := by rw [m2 _ (by omega) (by omega), m16, t13]
  have m29 : M2 (p + 9) = up M (p + 9) at_ 1 (p + 9) := m2 _ (by omega) (by omega)
  have T1 : M2 (p + 9) at_ = 1 := by rw [m29, up_eq]
  have T2 : ∀ c, c ≠ at_ → M2 (p + 9) c = M (p + 9) c := fun c hc => by rw [m29, up_ne2 hc]
  have sl : ∀ c, slk (up M (p + 9) at_ 1) p ((up M (p + 9) at_ 1) (p + 6) at_) c = a (H at_) c - M (p + 4) (H at_) - M (p + 5) c := fun c => by
    unfold slk
    rw [m16, m13, m14, m15, t13, t14]
  have hd : ∀ c, paC n c → M2 (p + 9) c = 0 → (a (H at_) c - M (p + 4) (H at_) - M (p + 5) c < M (p + 8) c ∧ M2 (p + 8) c = a (H at_) c - M (p + 4) (H at_) - M (p + 5) c ∧ M2 (p + 7) c = at_) ∨ (M (p + 8) c ≤ a (H at_) c - M (p + 4) (H at_) - M (p + 5) c ∧ M2 (p + 8) c = M (p + 8) c ∧ M2 (p + 7) c = M (p + 7) c) := fun c hc hz => by
    rw [m29] at hz
    by_cases q : a (H at_) c - M (p + 4) (H at_) - M (p + 5) c < M (p + 8) c
    · refine Or.inl ⟨q, ?_, ?_⟩
      · rw [← hM2]
        unfold meas
        rw [sl, m18, if_pos ⟨Or.inl rfl, hc.1, by have := hc.2; omega, hz, q⟩, if_pos rfl]
      · rw [← hM2]
        unfold meas
        rw [sl, m18, if_pos ⟨Or.inr rfl, hc.1, by have := hc.2; omega, hz, q⟩, if_neg (by omega)]
    · refine Or.inr ⟨by omega, ?_, ?_⟩
      · rw [← hM2]
        unfold meas
        rw [sl, m18, if_neg (fun z => q z.2.2.2.2)]
      · rw [← hM2]
        unfold meas
        rw [sl, m18, if_neg (fun z => q z.2.2.2.2), m17]
  have hf : ∀ c, M2 (p + 9) c ≠ 0 → M2 (p + 7) c = M (p + 7) c := fun c hz => by
    rw [m29] at hz
    rw [← hM2]
    unfold meas
    rw [if_neg (fun z => hz z.2.2.2.1), m17]
  have z2 : ∀ c, 0 ≤ c → c ≤ n + 1 → M2 (p + 9) c = 0 ∨ M2 (p + 9) c = 1 := fun c c0 c1 => by
    by_cases q : c = at_
    · rw [q]; exact Or.inr T1
    · rw [T2 c q]; exact a5 c c0 c1
  obtain ⟨t', tr, tz, tmin, h149⟩ := s_nearest (X := X) (M := M2) h (by rw [m2p]; omega) (by rw [T2 0 (fun z => hat z.symm)]; exact z0)
  rw [m2p, t1] at tr tmin
  have bd2 : ∀ c, paC n c → M2 (p + 9) c = 0 → 0 ≤ M2 (p + 8) c ∧ M2 (p + 8) c ≤ 2000000 := fun c hc hz => by
    have e1 := bs (H at_) c hGat hc
    have ne : c ≠ at_ := fun z => by rw [z, T1] at hz; omega
    have e2 := bd c hc (by rw [← T2 c ne]; exact hz)
    rcases hd c hc hz with z | z <;> omega
  have Tr : M2 (p + 9) (n + 1) = 1 := by
    rcases a3 with z | z
    · rw [← z.2]; exact T1
    · have ne : n + 1 ≠ at_ := fun e => by have := z.2.1.2; omega
      rw [T2 _ ne]
      exact a6 z.1
  have memT : ∀ c, 0 ≤ c → c ≤ n + 1 → M2 (p + 9) c ≠ 0 → (paC n c ∨ c = n + 1) ∧ H c ≠ -1 ∧ paG (t + 1) (H c) := fun c c0 c1 hz => by
    by_cases q : c = at_
    · rw [q]
      refine ⟨?_, hH, hGat⟩
      rcases a3 with z | z
      · exact Or.inr z.2
      · exact Or.inl z.2.1
    · rw [T2 c q] at hz
      have e1 := g1 c (by unfold paT; rw [if_pos ⟨c0, c1⟩]; exact (a5 c c0 c1).resolve_left hz)
      refine ⟨e1.1, e1.2.1, ?_⟩
      rcases e1.1 with z | z
      · exact (b2 _ z e1.2.1).1
      · rw [z]; exact r1
  have injT : ∀ c e, 0 ≤ c → c ≤ n + 1 → 0 ≤ e → e ≤ n + 1 → M2 (p + 9) c ≠ 0 → M2 (p + 9) e ≠ 0 → H c = H e → c = e := fun c e c0 c1 e0 e1 hc he heq => by
    have x1 := memT c c0 c1 hc
    have x2 := memT e e0 e1 he
    rcases x1.1 with z | z
    · rcases x2.1 with w | w
      · exact b4 c e z w x1.2.1 heq
      · subst w; exact absurd heq (r4 c z)
    · rcases x2.1 with w | w
      · subst z; exact absurd heq.symm (r4 e w)
      · rw [z, w]
  have bt := bd2 t' tr tz
  have but := bu t ⟨t4, by omega⟩
  obtain ⟨M3, fr, s1, s2, s3, s4, h150⟩ := s_shift (X := X) (M := M2) h (t := t') (r := n + 1) (by omega) (by omega) (by omega) (fun c c0 c1 hz => by
      by_cases q : c = n + 1
      · rw [q, Tr] at hz; omega
      · have := bd2 c ⟨c0, by omega⟩ hz
        omega) (fun c c0 c1 => by
      rw [m25]
      by_cases q : c = n + 1
      · rw [q]; omega
      · have := bv c ⟨c0, by omega⟩
        omega) (fun x x0 x1 => by
      rw [m24]
      by_cases q : x ≤ t
      · have := bu x ⟨x0, by omega⟩
        omega
      · rw [a9 x (by omega) x1]
        omega) (fun c c0 c1 hz => by
      rw [m26]
      have e1 := (memT c c0 c1 hz).2.2.1
      have e2 := (memT c c0 c1 hz).2.2.2
      omega) (fun c e c0 c1 e0 e1 hc he heq => by
      rw [m26] at heq
      exact injT c e c0 c1 e0 e1 hc he heq)
  rw [m24, m26] at s1 s2
  rw [m25] at s3
  refine ⟨M2, t', M3, h148, h149, h150, ?_, fun b h4 h5 h7 h8 h9 => by rw [fr b h4 h5 h8, m2 b h8 h7, m1 b h9]⟩
  have f9 := fr (p + 9) (by omega) (by omega) (by omega)
  have f7 := fr (p + 7) (by omega) (by omega) (by omega)
  have pT : ∀ c, paT M3 p (n + 1) c = 1 ↔ (0 ≤ c ∧ c ≤ n + 1 ∧ M2 (p + 9) c ≠ 0) := fun c => by
    unfold paT
    rw [f9]
    constructor
    · intro z
      by_cases q : 0 ≤ c ∧ c ≤ n + 1
      · rw [if_pos q] at z
        exact ⟨q.1, q.2, by omega⟩
      · rw [if_neg q] at z; omega
    · intro z
      rw [if_pos ⟨z.1, z.2.1⟩]
      have := z2 c z.1 z.2.1
      omega
  have pC : ∀ c, paC n c → (paT M3 p (n + 1) c ≠ 1 ↔ M2 (p + 9) c = 0) := fun c hc => by
    have c0 := hc.1
    have c1 := hc.2
    constructor
    · intro z
      have := z2 c c0 (by omega)
      rcases this with w | w
      · exact w
      · exact absurd ((pT c).mpr ⟨c0, by omega, by omega⟩) z
    · intro z w
      exact ((pT c).mp w).2.2 z
  have G := grow hg (fun x c hx hc => by have := bs x c hx hc; omega) (t := at_) (by unfold paT; rw [if_pos a1]; omega) hH (T' := paT M3 p (n + 1)) (d1 := M2 (p + 8)) (f1 := M3 (p + 7)) (u' := M3 (p + 4)) (v' := M3 (p + 5)) (d' := M3 (p + 8)) (s := M2 (p + 8) t') (t' := t')
    a3 ((pT at_).mpr ⟨a1.1, a1.2, by omega⟩) (fun c hc => by
      rw [pT]
      unfold paT
      rw [T2 c hc]
      constructor
      · intro z
        rw [if_pos ⟨z.1, z.2.1⟩]
        have := a5 c z.1 z.2.1
        omega
      · intro z
        by_cases q : 0 ≤ c ∧ c ≤ n + 1
        · rw [if_pos q] at z
          exact ⟨q.1, q.2, by omega⟩
        · rw [if_neg q] at z; omega) (fun c hc hz => by
      rw [f7]
      exact hd c hc ((pC c hc).mp hz)) (fun c hz => by
      rw [f7]
      exact hf c ((pT c).mp hz).2.2) tr ((pC t' tr).mpr tz) (fun c hc hz => tmin c hc.1 hc.2 ((pC c hc).mp hz)) rfl (fun c hz => by
      have z := (pT c).mp hz
      exact s1 c z.1 z.2.1 z.2.2) (fun x hx => s2 x fun c c0 c1 hz => hx c ((pT c).mpr ⟨c0, c1, hz⟩)) (fun c hc hz => by
      have c0 := hc.1
      have c1 := hc.2
      have z := (pT c).mp hz
      rw [s3 c c0 (by omega), if_neg z.2.2]) (fun c hc hz => by
      have c0 := hc.1
      have c1 := hc.2
      rw [s3 c c0 (by omega), if_pos ((pC c hc).mp hz)]) (fun c hc hz => by
      have c0 := hc.1
      have c1 := hc.2
      rw [s4 c c0 (by omega), if_pos ((pC c hc).mp hz)])
  obtain ⟨G1, G2, G3⟩ := G
  refine ⟨⟨_, G1⟩, by omega, by rw [f9]; exact tz, Or.inr ⟨by omega, tr, G2⟩, ?_, fun c c0 c1 => by rw [f9]; exact z2 c c0 c1, fun _ => by rw [f9]; exact Tr, ?_, ?_, ?_⟩
  · rw [f9, m29]
    have e1 : sumN (up M (p + 9) at_ 1 (p + 9)) (n + 2).toNat = sumN (fun c => M (p + 9) c + if c = at_ then 1 else 0) (n + 2).toNat := sumN_congr fun c _ => by
      by_cases q : (c : Int) = at_
      · rw [q, up_eq, a2, if_pos rfl]; rfl
      · rw [up_ne2 q, if_neg q]; omega
    rw [e1, sumN_add, sumN_one (f := fun _ => 1), if_pos (by omega), a4]
  · have e1 := s1 (n + 1) (by omega) (by omega) (by omega)
    rw [t12] at e1
    have e2 := s3 (n + 1) (by omega) (by omega)
    rw [if_neg (by omega)] at e2
    omega
  · intro x x0 x1
    by_cases q : ∃ c, paC n c ∧ H c = x
    · exact Or.inl q
    · rcases a8 x x0 x1 with z | z
      · exact absurd z q
      · refine Or.inr ?_
        rw [s2 x, z]
        intro c c0 c1 hz e
        rcases (memT c c0 c1 hz).1 with w | w
        · exact q ⟨c, w, e⟩
        · rw [w, t12] at e; omega
  · intro x x0 x1
    rw [s2 x, a9 x x0 x1]
    intro c c0 c1 hz e
    have e1 := (memT c c0 c1 hz).2.2.2
    omega
end TUR
