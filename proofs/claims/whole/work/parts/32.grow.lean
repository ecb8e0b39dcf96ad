/-! GROWING A TREE of columns: one turn of the search, and the change along it. C columns, r the root, G goals, nn nobody, a prices. -/
def HB (C G : Int → Prop) (nn : Int) (a : Int → Int → Int) (u v h : Int → Int) : Prop :=
  (∀ x c, G x → C c → u x + v c ≤ a x c) ∧
  (∀ c, C c → h c ≠ nn → G (h c) ∧ u (h c) + v c = a (h c) c) ∧
  (∀ c, C c → v c ≤ 0 ∧ (h c = nn → v c = 0)) ∧
  (∀ c d, C c → C d → h c ≠ nn → h c = h d → c = d) ∧ (∀ x, G x → 0 ≤ u x)
def HG (C G : Int → Prop) (nn : Int) (a : Int → Int → Int) (r far : Int) (u v h T f d rk : Int → Int) (k : Int) : Prop :=
  HB C G nn a u v h ∧ (G (h r) ∧ h r ≠ nn ∧ ¬ C r ∧ ∀ c, C c → h c ≠ h r) ∧
  (∀ c, T c = 1 → (C c ∨ c = r) ∧ h c ≠ nn ∧ 0 ≤ rk c ∧ rk c < k) ∧
  (∀ c, T c = 1 → c ≠ r → T (f c) = 1 ∧ rk (f c) < rk c ∧ u (h (f c)) + v c = a (h (f c)) c) ∧
  (∀ c t, C c → T c ≠ 1 → T t = 1 → d c ≤ a (h t) c - u (h t) - v c) ∧
  (∀ c, C c → T c ≠ 1 → (0 < k ∧ T (f c) = 1 ∧ d c = a (h (f c)) c - u (h (f c)) - v c) ∨ (k = 0 ∧ d c = far))
theorem grow {C G : Int → Prop} {nn : Int} {a : Int → Int → Int} {r far : Int} {u v h T f d rk : Int → Int} {k : Int} (hg : HG C G nn a r far u v h T f d rk k)
    (hfar : ∀ x c, G x → C c → a x c - u x - v c < far)
    {t : Int} (ht0 : T t ≠ 1) (ht1 : h t ≠ nn) (ht2 : (k = 0 ∧ t = r) ∨ (0 < k ∧ C t ∧ d t = 0))
    {T' d1 f1 u' v' d' : Int → Int} {s : Int}
    (hT1 : T' t = 1) (hT2 : ∀ c, c ≠ t → (T' c = 1 ↔ T c = 1))
    (hd : ∀ c, C c → T' c ≠ 1 → (a (h t) c - u (h t) - v c < d c ∧ d1 c = a (h t) c - u (h t) - v c ∧ f1 c = t) ∨ (d c ≤ a (h t) c - u (h t) - v c ∧ d1 c = d c ∧ f1 c = f c))
    (hf : ∀ c, T' c = 1 → f1 c = f c)
    {t' : Int} (h1 : C t') (h2 : T' t' ≠ 1) (h3 : ∀ c, C c → T' c ≠ 1 → d1 t' ≤ d1 c) (hs : s = d1 t')
    (hu1 : ∀ c, T' c = 1 → u' (h c) = u (h c) + s) (hu2 : ∀ x, (∀ c, T' c = 1 → h c ≠ x) → u' x = u x)
    (hv1 : ∀ c, C c → T' c = 1 → v' c = v c - s) (hv2 : ∀ c, C c → T' c ≠ 1 → v' c = v c)
    (hd' : ∀ c, C c → T' c ≠ 1 → d' c = d1 c - s) :
    HG C G nn a r far u' v' h T' f1 d' (fun c => if c = t then k else rk c) (k + 1) ∧ d' t' = 0 ∧ 0 ≤ s := by
  obtain ⟨⟨b1, b2, b3, b4, b5⟩, ⟨r1, r2, r3, r4⟩, g1, g2, g3, g4⟩ := hg
  have hk : 0 ≤ k := by omega
  -- members of T'
  have m1 : ∀ c, T' c = 1 → (C c ∨ c = r) ∧ h c ≠ nn := fun c hc => by
    by_cases q : c = t
    · subst q
      refine ⟨?_, ht1⟩
      rcases ht2 with z | z
      · exact Or.inr z.2
      · exact Or.inl z.2.1
    · exact ⟨(g1 c ((hT2 c q).mp hc)).1, (g1 c ((hT2 c q).mp hc)).2.1⟩
  have mG : ∀ c, T' c = 1 → G (h c) := fun c hc => by
    rcases (m1 c hc).1 with z | z
    · exact (b2 c z (m1 c hc).2).1
    · rw [z]; exact r1
  have inj : ∀ c e, T' c = 1 → (C e ∨ e = r) → h c = h e → c = e := fun c e hc he heq => by
    rcases (m1 c hc).1 with z | z
    · rcases he with w | w
      · exact b4 c e z w (m1 c hc).2 heq
      · subst w; exact absurd heq (r4 c z)
    · rcases he with w | w
      · subst z; exact absurd heq.symm (r4 e w)
      · rw [z, w]
  have slk : ∀ c e, C c → T' c ≠ 1 → T' e = 1 → d1 c ≤ a (h e) c - u (h e) - v c := fun c e hc hnc he => by
    have hct : c ≠ t := fun z => hnc (z ▸ hT1)
    have e1 := hd c hc hnc
    by_cases q : e = t
    · subst q; omega
    · have e2 := g3 c e hc (fun z => hnc ((hT2 c hct).mpr z)) ((hT2 e q).mp he)
      omega
  have att : ∀ c, C c → T' c ≠ 1 → T' (f1 c) = 1 ∧ d1 c = a (h (f1 c)) c - u (h (f1 c)) - v c := fun c hc hnc => by
    have hct : c ≠ t := fun z => hnc (z ▸ hT1)
    rcases hd c hc hnc with z | z
    · rw [z.2.2]; exact ⟨hT1, z.2.1⟩
    · rw [z.2.2]
      rcases g4 c hc (fun w => hnc ((hT2 c hct).mpr w)) with w | w
      · have ne : f c ≠ t := fun e => ht0 (e ▸ w.2.1)
        exact ⟨(hT2 _ ne).mpr w.2.1, by omega⟩
      · have := hfar (h t) c (mG t hT1) hc
        omega
  have s0 : 0 ≤ s := by
    have e1 := att t' h1 h2
    have e2 := b1 (h (f1 t')) t' (mG _ e1.1) h1
    omega
  refine ⟨⟨⟨?_, ?_, ?_, b4, ?_⟩, ⟨r1, r2, r3, r4⟩, ?_, ?_, ?_, ?_⟩, ?_, s0⟩
  · intro x c hx hc
    have e1 := b1 x c hx hc
    have ev : v' c ≤ v c := by
      by_cases q : T' c = 1
      · rw [hv1 c hc q]; omega
      · rw [hv2 c hc q]; exact Int.le_refl _
    by_cases q : ∃ e, T' e = 1 ∧ h e = x
    · obtain ⟨e, he, hx2⟩ := q
      subst hx2
      rw [hu1 e he]
      by_cases q2 : T' c = 1
      · rw [hv1 c hc q2]; omega
      · rw [hv2 c hc q2]
        have e2 := slk c e hc q2 he
        have e3 := h3 c hc q2
        omega
    · rw [hu2 x (fun e he z => q ⟨e, he, z⟩)]
      omega
  · intro c hc hn
    have e1 := b2 c hc hn
    refine ⟨e1.1, ?_⟩
    by_cases q : T' c = 1
    · rw [hu1 c q, hv1 c hc q]; omega
    · rw [hu2 (h c) (fun e he z => q (inj e c he (Or.inl hc) z ▸ he)), hv2 c hc q]
      exact e1.2
  · intro c hc
    have e1 := b3 c hc
    by_cases q : T' c = 1
    · rw [hv1 c hc q]
      exact ⟨by omega, fun z => absurd z (m1 c q).2⟩
    · rw [hv2 c hc q]
      exact e1
  · intro x hx
    by_cases q : ∃ e, T' e = 1 ∧ h e = x
    · obtain ⟨e, he, hx2⟩ := q
      subst hx2
      rw [hu1 e he]
      have := b5 _ hx
      omega
    · rw [hu2 x (fun e he z => q ⟨e, he, z⟩)]
      exact b5 x hx
  · intro c hc
    refine ⟨(m1 c hc).1, (m1 c hc).2, ?_⟩
    by_cases q : c = t
    · dsimp only; rw [if_pos q]; omega
    · have := g1 c ((hT2 c q).mp hc)
      dsimp only; rw [if_neg q]; omega
  · intro c hc hr
    rw [hf c hc]
    by_cases q : c = t
    · subst q
      have hk2 : 0 < k ∧ C c ∧ d c = 0 := by
        rcases ht2 with z | z
        · exact absurd z.2 hr
        · exact z
      rcases g4 c hk2.2.1 ht0 with w | w
      · have ne : f c ≠ c := fun e => ht0 (e ▸ w.2.1)
        have hfc := (hT2 _ ne).mpr w.2.1
        have e2 := g1 _ w.2.1
        refine ⟨hfc, ?_, ?_⟩
        · dsimp only; rw [if_neg ne, if_pos rfl]; omega
        · rw [hu1 _ hfc, hv1 c hk2.2.1 hT1]; omega
      · omega
    · have e0 := (hT2 c q).mp hc
      have e1 := g2 c e0 hr
      have ne : f c ≠ t := fun e => ht0 (e ▸ e1.1)
      have hfc := (hT2 _ ne).mpr e1.1
      have hC : C c := by
        rcases (m1 c hc).1 with z | z
        · exact z
        · exact absurd z hr
      refine ⟨hfc, ?_, ?_⟩
      · dsimp only; rw [if_neg ne, if_neg q]; exact e1.2.1
      · rw [hu1 _ hfc, hv1 c hC hc]; omega
  · intro c e hc hnc he
    rw [hd' c hc hnc, hu1 e he, hv2 c hc hnc]
    have := slk c e hc hnc he
    omega
  · intro c hc hnc
    have e1 := att c hc hnc
    refine Or.inl ⟨by omega, e1.1, ?_⟩
    rw [hd' c hc hnc, hu1 _ e1.1, hv2 c hc hnc]
    omega
  · rw [hd' t' h1 h2]; omega
/-- the change along the tree: q is the hole -/
def HJ (C G Pl lone : Int → Prop) (nn : Int) (a : Int → Int → Int) (r : Int) (u v T f rk : Int → Int) (t0 : Int) (h : Int → Int) (q : Int) : Prop :=
  ((T q = 1 ∨ q = t0) ∧ (C q ∨ q = r)) ∧
  (∀ c, C c → c ≠ q → h c ≠ nn → G (h c) ∧ u (h c) + v c = a (h c) c) ∧
  (∀ c e, (C c ∨ c = r) → (C e ∨ e = r) → c ≠ q → e ≠ q → h c ≠ nn → h c = h e → c = e) ∧
  (∀ x, Pl x → (∃ c, (C c ∨ c = r) ∧ c ≠ q ∧ h c = x) ∨ lone x) ∧
  (∀ c, C c → h c = nn → v c = 0) ∧
  (∀ c, T c = 1 ∨ c = t0 → c ≠ r → rk c ≤ rk q → (T (f c) = 1 ∧ (C (f c) ∨ f c = r)) ∧ (0 ≤ rk (f c) ∧ rk (f c) < rk c) ∧ h (f c) ≠ nn ∧ G (h (f c)) ∧ u (h (f c)) + v c = a (h (f c)) c)
theorem hj_0 {C G Pl lone : Int → Prop} {nn : Int} {a : Int → Int → Int} {r far : Int} {u v h T f d rk : Int → Int} {k t0 : Int} (hg : HG C G nn a r far u v h T f d rk k)
    (ht0 : T t0 ≠ 1) (ht1 : h t0 = nn) (ht2 : 0 < k ∧ C t0 ∧ d t0 = 0) (hrk : rk t0 = k)
    (hP : ∀ x, Pl x → x ≠ nn ∧ (x = h r ∨ (∃ c, C c ∧ h c = x) ∨ lone x)) : HJ C G Pl lone nn a r u v T f rk t0 h t0 := by
  obtain ⟨⟨b1, b2, b3, b4, b5⟩, ⟨r1, r2, r3, r4⟩, g1, g2, g3, g4⟩ := hg
  refine ⟨⟨Or.inr rfl, Or.inl ht2.2.1⟩, fun c hc _ hn => b2 c hc hn, ?_, ?_, fun c hc => (b3 c hc).2, ?_⟩
  · intro c e hc he hct het hn heq
    rcases hc with z | z
    · rcases he with w | w
      · exact b4 c e z w hn heq
      · subst w; exact absurd heq (r4 c z)
    · rcases he with w | w
      · subst z; exact absurd heq.symm (r4 e w)
      · rw [z, w]
  · intro x hx
    obtain ⟨e0, e1⟩ := hP x hx
    rcases e1 with z | ⟨c, hc, hcx⟩ | z
    · refine Or.inl ⟨r, Or.inr rfl, ?_, z.symm⟩
      intro w
      rw [← w] at ht1
      exact r2 ht1
    · refine Or.inl ⟨c, Or.inl hc, ?_, hcx⟩
      intro w
      rw [← w, hcx] at ht1
      exact e0 ht1
    · exact Or.inr z
  · intro c hc hr hle
    have key : ∀ e, T e = 1 → (C e ∨ e = r) ∧ 0 ≤ rk e ∧ rk e < k ∧ h e ≠ nn ∧ G (h e) := fun e he => by
      have e1 := g1 e he
      refine ⟨e1.1, e1.2.2.1, e1.2.2.2, e1.2.1, ?_⟩
      rcases e1.1 with z | z
      · exact (b2 e z e1.2.1).1
      · rw [z]; exact r1
    rcases hc with z | z
    · have e2 := g2 c z hr
      have e3 := key _ e2.1
      exact ⟨⟨e2.1, e3.1⟩, ⟨e3.2.1, e2.2.1⟩, e3.2.2.2.1, e3.2.2.2.2, e2.2.2⟩
    · subst z
      rcases g4 c ht2.2.1 ht0 with w | w
      · have e3 := key _ w.2.1
        refine ⟨⟨w.2.1, e3.1⟩, ⟨e3.2.1, by omega⟩, e3.2.2.2.1, e3.2.2.2.2, by omega⟩
      · omega
theorem hj_s {C G Pl lone : Int → Prop} {nn : Int} {a : Int → Int → Int} {r : Int} {u v h T f rk : Int → Int} {t0 q : Int} (hj : HJ C G Pl lone nn a r u v T f rk t0 h q) (hq : q ≠ r)
    {h' : Int → Int} (hh : (h' q = h (f q) ∧ ∀ c, c ≠ q → h' c = h c) ∨ (lone (h (f q)) ∧ h q = nn ∧ ∀ c, h' c = h c)) : HJ C G Pl lone nn a r u v T f rk t0 h' (f q) ∧ 0 ≤ rk (f q) ∧ rk (f q) < rk q := by
  obtain ⟨⟨a1, a2⟩, j1, j2, j3, j4, j5⟩ := hj
  have e := j5 q a1 hq (Int.le_refl _)
  obtain ⟨⟨e1, e2⟩, ⟨e3, e4⟩, e5, e6, e7⟩ := e
  have ne : f q ≠ q := fun z => by rw [z] at e4; omega
  have hC : C q := by
    rcases a2 with z | z
    · exact z
    · exact absurd z hq
  refine ⟨?_, e3, e4⟩
  rcases hh with ⟨k1, k2⟩ | ⟨k1, k2, k3⟩
  · refine ⟨⟨Or.inl e1, e2⟩, ?_, ?_, ?_, ?_, ?_⟩
    · intro c hc hcp hn
      by_cases z : c = q
      · subst z
        rw [k1]
        exact ⟨e6, e7⟩
      · rw [k2 c z] at hn ⊢
        exact j1 c hc z hn
    · intro c e hc he hcp hep hn heq
      by_cases z : c = q
      · by_cases w : e = q
        · rw [z, w]
        · subst z
          rw [k1, k2 e w] at heq
          exact absurd (j2 (f c) e e2 he ne w e5 heq).symm hep
      · by_cases w : e = q
        · subst w
          rw [k2 c z] at hn heq
          rw [k1] at heq
          exact absurd (j2 c (f e) hc e2 z ne hn heq) hcp
        · rw [k2 c z] at hn heq
          rw [k2 e w] at heq
          exact j2 c e hc he z w hn heq
    · intro x hx
      rcases j3 x hx with ⟨c, hc, hcq, hcx⟩ | z
      · by_cases z : c = f q
        · refine Or.inl ⟨q, Or.inl hC, fun w => ne w.symm, ?_⟩
          rw [k1, ← z, hcx]
        · exact Or.inl ⟨c, hc, z, by rw [k2 c hcq]; exact hcx⟩
      · exact Or.inr z
    · intro c hc hn
      by_cases z : c = q
      · subst z
        rw [k1] at hn
        exact absurd hn e5
      · rw [k2 c z] at hn
        exact j4 c hc hn
    · intro c hc hr hle
      have e8 := j5 c hc hr (by omega)
      have ne2 : f c ≠ q := fun z => by rw [z] at e8; omega
      rw [k2 _ ne2]
      exact e8
  · have e0 : h' = h := funext k3
    rw [e0]
    refine ⟨⟨Or.inl e1, e2⟩, ?_, ?_, ?_, j4, ?_⟩
    · intro c hc hcp hn
      by_cases z : c = q
      · subst z
        exact absurd k2 hn
      · exact j1 c hc z hn
    · intro c e hc he hcp hep hn heq
      by_cases z : c = q
      · subst z
        exact absurd k2 hn
      · by_cases w : e = q
        · subst w
          rw [k2] at heq
          exact absurd heq hn
        · exact j2 c e hc he z w hn heq
    · intro x hx
      rcases j3 x hx with ⟨c, hc, hcq, hcx⟩ | z
      · by_cases z : c = f q
        · subst z
          rw [← hcx]
          exact Or.inr k1
        · exact Or.inl ⟨c, hc, z, hcx⟩
      · exact Or.inr z
    · intro c hc hr hle
      exact j5 c hc hr (by omega)
theorem hj_end {C G Pl lone : Int → Prop} {nn : Int} {a : Int → Int → Int} {r : Int} {u v h T f rk : Int → Int} {t0 : Int} (hj : HJ C G Pl lone nn a r u v T f rk t0 h r) (hr : ¬ C r)
    (h1 : ∀ x c, G x → C c → u x + v c ≤ a x c) (h3 : ∀ c, C c → v c ≤ 0) (h5 : ∀ x, G x → 0 ≤ u x) {h' : Int → Int} (hh : ∀ c, C c → h' c = h c) :
    HB C G nn a u v h' ∧ ∀ x, Pl x → (∃ c, C c ∧ h' c = x) ∨ lone x := by
  obtain ⟨⟨a1, a2⟩, j1, j2, j3, j4, j5⟩ := hj
  have ne : ∀ c, C c → c ≠ r := fun c hc z => hr (z ▸ hc)
  refine ⟨⟨h1, ?_, ?_, ?_, h5⟩, ?_⟩
  · intro c hc hn
    rw [hh c hc] at hn ⊢
    exact j1 c hc (ne c hc) hn
  · intro c hc
    refine ⟨h3 c hc, fun z => ?_⟩
    rw [hh c hc] at z
    exact j4 c hc z
  · intro c e hc he hn heq
    rw [hh c hc] at hn heq
    rw [hh e he] at heq
    exact j2 c e (Or.inl hc) (Or.inl he) (ne c hc) (ne e he) hn heq
  · intro x hx
    rcases j3 x hx with ⟨c, hc, hcq, hcx⟩ | z
    · rcases hc with w | w
      · exact Or.inl ⟨c, w, by rw [hh c w]; exact hcx⟩
      · exact absurd w hcq
    · exact Or.inr z
