/-! LEAST: the least cost of a matching, from both sides' ways of reckoning. -/
theorem sumN_split {f : Int → Int} {n : Nat} : ∀ {m : Nat}, n ≤ m → (∀ i : Nat, n ≤ i → i < m → f i = 0) → sumN f m = sumN f n
  | 0, h, _ => by rw [Nat.le_zero.mp h]
  | m + 1, h, hz => by
    rcases Nat.lt_or_ge m n with q | q
    · rw [show n = m + 1 from by omega]
    · rw [sumN_s, sumN_split q (fun i h1 h2 => hz i h1 (by omega)), hz m q (by omega), Int.add_zero]
theorem sum01_z {f : Int → Int} : ∀ {n : Nat}, (∀ k : Nat, k < n → f k = 0 ∨ f k = 1) → sumN f n = 0 → ∀ k : Nat, k < n → f k = 0
  | 0, _, _ => fun k hk => absurd hk (Nat.not_lt_zero k)
  | n + 1, hf, h => fun k hk => by
    have nn : 0 ≤ sumN f n := sumN_nn fun i hi => by rcases hf i (by omega) with h | h <;> omega
    rw [sumN_s] at h
    have e := hf n (by omega)
    rcases Nat.lt_succ_iff_lt_or_eq.mp hk with q | q
    · exact sum01_z (fun i hi => hf i (by omega)) (by omega) k q
    · subst q; omega
theorem left_le2 {p q s t : Int → Int} {al : Int} {g m : Nat} (hs : ∀ k : Nat, k < g → s k = 0 ∨ s k = 1) (ht : ∀ k : Nat, k < m → t k = 0 ∨ t k = 1) (he : sumN s g ≤ sumN t m) (hq : ∀ k : Nat, k < m → q k ≤ 0) (hpq : ∀ k x : Nat, k < g → x < m → p k + q x ≤ al) : sumN (fun k => s k * p k) g + sumN (fun x => t x * q x) m ≤ sumN s g * al := by
  have hS0 : 0 ≤ sumN s g := sumN_nn fun i hi => by rcases hs i hi with h | h <;> omega
  have hT0 : 0 ≤ sumN t m := sumN_nn fun i hi => by rcases ht i hi with h | h <;> omega
  have hQ : sumN (fun x => t x * q x) m ≤ 0 := by
    have h1 := sumN_mono (f := fun x => t x * q x) (g := fun _ => 0) (n := m) (fun x hx => by
      have := hq x hx
      rcases ht x hx with z | z <;> rw [z] <;> omega)
    rw [sumN_c, Int.mul_zero] at h1
    exact h1
  by_cases hz : sumN s g = 0
  · have s0 := sum01_z hs hz
    rw [sumN_z (fun k hk => by rw [s0 k hk, Int.zero_mul]), hz, Int.zero_mul, Int.zero_add]
    exact hQ
  · have hT : 0 < sumN t m := by omega
    refine mul_le_canc (r := sumN t m) hT ?_
    have e1 : sumN (fun k => sumN (fun x => s k * t x * (p k + q x)) m) g = sumN t m * sumN (fun k => s k * p k) g + sumN s g * sumN (fun x => t x * q x) m := by
      have e2 : ∀ k : Nat, k < g → sumN (fun x => s k * t x * (p k + q x)) m = s k * p k * sumN t m + s k * sumN (fun x => t x * q x) m := fun k hk => by
        have e3 : sumN (fun x => s k * t x * (p k + q x)) m = sumN (fun x => t x * (s k * p k) + t x * q x * s k) m := sumN_congr fun x _ => by
          rw [Int.mul_add, Int.mul_comm (s k) (t x), Int.mul_assoc, Int.mul_assoc, Int.mul_assoc, Int.mul_comm (s k) (q x)]
        rw [e3, sumN_add, sumN_mul, sumN_mul, Int.mul_comm (sumN t m), Int.mul_comm _ (s k)]
      rw [sumN_congr (g := fun k => s k * p k * sumN t m + s k * sumN (fun x => t x * q x) m) e2, sumN_add, sumN_mul, sumN_mul, Int.mul_comm (sumN (fun k => s k * p k) g)]
    have e4 : sumN (fun k => sumN (fun x => s k * t x * al) m) g = sumN t m * (sumN s g * al) := by
      have e5 : ∀ k : Nat, k < g → sumN (fun x => s k * t x * al) m = s k * (sumN t m * al) := fun k hk => by
        have e6 : sumN (fun x => s k * t x * al) m = sumN (fun x => t x * (s k * al)) m := sumN_congr fun x _ => by
          rw [Int.mul_comm (s k) (t x), Int.mul_assoc]
        rw [e6, sumN_mul, ← Int.mul_assoc, ← Int.mul_assoc, Int.mul_comm (sumN t m) (s k)]
      rw [sumN_congr (g := fun k => s k * (sumN t m * al)) e5, sumN_mul, ← Int.mul_assoc, ← Int.mul_assoc, Int.mul_comm (sumN s g)]
    have e8 : sumN (fun k => sumN (fun x => s k * t x * (p k + q x)) m) g ≤ sumN (fun k => sumN (fun x => s k * t x * al) m) g := by
      refine sumN_mono fun k hk => sumN_mono fun x hx => ?_
      have e7 := hpq k x hk hx
      rcases hs k hk with z | z <;> rcases ht x hx with z2 | z2 <;> rw [z, z2] <;> omega
    rw [e1, e4] at e8
    refine Int.le_trans ?_ e8
    rw [Int.mul_add]
    have e9 : sumN t m * sumN (fun x => t x * q x) m ≤ sumN s g * sumN (fun x => t x * q x) m := Int.mul_le_mul_of_nonpos_right he hQ
    omega
/-- the least cost of a matching of n columns to g goals -/
def isMin (a : Int → Int → Int) (al : Int) (n g : Nat) (val : Int) : Prop := (∃ h, matchF h n g ∧ costM a al h n g = val) ∧ ∀ h, matchF h n g → val ≤ costM a al h n g
theorem isMin_uniq {a : Int → Int → Int} {al : Int} {n g : Nat} {v w : Int} (h1 : isMin a al n g v) (h2 : isMin a al n g w) : v = w := by
  obtain ⟨⟨h, m1, c1⟩, l1⟩ := h1
  obtain ⟨⟨k, m2, c2⟩, l2⟩ := h2
  have e1 := l1 k m2
  have e2 := l2 h m1
  omega
theorem costM_congr {a b : Int → Int → Int} {al : Int} {h : Int → Int} {n g : Nat} (hm : matchF h n g) (hab : ∀ x k : Nat, x < g → k < n → a x k = b x k) : costM a al h n g = costM b al h n g := by
  unfold costM
  rw [sumN_congr (g := fun k => if 0 ≤ h k then b (h k) k else 0)]
  intro k hk
  by_cases q : 0 ≤ h k
  · rw [if_pos q, if_pos q]
    have e := hab (h k).toNat k (by have := hm.2 k hk; omega) hk
    rw [Int.toNat_of_nonneg q] at e
    exact e
  · rw [if_neg q, if_neg q]
theorem isMin_congr {a b : Int → Int → Int} {al : Int} {n g : Nat} {v : Int} (hab : ∀ x k : Nat, x < g → k < n → a x k = b x k) (h : isMin a al n g v) : isMin b al n g v := by
  obtain ⟨⟨h, m1, c1⟩, l1⟩ := h
  refine ⟨⟨h, m1, by rw [← costM_congr m1 hab]; exact c1⟩, fun k hk => ?_⟩
  rw [← costM_congr hk hab]
  exact l1 k hk
theorem min_of_dual {a : Int → Int → Int} {al : Int} {u v h : Int → Int} {n g : Nat} (hm : matchF h n g) (hv : ∀ k : Nat, k < n → v k ≤ 0) (hu : ∀ x : Nat, x < g → u x ≤ al) (ha : ∀ x k : Nat, x < g → k < n → u x + v k ≤ a x k)
    (hv2 : ∀ k : Nat, k < n → h k < 0 → v k = 0) (hu2 : ∀ x : Nat, x < g → sumN (fun k => if h k = (x : Int) then 1 else 0) n = 0 → u x = al) (ha2 : ∀ k : Nat, k < n → 0 ≤ h k → u (h k) + v k = a (h k) k) : isMin a al n g (costM a al h n g) := by
  refine ⟨⟨h, hm, rfl⟩, fun k hk => ?_⟩
  rw [← least_tight hm hv2 hu2 ha2]
  exact least_dual hk hv hu ha
/-- an assignment of every row, with duals -/
def isAsg (w : Int → Int → Int) (m g : Nat) (val : Int) : Prop := ∃ s p q, matchF s m g ∧ (∀ x : Nat, x < g → sumN (fun k => if s k = (x : Int) then 1 else 0) m ≠ 0) ∧ (∀ k : Nat, k < m → q k ≤ 0) ∧ (∀ x k : Nat, x < g → k < m → p x + q k ≤ w x k) ∧ sumN (fun k => if 0 ≤ s k then w (s k) k else 0) m = val ∧ sumN p g + sumN q m = val
theorem min_of_asg {a w : Int → Int → Int} {al : Int} {n m g : Nat} {val : Int} (hA : isAsg w m g val) (hn : n ≤ m) (hg : g ≤ m)
    (h1 : ∀ x k : Nat, x < g → k < n → w x k = if a x k < al then a x k else al) (h2 : ∀ x k : Nat, x < g → n ≤ k → k < m → w x k = al) : isMin a al n g val := by
  obtain ⟨s, p, q, hs, hall, hq, hpq, hv, hd⟩ := hA
  have wal : ∀ x k : Nat, x < g → k < m → w x k ≤ al := fun x k hx hk => by
    rcases Nat.lt_or_ge k n with z | z
    · rw [h1 x k hx z]
      split <;> omega
    · rw [h2 x k hx z hk]
      exact Int.le_refl _
  constructor
  · refine ⟨fun k => if 0 ≤ s k ∧ a (s k) k < al then s k else -1, ⟨?_, ?_⟩, ?_⟩
    · intro i j hi hj h0 heq
      dsimp only at h0 heq
      by_cases z : 0 ≤ s i ∧ a (s i) i < al
      · rw [if_pos z] at h0 heq
        by_cases z2 : 0 ≤ s j ∧ a (s j) j < al
        · rw [if_pos z2] at heq
          exact hs.1 i j (by omega) (by omega) h0 heq
        · rw [if_neg z2] at heq
          omega
      · rw [if_neg z] at h0
        omega
    · intro i hi
      dsimp only
      split
      · exact hs.2 i (by omega)
      · omega
    · have hm : matchF (fun k => if 0 ≤ s k ∧ a (s k) k < al then s k else -1) n g := by
        constructor
        · intro i j hi hj h0 heq
          dsimp only at h0 heq
          by_cases z : 0 ≤ s i ∧ a (s i) i < al
          · rw [if_pos z] at h0 heq
            by_cases z2 : 0 ≤ s j ∧ a (s j) j < al
            · rw [if_pos z2] at heq
              exact hs.1 i j (by omega) (by omega) h0 heq
            · rw [if_neg z2] at heq
              omega
          · rw [if_neg z] at h0
            omega
        · intro i hi
          dsimp only
          split
          · exact hs.2 i (by omega)
          · omega
      have e1 := sumN_inj (h := fun k => if 0 ≤ s k ∧ a (s k) k < al then s k else -1) (f := fun _ => al) hm.1 hm.2
      have e2 := sumN_inj (f := fun _ => al) hs.1 hs.2
      rw [sumN_z (n := g) (f := fun x => if sumN (fun k => if s k = x then 1 else 0) m = 0 then al else 0) (fun x hx => by rw [if_neg (hall x hx)]), Int.add_zero] at e2
      have e3 : val - sumN (fun k => if 0 ≤ s k then al else 0) m = sumN (fun k => if 0 ≤ (if 0 ≤ s k ∧ a (s k) k < al then s k else -1) then a (if 0 ≤ s k ∧ a (s k) k < al then s k else -1) k else 0) n - sumN (fun k => if 0 ≤ (if 0 ≤ s k ∧ a (s k) k < al then s k else -1) then al else 0) n := by
        rw [← hv, ← sumN_sub, ← sumN_sub, sumN_split hn]
        · refine sumN_congr fun k hk => ?_
          by_cases z : 0 ≤ s k
          · have e4 := h1 (s k).toNat k (by have := hs.2 k (by omega); omega) hk
            rw [Int.toNat_of_nonneg z] at e4
            by_cases z2 : a (s k) k < al
            · rw [if_pos z2] at e4
              rw [if_pos z, if_pos z, if_pos (c := 0 ≤ s k ∧ a (s k) k < al) ⟨z, z2⟩, if_pos z, if_pos z, e4]
            · rw [if_neg z2] at e4
              rw [if_pos z, if_pos z, if_neg (c := 0 ≤ s k ∧ a (s k) k < al) (fun z3 => z2 z3.2), if_neg (by omega), if_neg (by omega), e4]
              omega
          · rw [if_neg z, if_neg z, if_neg (c := 0 ≤ s k ∧ a (s k) k < al) (fun z3 => z z3.1), if_neg (by omega), if_neg (by omega)]
        · intro k h3 h4
          by_cases z : 0 ≤ s k
          · have e4 := h2 (s k).toNat k (by have := hs.2 k h4; omega) h3 h4
            rw [Int.toNat_of_nonneg z] at e4
            rw [if_pos z, if_pos z, e4]
            omega
          · rw [if_neg z, if_neg z]
            rfl
      unfold costM
      dsimp only at e1 e3 ⊢
      omega
  · intro h hm
    have hm2 : matchF (fun k => if k < n then h k else -1) m g := by
      constructor
      · intro i j hi hj h0 heq
        dsimp only at h0 heq
        by_cases z : (i : Int) < n
        · rw [if_pos z] at h0 heq
          by_cases z2 : (j : Int) < n
          · rw [if_pos z2] at heq
            exact hm.1 i j (by omega) (by omega) h0 heq
          · rw [if_neg z2] at heq
            omega
        · rw [if_neg z] at h0
          omega
      · intro i hi
        dsimp only
        split
        · exact hm.2 i (by omega)
        · omega
    have cnt : ∀ x : Int, 0 ≤ x → sumN (fun k => if (if k < n then h k else -1) = x then 1 else 0) m = sumN (fun k => if h k = x then 1 else 0) n := fun x hx => by
      rw [sumN_split hn]
      · refine sumN_congr fun k hk => ?_
        rw [if_pos (c := (k : Int) < n) (by omega)]
      · intro i h3 h4
        rw [if_neg (c := (i : Int) < n) (by omega), if_neg (by omega)]
    have c0 : costM a al h n g = sumN (fun k => if 0 ≤ (if k < n then h k else -1) then a (if k < n then h k else -1) k else 0) m + sumN (fun x => if sumN (fun k => if (if k < n then h k else -1) = x then 1 else 0) m = 0 then al else 0) g := by
      unfold costM
      congr 1
      · rw [sumN_split hn]
        · refine sumN_congr fun k hk => ?_
          rw [if_pos (c := (k : Int) < n) (by omega)]
        · intro i h3 h4
          rw [if_neg (c := (i : Int) < n) (by omega), if_neg (by omega)]
      · exact sumN_congr fun x hx => by rw [cnt x (by omega)]
    rw [c0]
    generalize hh2 : (fun k : Int => if k < n then h k else -1) = h2 at hm2
    have hh3 : ∀ k : Int, (if k < n then h k else -1) = h2 k := fun k => by rw [← hh2]
    have ag : ∀ k : Nat, k < m → 0 ≤ h2 k → w (h2 k) k ≤ a (h2 k) k := fun k hk h0 => by
      have kn : k < n := by
        rcases Nat.lt_or_ge k n with z | z
        · exact z
        · rw [← hh3, if_neg (by omega)] at h0
          omega
      have e4 := h1 (h2 k).toNat k (by have := hm2.2 k hk; omega) kn
      rw [Int.toNat_of_nonneg h0] at e4
      rw [e4]
      split <;> omega
    simp only [hh3]
    have e1 := sumN_inj (f := p) hm2.1 hm2.2
    have e2 : sumN q m = sumN (fun k => if 0 ≤ h2 k then q k else 0) m + sumN (fun k => (if 0 ≤ h2 k then 0 else 1) * q k) m := by
      rw [← sumN_add]
      refine sumN_congr fun k _ => ?_
      split <;> omega
    have e3 : sumN (fun k => if 0 ≤ h2 k then p (h2 k) else 0) m + sumN (fun k => if 0 ≤ h2 k then q k else 0) m ≤ sumN (fun k => if 0 ≤ h2 k then a (h2 k) k else 0) m := by
      rw [← sumN_add]
      refine sumN_mono fun k hk => ?_
      by_cases z : 0 ≤ h2 k
      · rw [if_pos z, if_pos z, if_pos z]
        have e4 := hpq (h2 k).toNat k (by have := hm2.2 k hk; omega) hk
        rw [Int.toNat_of_nonneg z] at e4
        have := ag k hk z
        omega
      · rw [if_neg z, if_neg z, if_neg z]
        exact Int.le_refl _
    have f1 := sumN_inj (f := fun _ => 1) hm2.1 hm2.2
    have f2 : (m : Int) = sumN (fun k => if 0 ≤ h2 k then 1 else 0) m + sumN (fun k => if 0 ≤ h2 k then 0 else 1) m := by
      rw [← sumN_add, sumN_congr (g := fun _ => 1) (fun k _ => by split <;> rfl), sumN_c]
      omega
    rw [sumN_c] at f1
    have e5 := left_le2 (p := p) (q := q) (s := fun x => if sumN (fun k => if h2 k = x then 1 else 0) m = 0 then 1 else 0) (t := fun k => if 0 ≤ h2 k then 0 else 1) (al := al) (g := g) (m := m) (fun k _ => by split <;> omega) (fun k _ => by split <;> omega) (by omega) hq (fun k x hk hx => Int.le_trans (hpq k x hk hx) (wal k x hk hx))
    have e6 : sumN (fun x => (if sumN (fun k => if h2 k = x then 1 else 0) m = 0 then 1 else 0) * p x) g = sumN (fun x => if sumN (fun k => if h2 k = x then 1 else 0) m = 0 then p x else 0) g := sumN_congr fun x _ => by
      split <;> omega
    have e7 : sumN (fun x => if sumN (fun k => if h2 k = x then 1 else 0) m = 0 then 1 else 0) g * al = sumN (fun x => if sumN (fun k => if h2 k = x then 1 else 0) m = 0 then al else 0) g := by
      rw [← sumN_mul]
      exact sumN_congr fun x _ => by split <;> omega
    rw [e6, e7] at e5
    omega
/-- the other way round: rows for columns -/
def invF (h : Int → Int) (n : Nat) : Int → Int := fun x => firstN (fun k => decide (h k = x)) n
theorem invF_or {h : Int → Int} {n : Nat} (x : Int) : (invF h n x = -1 ∧ ∀ k : Nat, k < n → h k ≠ x) ∨ ∃ k : Nat, k < n ∧ invF h n x = (k : Int) ∧ h k = x := by
  rcases first_or (fun k => decide (h k = x)) n with e | ⟨k, e1, e2, e3⟩
  · exact Or.inl ⟨firstN_no e, fun k hk => of_decide_eq_false (e k hk)⟩
  · exact Or.inr ⟨k, e1, firstN_at e2 e3 e1, of_decide_eq_true e2⟩
theorem invF_m {h : Int → Int} {n : Nat} : matchF (invF h n) n n := by
  constructor
  · intro i j hi hj h0 heq
    rcases invF_or (h := h) (n := n) i with e | ⟨k, e1, e2, e3⟩
    · omega
    · rcases invF_or (h := h) (n := n) j with f | ⟨l, f1, f2, f3⟩
      · omega
      · have : k = l := by omega
        subst this
        omega
  · intro i hi
    rcases invF_or (h := h) (n := n) i with e | ⟨k, e1, e2, e3⟩ <;> omega
theorem invF_at {h : Int → Int} {n : Nat} (hm : matchF h n n) {k : Nat} (hk : k < n) (h0 : 0 ≤ h k) : invF h n (h k) = k := by
  rcases invF_or (h := h) (n := n) (h k) with e | ⟨l, e1, e2, e3⟩
  · exact absurd rfl (e.2 k hk)
  · rw [e2, hm.1 k l hk e1 h0 e3.symm]
theorem invF_sum {a : Int → Int → Int} {h : Int → Int} {n : Nat} (hm : matchF h n n) : sumN (fun x => if 0 ≤ invF h n x then a x (invF h n x) else 0) n = sumN (fun k => if 0 ≤ h k then a (h k) k else 0) n := by
  rw [sumN_inj (f := fun x => if 0 ≤ invF h n x then a x (invF h n x) else 0) hm.1 hm.2]
  have e2 : sumN (fun x => if sumN (fun k => if h k = x then 1 else 0) n = 0 then (if 0 ≤ invF h n x then a x (invF h n x) else 0) else 0) n = 0 := sumN_z fun x hx => by
    by_cases q : sumN (fun k => if h k = (x : Int) then 1 else 0) n = 0
    · rw [if_pos q]
      rcases invF_or (h := h) (n := n) x with e | ⟨l, e1, e2, e3⟩
      · rw [if_neg (by omega)]
      · have := sum01_z (f := fun k => if h k = (x : Int) then 1 else 0) (fun k _ => by split <;> omega) q l e1
        rw [if_pos e3] at this
        omega
    · rw [if_neg q]
  rw [e2, Int.add_zero]
  refine sumN_congr fun k hk => ?_
  by_cases q : 0 ≤ h k
  · rw [if_pos q, if_pos q, invF_at hm hk q, if_pos (by omega)]
  · rw [if_neg q, if_neg q]
theorem tr_cost {a : Int → Int → Int} {al : Int} {h : Int → Int} {n : Nat} (hm : matchF h n n) : costM (fun x k => a k x) al (invF h n) n n = costM a al h n n := by
  have e1 := invF_sum (a := a) hm
  have e2 := invF_sum (a := fun _ _ => al) hm
  have e3 := sumN_inj (f := fun _ => al) hm.1 hm.2
  have e4 := sumN_inj (f := fun _ => al) (invF_m (h := h) (n := n)).1 (invF_m (h := h) (n := n)).2
  unfold costM
  dsimp only at e1 e2 ⊢
  omega
theorem min_tr {a : Int → Int → Int} {al : Int} {n : Nat} {v : Int} (h : isMin (fun x k => a k x) al n n v) : isMin a al n n v := by
  obtain ⟨⟨h, m1, c1⟩, l1⟩ := h
  refine ⟨⟨invF h n, invF_m, ?_⟩, fun k hk => ?_⟩
  · rw [← c1]
    exact tr_cost (a := fun x k => a k x) m1
  · rw [← tr_cost hk]
    exact l1 _ invF_m
/-- the least cost as a function -/
noncomputable def lstF (a : Int → Int → Int) (al : Int) (n g : Nat) : Int := Classical.epsilon (fun v => isMin a al n g v)
theorem lstF_is {a : Int → Int → Int} {al : Int} {n g : Nat} {v : Int} (h : isMin a al n g v) : lstF a al n g = v := isMin_uniq (Classical.epsilon_spec (p := fun v => isMin a al n g v) ⟨v, h⟩) h
theorem lstF_congr {a b : Int → Int → Int} {al : Int} {n g : Nat} (hab : ∀ x k : Nat, x < g → k < n → a x k = b x k) : lstF a al n g = lstF b al n g := by
  unfold lstF
  congr 1
  funext v
  exact propext ⟨isMin_congr hab, isMin_congr fun x k hx hk => (hab x k hx hk).symm⟩
