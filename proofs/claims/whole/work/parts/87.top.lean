/-! LESSENED: the most frequent taken away, against the rarest. -/
def zr (f : Int → Int) (m : Int) : Int → Int := fun k => if k = m then 0 else f k
def tot (f : Int → Int) : Int := f 0 + f 1 + f 2 + f 3 + f 4
def pos (f : Int → Int) : Int := (if 0 < f 0 then 1 else 0) + (if 0 < f 1 then 1 else 0) + (if 0 < f 2 then 1 else 0) + (if 0 < f 3 then 1 else 0) + (if 0 < f 4 then 1 else 0)
def mxN (f : Int → Int) : Nat → Int
  | 0 => 0
  | k + 1 => if f (mxN f k) < f ((k : Int) + 1) then (k : Int) + 1 else mxN f k
def isMx (f : Int → Int) (k m : Int) : Prop := (0 ≤ m ∧ m < k) ∧ ∀ c, 0 ≤ c → c < k → f c ≤ f m ∧ (c < m → f c < f m)
def raN (f : Int → Int) : Nat → Int
  | 0 => -1
  | k + 1 => if 0 < f k ∧ (raN f k = -1 ∨ f k < f (raN f k)) then (k : Int) else raN f k
def isRa (f : Int → Int) (k r : Int) : Prop := (0 ≤ r ∧ r < k) ∧ 0 < f r ∧ ∀ c, 0 ≤ c → c < k → 0 < f c → f r ≤ f c ∧ (c < r → f r < f c)
theorem mxN_is {f : Int → Int} : ∀ {k : Nat}, isMx f ((k : Int) + 1) (mxN f k)
  | 0 => ⟨by show (0 : Int) ≤ 0 ∧ (0 : Int) < 0 + 1; omega, fun c c0 c1 => by
      have e : c = 0 := by omega
      subst e
      exact ⟨Int.le_refl _, fun w => absurd w (Int.lt_irrefl _)⟩⟩
  | k + 1 => by
    have ih := mxN_is (f := f) (k := k)
    show isMx f (((k + 1 : Nat) : Int) + 1) (if f (mxN f k) < f ((k : Int) + 1) then (k : Int) + 1 else mxN f k)
    obtain ⟨a, b⟩ := ih
    by_cases q : f (mxN f k) < f ((k : Int) + 1)
    · rw [if_pos q]
      refine ⟨by omega, fun c c0 c1 => ?_⟩
      by_cases z : c = (k : Int) + 1
      · rw [z]; exact ⟨Int.le_refl _, fun w => absurd w (Int.lt_irrefl _)⟩
      · have := b c c0 (by omega)
        exact ⟨by omega, fun _ => by omega⟩
    · rw [if_neg q]
      refine ⟨by omega, fun c c0 c1 => ?_⟩
      by_cases z : c = (k : Int) + 1
      · rw [z]; exact ⟨by omega, fun w => by omega⟩
      · exact b c c0 (by omega)
theorem isMx_uniq {f : Int → Int} {k m m' : Int} (h : isMx f k m) (h' : isMx f k m') : m = m' := by
  have a := h.2 m' h'.1.1 h'.1.2
  have b := h'.2 m h.1.1 h.1.2
  rcases Int.lt_trichotomy m m' with z | z | z
  · have := b.2 z; omega
  · exact z
  · have := a.2 z; omega
theorem raN_is {f : Int → Int} : ∀ {k : Nat}, (raN f k = -1 ∧ ∀ c, 0 ≤ c → c < (k : Int) → ¬ 0 < f c) ∨ isRa f k (raN f k)
  | 0 => Or.inl ⟨rfl, fun c a b => by omega⟩
  | k + 1 => by
    have ih := raN_is (f := f) (k := k)
    show (_ = -1 ∧ _) ∨ _
    have e : raN f (k + 1) = if 0 < f k ∧ (raN f k = -1 ∨ f k < f (raN f k)) then (k : Int) else raN f k := rfl
    rw [e]
    by_cases q : 0 < f k ∧ (raN f k = -1 ∨ f k < f (raN f k))
    · rw [if_pos q]
      refine Or.inr ⟨by omega, q.1, fun c c0 c1 c2 => ?_⟩
      by_cases z : c = (k : Int)
      · rw [z]; exact ⟨Int.le_refl _, fun w => absurd w (Int.lt_irrefl _)⟩
      · rcases ih with ⟨i1, i2⟩ | ⟨i1, i2, i3⟩
        · exact absurd c2 (i2 c c0 (by omega))
        · have := i3 c c0 (by omega) c2
          have y := q.2.resolve_left (by omega)
          exact ⟨by omega, fun _ => by omega⟩
    · rw [if_neg q]
      rcases ih with ⟨i1, i2⟩ | ⟨i1, i2, i3⟩
      · refine Or.inl ⟨i1, fun c c0 c1 => ?_⟩
        by_cases z : c = (k : Int)
        · rw [z]; exact fun w => q ⟨w, Or.inl i1⟩
        · exact i2 c c0 (by omega)
      · refine Or.inr ⟨by omega, i2, fun c c0 c1 c2 => ?_⟩
        by_cases z : c = (k : Int)
        · rw [z] at c2 ⊢
          have : ¬ f k < f (raN f k) := fun w => q ⟨c2, Or.inr w⟩
          exact ⟨by omega, fun w => by omega⟩
        · exact i3 c c0 (by omega) c2
theorem five {P : Int → Prop} (h0 : P 0) (h1 : P 1) (h2 : P 2) (h3 : P 3) (h4 : P 4) : ∀ m, 0 ≤ m → m < 5 → P m := by
  intro m a b
  have e : m = 0 ∨ m = 1 ∨ m = 2 ∨ m = 3 ∨ m = 4 := by omega
  rcases e with e | e | e | e | e <;> subst e <;> assumption
theorem tot_zr {f : Int → Int} : ∀ m, 0 ≤ m → m < 5 → tot f = f m + tot (zr f m) := by
  refine five ?_ ?_ ?_ ?_ ?_ <;> unfold tot zr <;> simp only [Int.reduceEq, ↓reduceIte, Int.reduceNe] <;> omega
theorem pos_zr {f : Int → Int} : ∀ m, 0 ≤ m → m < 5 → 0 < f m → pos f = 1 + pos (zr f m) := by
  refine five ?_ ?_ ?_ ?_ ?_ <;> intro h <;> unfold pos zr <;> simp only [Int.reduceEq, ↓reduceIte, Int.reduceNe, h, Int.lt_irrefl] <;> omega
theorem pos_no {f : Int → Int} (h : ∀ c, 0 ≤ c → c < 5 → ¬ 0 < f c) : pos f = 0 := by
  unfold pos
  rw [if_neg (h 0 (by omega) (by omega)), if_neg (h 1 (by omega) (by omega)), if_neg (h 2 (by omega) (by omega)), if_neg (h 3 (by omega) (by omega)), if_neg (h 4 (by omega) (by omega))]
  rfl
theorem pos_rng {f : Int → Int} : 0 ≤ pos f ∧ pos f ≤ 5 := by
  unfold pos
  have e : ∀ p : Int, 0 ≤ (if 0 < p then (1 : Int) else 0) ∧ (if 0 < p then (1 : Int) else 0) ≤ 1 := fun p => by split <;> omega
  have a := e (f 0); have b := e (f 1); have c := e (f 2); have d := e (f 3); have g := e (f 4)
  omega
def topF (f : Int → Int) : Nat → Int
  | 0 => tot f
  | n + 1 => topF (zr f (mxN f 4)) n
theorem zr_comm {f : Int → Int} {a b : Int} : zr (zr f a) b = zr (zr f b) a := by
  funext k
  unfold zr
  by_cases p : k = a
  · by_cases q : k = b
    · rw [if_pos q, if_pos p]
    · rw [if_neg q, if_pos p, if_pos p]
  · by_cases q : k = b
    · rw [if_pos q, if_neg p, if_pos q]
    · rw [if_neg q, if_neg p, if_neg p, if_neg q]
theorem zr_ne {f : Int → Int} {a k : Int} (h : k ≠ a) : zr f a k = f k := if_neg h
theorem zr_eq {f : Int → Int} {a : Int} : zr f a a = 0 := if_pos rfl
theorem zr_nn {f : Int → Int} (h : ∀ c, 0 ≤ c → c < 5 → 0 ≤ f c) {a : Int} : ∀ c, 0 ≤ c → c < 5 → 0 ≤ zr f a c := fun c c0 c1 => by
  by_cases z : c = a
  · rw [z, zr_eq]; exact Int.le_refl _
  · rw [zr_ne z]; exact h c c0 c1
theorem topF_0 : ∀ {n : Nat} {f : Int → Int}, (∀ c, 0 ≤ c → c < 5 → 0 ≤ f c) → pos f ≤ n → topF f n = 0
  | 0, f, h, hp => by
    have e : ∀ c, 0 ≤ c → c < 5 → f c = 0 := fun c c0 c1 => by
      by_cases z : 0 < f c
      · have := pos_zr c c0 c1 z
        have := (pos_rng (f := zr f c)).1
        omega
      · have := h c c0 c1; omega
    show tot f = 0
    unfold tot
    rw [e 0 (by omega) (by omega), e 1 (by omega) (by omega), e 2 (by omega) (by omega), e 3 (by omega) (by omega), e 4 (by omega) (by omega)]
    rfl
  | n + 1, f, h, hp => by
    show topF (zr f (mxN f 4)) n = 0
    have m := mxN_is (f := f) (k := 4)
    refine topF_0 (zr_nn h) ?_
    by_cases z : 0 < f (mxN f 4)
    · have := pos_zr _ m.1.1 m.1.2 z
      omega
    · have : pos (zr f (mxN f 4)) = 0 := pos_no fun c c0 c1 => by
        by_cases y : c = mxN f 4
        · rw [y, zr_eq]; exact Int.lt_irrefl 0
        · rw [zr_ne y]
          have := (m.2 c c0 (by omega)).1
          omega
      omega
theorem topF_ra : ∀ {n : Nat} {f : Int → Int} {r : Int}, (∀ c, 0 ≤ c → c < 5 → 0 ≤ f c) → isRa f 5 r → (n : Int) < pos f → topF f n = f r + topF (zr f r) n
  | 0, f, r, _, hr, _ => tot_zr r hr.1.1 hr.1.2
  | n + 1, f, r, h, hr, hp => by
    show topF (zr f (mxN f 4)) n = f r + topF (zr (zr f r) (mxN (zr f r) 4)) n
    have m : isMx f 5 (mxN f 4) := mxN_is (f := f) (k := 4)
    have m' : isMx (zr f r) 5 (mxN (zr f r) 4) := mxN_is (f := zr f r) (k := 4)
    generalize mxN f 4 = a at m ⊢
    generalize mxN (zr f r) 4 = b at m' ⊢
    have pr := pos_zr r hr.1.1 hr.1.2 hr.2.1
    have fa := (m.2 r hr.1.1 hr.1.2).1
    have pa := pos_zr (f := f) a m.1.1 m.1.2 (by have := hr.2.1; omega)
    by_cases z : a = r
    · -- all that are there are equally many
      subst z
      have ab : a ≠ b := fun w => by
        subst w
        have : pos (zr f a) = 0 := pos_no fun c c0 c1 y => by
          have := (m'.2 c c0 c1).1
          rw [zr_eq] at this
          omega
        omega
      have fb : zr f a b = f b := zr_ne (fun w => ab w.symm)
      have bp : 0 < f b := by
        rcases Int.lt_or_le 0 (f b) with y | y
        · exact y
        · have : pos (zr f a) = 0 := pos_no fun c c0 c1 y2 => by
            have := (m'.2 c c0 c1).1
            rw [fb] at this
            omega
          omega
      have eb : f b = f a := by
        have x1 := (m.2 b m'.1.1 m'.1.2).1
        have x2 := (hr.2.2 b m'.1.1 m'.1.2 bp).1
        omega
      have rb : isRa (zr f a) 5 b := by
        refine ⟨m'.1, by rw [fb]; exact bp, fun c c0 c1 c2 => ?_⟩
        by_cases y : c = a
        · rw [y, zr_eq] at c2; omega
        · have ec := (m'.2 c c0 c1)
          rw [zr_ne y] at c2
          have x2 := (hr.2.2 c c0 c1 c2).1
          rw [zr_ne y, fb] at ec ⊢
          exact ⟨by omega, fun w => by have := ec.2 w; omega⟩
      have ih := topF_ra (n := n) (zr_nn h (a := a)) rb (by omega)
      rw [ih, fb, eb]
    · have ra : isRa (zr f a) 5 r := by
        refine ⟨hr.1, by rw [zr_ne (fun w => z w.symm)]; exact hr.2.1, fun c c0 c1 c2 => ?_⟩
        by_cases y : c = a
        · rw [y, zr_eq] at c2; omega
        · rw [zr_ne y] at c2 ⊢
          rw [zr_ne (fun w => z w.symm)]
          exact hr.2.2 c c0 c1 c2
      have mb : isMx (zr f r) 5 a := by
        refine ⟨m.1, fun c c0 c1 => ?_⟩
        rw [zr_ne z]
        by_cases y : c = r
        · rw [y, zr_eq]
          have := hr.2.1
          exact ⟨by omega, fun w => by omega⟩
        · rw [zr_ne y]
          exact m.2 c c0 c1
      have e := isMx_uniq mb m'
      subst e
      have ih := topF_ra (n := n) (zr_nn h (a := a)) ra (by omega)
      rw [ih, zr_ne (fun w => z w.symm), zr_comm]
