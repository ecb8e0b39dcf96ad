/-! TEXTS: tokens, in general. -/
def wsB (c : Int) : Bool := decide (c = 10 ∨ c = 32)
def ltB (c : Int) : Bool := decide (97 ≤ c ∧ c ≤ 122)
def dgB (c : Int) : Bool := decide (48 ≤ c ∧ c ≤ 57)
def tRun (P : Int → Bool) (b : Int → Int) (n : Int) : Nat → Int → Int
  | 0, p => p
  | f + 1, p => if p < n ∧ P (b p) = true then tRun P b n f (p + 1) else p
def tEnd (P : Int → Bool) (b : Int → Int) (n p : Int) : Int := tRun P b n (n - p).toNat p
theorem tRun_spec {P : Int → Bool} {b : Int → Int} {n : Int} : ∀ {f : Nat} {p : Int}, n - p ≤ f → p ≤ tRun P b n f p ∧ (∀ j, p ≤ j → j < tRun P b n f p → j < n ∧ P (b j) = true) ∧ ¬ (tRun P b n f p < n ∧ P (b (tRun P b n f p)) = true)
  | 0, p, h => ⟨Int.le_refl _, fun j a c => by have c' : j < p := c; omega, fun z => by have z' : p < n := z.1; omega⟩
  | f + 1, p, h => by
    show p ≤ (if p < n ∧ P (b p) = true then tRun P b n f (p + 1) else p) ∧ (∀ j, p ≤ j → j < (if p < n ∧ P (b p) = true then tRun P b n f (p + 1) else p) → j < n ∧ P (b j) = true) ∧ ¬ ((if p < n ∧ P (b p) = true then tRun P b n f (p + 1) else p) < n ∧ P (b (if p < n ∧ P (b p) = true then tRun P b n f (p + 1) else p)) = true)
    by_cases q : p < n ∧ P (b p) = true
    · rw [if_pos q]
      have ih := tRun_spec (P := P) (b := b) (n := n) (f := f) (p := p + 1) (by omega)
      refine ⟨by omega, fun j a c => ?_, ih.2.2⟩
      by_cases z : j = p
      · rw [z]; exact q
      · exact ih.2.1 j (by omega) c
    · rw [if_neg q]
      exact ⟨Int.le_refl _, fun j a c => by omega, q⟩
section TXT
variable {P : Int → Bool} {b : Int → Int} {n p e q : Int}
theorem tEnd_spec : p ≤ tEnd P b n p ∧ (∀ j, p ≤ j → j < tEnd P b n p → j < n ∧ P (b j) = true) ∧ ¬ (tEnd P b n p < n ∧ P (b (tEnd P b n p)) = true) := tRun_spec (by omega)
theorem tEnd_uq (h1 : p ≤ e) (h2 : ∀ j, p ≤ j → j < e → j < n ∧ P (b j) = true) (h3 : ¬ (e < n ∧ P (b e) = true)) : tEnd P b n p = e := by
  have s := tEnd_spec (P := P) (b := b) (n := n) (p := p)
  rcases Int.lt_trichotomy (tEnd P b n p) e with z | z | z
  · exact absurd (h2 _ s.1 z) s.2.2
  · exact z
  · exact absurd (s.2.1 e h1 z) h3
theorem tEnd_le (h : p ≤ n) : tEnd P b n p ≤ n := by
  have s := tEnd_spec (P := P) (b := b) (n := n) (p := p)
  by_cases z : tEnd P b n p ≤ n
  · exact z
  · have := s.2.1 (tEnd P b n p - 1) (by omega) (by omega)
    omega
def tKq (b : Int → Int) (n q : Int) : Int := if n ≤ q then 0 else if ltB (b q) = true then 2 else if dgB (b q) = true then (if 4 < tEnd dgB b n q - q then 1 else 3) else if b q = 59 then 4 else 1
def tEq (b : Int → Int) (n q : Int) : Int := if n ≤ q then q else if ltB (b q) = true then tEnd ltB b n q else if dgB (b q) = true then tEnd dgB b n q else q + 1
def wl (b : Int → Int) (q : Int) : Nat → List Int
  | 0 => []
  | k + 1 => wl b q k ++ [b (q + k) - 96]
def nv (b : Int → Int) (q : Int) : Nat → Int
  | 0 => 0
  | k + 1 => nv b q k * 10 + b (q + k) - 48
def tQ (b : Int → Int) (n p : Int) : Int := tEnd wsB b n p
def tK (b : Int → Int) (n p : Int) : Int := tKq b n (tQ b n p)
def tE (b : Int → Int) (n p : Int) : Int := tEq b n (tQ b n p)
def tW (b : Int → Int) (n p : Int) : List Int := wl b (tQ b n p) (tE b n p - tQ b n p).toNat
def tV (b : Int → Int) (n p : Int) : Int := nv b (tQ b n p) (tE b n p - tQ b n p).toNat
theorem tQ_rng (h : p ≤ n) : p ≤ tQ b n p ∧ tQ b n p ≤ n := ⟨tEnd_spec.1, tEnd_le h⟩
theorem tKq_rng : 0 ≤ tKq b n q ∧ tKq b n q ≤ 4 := by
  unfold tKq
  split
  · omega
  · split
    · omega
    · split
      · split <;> omega
      · split <;> omega
theorem tEnd_gt (h : q < n) (hp : P (b q) = true) : q < tEnd P b n q := by
  have s := tEnd_spec (P := P) (b := b) (n := n) (p := q)
  rcases Int.lt_or_eq_of_le s.1 with z | z
  · exact z
  · rw [← z] at s
    exact absurd ⟨h, hp⟩ s.2.2
/-- the end: within the text, and behind the token's place unless the text ends -/
theorem tEq_rng (h : q ≤ n) : q ≤ tEq b n q ∧ tEq b n q ≤ n ∧ (q < n → q < tEq b n q) := by
  unfold tEq
  by_cases z : n ≤ q
  · rw [if_pos z]
    omega
  · rw [if_neg z]
    by_cases y : ltB (b q) = true
    · rw [if_pos y]
      have := tEnd_gt (b := b) (n := n) (q := q) (P := ltB) (by omega) y
      have := tEnd_le (P := ltB) (b := b) (n := n) (p := q) h
      omega
    · rw [if_neg y]
      by_cases x : dgB (b q) = true
      · rw [if_pos x]
        have := tEnd_gt (b := b) (n := n) (q := q) (P := dgB) (by omega) x
        have := tEnd_le (P := dgB) (b := b) (n := n) (p := q) h
        omega
      · rw [if_neg x]
        omega
theorem tE_rng (h : p ≤ n) : p ≤ tE b n p ∧ tE b n p ≤ n ∧ tQ b n p ≤ tE b n p ∧ (tK b n p ≠ 0 → tQ b n p < tE b n p ∧ p < tE b n p) := by
  have a := tQ_rng (b := b) h
  have c := tEq_rng (b := b) (q := tQ b n p) a.2
  refine ⟨by unfold tE; omega, c.2.1, c.1, fun z => ?_⟩
  have z' : tQ b n p < n := by
    refine Classical.byContradiction fun y => z ?_
    unfold tK tKq
    rw [if_pos (by omega)]
  have := c.2.2 z'
  unfold tE
  omega
theorem wl_len : ∀ {k : Nat}, (wl b q k).length = k
  | 0 => rfl
  | k + 1 => by
    show (wl b q k ++ [b (q + k) - 96]).length = k + 1
    rw [List.length_append, wl_len]
    rfl
def c32 (w : List Int) : Int := w.foldl (fun s c => s * 32 + c) 0
def c256 (w : List Int) : Int := w.foldl (fun s c => s * 256 + (c + 96)) 0
theorem c32_s {w : List Int} {x : Int} : c32 (w ++ [x]) = c32 w * 32 + x := by
  unfold c32
  rw [List.foldl_append]
  rfl
theorem c256_s {w : List Int} {x : Int} : c256 (w ++ [x]) = c256 w * 256 + (x + 96) := by
  unfold c256
  rw [List.foldl_append]
  rfl
/-- letters -/
def lts (w : List Int) : Prop := ∀ c ∈ w, 1 ≤ c ∧ c ≤ 26
theorem snoc_cases (w : List Int) : w = [] ∨ ∃ v x, w = v ++ [x] := by
  rcases List.eq_nil_or_concat w with z | ⟨v, x, z⟩
  · exact Or.inl z
  · exact Or.inr ⟨v, x, by rw [z, List.concat_eq_append]⟩
theorem lts_snoc {w : List Int} {x : Int} (h : lts (w ++ [x])) : lts w ∧ 1 ≤ x ∧ x ≤ 26 := ⟨fun c hc => h c (List.mem_append_left _ hc), h x (List.mem_append_right _ (List.mem_singleton.mpr rfl))⟩
theorem c32_nn : ∀ (k : Nat) {w : List Int}, w.length ≤ k → lts w → 0 ≤ c32 w ∧ (w ≠ [] → 0 < c32 w)
  | k, w, hk, h => by
    rcases snoc_cases w with z | ⟨v, x, z⟩
    · subst z
      exact ⟨Int.le_refl _, fun y => absurd rfl y⟩
    · subst z
      have hl := lts_snoc h
      rw [List.length_append] at hk
      have hk' : v.length + 1 ≤ k := hk
      cases k with
      | zero => omega
      | succ k =>
        have ih := (c32_nn k (w := v) (by omega) hl.1).1
        rw [c32_s]
        exact ⟨by omega, fun _ => by omega⟩
theorem c32_inj : ∀ (k : Nat) {w w' : List Int}, w.length ≤ k → lts w → lts w' → c32 w = c32 w' → w = w'
  | k, w, w', hk, h, h', e => by
    rcases snoc_cases w with z | ⟨v, x, z⟩
    · subst z
      rcases snoc_cases w' with z' | ⟨v', x', z'⟩
      · exact z'.symm
      · have := (c32_nn w'.length (w := w') (Nat.le_refl _) h').2 (by rw [z']; simp)
        have e0 : c32 [] = 0 := rfl
        omega
    · rcases snoc_cases w' with z' | ⟨v', x', z'⟩
      · have := (c32_nn w.length (w := w) (Nat.le_refl _) h).2 (by rw [z]; simp)
        have e0 : c32 [] = 0 := rfl
        rw [z'] at e
        omega
      · subst z z'
        have a := lts_snoc h
        have a' := lts_snoc h'
        rw [List.length_append] at hk
        have hk' : v.length + 1 ≤ k := hk
        rw [c32_s, c32_s] at e
        have ex : x = x' := by omega
        cases k with
        | zero => omega
        | succ k =>
          have ev' := c32_inj k (w := v) (w' := v') (by omega) a.1 a'.1 (by omega)
          rw [ev', ex]
theorem c256_nn : ∀ (k : Nat) {w : List Int}, w.length ≤ k → lts w → 0 ≤ c256 w ∧ (w ≠ [] → 0 < c256 w)
  | k, w, hk, h => by
    rcases snoc_cases w with z | ⟨v, x, z⟩
    · subst z
      exact ⟨Int.le_refl _, fun y => absurd rfl y⟩
    · subst z
      have hl := lts_snoc h
      rw [List.length_append] at hk
      have hk' : v.length + 1 ≤ k := hk
      cases k with
      | zero => omega
      | succ k =>
        have ih := (c256_nn k (w := v) (by omega) hl.1).1
        rw [c256_s]
        exact ⟨by omega, fun _ => by omega⟩
theorem c256_inj : ∀ (k : Nat) {w w' : List Int}, w.length ≤ k → lts w → lts w' → c256 w = c256 w' → w = w'
  | k, w, w', hk, h, h', e => by
    rcases snoc_cases w with z | ⟨v, x, z⟩
    · subst z
      rcases snoc_cases w' with z' | ⟨v', x', z'⟩
      · exact z'.symm
      · have := (c256_nn w'.length (w := w') (Nat.le_refl _) h').2 (by rw [z']; simp)
        have e0 : c256 [] = 0 := rfl
        omega
    · rcases snoc_cases w' with z' | ⟨v', x', z'⟩
      · have := (c256_nn w.length (w := w) (Nat.le_refl _) h).2 (by rw [z]; simp)
        have e0 : c256 [] = 0 := rfl
        rw [z'] at e
        omega
      · subst z z'
        have a := lts_snoc h
        have a' := lts_snoc h'
        rw [List.length_append] at hk
        have hk' : v.length + 1 ≤ k := hk
        rw [c256_s, c256_s] at e
        have ex : x = x' := by omega
        cases k with
        | zero => omega
        | succ k =>
          have ev' := c256_inj k (w := v) (w' := v') (by omega) a.1 a'.1 (by omega)
          rw [ev', ex]
theorem wl_lts : ∀ {k : Nat}, (∀ j, q ≤ j → j < q + k → ltB (b j) = true) → lts (wl b q k)
  | 0, _ => fun c hc => absurd hc (by show ¬ c ∈ ([] : List Int); simp)
  | k + 1, h => fun c hc => by
    rcases List.mem_append.mp hc with z | z
    · exact wl_lts (k := k) (fun j a d => h j a (by omega)) c z
    · have e := of_decide_eq_true (h (q + k) (by omega) (by omega))
      rw [List.mem_singleton.mp z]
      omega
theorem c32_b : ∀ {k : Nat}, k ≤ 8 → (∀ j, q ≤ j → j < q + k → ltB (b j) = true) → 0 ≤ c32 (wl b q k) ∧ c32 (wl b q k) < 32 ^ k
  | 0, _, _ => ⟨Int.le_refl _, by show (0 : Int) < 1; omega⟩
  | k + 1, hk, h => by
    have ih := c32_b (k := k) (by omega) (fun j a d => h j a (by omega))
    have e := of_decide_eq_true (h (q + k) (by omega) (by omega))
    show 0 ≤ c32 (wl b q k ++ [b (q + k) - 96]) ∧ c32 (wl b q k ++ [b (q + k) - 96]) < 32 ^ (k + 1)
    rw [c32_s, Int.pow_succ]
    omega
theorem c256_b : ∀ {k : Nat}, k ≤ 8 → (∀ j, q ≤ j → j < q + k → ltB (b j) = true) → 0 ≤ c256 (wl b q k) ∧ c256 (wl b q k) < 128 * 256 ^ (k - 1)
  | 0, _, _ => ⟨Int.le_refl _, by show (0 : Int) < 128 * 1; omega⟩
  | 1, _, h => by
    have e := of_decide_eq_true (h (q + (0 : Nat)) (by omega) (by omega))
    show 0 ≤ (0 : Int) * 256 + (b (q + (0 : Nat)) - 96 + 96) ∧ (0 : Int) * 256 + (b (q + (0 : Nat)) - 96 + 96) < 128 * 1
    omega
  | k + 2, hk, h => by
    have ih := c256_b (k := k + 1) (by omega) (fun j a d => h j a (by omega))
    have e := of_decide_eq_true (h (q + (k + 1 : Nat)) (by omega) (by omega))
    show 0 ≤ c256 (wl b q (k + 1) ++ [b (q + (k + 1 : Nat)) - 96]) ∧ c256 (wl b q (k + 1) ++ [b (q + (k + 1 : Nat)) - 96]) < 128 * 256 ^ (k + 1)
    have ih2 : c256 (wl b q (k + 1)) < 128 * 256 ^ k := ih.2
    rw [c256_s, Int.pow_succ]
    omega
theorem nv_b : ∀ {k : Nat}, k ≤ 5 → (∀ j, q ≤ j → j < q + k → dgB (b j) = true) → 0 ≤ nv b q k ∧ nv b q k < 10 ^ k
  | 0, _, _ => ⟨Int.le_refl _, by show (0 : Int) < 1; omega⟩
  | k + 1, hk, h => by
    have ih := nv_b (k := k) (by omega) (fun j a d => h j a (by omega))
    have e := of_decide_eq_true (h (q + k) (by omega) (by omega))
    show 0 ≤ nv b q k * 10 + b (q + k) - 48 ∧ nv b q k * 10 + b (q + k) - 48 < 10 ^ (k + 1)
    rw [Int.pow_succ]
    omega
end TXT
