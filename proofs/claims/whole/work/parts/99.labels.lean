/-! PATCHES: labels, in general. -/
def labI (n : Nat) (Ed : Int → Int → Prop) (f : Int → Int) : Prop := (∀ x : Int, 0 ≤ x → x < n → 0 ≤ f x ∧ f x ≤ x) ∧ ∀ g : Int → Int, (∀ i j, Ed i j → g i = g j) → ∀ x : Int, 0 ≤ x → x < n → g (f x) = g x
def labF (Ed : Int → Int → Prop) (f : Int → Int) : Prop := ∀ i j, Ed i j → f i = f j
def edR (n : Nat) (Ed : Int → Int → Prop) : Prop := ∀ i j, Ed i j → (0 ≤ i ∧ i < n) ∧ 0 ≤ j ∧ j < n
def ljF (f : Int → Int) (i j : Int) : Int → Int := fun x => if x = i ∨ x = j then (if f j < f i then f j else f i) else f x
def labS (n : Nat) (Ed : Int → Int → Prop) (f0 f : Int → Int) (c : Int) (K : Int → Int → Prop) : Prop := labI n Ed f ∧ (∀ x : Int, 0 ≤ x → x < n → f x ≤ f0 x) ∧ (∀ i j, K i j → Ed i j → f i ≤ f0 j ∧ f j ≤ f0 i) ∧ ((c = 0 ∧ (∀ x : Int, 0 ≤ x → x < n → f x = f0 x) ∧ ∀ i j, K i j → Ed i j → f0 i = f0 j) ∨ (c = 1 ∧ sumN f n < sumN f0 n))
theorem sumN_lt {f g : Int → Int} {k : Nat} : ∀ {n : Nat}, (∀ i : Nat, i < n → f i ≤ g i) → k < n → f k < g k → sumN f n < sumN g n
  | 0, _, h, _ => absurd h (Nat.not_lt_zero k)
  | n + 1, h, hk, hs => by
    rw [sumN_s, sumN_s]
    by_cases q : k = n
    · subst q
      have := sumN_mono (f := f) (g := g) (n := k) (fun i hi => h i (by omega))
      omega
    · have := sumN_lt (f := f) (g := g) (k := k) (n := n) (fun i hi => h i (by omega)) (by omega) hs
      have := h n (by omega)
      omega
theorem sumN_ltI {f g : Int → Int} {k : Int} {n : Nat} (h : ∀ i : Int, 0 ≤ i → i < n → f i ≤ g i) (h0 : 0 ≤ k) (h1 : k < n) (hs : f k < g k) : sumN f n < sumN g n := by
  have e : ((k.toNat : Nat) : Int) = k := by omega
  exact sumN_lt (k := k.toNat) (fun i hi => h i (by omega) (by omega)) (by omega) (by rw [e]; exact hs)
section LAB
variable {n : Nat} {Ed : Int → Int → Prop} {f f0 g L : Int → Int} {c i j x : Int} {K K' : Int → Int → Prop}
theorem lab_le (hf : labI n Ed f) (hg : labI n Ed g) (gf : labF Ed g) (h0 : 0 ≤ x) (h1 : x < n) : g x ≤ f x := by
  have a := hf.1 x h0 h1
  have e := hf.2 g gf x h0 h1
  have b := hg.1 (f x) a.1 (by omega)
  omega
theorem lab_eq (hf : labI n Ed f) (ff : labF Ed f) (hg : labI n Ed g) (gf : labF Ed g) (h0 : 0 ≤ x) (h1 : x < n) : f x = g x := by
  have a := lab_le hf hg gf h0 h1
  have b := lab_le hg hf ff h0 h1
  omega
theorem lj_ne (h1 : x ≠ i) (h2 : x ≠ j) : ljF f i j x = f x := if_neg (fun z => z.elim h1 h2)
theorem lj_le : ljF f i j x ≤ f x := by
  unfold ljF
  by_cases q : x = i ∨ x = j
  · rw [if_pos q]
    rcases q with q | q <;> subst q <;> split <;> omega
  · rw [if_neg q]
    exact Int.le_refl _
theorem lj_i : ljF f i j i ≤ f j ∧ ljF f i j j ≤ f i := by
  unfold ljF
  rw [if_pos (Or.inl rfl), if_pos (Or.inr rfl)]
  constructor <;> split <;> omega
theorem lj_same (e : f i = f j) : ljF f i j = f := by
  funext x
  unfold ljF
  by_cases q : x = i ∨ x = j
  · rw [if_pos q]
    rcases q with q | q <;> subst q <;> split <;> omega
  · rw [if_neg q]
theorem lj_inv (r : edR n Ed) (hf : labI n Ed f) (e : Ed i j) : labI n Ed (ljF f i j) := by
  have b := r i j e
  have a1 := hf.1 i b.1.1 b.1.2
  have a2 := hf.1 j b.2.1 b.2.2
  refine ⟨fun x h0 h1 => ?_, fun g hg x h0 h1 => ?_⟩
  · unfold ljF
    by_cases q : x = i ∨ x = j
    · rw [if_pos q]
      rcases q with q | q <;> subst q <;> split <;> omega
    · rw [if_neg q]
      exact hf.1 x h0 h1
  · unfold ljF
    by_cases q : x = i ∨ x = j
    · have e1 := hf.2 g hg i b.1.1 b.1.2
      have e2 := hf.2 g hg j b.2.1 b.2.2
      have e3 := hg i j e
      rw [if_pos q]
      rcases q with q | q <;> subst q <;> split <;> omega
    · rw [if_neg q]
      exact hf.2 g hg x h0 h1
theorem lj_lt (r : edR n Ed) (e : Ed i j) (hne : f i ≠ f j) : sumN (ljF f i j) n < sumN f n := by
  have b := r i j e
  have l := lj_i (f := f) (i := i) (j := j)
  by_cases q : f j < f i
  · exact sumN_ltI (k := i) (fun x _ _ => lj_le) b.1.1 b.1.2 (by omega)
  · exact sumN_ltI (k := j) (fun x _ _ => lj_le) b.2.1 b.2.2 (by omega)
theorem lab_ex (r : edR n Ed) : ∀ (N : Nat) (f : Int → Int), labI n Ed f → sumN f n < N → ∃ L, labI n Ed L ∧ labF Ed L
  | 0, f, hf, hs => by
    have := sumN_nn (f := f) (n := n) (fun i hi => (hf.1 i (by omega) (by omega)).1)
    omega
  | N + 1, f, hf, hs => by
    by_cases q : ∃ i j, Ed i j ∧ f i ≠ f j
    · obtain ⟨i, j, e, hne⟩ := q
      have := lj_lt r e hne
      exact lab_ex r N (ljF f i j) (lj_inv r hf e) (by omega)
    · exact ⟨f, hf, fun i j e => Classical.byContradiction fun z => q ⟨i, j, e, z⟩⟩
theorem lab_id : labI n Ed (fun x => x) := ⟨fun x h0 _ => ⟨h0, Int.le_refl _⟩, fun _ _ _ _ _ => rfl⟩
theorem lab_ex0 (r : edR n Ed) : ∃ L, labI n Ed L ∧ labF Ed L := lab_ex r ((sumN (fun x => x) n).toNat + 1) (fun x => x) lab_id (by omega)
theorem labS_0 (hf : labI n Ed f) : labS n Ed f f 0 (fun _ _ => False) := ⟨hf, fun _ _ _ => Int.le_refl _, fun _ _ h => h.elim, Or.inl ⟨rfl, fun _ _ _ => rfl, fun _ _ h => h.elim⟩⟩
theorem labS_mono (h : labS n Ed f0 f c K) (hk : ∀ a b, K' a b → Ed a b → K a b) : labS n Ed f0 f c K' := by
  obtain ⟨h1, h2, h3, h4⟩ := h
  refine ⟨h1, h2, fun i j k e => h3 i j (hk i j k e) e, ?_⟩
  rcases h4 with ⟨a, b, d⟩ | h4
  · exact Or.inl ⟨a, b, fun i j k e => d i j (hk i j k e) e⟩
  · exact Or.inr h4
theorem labS_j (r : edR n Ed) (h : labS n Ed f0 f c K) (e : Ed i j) (hk : ∀ a b, K' a b → Ed a b → K a b ∨ (a = i ∧ b = j)) : labS n Ed f0 (ljF f i j) (if f i = f j then c else 1) K' := by
  obtain ⟨h1, h2, h3, h4⟩ := h
  have b := r i j e
  have l := lj_i (f := f) (i := i) (j := j)
  have i1 := h2 i b.1.1 b.1.2
  have j1 := h2 j b.2.1 b.2.2
  refine ⟨lj_inv r h1 e, fun x h0 h1 => Int.le_trans lj_le (h2 x h0 h1), fun p q k ed => ?_, ?_⟩
  · rcases hk p q k ed with z | z
    · have := h3 p q z ed
      have := lj_le (f := f) (i := i) (j := j) (x := p)
      have := lj_le (f := f) (i := i) (j := j) (x := q)
      omega
    · rw [z.1, z.2]
      omega
  · by_cases q : f i = f j
    · rw [if_pos q, lj_same q]
      rcases h4 with ⟨a1, a2, a3⟩ | h4
      · refine Or.inl ⟨a1, a2, fun p s k ed => ?_⟩
        rcases hk p s k ed with z | z
        · exact a3 p s z ed
        · rw [z.1, z.2, ← a2 i b.1.1 b.1.2, ← a2 j b.2.1 b.2.2]
          exact q
      · exact Or.inr h4
    · rw [if_neg q]
      have s1 := lj_lt r e q
      refine Or.inr ⟨rfl, ?_⟩
      rcases h4 with ⟨a1, a2, a3⟩ | h4
      · rw [sumN_congr (f := f0) (g := f) (fun k hk => (a2 k (by omega) (by omega)).symm)]
        exact s1
      · omega
theorem labS_fin (r : edR n Ed) (h : labS n Ed f0 f 0 K) (hk : ∀ a b, Ed a b → K a b) : labF Ed f := by
  obtain ⟨h1, h2, h3, h4⟩ := h
  rcases h4 with ⟨a1, a2, a3⟩ | h4
  · intro i j e
    have b := r i j e
    rw [a2 i b.1.1 b.1.2, a2 j b.2.1 b.2.2]
    exact a3 i j (hk i j e) e
  · omega
def labD (L f : Int → Int) (n : Nat) : Int := sumN (fun x => if f x = L x then 1 else 0) n
theorem labD_all (h : (n : Int) ≤ labD L f n) : ∀ x : Int, 0 ≤ x → x < n → f x = L x := by
  intro x h0 h1
  refine Classical.byContradiction fun z => ?_
  have := sumN_ltI (f := fun x => if f x = L x then 1 else 0) (g := fun _ => 1) (k := x) (n := n) (fun i _ _ => by show (if f i = L i then (1 : Int) else 0) ≤ 1; split <;> omega) h0 h1 (by show (if f x = L x then (1 : Int) else 0) < 1; rw [if_neg z]; omega)
  rw [sumN_c] at this
  unfold labD at h
  omega
theorem lab_all_fin (hL : labF Ed L) (r : edR n Ed) (h : ∀ x : Int, 0 ≤ x → x < n → f x = L x) : labF Ed f := fun i j e => by
  have b := r i j e
  rw [h i b.1.1 b.1.2, h j b.2.1 b.2.2]
  exact hL i j e
theorem lab_grow (r : edR n Ed) (hL : labI n Ed L) (fL : labF Ed L) (h0 : labI n Ed f0) (h : labS n Ed f0 f c K) (hk : ∀ a b, Ed a b → K a b) : labF Ed f ∨ labD L f0 n + 1 ≤ labD L f n := by
  obtain ⟨h1, h2, h3, h4⟩ := h
  have keep : ∀ x : Int, 0 ≤ x → x < n → f0 x = L x → f x = L x := fun x a b e => by
    have := h2 x a b
    have := lab_le h1 hL fL a b
    omega
  by_cases q : ∃ x : Int, (0 ≤ x ∧ x < n) ∧ f0 x ≠ L x
  · right
    obtain ⟨x, hx, hne⟩ := q
    have hy := hL.1 x hx.1 hx.2
    have key : ∃ i j, Ed i j ∧ (if f0 i = L i then (1 : Int) else 0) ≠ (if f0 j = L j then (1 : Int) else 0) := by
      refine Classical.byContradiction fun z => ?_
      have inv : ∀ i j, Ed i j → (fun x => if f0 x = L x then (1 : Int) else 0) i = (fun x => if f0 x = L x then (1 : Int) else 0) j := fun i j e => Classical.byContradiction fun y => z ⟨i, j, e, y⟩
      have e := hL.2 _ inv x hx.1 hx.2
      have e2 := hL.2 L fL x hx.1 hx.2
      have e3 := lab_le h0 hL fL (x := L x) hy.1 (by omega)
      have e4 := h0.1 (L x) hy.1 (by omega)
      have e5 : f0 (L x) = L (L x) := by omega
      have e' : (if f0 (L x) = L (L x) then (1 : Int) else 0) = (if f0 x = L x then (1 : Int) else 0) := e
      rw [if_pos e5, if_neg hne] at e'
      omega
    obtain ⟨i, j, e, ne⟩ := key
    have b := r i j e
    have lij := fL i j e
    have k3 := h3 i j (hk i j e) e
    have li := lab_le h1 hL fL b.1.1 b.1.2
    have lj := lab_le h1 hL fL b.2.1 b.2.2
    have mono : ∀ x : Int, 0 ≤ x → x < n → (fun x => if f0 x = L x then (1 : Int) else 0) x ≤ (fun x => if f x = L x then (1 : Int) else 0) x := fun x a b => by
      show (if f0 x = L x then (1 : Int) else 0) ≤ (if f x = L x then (1 : Int) else 0)
      by_cases z : f0 x = L x
      · rw [if_pos z, if_pos (keep x a b z)]
        omega
      · rw [if_neg z]
        split <;> omega
    by_cases z : f0 i = L i
    · have zj : f0 j ≠ L j := fun zj => ne (by rw [if_pos z, if_pos zj])
      have fj : f j = L j := by omega
      exact sumN_ltI mono b.2.1 b.2.2 (by show (if f0 j = L j then (1 : Int) else 0) < (if f j = L j then (1 : Int) else 0); rw [if_neg zj, if_pos fj]; omega)
    · have zj : f0 j = L j := Classical.byContradiction fun zj => ne (by rw [if_neg z, if_neg zj])
      have fi : f i = L i := by omega
      exact sumN_ltI mono b.1.1 b.1.2 (by show (if f0 i = L i then (1 : Int) else 0) < (if f i = L i then (1 : Int) else 0); rw [if_neg z, if_pos fi]; omega)
  · left
    refine lab_all_fin fL r fun x a b => keep x a b (Classical.byContradiction fun z => q ⟨x, ⟨a, b⟩, z⟩)
end LAB
