/-! THREADS: chains of links. -/
def lasF (L : Int → Int) : Nat → Int → Int
  | 0, i => i
  | k + 1, i => if L i = -1 then i else lasF L k (L i)
def chF (f L : Int → Int) : Nat → Int → Int
  | 0, _ => 0
  | k + 1, i => f i + (if L i = -1 then 0 else chF f L k (L i))
def las (L : Int → Int) (i : Int) : Int := lasF L 48 i
def chn (f L : Int → Int) (i : Int) : Int := chF f L 48 i
theorem lasF_fuel {L E A : Int → Int} (h : PLok L E A) (hn : xn A ≤ 48) : ∀ (k k' : Nat) (i : Int), 0 ≤ i → i < 48 → 48 ≤ k + i → 48 ≤ k' + i → lasF L k i = lasF L k' i
  | 0, _, i, _, h1, h2, _ => by omega
  | k + 1, 0, i, _, h1, _, h3 => by omega
  | k + 1, k' + 1, i, h0, h1, h2, h3 => by
    unfold lasF
    by_cases q : L i = -1
    · rw [if_pos q, if_pos q]
    · rw [if_neg q, if_neg q]
      have e := (h.1 i h0 h1).resolve_left q
      exact lasF_fuel h hn k k' (L i) (by omega) (by omega) (by omega) (by omega)
theorem chF_fuel {f L E A : Int → Int} (h : PLok L E A) (hn : xn A ≤ 48) : ∀ (k k' : Nat) (i : Int), 0 ≤ i → i < 48 → 48 ≤ k + i → 48 ≤ k' + i → chF f L k i = chF f L k' i
  | 0, _, i, _, h1, h2, _ => by omega
  | k + 1, 0, i, _, h1, _, h3 => by omega
  | k + 1, k' + 1, i, h0, h1, h2, h3 => by
    unfold chF
    by_cases q : L i = -1
    · rw [if_pos q, if_pos q]
    · rw [if_neg q, if_neg q]
      have e := (h.1 i h0 h1).resolve_left q
      rw [chF_fuel h hn k k' (L i) (by omega) (by omega) (by omega) (by omega)]
theorem las_s {L E A : Int → Int} (h : PLok L E A) (hn : xn A ≤ 48) {i : Int} (h0 : 0 ≤ i) (h1 : i < 48) : las L i = if L i = -1 then i else las L (L i) := by
  unfold las
  show (if L i = -1 then i else lasF L 47 (L i)) = _
  by_cases q : L i = -1
  · rw [if_pos q, if_pos q]
  · rw [if_neg q, if_neg q]
    have e := (h.1 i h0 h1).resolve_left q
    exact lasF_fuel h hn 47 48 (L i) (by omega) (by omega) (by omega) (by omega)
theorem chn_s {f L E A : Int → Int} (h : PLok L E A) (hn : xn A ≤ 48) {i : Int} (h0 : 0 ≤ i) (h1 : i < 48) : chn f L i = f i + if L i = -1 then 0 else chn f L (L i) := by
  unfold chn
  show (f i + if L i = -1 then 0 else chF f L 47 (L i)) = _
  by_cases q : L i = -1
  · rw [if_pos q, if_pos q]
  · rw [if_neg q, if_neg q]
    have e := (h.1 i h0 h1).resolve_left q
    rw [chF_fuel h hn 47 48 (L i) (by omega) (by omega) (by omega) (by omega)]
/-- induction along a chain -/
theorem chain_ind {L E A : Int → Int} (h : PLok L E A) (hn : xn A ≤ 48) {P : Int → Prop} (h1 : ∀ i, 0 ≤ i → i < xn A → L i = -1 → P i) (h2 : ∀ i, 0 ≤ i → i < xn A → L i ≠ -1 → (0 ≤ L i ∧ i < L i ∧ L i < xn A) → P (L i) → P i) : ∀ i, 0 ≤ i → i < xn A → P i := by
  have key : ∀ (k : Nat) (i : Int), 0 ≤ i → i < xn A → 48 ≤ k + i → P i := by
    intro k
    induction k with
    | zero => intro i a b c; omega
    | succ k ih =>
      intro i a b c
      by_cases q : L i = -1
      · exact h1 i a b q
      · have e := (h.1 i a (by omega)).resolve_left q
        exact h2 i a b q ⟨by omega, e.1, e.2.1⟩ (ih (L i) (by omega) e.2.1 (by omega))
  exact fun i a b => key 48 i a b (by omega)
theorem las_rng {L E A : Int → Int} (h : PLok L E A) (hn : xn A ≤ 48) : ∀ i, 0 ≤ i → i < xn A → i ≤ las L i ∧ las L i < xn A ∧ L (las L i) = -1 := by
  refine chain_ind h hn (fun i a b q => ?_) (fun i a b q e ih => ?_)
  · rw [las_s h hn a (by omega), if_pos q]; exact ⟨by omega, b, q⟩
  · rw [las_s h hn a (by omega), if_neg q]; exact ⟨by omega, ih.2⟩
theorem chn_rng {f L E A : Int → Int} {u : Int} (h : PLok L E A) (hn : xn A ≤ 48) (hf : ∀ i, 0 ≤ i → i < xn A → 0 ≤ f i ∧ f i ≤ u) : ∀ i, 0 ≤ i → i < xn A → 0 ≤ chn f L i ∧ chn f L i ≤ u * (48 - i) := by
  refine chain_ind h hn (fun i a b q => ?_) (fun i a b q e ih => ?_)
  · rw [chn_s h hn a (by omega), if_pos q]
    have e := hf i a b
    have e2 : u * 1 ≤ u * (48 - i) := Int.mul_le_mul_of_nonneg_left (by omega) (by omega)
    omega
  · rw [chn_s h hn a (by omega), if_neg q]
    have e1 := hf i a b
    have e2 : u * (48 - L i) ≤ u * (47 - i) := Int.mul_le_mul_of_nonneg_left (by omega) (by omega)
    have e3 : u * (48 - i) = u * (47 - i) + u := by rw [show 48 - i = (47 - i) + 1 by omega, Int.mul_add, Int.mul_one]
    omega
/-- links keep the hue -/
theorem link_H {L E A : Int → Int} (h : PLok L E A) {i : Int} (h0 : 0 ≤ i) (h1 : i < 48) (q : L i ≠ -1) : xH A (L i) = xH A i := ((wayF_in ((h.1 i h0 h1).resolve_left q).2.2).2.2.2).symm
theorem chn_hue {f L E A : Int → Int} {k : Int} (h : PLok L E A) (hn : xn A ≤ 48) : ∀ i, 0 ≤ i → i < xn A → chn (fun j => if xH A j = k then f j else 0) L i = if xH A i = k then chn f L i else 0 := by
  refine chain_ind h hn (fun i a b q => ?_) (fun i a b q e ih => ?_)
  · rw [chn_s h hn a (by omega), chn_s h hn a (by omega), if_pos q, if_pos q, Int.add_zero, Int.add_zero]
  · rw [chn_s h hn a (by omega), chn_s (f := f) h hn a (by omega), if_neg q, if_neg q, ih, link_H h a (by omega) q]
    split <;> rfl
/-- all stitches are on threads: what the threads' chains give together -/
theorem chains_all {f L E A : Int → Int} (h : PLok L E A) (hn : 0 ≤ xn A ∧ xn A ≤ 48) : sumN (fun i => if E i = -1 then chn f L i else 0) (xn A).toNat = sumN f (xn A).toNat := by
  have en : (((xn A).toNat : Nat) : Int) = xn A := by omega
  have e1 := sumN_inj (h := L) (f := chn f L) (n := (xn A).toNat) (g := (xn A).toNat) (fun i j hi hj h0 heq => by
    have a := h.2.2 i (by omega) (by omega) (by omega)
    have b := h.2.2 j (by omega) (by omega) (by omega)
    rw [heq] at a
    omega) (fun i hi => by
    rcases h.1 i (by omega) (by omega) with z | z <;> omega)
  have e2 : sumN (fun x => if sumN (fun k => if L k = x then 1 else 0) (xn A).toNat = 0 then chn f L x else 0) (xn A).toNat = sumN (fun i => if E i = -1 then chn f L i else 0) (xn A).toNat := sumN_congr fun x hx => by
    by_cases q : E x = -1
    · rw [if_pos q, if_pos (sumN_z fun k hk => if_neg fun z => by
        have := h.2.2 k (by omega) (by omega) (by omega)
        rw [z, q] at this
        omega)]
    · rw [if_neg q, if_neg]
      intro z
      have b := (h.2.1 x (by omega) (by omega)).resolve_left q
      have := sum01_z (f := fun k => if L k = (x : Int) then 1 else 0) (fun k _ => by split <;> omega) z (E x).toNat (by omega)
      rw [show (((E x).toNat : Nat) : Int) = E x by omega, if_pos b.2.2] at this
      omega
  have e3 : sumN (chn f L) (xn A).toNat = sumN f (xn A).toNat + sumN (fun k => if 0 ≤ L k then chn f L (L k) else 0) (xn A).toNat := by
    rw [← sumN_add]
    refine sumN_congr fun i hi => ?_
    rw [chn_s h hn.2 (by omega) (by omega)]
    rcases h.1 i (by omega) (by omega) with z | z
    · rw [if_pos z, if_neg (by omega)]
    · rw [if_neg (by omega), if_pos (by omega)]
  omega
/-! what is reckoned of a plan -/
def fY (A L : Int → Int) (i : Int) : Int := A (17 + 2 * xH A i) + stA A i (L i)
def thrF (E A : Int → Int) (col : Int) : Int := sumN (fun i => if E i = -1 ∧ (col = -1 ∨ xH A i = col) then 1 else 0) (xn A).toNat
def hanF (L E A : Int → Int) (row : Int) : Int := sumN (fun i => if E i = -1 ∧ xR A i ≤ row ∧ row ≤ xR A (las L i) then 1 else 0) (xn A).toNat
def tanF (L E A : Int → Int) (row : Int) : Int := (if 0 < hanF L E A row - A 9 then hanF L E A row - A 9 else 0) * A 10
def cosF (L E A : Int → Int) : Int := 2 * A 3 * thrF E A (-1) + sumN (fun i => prA A i (L i)) (xn A).toNat + sumN (tanF L E A) (A 1).toNat
def yarF (L A : Int → Int) (col : Int) : Int := sumN (fun i => if xH A i = col then fY A L i else 0) (xn A).toNat
theorem wy_no {A : Int → Int} {i : Int} (h : 0 ≤ i) : wyA A i (-1) = 0 := wayF_no (by omega)
theorem stA_no {A : Int → Int} {i : Int} (h : 0 ≤ i) : stA A i (-1) = 0 := by
  unfold stA
  rw [wy_no h]
  rfl
theorem prA_no {A : Int → Int} {i : Int} (h : 0 ≤ i) : prA A i (-1) = 0 := by
  unfold prA
  rw [wy_no h]
  rfl
/-- numbers in range -/
def gWY (A : Int → Int) : Prop := goodN A (xH A) (xP A) (xR A) (xn A) ∧ ∀ k, 0 ≤ k → k < 5 → (0 ≤ A (16 + 2 * k) ∧ A (16 + 2 * k) ≤ 9) ∧ 0 ≤ A (17 + 2 * k) ∧ A (17 + 2 * k) ≤ 99
theorem stA_rng {A : Int → Int} (g : gWY A) {i j : Int} : 0 ≤ stA A i j ∧ stA A i j ≤ 99 * 48 := by
  obtain ⟨⟨gs, gn, gi⟩, -⟩ := g
  unfold stA
  generalize hw : wyA A i j = w
  by_cases q : w = 0
  · rw [q]; exact ⟨Int.le_refl 0, by unfold strF; omega⟩
  · have hin := wayF_in (hw ▸ q : wyA A i j ≠ 0)
    have p1 := gi i hin.1 (by omega)
    have p2 := gi j (by omega) hin.2.2.1
    have g11 := gs.2.2.2.2.2.2.2.2.2.2.2.1
    have g0 := gs.1
    unfold strF
    by_cases q4 : w = 4
    · rw [if_pos q4]
      have ia : 0 ≤ iabs (xP A i - xP A j) ∧ iabs (xP A i - xP A j) ≤ 48 := by
        unfold iabs
        split <;> omega
      exact ⟨Int.mul_nonneg (by omega) ia.1, Int.mul_le_mul (by omega) ia.2 ia.1 (by omega)⟩
    · rw [if_neg q4]
      split
      · exact ⟨Int.mul_nonneg (by omega) (by omega), Int.mul_le_mul (by omega) (by omega) (by omega) (by omega)⟩
      · omega
theorem prA_rng {A : Int → Int} (g : gWY A) {i j : Int} : 0 ≤ prA A i j ∧ prA A i j ≤ 1000 := pri_rng g.1 fun k a b => (g.2 k a b).1
theorem fY_rng {A L : Int → Int} (g : gWY A) {i : Int} (h0 : 0 ≤ i) (h1 : i < xn A) : 0 ≤ fY A L i ∧ fY A L i ≤ 5000 := by
  have e1 := stA_rng g (i := i) (j := L i)
  have e2 := g.1.2.2 i h0 h1
  have e3 := g.1.1.2.2.1
  have e4 := (g.2 (xH A i) e2.1.1 (by omega)).2
  unfold fY
  omega
theorem thr_rng {E A : Int → Int} {col : Int} (hn : 0 ≤ xn A ∧ xn A ≤ 48) : 0 ≤ thrF E A col ∧ thrF E A col ≤ 48 := by
  have e := sumN_le (f := fun i => if E i = -1 ∧ (col = -1 ∨ xH A i = col) then 1 else 0) (a := 0) (b := 1) (n := (xn A).toNat) (fun j _ => by split <;> omega)
  unfold thrF
  omega
theorem han_rng {L E A : Int → Int} {row : Int} (hn : 0 ≤ xn A ∧ xn A ≤ 48) : 0 ≤ hanF L E A row ∧ hanF L E A row ≤ 48 := by
  have e := sumN_le (f := fun i => if E i = -1 ∧ xR A i ≤ row ∧ row ≤ xR A (las L i) then 1 else 0) (a := 0) (b := 1) (n := (xn A).toNat) (fun j _ => by split <;> omega)
  unfold hanF
  omega
theorem tan_rng {L E A : Int → Int} {row : Int} (g : gWY A) : 0 ≤ tanF L E A row ∧ tanF L E A row ≤ 48 * 99 := by
  have e := han_rng (L := L) (E := E) (row := row) g.1.2.1
  have g9 := g.1.1.2.2.2.2.2.2.2.2.2.1
  have g10 := g.1.1.2.2.2.2.2.2.2.2.2.2.1
  unfold tanF
  have e2 : 0 ≤ (if 0 < hanF L E A row - A 9 then hanF L E A row - A 9 else 0) ∧ (if 0 < hanF L E A row - A 9 then hanF L E A row - A 9 else 0) ≤ 48 := by split <;> omega
  exact ⟨Int.mul_nonneg e2.1 g10.1, Int.mul_le_mul e2.2 g10.2 g10.1 (by omega)⟩
theorem cos_rng {L E A : Int → Int} (g : gWY A) : 0 ≤ cosF L E A ∧ cosF L E A ≤ 100000 := by
  have e1 := thr_rng (E := E) (col := -1) g.1.2.1
  have g3 := g.1.1.2.2.2.1
  have g1 := g.1.1.2.1
  have gn := g.1.2.1
  have e2 := sumN_le (f := fun i => prA A i (L i)) (a := 0) (b := 1000) (n := (xn A).toNat) (fun j _ => prA_rng g)
  have e3 := sumN_le (f := tanF L E A) (a := 0) (b := 48 * 99) (n := (A 1).toNat) (fun j _ => tan_rng g)
  have e4 : 0 ≤ 2 * A 3 * thrF E A (-1) ∧ 2 * A 3 * thrF E A (-1) ≤ 198 * 48 := ⟨Int.mul_nonneg (by omega) e1.1, Int.mul_le_mul (by omega) e1.2 e1.1 (by omega)⟩
  unfold cosF
  omega
