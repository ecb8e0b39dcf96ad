/-! NUMBERS that agree but in one that no chart has (the lines of directions): all that is related stays so. -/
section AGR
variable {A A' : Int → Int}
theorem ag_pl (h : ∀ k, k ≠ 15 → A' k = A k) : plF A' = plF A := by
  funext i
  unfold plF
  rw [h 0 (by omega), h 14 (by omega)]
theorem ag_xn (h : ∀ k, k ≠ 15 → A' k = A k) : xn A' = xn A := by
  unfold xn
  rw [h 0 (by omega), h 1 (by omega)]
theorem ag_good (h : ∀ k, k ≠ 15 → A' k = A k) (g : goodS A) : goodS A' := by
  unfold goodS at g ⊢
  rw [h 0 (by omega), h 1 (by omega), h 2 (by omega), h 3 (by omega), h 4 (by omega), h 5 (by omega), h 6 (by omega), h 7 (by omega), h 8 (by omega), h 9 (by omega), h 10 (by omega), h 11 (by omega), h 12 (by omega), h 13 (by omega), h 14 (by omega)]
  exact g
theorem ag_xH (h : ∀ k, k ≠ 15 → A' k = A k) (g : goodS A) {i : Int} (i0 : 0 ≤ i) (i1 : i < xn A) : xH A' i = xH A i := by
  have pr := plF_rng i0 i1 (xn_pos g (by omega))
  show A' (28 + plF A' i) = A (28 + plF A i)
  rw [ag_pl h, h _ (by omega)]
theorem ag_ve (h : ∀ k, k ≠ 15 → A' k = A k) {H H' : Int → Int} (hh : ∀ i, 0 ≤ i → i < xn A → H' i = H i) : VE A' H' (xP A') (xR A') (xW A') (xn A') A H (xP A) (xR A) (xW A) (xn A) := by
  refine ⟨ag_xn h, fun k a b => h k (by omega), fun i a b => ⟨hh i a (by rw [← ag_xn h]; exact b), ?_, ?_⟩, fun k a b => h _ (by omega)⟩
  · show plF A' i % A' 0 = plF A i % A 0
    rw [ag_pl h, h 0 (by omega)]
  · show i / A' 0 = i / A 0
    rw [h 0 (by omega)]
theorem ag_rch (h : ∀ k, k ≠ 15 → A' k = A k) {S N W Y C H P R NM : Int → Int} {n : Int} (r : RCh S N W Y C H P R n A NM) : RCh S N W Y C H P R n A' NM := by
  obtain ⟨a1, gs, a3, a4, a5, a6, a7, a8⟩ := r
  refine ⟨fun k a b => by rw [h k (by omega)]; exact a1 k a b, ag_good h gs, by rw [h 0 (by omega), h 1 (by omega)]; exact a3, by rw [h 0 (by omega), h 1 (by omega)]; exact a4, fun k a b => by rw [h (16 + 2 * k) (by omega), h (17 + 2 * k) (by omega)]; exact a5 k a b, fun k a b => ?_, fun p a b => ?_, fun i a b => ?_⟩
  · rw [h 2 (by omega)] at b
    rw [h (16 + 2 * k) (by omega), h (17 + 2 * k) (by omega)]
    exact a6 k a b
  · rw [h 0 (by omega), h 1 (by omega)] at b
    rw [h (28 + p) (by omega), h 2 (by omega)]
    exact a7 p a b
  · rw [h 0 (by omega), h 1 (by omega)] at b
    have e := a8 i a b
    have v := (ag_ve h (H := xH A) (H' := xH A') (fun i a b => ag_xH h gs a b)).2.2.1 i a (by rw [ag_xn h]; exact b)
    rw [v.1, v.2.1, v.2.2]
    exact e
theorem ag_rnu (h : ∀ k, k ≠ 15 → A' k = A k) (g : goodS A) {PO CO : Int → Int} (r : RNu A PO CO) : RNu A' PO CO := by
  intro i a b
  rw [h 0 (by omega), h 1 (by omega)] at b
  have e := r i a b
  rw [ag_pl h, ag_xH h g a b]
  exact e
theorem ag_rpl (h : ∀ k, k ≠ 15 → A' k = A k) (g : goodS A) {L E G : Int → Int} (r : RPl L E G A) : RPl L E G A' := by
  obtain ⟨r1, r2, r3⟩ := r
  refine ⟨r1, fun i a b => ?_, r3⟩
  have w : wyA A' i (L i) = wyA A i (L i) := ve_way (ag_ve h (H := xH A) (H' := xH A') (fun i a b => ag_xH h g a b))
  rw [ag_xn h, w]
  exact r2 i a b
theorem alt_in {H H' st co : Int → Int} {N : Int} (hh : ∀ i, 0 ≤ i → i < N → H' i = H i) : ∀ (k : Nat) (i : Int), 0 ≤ i → i < N → altH H' st co k i = altH H st co k i
  | 0, i, a, b => hh i a b
  | k + 1, i, a, b => by
    show (if i = st k then co k else altH H' st co k i) = if i = st k then co k else altH H st co k i
    rw [alt_in hh k i a b]
theorem alt_rng {H st co : Int → Int} {N m : Int} (hh : ∀ i, 0 ≤ i → i < N → 0 ≤ H i ∧ H i < m) : ∀ (k : Nat), (∀ j : Nat, j < k → 0 ≤ co j ∧ co j < m) → ∀ i, 0 ≤ i → i < N → 0 ≤ altH H st co k i ∧ altH H st co k i < m
  | 0, _, i, a, b => hh i a b
  | k + 1, hc, i, a, b => by
    show 0 ≤ (if i = st k then co k else altH H st co k i) ∧ (if i = st k then co k else altH H st co k i) < m
    by_cases z : i = st k
    · rw [if_pos z]; exact hc k (by omega)
    · rw [if_neg z]; exact alt_rng hh k (fun j hj => hc j (by omega)) i a b
theorem ag_lsA (h : ∀ k, k ≠ 15 → A' k = A k) (g : goodN A (xH A) (xP A) (xR A) (xn A)) {H H' : Int → Int} (hh : ∀ i, 0 ≤ i → i < xn A → H' i = H i) (hr : ∀ i, 0 ≤ i → i < xn A → 0 ≤ H i ∧ H i < A 2) : lsA A' H' = lsA A H := by
  have v := ag_ve h hh
  have gn : goodN A H (xP A) (xR A) (xn A) := ⟨g.1, g.2.1, fun i a b => ⟨hr i a b, (g.2.2 i a b).2⟩⟩
  exact ve_lstA v (ve_goodN v gn)
theorem ag_sav (h : ∀ k, k ≠ 15 → A' k = A k) (g : goodN A (xH A) (xP A) (xR A) (xn A)) {H H' : Int → Int} (hh : ∀ i, 0 ≤ i → i < xn A → H' i = H i) (hr : ∀ i, 0 ≤ i → i < xn A → 0 ≤ H i ∧ H i < A 2) {i c : Int} (hc : 0 ≤ c ∧ c < A 2) : savF A' H' i c = savF A H i c := by
  unfold savF
  rw [ag_lsA h g hh hr, ag_lsA h g (H := fun j => if j = i then c else H j) (H' := fun j => if j = i then c else H' j) (fun j a b => by
    show (if j = i then c else H' j) = if j = i then c else H j
    rw [hh j a b]) (fun j a b => by
    show 0 ≤ (if j = i then c else H j) ∧ (if j = i then c else H j) < A 2
    by_cases z : j = i
    · rw [if_pos z]; exact hc
    · rw [if_neg z]; exact hr j a b), h 13 (by omega)]
theorem ag_isB (h : ∀ k, k ≠ 15 → A' k = A k) (g : goodN A (xH A) (xP A) (xR A) (xn A)) {H H' : Int → Int} (hh : ∀ i, 0 ≤ i → i < xn A → H' i = H i) (hr : ∀ i, 0 ≤ i → i < xn A → 0 ≤ H i ∧ H i < A 2) {i c s : Int} (r : isB A H i c s) : isB A' H' i c s := by
  obtain ⟨⟨b1, b2, b3⟩, b4, b5⟩ := r
  unfold isB
  rw [ag_xn h, h 2 (by omega), hh i b1.1 b1.2, ag_sav h g hh hr b2]
  refine ⟨⟨b1, b2, b3⟩, b4, fun i' c' x y z => ?_⟩
  rw [hh i' x.1 x.2] at z
  rw [ag_sav h g hh hr y]
  exact b5 i' c' x y z
theorem ag_ral (h : ∀ k, k ≠ 15 → A' k = A k) (g : goodN A (xH A) (xP A) (xR A) (xn A)) {f t1 n fm : Int} {T st co sv S H P R W ft : Int → Int} (r : RAl f t1 T st co sv S H P R W n fm ft A) : RAl f t1 T st co sv S H P R W n fm ft A' := by
  obtain ⟨r1, r2, r3, r4, r5⟩ := r
  have gs := g.1
  have xh : ∀ i, 0 ≤ i → i < xn A → xH A' i = xH A i := fun i a b => ag_xH h gs a b
  refine ⟨r1, r2, fun z => ?_, fun k hk => ?_, r5⟩
  · obtain ⟨c1, c2, c3⟩ := r3 z
    refine ⟨by rw [ag_xn h, h 2 (by omega)]; exact c1, ?_, c3⟩
    have v := ve_sym (ag_ve h (H := altH (xH A) st co (f - 1).toNat) (H' := altH (xH A') st co (f - 1).toNat) (fun i a b => alt_in xh _ i a b))
    obtain ⟨v1, v2, v3, v4⟩ := v
    obtain ⟨d1, d2, d3, d4⟩ := c2
    refine ⟨by rw [d1, v1], fun k a b => by rw [d2 k a b, v2 k a b], fun i a b => ?_, fun k a b => ?_⟩
    · have e := d3 i a b
      have e' := v3 i a (by rw [← d1]; exact b)
      exact ⟨by rw [e.1, e'.1], by rw [e.2.1, e'.2.1], by rw [e.2.2, e'.2.2]⟩
    · rw [d4 k a b, v4 k a (by rw [← d2 2 (by omega) (by omega)]; exact b)]
  · exact ag_isB h g (fun i a b => alt_in xh k i a b) (alt_rng (fun i a b => (g.2.2 i a b).1) k (fun j hj => (r4 j (by omega)).1.2.1)) (r4 k hk)
end AGR
