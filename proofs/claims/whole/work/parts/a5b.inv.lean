/-! CHARTS: what the grammar keeps. -/
section INV
variable {b : Int → Int} {n p : Int} {d : DS}
def okR (n p : Int) (x : Int × DS) : Prop := (p < x.1 ∧ x.1 ≤ n) ∧ dJ x.2
theorem pSet_I (p0 : 0 ≤ p) (p1 : p ≤ n) (hk : tK b n p ≠ 0) (hd : dJ d) {s lo hi : Int} (hs : (s = 3 ∧ lo = 0 ∧ hi = 99) ∨ (s = 6 ∧ lo = 0 ∧ hi = 9) ∨ (s = 11 ∧ lo = 0 ∧ hi = 99) ∨ (s = 12 ∧ lo = 0 ∧ hi = 999) ∨ (s = 13 ∧ lo = 0 ∧ hi = 999)) {x : Int × DS} (h : pSet b n s lo hi d p = .ok x) : okR n p x := by
  unfold pSet at h
  split at h
  · injection h
  · obtain ⟨r, h1, h2⟩ := bnd_ok h
    obtain ⟨q, h3, h4⟩ := bnd_ok h2
    injection h4 with h4
    subst h4
    have a1 := pNum_ok h1
    have a2 := pSign_ok h3
    have t1 := tE_on (b := b) p1 hk p0
    have t2 := tE_on (b := b) t1.2.1 (by rw [a1.1]; omega) t1.1
    have e1 : r.1 = tE b n (tE b n p) := by rw [a1.2.1]
    rw [← e1] at t2
    have t3 := tE_on (b := b) t2.2.1 (by rw [a2.1]; omega) t2.1
    refine ⟨⟨by show p < q; rw [a2.2]; omega, by show q ≤ n; rw [a2.2]; exact t3.2.1⟩, setS_I (setT_I hd) (by omega) (goodS_up (lo := lo) (hi := hi) hd.1.1 a1.2.2 (by rcases hs with z | z | z | z | z <;> obtain ⟨rfl, rfl, rfl⟩ := z <;> simp))⟩
theorem pPri_I (p0 : 0 ≤ p) (p1 : p ≤ n) (hk : tK b n p ≠ 0) (hd : dJ d) {s lo hi mc : Int} (hs : (s = 4 ∧ lo = 0 ∧ hi = 47 ∧ mc = 9) ∨ (s = 7 ∧ lo = 0 ∧ hi = 7 ∧ mc = 99) ∨ (s = 9 ∧ lo = 1 ∧ hi = 48 ∧ mc = 99)) {x : Int × DS} (h : pPri b n s lo hi mc d p = .ok x) : okR n p x := by
  unfold pPri at h
  split at h
  · injection h
  · obtain ⟨r, h1, h2⟩ := bnd_ok h
    obtain ⟨p2, h3, h4⟩ := bnd_ok h2
    obtain ⟨r2, h5, h6⟩ := bnd_ok h4
    obtain ⟨q, h7, h8⟩ := bnd_ok h6
    injection h8 with h8
    subst h8
    have a1 := pNum_ok h1
    have a2 := pWord_ok h3
    have a3 := pNum_ok h5
    have a4 := pSign_ok h7
    have t1 := tE_on (b := b) p1 hk p0
    have t2 := tE_on (b := b) t1.2.1 (by rw [a1.1]; omega) t1.1
    have e1 : r.1 = tE b n (tE b n p) := by rw [a1.2.1]
    rw [← e1] at t2
    have t3 := tE_on (b := b) t2.2.1 (by rw [a2.1]; omega) t2.1
    rw [← a2.2.2] at t3
    have t4 := tE_on (b := b) t3.2.1 (by rw [a3.1]; omega) t3.1
    have e3 : r2.1 = tE b n p2 := by rw [a3.2.1]
    rw [← e3] at t4
    have t5 := tE_on (b := b) t4.2.1 (by rw [a4.1]; omega) t4.1
    have i1 : dJ (setS (setT d s) s r.2) := setS_I (setT_I hd) (by omega) (goodS_up (lo := lo) (hi := hi) hd.1.1 a1.2.2 (by rcases hs with z | z | z <;> obtain ⟨rfl, rfl, rfl, rfl⟩ := z <;> simp))
    refine ⟨⟨by show p < q; rw [a4.2]; omega, by show q ≤ n; rw [a4.2]; exact t5.2.1⟩, setS_I i1 (by omega) (goodS_up (lo := 0) (hi := mc) i1.1.1 a3.2.2 (by rcases hs with z | z | z <;> obtain ⟨rfl, rfl, rfl, rfl⟩ := z <;> simp))⟩
theorem pRnd_I (p0 : 0 ≤ p) (p1 : p ≤ n) (hk : tK b n p ≠ 0) (hd : dJ d) {x : Int × DS} (h : pRnd b n d p = .ok x) : okR n p x := by
  unfold pRnd at h
  split at h
  · injection h
  · obtain ⟨q, h3, h4⟩ := bnd_ok h
    injection h4 with h4
    subst h4
    have a2 := pSign_ok h3
    have t1 := tE_on (b := b) p1 hk p0
    have t3 := tE_on (b := b) t1.2.1 (by rw [a2.1]; omega) t1.1
    refine ⟨⟨by show p < q; rw [a2.2]; omega, by show q ≤ n; rw [a2.2]; exact t3.2.1⟩, setS_I (setT_I hd) (by omega) (goodS_up (lo := 0) (hi := 1) hd.1.1 (by omega) (by simp))⟩
theorem pCol_I (p0 : 0 ≤ p) (p1 : p ≤ n) (hk : tK b n p ≠ 0) (hd : dJ d) {x : Int × DS} (h : pCol b n d p = .ok x) : okR n p x := by
  unfold pCol at h
  by_cases z5 : 5 ≤ d.1 2
  · rw [if_pos z5] at h; injection h
  rw [if_neg z5] at h
  unfold pCol1 at h
  by_cases z1 : tK b n (tE b n p) = 1
  · rw [if_pos z1] at h; injection h
  rw [if_neg z1] at h
  by_cases z2 : nmB b n CK (tE b n p) = false
  · rw [if_pos z2] at h; injection h
  rw [if_neg z2] at h
  by_cases z3 : fnF d.2.1 (d.1 2) (tW b n (tE b n p)) ≠ -1
  · rw [if_pos z3] at h; injection h
  rw [if_neg z3] at h
  unfold pCol2 at h
  have nm := nmB_t (by simpa using z2 : nmB b n CK (tE b n p) = true)
  have t1 := tE_on (b := b) p1 hk p0
  have t2 := tE_on (b := b) t1.2.1 (by rw [nm.1]; omega) t1.1
  obtain ⟨p2, h1, h2⟩ := bnd_ok h
  obtain ⟨r, h3, h4⟩ := bnd_ok h2
  obtain ⟨p3, h5, h6⟩ := bnd_ok h4
  obtain ⟨r2, h7, h8⟩ := bnd_ok h6
  obtain ⟨q, h9, h10⟩ := bnd_ok h8
  injection h10 with h10
  subst h10
  have a1 := pWord_ok h1
  have a2 := pNum_ok h3
  have a3 := pWord_ok h5
  have a4 := pNum_ok h7
  have a5 := pSign_ok h9
  have t3 := tE_on (b := b) t2.2.1 (by rw [a1.1]; omega) t2.1
  rw [← a1.2.2] at t3
  have t4 := tE_on (b := b) t3.2.1 (by rw [a2.1]; omega) t3.1
  have e2 : r.1 = tE b n p2 := by rw [a2.2.1]
  rw [← e2] at t4
  have t5 := tE_on (b := b) t4.2.1 (by rw [a3.1]; omega) t4.1
  rw [← a3.2.2] at t5
  have t6 := tE_on (b := b) t5.2.1 (by rw [a4.1]; omega) t5.1
  have e4 : r2.1 = tE b n p3 := by rw [a4.2.1]
  rw [← e4] at t6
  have t7 := tE_on (b := b) t6.2.1 (by rw [a5.1]; omega) t6.1
  obtain ⟨⟨g1, g2, g3, g4, g5, g6⟩, g7⟩ := hd
  have gg := g1
  have s2 := g1.2.2.1
  refine ⟨⟨by show p < q; rw [a5.2]; omega, by show q ≤ n; rw [a5.2]; exact t7.2.1⟩, ⟨?_, ?_, ?_, g4, fun k k0 k1 => ?_, fun k k0 k1 => ?_⟩, fun k k0 k1 => ?_⟩
  · show goodS (upH d.1 2 (d.1 2 + 1))
    unfold goodS at gg ⊢
    unfold upH
    simp only [Int.reduceEq, ↓reduceIte]
    exact ⟨gg.1, gg.2.1, by omega, gg.2.2.2⟩
  · show 1 ≤ upH d.1 2 (d.1 2 + 1) 0 ∧ 1 ≤ upH d.1 2 (d.1 2 + 1) 1
    unfold upH
    rw [if_neg (by omega), if_neg (by omega)]
    exact g2
  · show 0 ≤ d.2.2.2.2.2.1 ∧ d.2.2.2.2.2.1 ≤ upH d.1 2 (d.1 2 + 1) 1
    unfold upH
    rw [if_neg (by omega)]
    exact g3
  · have k1' : k < upH d.1 2 (d.1 2 + 1) 2 := k1
    unfold upH at k1'
    rw [if_pos rfl] at k1'
    show lts (upL d.2.1 (d.1 2) (tW b n (tE b n p)) k) ∧ 1 ≤ (upL d.2.1 (d.1 2) (tW b n (tE b n p)) k).length ∧ (upL d.2.1 (d.1 2) (tW b n (tE b n p)) k).length ≤ 8
    unfold upL
    by_cases y : k = d.1 2
    · rw [if_pos y]
      exact ⟨tW_lts nm.1, tW_pos t1.2.1 nm.1, nm.2.1⟩
    · rw [if_neg y]
      exact g5 k k0 (by omega)
  · show (0 ≤ upH d.2.2.1 (d.1 2) r.2 k ∧ upH d.2.2.1 (d.1 2) r.2 k ≤ 9) ∧ 0 ≤ upH d.2.2.2.1 (d.1 2) r2.2 k ∧ upH d.2.2.2.1 (d.1 2) r2.2 k ≤ 99
    have b2 := a2.2.2
    have b4 := a4.2.2
    have b6 := g6 k k0 k1
    unfold upH
    by_cases y : k = d.1 2
    · rw [if_pos y, if_pos y]
      omega
    · rw [if_neg y, if_neg y]
      exact b6
  · have k1' : k < d.2.2.2.2.2.1 * upH d.1 2 (d.1 2 + 1) 0 := k1
    have e0 : upH d.1 2 (d.1 2 + 1) 0 = d.1 0 := if_neg (by omega)
    have e22 : upH d.1 2 (d.1 2 + 1) 2 = d.1 2 + 1 := if_pos rfl
    rw [e0] at k1'
    have c := g7 k k0 k1'
    show 0 ≤ d.2.2.2.2.1 k ∧ d.2.2.2.2.1 k < upH d.1 2 (d.1 2 + 1) 2
    rw [e22]
    omega
theorem fnF_rng {NW : Int → List Int} {m : Int} {w : List Int} (hm : 0 ≤ m) : fnF NW m w = -1 ∨ (0 ≤ fnF NW m w ∧ fnF NW m w < m) := by
  rcases firstN_rng (f := fun k => decide (NW k = w)) (n := m.toNat) with h | h
  · exact Or.inl h
  · exact Or.inr ⟨h.1, by have := h.2.1; unfold fnF; omega⟩
theorem pSts_I : ∀ (f : Nat) (x : Int) (d : DS) (p : Int), 0 ≤ p → p ≤ n → 0 ≤ x → dI d → dC d (d.2.2.2.2.2.1 * d.1 0 + x) → d.2.2.2.2.2.1 < d.1 1 → ∀ {y : Int × DS}, pSts b n f x d p = .ok y → okR n p y
  | 0, x, d, p, _, _, _, _, _, _, y, h => by
    have h' : (.error (0, 0) : PE (Int × DS)) = .ok y := h
    injection h'
  | f + 1, x, d, p, p0, p1, x0, hi, hc, hr, y, h => by
    unfold pSts at h
    by_cases z1 : tK b n p = 1
    · rw [if_pos z1] at h; injection h
    rw [if_neg z1] at h
    by_cases z4 : tK b n p = 4 ∧ 0 < x
    · rw [if_pos z4] at h
      by_cases zx : x = d.1 0
      · rw [if_pos zx] at h
        injection h with h
        subst h
        have t1 := tE_on (b := b) p1 (by rw [z4.1]; omega) p0
        obtain ⟨g1, g2, g3, g4, g5, g6⟩ := hi
        refine ⟨⟨t1.2.2, t1.2.1⟩, ⟨g1, g2, ⟨by show 0 ≤ d.2.2.2.2.2.1 + 1; omega, by show d.2.2.2.2.2.1 + 1 ≤ d.1 1; omega⟩, g4, g5, g6⟩, fun k k0 k1 => hc k k0 ?_⟩
        have k1' : k < (d.2.2.2.2.2.1 + 1) * d.1 0 := k1
        rw [Int.add_mul, Int.one_mul] at k1'
        omega
      · rw [if_neg zx] at h; injection h
    rw [if_neg z4] at h
    by_cases z2 : nmB b n CK p = false
    · rw [if_pos z2] at h; injection h
    rw [if_neg z2] at h
    have nm := nmB_t (by simpa using z2 : nmB b n CK p = true)
    by_cases z3 : fnF d.2.1 (d.1 2) (tW b n p) = -1
    · rw [if_pos z3] at h; injection h
    rw [if_neg z3] at h
    by_cases z6 : d.1 0 ≤ x
    · rw [if_pos z6] at h; injection h
    rw [if_neg z6] at h
    have t1 := tE_on (b := b) p1 (by rw [nm.1]; omega) p0
    have fr := (fnF_rng (NW := d.2.1) (w := tW b n p) hi.1.2.2.1.1).resolve_left z3
    have ih := pSts_I f (x + 1) (setC d (d.2.2.2.2.2.1 * d.1 0 + x) (fnF d.2.1 (d.1 2) (tW b n p))) (tE b n p) t1.1 t1.2.1 (by omega) hi (fun k k0 k1 => by
      have k1' : k < d.2.2.2.2.2.1 * d.1 0 + (x + 1) := k1
      show 0 ≤ upH d.2.2.2.2.1 (d.2.2.2.2.2.1 * d.1 0 + x) (fnF d.2.1 (d.1 2) (tW b n p)) k ∧ upH d.2.2.2.2.1 (d.2.2.2.2.2.1 * d.1 0 + x) (fnF d.2.1 (d.1 2) (tW b n p)) k < d.1 2
      unfold upH
      by_cases u : k = d.2.2.2.2.2.1 * d.1 0 + x
      · rw [if_pos u]; exact fr
      · rw [if_neg u]; exact hc k k0 (by omega)) hr h
    exact ⟨⟨by have := ih.1; omega, ih.1.2⟩, ih.2⟩
theorem pRow_I (p0 : 0 ≤ p) (p1 : p ≤ n) (hk : tK b n p ≠ 0) (hd : dJ d) {x : Int × DS} (h : pRow b n d p = .ok x) : okR n p x := by
  unfold pRow at h
  by_cases z : d.1 1 ≤ d.2.2.2.2.2.1
  · rw [if_pos z] at h; injection h
  rw [if_neg z] at h
  have t1 := tE_on (b := b) p1 hk p0
  have ih := pSts_I _ 0 d _ t1.1 t1.2.1 (Int.le_refl _) hd.1 (by rw [Int.add_zero]; exact hd.2) (by omega) h
  exact ⟨⟨by have := ih.1; omega, ih.1.2⟩, ih.2⟩
theorem pPart_I (p0 : 0 ≤ p) (p1 : p ≤ n) (hk : tK b n p ≠ 0) (hd : dJ d) {x : Int × DS} (h : pPart b n d p = .ok x) : okR n p x := by
  unfold pPart at h
  split at h
  · exact pCol_I p0 p1 hk hd h
  split at h
  · exact pRow_I p0 p1 hk hd h
  split at h
  · exact pSet_I p0 p1 hk hd (by omega) h
  split at h
  · exact pPri_I p0 p1 hk hd (by omega) h
  split at h
  · exact pSet_I p0 p1 hk hd (by omega) h
  split at h
  · exact pPri_I p0 p1 hk hd (by omega) h
  split at h
  · exact pPri_I p0 p1 hk hd (by omega) h
  split at h
  · exact pSet_I p0 p1 hk hd (by omega) h
  split at h
  · exact pSet_I p0 p1 hk hd (by omega) h
  split at h
  · exact pSet_I p0 p1 hk hd (by omega) h
  split at h
  · exact pRnd_I p0 p1 hk hd h
  · injection h
theorem pLoop_I : ∀ (f : Nat) (d : DS) (p : Int), 0 ≤ p → p ≤ n → dJ d → ∀ {d' : DS}, pLoop b n f d p = .ok d' → dJ d' ∧ d'.2.2.2.2.2.1 = d'.1 1
  | 0, d, p, _, _, _, d', h => by
    have h' : (.error (0, 0) : PE DS) = .ok d' := h
    injection h'
  | f + 1, d, p, p0, p1, hd, d', h => by
    unfold pLoop at h
    by_cases z1 : tK b n p = 1
    · rw [if_pos z1] at h; injection h
    rw [if_neg z1] at h
    by_cases z0 : tK b n p = 0
    · rw [if_pos z0] at h
      by_cases zr : d.2.2.2.2.2.1 < d.1 1
      · rw [if_pos zr] at h; injection h
      · rw [if_neg zr] at h
        injection h with h
        subst h
        have := hd.1.2.2.1
        exact ⟨hd, by omega⟩
    rw [if_neg z0] at h
    obtain ⟨r, h1, h2⟩ := bnd_ok h
    have o := pPart_I p0 p1 z0 hd h1
    exact pLoop_I f r.2 r.1 (by have := o.1; omega) o.1.2 o.2 h2
theorem dS0_good {v u : Int} (hv : 1 ≤ v ∧ v ≤ 8) (hu : 1 ≤ u ∧ u ≤ 6) : goodS (upH (upH dS0 0 v) 1 u) := by
  unfold goodS upH dS0
  simp only [Int.reduceEq, ↓reduceIte]
  refine ⟨?_, ?_, ?_, ?_, ?_, ?_, ?_, ?_, ?_, ?_, ?_, ?_, ?_, ?_, ?_⟩ <;> omega
end INV
