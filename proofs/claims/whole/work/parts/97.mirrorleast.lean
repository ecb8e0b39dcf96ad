/-! OPERATIONS: mirrorLeast. -/
def plB (A C : Int → Int) : Int → Int := fun k => if 28 ≤ k ∧ k < 76 then C (k - 28) else A k
theorem plB_s {A C : Int → Int} {k : Int} (h : k < 28) : plB A C k = A k := if_neg (by omega)
theorem plB_p {A C : Int → Int} {p : Int} (h0 : 0 ≤ p) (h1 : p < 48) : plB A C (28 + p) = C p := by
  unfold plB
  rw [if_pos ⟨by omega, by omega⟩, show 28 + p - 28 = p by omega]
theorem plB_good {A C : Int → Int} (gs : goodS A) : goodS (plB A C) := by
  unfold goodS at gs ⊢
  simp (disch := omega) only [plB_s]
  exact gs
theorem mr1_rng {w hh u r : Int} {s : (Int → Int) × Int} (hw : 0 ≤ w ∧ w ≤ 8) (h6 : hh ≤ 6) (hr : 0 ≤ r ∧ r < hh) (hs : ∀ p, 0 ≤ p → p < hh * w → 0 ≤ s.1 p ∧ s.1 p < u) : ∀ {x : Nat}, (x : Int) ≤ w / 2 → ∀ p, 0 ≤ p → p < hh * w → 0 ≤ (mr1 w r s x).1 p ∧ (mr1 w r s x).1 p < u
  | 0, _ => hs
  | x + 1, hx => fun p p0 p1 => by
    have ih := mr1_rng hw h6 hr hs (x := x) (by omega)
    have b := row_in (r := r) (w := w) (h := hh) hr.1 hr.2 hw.1 hw.2 h6
    show 0 ≤ (if p = r * w + w - 1 - x then (mr1 w r s x).1 (r * w + x) else (mr1 w r s x).1 p) ∧ (if p = r * w + w - 1 - x then (mr1 w r s x).1 (r * w + x) else (mr1 w r s x).1 p) < u
    by_cases z : p = r * w + w - 1 - x
    · rw [if_pos z]; exact ih (r * w + x) (by omega) (by omega)
    · rw [if_neg z]; exact ih p p0 p1
theorem mr2_rng {w hh u : Int} {s : (Int → Int) × Int} (hw : 0 ≤ w ∧ w ≤ 8) (h6 : hh ≤ 6) (hs : ∀ p, 0 ≤ p → p < hh * w → 0 ≤ s.1 p ∧ s.1 p < u) : ∀ {r : Nat}, (r : Int) ≤ hh → ∀ p, 0 ≤ p → p < hh * w → 0 ≤ (mr2 w s r).1 p ∧ (mr2 w s r).1 p < u
  | 0, _ => hs
  | r + 1, hr => mr1_rng hw h6 (by omega) (mr2_rng hw h6 hs (r := r) (by omega)) (by omega)
section MIR5
variable {X : Int → Int} {M N : Mem}
/-- the model's numbers and least of a chart whose places are C -/
theorem m_least_pl (h : RR' M) {C : Int → Int} (hC : ∀ p, 0 ≤ p → p < AA M 1 * AA M 0 → 0 ≤ C p ∧ C p < AA M 2) (n1 : ∀ k, 0 ≤ k → k < 28 → N (140 + 1) k = AA M k) (n2 : ∀ p, 0 ≤ p → p < AA M 1 * AA M 0 → N (140 + 1) (28 + p) = C p) : ∃ N2 N3, evc X 224 [vR (some 140)] SH0 N = some (none, SH0, N2) ∧ evc X 309 [vR (some 140)] SH0 N2 = some (some (vI (lsA (plB (AA M) C) (xH (plB (AA M) C)))), SH0, N3) ∧ (∀ b, b ≠ 140 → b ≠ 140 + 9 → b ≠ 140 + 10 → (b < 152 ∨ 159 < b) → N3 b = N b) ∧ (∀ i, i ≠ 36 → N3 140 i = N 140 i) ∧ ∀ i, (i < 0 ∨ xn (AA M) ≤ i) → N3 (140 + 9) i = N (140 + 9) i ∧ N3 (140 + 10) i = N (140 + 10) i := by
  have gA := rr_gA h
  have cm : AA M 1 * AA M 0 = AA M 0 * AA M 1 := Int.mul_comm _ _
  have n48 : AA M 0 * AA M 1 ≤ 48 := gA.2.1.2
  generalize hB : plB (AA M) C = B
  have bS : ∀ k, k < 28 → B k = AA M k := fun k hk => by rw [← hB]; exact plB_s hk
  have bP : ∀ p, 0 ≤ p → p < 48 → B (28 + p) = C p := fun p a b => by rw [← hB]; exact plB_p a b
  have gB : goodS B := by rw [← hB]; exact plB_good gA.1
  have xB : B 0 * B 1 = AA M 0 * AA M 1 := by rw [bS 0 (by omega), bS 1 (by omega)]
  have gO := good_A gB (fun p a b => by rw [bP p a (by omega), bS 2 (by omega)]; exact hC p a (by omega))
  have gsn : goodS (N (140 + 1)) := by
    have g := gA.1
    unfold goodS at g ⊢
    rw [n1 0 (by omega) (by omega), n1 1 (by omega) (by omega), n1 2 (by omega) (by omega), n1 3 (by omega) (by omega), n1 4 (by omega) (by omega), n1 5 (by omega) (by omega), n1 6 (by omega) (by omega), n1 7 (by omega) (by omega), n1 8 (by omega) (by omega), n1 9 (by omega) (by omega), n1 10 (by omega) (by omega), n1 11 (by omega) (by omega), n1 12 (by omega) (by omega), n1 13 (by omega) (by omega), n1 14 (by omega) (by omega)]
    exact g
  have xnN : xn (N (140 + 1)) = xn (AA M) := by
    unfold xn
    rw [n1 0 (by omega) (by omega), n1 1 (by omega) (by omega)]
  have plN : ∀ i, plF (N (140 + 1)) i = plF B i := fun i => by
    unfold plF
    rw [n1 0 (by omega) (by omega), n1 14 (by omega) (by omega), bS 0 (by omega), bS 14 (by omega)]
  obtain ⟨N2, f2, i2, o2, e2⟩ := m_numbers (X := X) (M := N) gsn
  have n2' : N2 (140 + 1) = N (140 + 1) := f2 _ (by omega) (by omega)
  have xe : xn (AA M) = AA M 0 * AA M 1 := rfl
  have rnu2 : RNu B (N2 (140 + 9)) (N2 (140 + 10)) := fun i a b => by
    have e := i2 i a (by rw [xnN, xe, ← xB]; exact b)
    rw [plN] at e
    have hw := xn_pos gB (show 0 < xn B from by show 0 < B 0 * B 1; omega)
    have p := plF_rng (A := B) a b hw
    refine ⟨e.1, ?_⟩
    rw [e.2]
    show _ = B (28 + plF B i)
    have p0 := p.1
    have p1 := p.2.1
    generalize plF B i = pf at p0 p1 ⊢
    rw [bP pf p0 (by omega)]
    exact n2 pf p0 (by omega)
  have veM : VE (N2 (140 + 1)) (N2 (140 + 10)) (fun i => N2 (140 + 9) i % N2 (140 + 1) 0) (fun i => i / N2 (140 + 1) 0) (fun k => N2 (140 + 1) (16 + 2 * k)) (N2 (140 + 1) 0 * N2 (140 + 1) 1) B (xH B) (xP B) (xR B) (xW B) (xn B) := by
    obtain ⟨v1, v2, v3, v4⟩ := rnu_ve rnu2
    rw [n2']
    have e0 : N (140 + 1) 0 = B 0 := by rw [n1 0 (by omega) (by omega), bS 0 (by omega)]
    have e1 : N (140 + 1) 1 = B 1 := by rw [n1 1 (by omega) (by omega), bS 1 (by omega)]
    refine ⟨by rw [e0, e1], fun k a b => by rw [n1 k a (by omega), bS k (by omega)], fun i a b => ?_, fun k a b => by
      have g2 := gO.1.2.2.1
      have t2 := n1 2 (by omega) (by omega)
      have t3 := bS 2 (by omega)
      show N (140 + 1) (16 + 2 * k) = B (16 + 2 * k)
      rw [n1 _ (by omega) (by omega), bS _ (by omega)]⟩
    rw [e0, e1] at b
    have e := v3 i a b
    rw [e0]
    exact e
  have gmN : goodM N2 140 := by
    refine ⟨ve_goodN veM gO, fun i a b => ?_⟩
    rw [n2', n1 0 (by omega) (by omega), n1 1 (by omega) (by omega), ← xB] at b
    have hw := xn_pos gB (show 0 < xn B from by show 0 < B 0 * B 1; omega)
    have p := plF_rng (A := B) a b hw
    have e := (rnu2 i a b).1
    rw [e]
    exact ⟨p.1, by omega⟩
  have gvN : goodV N2 140 := fun k a b => by
    rw [n2', n1 _ (by omega) (by omega)]
    exact ((rr_c h).2.2.2.2.1 k a b).2.1
  obtain ⟨N3, f3, e3, -⟩ := m_lA (X := X) gmN gvN veM
  refine ⟨N2, N3, e2, e3, fun b b0 b9 b10 b1 => by rw [f3.1 b b0 (by omega), f2 b b9 b10], fun i hi => by rw [f3.2 i hi, f2 140 (by omega) (by omega)], fun i hi => ?_⟩
  rw [f3.1 (140 + 9) (by omega) (by omega), f3.1 (140 + 10) (by omega) (by omega)]
  exact o2 i (by rw [xnN]; exact hi)
end MIR5
