/-! PATCHES: neighbours among places and among stitches. -/
def rtP (A : Int → Int) (p : Int) : Int := if p % A 0 + 1 < A 0 then p + 1 else if A 14 = 1 then p - A 0 + 1 else -1
def dnP (A : Int → Int) (p : Int) : Int := if p + A 0 < xn A then p + A 0 else -1
def EdP (A : Int → Int) (p q : Int) : Prop := (0 ≤ p ∧ p < xn A) ∧ (0 ≤ q ∧ q < xn A) ∧ (q = rtP A p ∨ q = dnP A p) ∧ A (28 + p) = A (28 + q)
def EdS (A : Int → Int) (i j : Int) : Prop := (0 ≤ i ∧ i < xn A) ∧ (0 ≤ j ∧ j < xn A) ∧ EdP A (plF A i) (plF A j)
def rtS (A : Int → Int) (i : Int) : Int := if xP A i + 1 < A 0 then stAt A (xP A i + 1) (xR A i) else if A 14 = 1 then stAt A 0 (xR A i) else -1
def dnS (A : Int → Int) (i : Int) : Int := if xR A i + 1 < A 1 then stAt A (xP A i) (xR A i + 1) else -1
def stP (A : Int → Int) (p : Int) : Int := stAt A (p % A 0) (p / A 0)
section PTC
variable {A f g : Int → Int} {p i j c : Int}
theorem pl_row (gs : goodS A) (h0 : 0 ≤ p) (h1 : p < xn A) : 0 < A 0 ∧ (0 ≤ p % A 0 ∧ p % A 0 < A 0) ∧ (0 ≤ p / A 0 ∧ p / A 0 < A 1) ∧ A 0 * (p / A 0) + p % A 0 = p := by
  have hw := xn_pos gs (by omega)
  refine ⟨hw, ⟨Int.emod_nonneg p (by omega), Int.emod_lt_of_pos p hw⟩, ⟨Int.ediv_nonneg h0 (by omega), Int.ediv_lt_of_lt_mul hw ?_⟩, Int.mul_ediv_add_emod p (A 0)⟩
  rw [Int.mul_comm]
  exact h1
theorem stP_pl (gs : goodS A) (h0 : 0 ≤ p) (h1 : p < xn A) : (0 ≤ stP A p ∧ stP A p < xn A) ∧ plF A (stP A p) = p := by
  obtain ⟨hw, hx, hr, e⟩ := pl_row gs h0 h1
  have s := stAt_rng gs hx hr
  refine ⟨⟨s.1, s.2.1⟩, ?_⟩
  unfold stP
  rw [s.2.2, e]
theorem pl_stP (gs : goodS A) (h0 : 0 ≤ i) (h1 : i < xn A) : stP A (plF A i) = i := by
  have hw := xn_pos gs (by omega)
  have r := plF_rng h0 h1 hw
  obtain ⟨_, hx, hr, e⟩ := pl_row gs r.1 r.2.1
  exact (plF_inj gs.2.2.2.2.2.2.2.2.2.2.2.2.2.2 hw hx e.symm r.2.2.1).symm
theorem pl_inj (gs : goodS A) (h0 : 0 ≤ i) (h1 : i < xn A) (j0 : 0 ≤ j) (j1 : j < xn A) (e : plF A i = plF A j) : i = j := by
  rw [← pl_stP gs h0 h1, ← pl_stP gs j0 j1, e]
theorem rtS_eq (gs : goodS A) (h0 : 0 ≤ i) (h1 : i < xn A) : (rtP A (plF A i) = -1 ∧ rtS A i = -1) ∨ ((0 ≤ rtS A i ∧ rtS A i < xn A) ∧ plF A (rtS A i) = rtP A (plF A i)) := by
  have hw := xn_pos gs (by omega)
  have r := plF_rng h0 h1 hw
  obtain ⟨_, hx, hr, e⟩ := pl_row gs r.1 r.2.1
  rw [r.2.2.1] at hr e
  unfold rtS rtP
  show _ ∨ _
  have ex : xP A i = plF A i % A 0 := rfl
  have er : xR A i = i / A 0 := rfl
  rw [ex, er]
  generalize plF A i % A 0 = x at hx e ⊢
  generalize i / A 0 = row at hr e ⊢
  by_cases q : x + 1 < A 0
  · rw [if_pos q, if_pos q]
    have s := stAt_rng gs (x := x + 1) ⟨by omega, q⟩ hr
    exact Or.inr ⟨⟨s.1, s.2.1⟩, by rw [s.2.2]; omega⟩
  · rw [if_neg q, if_neg q]
    by_cases q2 : A 14 = 1
    · rw [if_pos q2, if_pos q2]
      have s := stAt_rng gs (x := 0) ⟨by omega, hw⟩ hr
      exact Or.inr ⟨⟨s.1, s.2.1⟩, by rw [s.2.2]; omega⟩
    · rw [if_neg q2, if_neg q2]
      exact Or.inl ⟨rfl, rfl⟩
theorem dnS_eq (gs : goodS A) (h0 : 0 ≤ i) (h1 : i < xn A) : (dnP A (plF A i) = -1 ∧ dnS A i = -1) ∨ ((0 ≤ dnS A i ∧ dnS A i < xn A) ∧ plF A (dnS A i) = dnP A (plF A i)) := by
  have hw := xn_pos gs (by omega)
  have r := plF_rng h0 h1 hw
  obtain ⟨_, hx, hr, e⟩ := pl_row gs r.1 r.2.1
  rw [r.2.2.1] at hr e
  unfold dnS dnP
  have ex : xP A i = plF A i % A 0 := rfl
  have er : xR A i = i / A 0 := rfl
  rw [ex, er]
  generalize plF A i % A 0 = x at hx e ⊢
  generalize i / A 0 = row at hr e ⊢
  have m : A 0 * (row + 1) = A 0 * row + A 0 := by rw [Int.mul_add, Int.mul_one]
  have xe : xn A = A 0 * A 1 := rfl
  by_cases q : row + 1 < A 1
  · have s := stAt_rng gs (x := x) (row := row + 1) hx ⟨by omega, q⟩
    have rr := plF_rng s.1 s.2.1 hw
    have xr : plF A (stAt A x (row + 1)) < xn A := rr.2.1
    rw [s.2.2] at xr
    rw [if_pos q, if_pos (by omega)]
    exact Or.inr ⟨⟨s.1, s.2.1⟩, by rw [s.2.2]; omega⟩
  · have a1 : row + 1 = A 1 := by omega
    rw [a1] at m
    rw [if_neg q, if_neg (by omega)]
    exact Or.inl ⟨rfl, rfl⟩
theorem edS_rt (gs : goodS A) (h0 : 0 ≤ i) (h1 : i < xn A) (hr : rtS A i ≠ -1) : (0 ≤ rtS A i ∧ rtS A i < xn A) ∧ (xH A i = xH A (rtS A i) → EdS A i (rtS A i)) := by
  have hw := xn_pos gs (by omega)
  rcases rtS_eq gs h0 h1 with z | z
  · exact absurd z.2 hr
  · refine ⟨z.1, fun e => ⟨⟨h0, h1⟩, z.1, ?_⟩⟩
    have p1 := plF_rng h0 h1 hw
    have p2 := plF_rng z.1.1 z.1.2 hw
    exact ⟨⟨p1.1, p1.2.1⟩, ⟨p2.1, p2.2.1⟩, Or.inl z.2, e⟩
theorem edS_dn (gs : goodS A) (h0 : 0 ≤ i) (h1 : i < xn A) (hr : dnS A i ≠ -1) : (0 ≤ dnS A i ∧ dnS A i < xn A) ∧ (xH A i = xH A (dnS A i) → EdS A i (dnS A i)) := by
  have hw := xn_pos gs (by omega)
  rcases dnS_eq gs h0 h1 with z | z
  · exact absurd z.2 hr
  · refine ⟨z.1, fun e => ⟨⟨h0, h1⟩, z.1, ?_⟩⟩
    have p1 := plF_rng h0 h1 hw
    have p2 := plF_rng z.1.1 z.1.2 hw
    exact ⟨⟨p1.1, p1.2.1⟩, ⟨p2.1, p2.2.1⟩, Or.inr z.2, e⟩
theorem edS_hue (e : EdS A i j) : xH A i = xH A j := e.2.2.2.2.2
theorem edS_cov (gs : goodS A) (e : EdS A i j) : j = rtS A i ∨ j = dnS A i := by
  obtain ⟨hi, hj, e1, e2, e3, e4⟩ := e
  rcases e3 with z | z
  · rcases rtS_eq gs hi.1 hi.2 with y | y
    · omega
    · exact Or.inl (pl_inj gs hj.1 hj.2 y.1.1 y.1.2 (by rw [y.2, z]))
  · rcases dnS_eq gs hi.1 hi.2 with y | y
    · omega
    · exact Or.inr (pl_inj gs hj.1 hj.2 y.1.1 y.1.2 (by rw [y.2, z]))
theorem edR_S (h : 0 ≤ xn A) : edR (xn A).toNat (EdS A) := fun i j e => ⟨⟨e.1.1, by have := e.1.2; omega⟩, e.2.1.1, by have := e.2.1.2; omega⟩
theorem edR_P (h : 0 ≤ xn A) : edR (xn A).toNat (EdP A) := fun i j e => ⟨⟨e.1.1, by have := e.1.2; omega⟩, e.2.1.1, by have := e.2.1.2; omega⟩
theorem edS_P (gs : goodS A) {p q : Int} (e : EdP A p q) : EdS A (stP A p) (stP A q) := by
  have a := stP_pl gs e.1.1 e.1.2
  have b := stP_pl gs e.2.1.1 e.2.1.2
  exact ⟨a.1, b.1, by rw [a.2, b.2]; exact e⟩
theorem pt_iff (gs : goodS A) (hg : labI (xn A).toNat (EdS A) g) (gf : labF (EdS A) g) (hf : labI (xn A).toNat (EdP A) f) (ff : labF (EdP A) f) (i0 : 0 ≤ i) (i1 : i < xn A) (j0 : 0 ≤ j) (j1 : j < xn A) : g i = g j ↔ f (plF A i) = f (plF A j) := by
  have hw := xn_pos gs (by omega)
  have pi := plF_rng i0 i1 hw
  have pj := plF_rng j0 j1 hw
  have xe : xn A = A 0 * A 1 := rfl
  constructor
  · intro e
    have a := hg.2 (fun x => f (plF A x)) (fun i j e => ff _ _ e.2.2) i i0 (by omega)
    have b := hg.2 (fun x => f (plF A x)) (fun i j e => ff _ _ e.2.2) j j0 (by omega)
    have a' : f (plF A (g i)) = f (plF A i) := a
    have b' : f (plF A (g j)) = f (plF A j) := b
    rw [← a', ← b', e]
  · intro e
    have a := hf.2 (fun x => g (stP A x)) (fun p q e => gf _ _ (edS_P gs e)) (plF A i) pi.1 (by omega)
    have b := hf.2 (fun x => g (stP A x)) (fun p q e => gf _ _ (edS_P gs e)) (plF A j) pj.1 (by omega)
    have a' : g (stP A (f (plF A i))) = g (stP A (plF A i)) := a
    have b' : g (stP A (f (plF A j))) = g (stP A (plF A j)) := b
    rw [pl_stP gs i0 i1] at a'
    rw [pl_stP gs j0 j1] at b'
    rw [← a', ← b', e]
theorem pt_cnt (gs : goodS A) (hn : 0 ≤ xn A) (hg : labI (xn A).toNat (EdS A) g) (gf : labF (EdS A) g) (hf : labI (xn A).toNat (EdP A) f) (ff : labF (EdP A) f) : sumN (fun i => if g i = i ∧ (c = -1 ∨ xH A i = c) then 1 else 0) (xn A).toNat = sumN (fun p => if f p = p ∧ (c = -1 ∨ A (28 + p) = c) then 1 else 0) (xn A).toNat := by
  have xe : xn A = A 0 * A 1 := rfl
  have hI := sumN_inj (h := fun i => if g i = i ∧ (c = -1 ∨ xH A i = c) then f (plF A i) else -1) (f := fun p => if f p = p ∧ (c = -1 ∨ A (28 + p) = c) then 1 else 0) (n := (xn A).toNat) (g := (xn A).toNat) (fun i j hi hj h0 e => by
    have e' : (if g i = i ∧ (c = -1 ∨ xH A i = c) then f (plF A i) else -1) = (if g j = j ∧ (c = -1 ∨ xH A j = c) then f (plF A j) else -1) := e
    have h0' : 0 ≤ (if g i = i ∧ (c = -1 ∨ xH A i = c) then f (plF A i) else -1) := h0
    by_cases q : g i = i ∧ (c = -1 ∨ xH A i = c)
    · rw [if_pos q] at e' h0'
      by_cases q2 : g j = j ∧ (c = -1 ∨ xH A j = c)
      · rw [if_pos q2] at e'
        have := (pt_iff gs hg gf hf ff (i := i) (j := j) (by omega) (by omega) (by omega) (by omega)).mpr e'
        omega
      · rw [if_neg q2] at e'
        omega
    · rw [if_neg q] at h0'
      omega) (fun i hi => by
    show (if g i = i ∧ (c = -1 ∨ xH A i = c) then f (plF A i) else -1) < _
    split
    · have hw := xn_pos gs (by omega)
      have pi := plF_rng (A := A) (i := i) (by omega) (by omega) hw
      have := hf.1 (plF A i) pi.1 (by omega)
      omega
    · omega)
  rw [hI]
  have z : sumN (fun x => if sumN (fun k => if (fun i => if g i = i ∧ (c = -1 ∨ xH A i = c) then f (plF A i) else -1) k = x then 1 else 0) (xn A).toNat = 0 then (fun p => if f p = p ∧ (c = -1 ∨ A (28 + p) = c) then (1 : Int) else 0) x else 0) (xn A).toNat = 0 := sumN_z fun x hx => by
    have st := stP_pl gs (p := x) (by omega) (by omega)
    by_cases q : f x = x ∧ (c = -1 ∨ A (28 + (x : Int)) = c)
    · rw [if_neg]
      have gk := hg.1 (stP A x) st.1.1 (by omega)
      have idem : g (g (stP A x)) = g (stP A x) := hg.2 g gf _ st.1.1 (by omega)
      have hue : xH A (g (stP A x)) = xH A (stP A x) := hg.2 (xH A) (fun i j e => edS_hue e) _ st.1.1 (by omega)
      have fe : f (plF A (g (stP A x))) = f (plF A (stP A x)) := hg.2 (fun y => f (plF A y)) (fun i j e => ff _ _ e.2.2) _ st.1.1 (by omega)
      have hx2 : xH A (stP A x) = A (28 + (x : Int)) := by show A (28 + plF A (stP A x)) = _; rw [st.2]
      have lt := sumN_ltI (f := fun _ => 0) (g := fun k => if (fun i => if g i = i ∧ (c = -1 ∨ xH A i = c) then f (plF A i) else -1) k = x then 1 else 0) (k := g (stP A x)) (n := (xn A).toNat) (fun i _ _ => by show (0 : Int) ≤ if _ then 1 else 0; split <;> omega) gk.1 (by omega) (by
        show (0 : Int) < if (if g (g (stP A x)) = g (stP A x) ∧ (c = -1 ∨ xH A (g (stP A x)) = c) then f (plF A (g (stP A x))) else -1) = x then 1 else 0
        rw [if_pos (c := g (g (stP A x)) = g (stP A x) ∧ (c = -1 ∨ xH A (g (stP A x)) = c)) ⟨idem, by rw [hue, hx2]; exact q.2⟩, fe, st.2, if_pos q.1]
        omega)
      rw [sumN_c] at lt
      omega
    · show (if _ then (if f x = x ∧ (c = -1 ∨ A (28 + (x : Int)) = c) then (1 : Int) else 0) else 0) = 0
      rw [if_neg q]
      split <;> rfl
  rw [z, Int.add_zero]
  refine sumN_congr fun k hk => ?_
  show _ = if 0 ≤ (if g k = k ∧ (c = -1 ∨ xH A k = c) then f (plF A k) else -1) then (if f (if g k = k ∧ (c = -1 ∨ xH A k = c) then f (plF A k) else -1) = (if g k = k ∧ (c = -1 ∨ xH A k = c) then f (plF A k) else -1) ∧ (c = -1 ∨ A (28 + (if g k = k ∧ (c = -1 ∨ xH A k = c) then f (plF A k) else -1)) = c) then (1 : Int) else 0) else 0
  by_cases q : g k = k ∧ (c = -1 ∨ xH A k = c)
  · have hw := xn_pos gs (by omega)
    have pi := plF_rng (A := A) (i := k) (by omega) (by omega) hw
    have fr := hf.1 (plF A k) pi.1 (by omega)
    have idem : f (f (plF A k)) = f (plF A k) := hf.2 f ff _ pi.1 (by omega)
    have hue : A (28 + f (plF A k)) = A (28 + plF A k) := hf.2 (fun y => A (28 + y)) (fun i j e => e.2.2.2) _ pi.1 (by omega)
    rw [if_pos q, if_pos q, if_pos fr.1, if_pos ⟨idem, by rw [hue]; exact q.2⟩]
  · rw [if_neg q, if_neg q, if_neg (by omega)]
end PTC
