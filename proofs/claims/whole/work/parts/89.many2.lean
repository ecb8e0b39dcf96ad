/-! LESSENED: the model's count, the same. -/
theorem sumN_app {f : Int → Int} {m : Nat} : ∀ {k : Nat}, sumN f (m + k) = sumN f m + sumN (fun i => f ((m : Int) + i)) k
  | 0 => by rw [sumN_0, Int.add_zero]; rfl
  | k + 1 => by
    have e : sumN f (m + (k + 1)) = sumN f (m + k) + f ((m + k : Nat) : Int) := rfl
    rw [e, sumN_app (k := k), sumN_s, Int.add_assoc]
    rfl
theorem sumN_rev : ∀ {n : Nat} {g : Int → Int}, sumN (fun t => g ((n : Int) - 1 - t)) n = sumN g n
  | 0, g => rfl
  | n + 1, g => by
    have ih := sumN_rev (n := n) (g := fun i => g (1 + i))
    have e := sumN_app (f := g) (m := 1) (k := n)
    rw [show 1 + n = n + 1 from by omega] at e
    rw [e, sumN_s]
    have e1 : sumN (fun t => g (((n + 1 : Nat) : Int) - 1 - t)) n = sumN (fun t => g (1 + ((n : Int) - 1 - t))) n := sumN_congr fun i hi => by rw [show ((n + 1 : Nat) : Int) - 1 - i = 1 + ((n : Int) - 1 - i) by omega]
    rw [e1, ih, show ((n + 1 : Nat) : Int) - 1 - (n : Int) = 0 by omega]
    have e2 : sumN g 1 = 0 + g 0 := rfl
    have e3 : sumN (fun i => g (((1 : Nat) : Int) + i)) n = sumN (fun i => g (1 + i)) n := rfl
    rw [e2, e3]
    omega
def cnM (A : Int → Int) (row : Int) (k : Nat) : Int → Int := fun c => sumN (fun x => if A (28 + (A 0 * row + x)) = c then 1 else 0) k
theorem cn_eq {A : Int → Int} {row c : Int} (gs : goodS A) (h0 : 0 ≤ row) (h1 : row < A 1) (hw : 0 < A 0) : cnC A row (xn A).toNat c = cnM A row (A 0).toNat c := by
  have g0 := gs.1
  have g1 := gs.2.1
  have b := row_in (r := row) (w := A 0) (h := A 1) h0 h1 g0.1 g0.2 g1.2
  have ex : xn A = A 1 * A 0 := Int.mul_comm _ _
  have cm : A 0 * row = row * A 0 := Int.mul_comm _ _
  have dv : ∀ i : Int, i / A 0 = row → row * A 0 ≤ i ∧ i < row * A 0 + A 0 := fun i hi => by
    have d := Int.mul_ediv_add_emod i (A 0)
    have m0 := Int.emod_nonneg i (show A 0 ≠ 0 from by omega)
    have m1 := Int.emod_lt_of_pos i hw
    rw [hi, cm] at d
    omega
  have dq : ∀ t : Int, 0 ≤ t → t < A 0 → (row * A 0 + t) / A 0 = row ∧ (row * A 0 + t) % A 0 = t := fun t t0 t1 => by
    have e1 : (row * A 0 + t) / A 0 = row := by
      rw [Int.add_comm, Int.add_mul_ediv_right _ _ (by omega), Int.ediv_eq_zero_of_lt t0 t1, Int.zero_add]
    have d := Int.mul_ediv_add_emod (row * A 0 + t) (A 0)
    rw [e1, cm] at d
    exact ⟨e1, by omega⟩
  unfold cnC cnM
  rw [sumN_split (f := fun i => if xR A i = row ∧ xH A i = c then 1 else 0) (n := (row * A 0).toNat + (A 0).toNat) (m := (xn A).toNat) (by omega) (fun i a1 a2 => if_neg fun z => by have := dv i z.1; omega)]
  rw [sumN_app, sumN_z (n := (row * A 0).toNat) (fun i hi => if_neg fun z => by have := dv i z.1; omega), Int.zero_add]
  have ea : (((row * A 0).toNat : Nat) : Int) = row * A 0 := by omega
  have ew : (((A 0).toNat : Nat) : Int) = A 0 := by omega
  by_cases q : A 14 = 0 ∧ row % 2 = 1
  · rw [← sumN_rev (n := (A 0).toNat) (g := fun x => if A (28 + (A 0 * row + x)) = c then 1 else 0)]
    refine sumN_congr fun t ht => ?_
    have d := dq t (by omega) (by omega)
    have pf : plF A (row * A 0 + t) = A 0 * row + (A 0 - 1 - t) := by
      unfold plF
      rw [d.1, d.2, if_pos q]
    have e1 : xR A (row * A 0 + t) = row := d.1
    rw [ea, ew]
    show (if xR A (row * A 0 + t) = row ∧ A (28 + plF A (row * A 0 + t)) = c then (1 : Int) else 0) = if A (28 + (A 0 * row + (A 0 - 1 - t))) = c then 1 else 0
    rw [pf]
    by_cases y : A (28 + (A 0 * row + (A 0 - 1 - t))) = c
    · rw [if_pos ⟨e1, y⟩, if_pos y]
    · rw [if_neg (fun w => y w.2), if_neg y]
  · refine sumN_congr fun t ht => ?_
    have d := dq t (by omega) (by omega)
    have pf : plF A (row * A 0 + t) = A 0 * row + t := by
      unfold plF
      rw [d.1, d.2, if_neg q]
    have e1 : xR A (row * A 0 + t) = row := d.1
    rw [ea]
    show (if xR A (row * A 0 + t) = row ∧ A (28 + plF A (row * A 0 + t)) = c then (1 : Int) else 0) = if A (28 + (A 0 * row + t)) = c then 1 else 0
    rw [pf]
    by_cases y : A (28 + (A 0 * row + t)) = c
    · rw [if_pos ⟨e1, y⟩, if_pos y]
    · rw [if_neg (fun w => y w.2), if_neg y]
