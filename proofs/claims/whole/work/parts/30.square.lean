/-! LEAST: the square matching's duals bound the matching's cost, and the other way. -/
theorem mul_le_canc {r A B : Int} (hr : 0 < r) (h : r * A ≤ r * B) : A ≤ B := Int.le_of_mul_le_mul_left h hr
/-- sets as 0, 1: equally many rows and columns left, each pair at most al -/
theorem left_le {p q s t : Int → Int} {al : Int} {n : Nat} (hs : ∀ k : Nat, k < n → s k = 0 ∨ s k = 1) (ht : ∀ k : Nat, k < n → t k = 0 ∨ t k = 1) (he : sumN s n = sumN t n) (hpq : ∀ k x : Nat, k < n → x < n → p k + q x ≤ al) : sumN (fun k => s k * p k) n + sumN (fun x => t x * q x) n ≤ sumN s n * al := by
  have hr0 : 0 ≤ sumN s n := sumN_nn fun i hi => by rcases hs i hi with h | h <;> omega
  by_cases hz : sumN s n = 0
  · have s0 : ∀ k : Nat, k < n → s k = 0 := by
      have key : ∀ m : Nat, m ≤ n → ∀ (f : Int → Int), (∀ k : Nat, k < n → f k = 0 ∨ f k = 1) → sumN f m = 0 → ∀ k : Nat, k < m → f k = 0 := by
        intro m
        induction m with
        | zero => intro _ f _ _ k hk; omega
        | succ m ih =>
          intro hm f hf h k hk
          have nn : 0 ≤ sumN f m := sumN_nn fun i hi => by rcases hf i (by omega) with h | h <;> omega
          rw [sumN_s] at h
          have e := hf m (by omega)
          rcases Nat.lt_succ_iff_lt_or_eq.mp hk with q | q
          · exact ih (by omega) f hf (by omega) k q
          · subst q; omega
      exact key n (Nat.le_refl n) s hs hz
    have t0 : ∀ k : Nat, k < n → t k = 0 := by
      have key : ∀ m : Nat, m ≤ n → ∀ (f : Int → Int), (∀ k : Nat, k < n → f k = 0 ∨ f k = 1) → sumN f m = 0 → ∀ k : Nat, k < m → f k = 0 := by
        intro m
        induction m with
        | zero => intro _ f _ _ k hk; omega
        | succ m ih =>
          intro hm f hf h k hk
          have nn : 0 ≤ sumN f m := sumN_nn fun i hi => by rcases hf i (by omega) with h | h <;> omega
          rw [sumN_s] at h
          have e := hf m (by omega)
          rcases Nat.lt_succ_iff_lt_or_eq.mp hk with q | q
          · exact ih (by omega) f hf (by omega) k q
          · subst q; omega
      exact key n (Nat.le_refl n) t ht (by omega)
    rw [sumN_z (fun k hk => by rw [s0 k hk, Int.zero_mul]), sumN_z (fun k hk => by rw [t0 k hk, Int.zero_mul]), hz, Int.zero_mul]
    exact Int.le_refl _
  · refine mul_le_canc (r := sumN s n) (by omega) ?_
    have e1 : sumN (fun k => sumN (fun x => s k * t x * (p k + q x)) n) n = sumN s n * (sumN (fun k => s k * p k) n + sumN (fun x => t x * q x) n) := by
      have e2 : ∀ k : Nat, k < n → sumN (fun x => s k * t x * (p k + q x)) n = s k * p k * sumN t n + s k * sumN (fun x => t x * q x) n := fun k hk => by
        have e3 : sumN (fun x => s k * t x * (p k + q x)) n = sumN (fun x => t x * (s k * p k) + t x * q x * s k) n := sumN_congr fun x _ => by
          rw [Int.mul_add, Int.mul_comm (s k) (t x), Int.mul_assoc, Int.mul_assoc, Int.mul_assoc, Int.mul_comm (s k) (q x)]
        rw [e3, sumN_add, sumN_mul, sumN_mul, Int.mul_comm (sumN t n), Int.mul_comm _ (s k)]
      rw [sumN_congr (g := fun k => s k * p k * sumN t n + s k * sumN (fun x => t x * q x) n) e2, sumN_add, sumN_mul, sumN_mul, ← he, Int.mul_add, Int.mul_comm (sumN (fun k => s k * p k) n)]
    rw [← e1]
    have e4 : sumN (fun k => sumN (fun x => s k * t x * al) n) n = sumN s n * (sumN s n * al) := by
      have e5 : ∀ k : Nat, k < n → sumN (fun x => s k * t x * al) n = s k * (sumN t n * al) := fun k hk => by
        have e6 : sumN (fun x => s k * t x * al) n = sumN (fun x => t x * (s k * al)) n := sumN_congr fun x _ => by
          rw [Int.mul_comm (s k) (t x), Int.mul_assoc]
        rw [e6, sumN_mul, ← Int.mul_assoc, ← Int.mul_assoc, Int.mul_comm (sumN t n) (s k)]
      rw [sumN_congr (g := fun k => s k * (sumN t n * al)) e5, sumN_mul, ← he]
    rw [← e4]
    refine sumN_mono fun k hk => sumN_mono fun x hx => ?_
    have e7 := hpq k x hk hx
    rcases hs k hk with z | z <;> rcases ht x hx with z2 | z2 <;> rw [z, z2] <;> omega
