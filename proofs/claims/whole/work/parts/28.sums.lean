/-! SUMS. -/
theorem sumN_congr {f g : Int → Int} : ∀ {n : Nat}, (∀ i : Nat, i < n → f i = g i) → sumN f n = sumN g n
  | 0, _ => rfl
  | n + 1, h => by rw [sumN_s, sumN_s, sumN_congr (fun i hi => h i (Nat.lt_succ_of_lt hi)), h n (Nat.lt_succ_self n)]
theorem sumN_mono {f g : Int → Int} : ∀ {n : Nat}, (∀ i : Nat, i < n → f i ≤ g i) → sumN f n ≤ sumN g n
  | 0, _ => Int.le_refl _
  | n + 1, h => by
    have h1 := sumN_mono (fun i hi => h i (Nat.lt_succ_of_lt hi))
    have h2 := h n (Nat.lt_succ_self n)
    rw [sumN_s, sumN_s]
    omega
theorem sumN_add {f g : Int → Int} : ∀ {n : Nat}, sumN (fun i => f i + g i) n = sumN f n + sumN g n
  | 0 => rfl
  | n + 1 => by
    rw [sumN_s, sumN_s, sumN_s, sumN_add]
    omega
theorem sumN_sub {f g : Int → Int} : ∀ {n : Nat}, sumN (fun i => f i - g i) n = sumN f n - sumN g n
  | 0 => rfl
  | n + 1 => by
    rw [sumN_s, sumN_s, sumN_s, sumN_sub]
    omega
theorem sumN_mul {f : Int → Int} {a : Int} : ∀ {n : Nat}, sumN (fun i => f i * a) n = sumN f n * a
  | 0 => by rw [sumN_0, sumN_0, Int.zero_mul]
  | n + 1 => by rw [sumN_s, sumN_s, sumN_mul, Int.add_mul]
theorem sumN_c {a : Int} : ∀ {n : Nat}, sumN (fun _ => a) n = n * a
  | 0 => by rw [sumN_0]; exact (Int.zero_mul a).symm
  | n + 1 => by rw [sumN_s, sumN_c, nc_s, Int.add_mul, Int.one_mul]
theorem sumN_z {f : Int → Int} {n : Nat} (h : ∀ i : Nat, i < n → f i = 0) : sumN f n = 0 := by
  rw [sumN_congr (g := fun _ => 0) h, sumN_c, Int.mul_zero]
theorem sumN_comm {F : Int → Int → Int} {m : Nat} : ∀ {n : Nat}, sumN (fun i => sumN (fun j => F i j) m) n = sumN (fun j => sumN (fun i => F i j) n) m
  | 0 => by rw [sumN_0, sumN_z (fun i _ => sumN_0)]
  | n + 1 => by
    rw [sumN_s, sumN_comm, ← sumN_add]
    exact sumN_congr fun i _ => by rw [sumN_s]
theorem sumN_one {f : Int → Int} {a : Int} : ∀ {n : Nat}, sumN (fun i => if i = a then f i else 0) n = if 0 ≤ a ∧ a < n then f a else 0
  | 0 => by
    rw [sumN_0, if_neg (by omega)]
  | n + 1 => by
    rw [sumN_s, sumN_one]
    by_cases q : (n : Int) = a
    · subst q
      rw [if_neg (by omega), if_pos rfl, if_pos (by omega)]
      omega
    · rw [if_neg q]
      by_cases q2 : 0 ≤ a ∧ a < n
      · rw [if_pos q2, if_pos (by omega)]
        omega
      · rw [if_neg q2, if_neg (by omega)]
        rfl
theorem sumN_nn {f : Int → Int} {n : Nat} (h : ∀ i : Nat, i < n → 0 ≤ f i) : 0 ≤ sumN f n := by
  have h1 := sumN_mono (f := fun _ => 0) (g := f) h
  rw [sumN_c, Int.mul_zero] at h1
  exact h1
/-- a partial injection h of columns into goals: what the goals give together is what the columns' goals give, and the rest -/
theorem sumN_inj {h f : Int → Int} {n g : Nat} (hi : ∀ i j : Nat, i < n → j < n → 0 ≤ h i → h i = h j → i = j) (hr : ∀ i : Nat, i < n → h i < g) : sumN f g = sumN (fun k => if 0 ≤ h k then f (h k) else 0) n + sumN (fun x => if sumN (fun k => if h k = x then 1 else 0) n = 0 then f x else 0) g := by
  have h1 : sumN (fun k => if 0 ≤ h k then f (h k) else 0) n = sumN (fun k => sumN (fun x => if x = h k then f x else 0) g) n := sumN_congr fun k hk => by
    rw [sumN_one]
    by_cases q : 0 ≤ h k
    · rw [if_pos q, if_pos ⟨q, hr k hk⟩]
    · rw [if_neg q, if_neg (fun z => q z.1)]
  rw [h1, sumN_comm, ← sumN_add]
  refine sumN_congr fun x hx => ?_
  have key : ∀ m : Nat, m ≤ n → sumN (fun k => if (x : Int) = h k then f x else 0) m = if sumN (fun k => if h k = (x : Int) then 1 else 0) m = 0 then 0 else f x := by
    intro m
    induction m with
    | zero => intro _; rfl
    | succ m ih =>
      intro hm
      rw [sumN_s, sumN_s, ih (by omega)]
      by_cases q : h m = x
      · have z : sumN (fun k => if h k = (x : Int) then 1 else 0) m = 0 := sumN_z fun i hi2 => by
          rw [if_neg]
          intro q2
          have := hi i m (by omega) (by omega) (by omega) (by omega)
          omega
        rw [if_pos z, if_pos q.symm, if_pos q, z, if_neg (by omega)]
        omega
      · rw [if_neg (c := (x : Int) = h m) (fun e => q e.symm), if_neg (c := h m = (x : Int)) q, Int.add_zero, Int.add_zero]
  rw [key n (Nat.le_refl n)]
  split <;> omega
