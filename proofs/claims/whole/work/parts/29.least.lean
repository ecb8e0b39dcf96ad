/-! LEAST: what a matching costs, and that duals bound it. -/
/-- a matching: columns 1 to n, h k the goal of column k + 1 (below 0: none) -/
def matchF (h : Int → Int) (n g : Nat) : Prop := (∀ i j : Nat, i < n → j < n → 0 ≤ h i → h i = h j → i = j) ∧ ∀ i : Nat, i < n → h i < g
/-- its cost: a x k what goal x costs by column k + 1, al what a goal alone costs -/
def costM (a : Int → Int → Int) (al : Int) (h : Int → Int) (n g : Nat) : Int := sumN (fun k => if 0 ≤ h k then a (h k) k else 0) n + sumN (fun x => if sumN (fun k => if h k = x then 1 else 0) n = 0 then al else 0) g
theorem least_dual {a : Int → Int → Int} {al : Int} {u v h : Int → Int} {n g : Nat} (hm : matchF h n g) (hv : ∀ k : Nat, k < n → v k ≤ 0) (hu : ∀ x : Nat, x < g → u x ≤ al) (ha : ∀ x k : Nat, x < g → k < n → u x + v k ≤ a x k) : sumN u g + sumN v n ≤ costM a al h n g := by
  rw [sumN_inj (f := u) hm.1 hm.2]
  unfold costM
  have h1 : sumN (fun k => if 0 ≤ h k then u (h k) else 0) n + sumN v n ≤ sumN (fun k => if 0 ≤ h k then a (h k) k else 0) n := by
    rw [← sumN_add]
    refine sumN_mono fun k hk => ?_
    by_cases q : 0 ≤ h k
    · rw [if_pos q, if_pos q]
      have e := ha (h k).toNat k (by have := hm.2 k hk; omega) hk
      rw [Int.toNat_of_nonneg q] at e
      exact e
    · rw [if_neg q, if_neg q]
      have := hv k hk
      omega
  have h2 : sumN (fun x => if sumN (fun k => if h k = x then 1 else 0) n = 0 then u x else 0) g ≤ sumN (fun x => if sumN (fun k => if h k = x then 1 else 0) n = 0 then al else 0) g := sumN_mono fun x hx => by
    split
    · exact hu x hx
    · exact Int.le_refl _
  omega
theorem least_tight {a : Int → Int → Int} {al : Int} {u v h : Int → Int} {n g : Nat} (hm : matchF h n g) (hv : ∀ k : Nat, k < n → h k < 0 → v k = 0) (hu : ∀ x : Nat, x < g → sumN (fun k => if h k = (x : Int) then 1 else 0) n = 0 → u x = al) (ha : ∀ k : Nat, k < n → 0 ≤ h k → u (h k) + v k = a (h k) k) : sumN u g + sumN v n = costM a al h n g := by
  rw [sumN_inj (f := u) hm.1 hm.2]
  unfold costM
  have h1 : sumN (fun k => if 0 ≤ h k then u (h k) else 0) n + sumN v n = sumN (fun k => if 0 ≤ h k then a (h k) k else 0) n := by
    rw [← sumN_add]
    refine sumN_congr fun k hk => ?_
    by_cases q : 0 ≤ h k
    · rw [if_pos q, if_pos q]
      exact ha k hk q
    · rw [if_neg q, if_neg q, hv k hk (by omega)]
      rfl
  have h2 : sumN (fun x => if sumN (fun k => if h k = x then 1 else 0) n = 0 then u x else 0) g = sumN (fun x => if sumN (fun k => if h k = x then 1 else 0) n = 0 then al else 0) g := sumN_congr fun x hx => by
    by_cases q : sumN (fun k => if h k = (x : Int) then 1 else 0) n = 0
    · rw [if_pos q, if_pos q, hu x hx q]
    · rw [if_neg q, if_neg q]
  omega
