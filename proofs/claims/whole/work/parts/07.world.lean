/-! The pure world over the machine's heap. -/
/-! numbers -/
theorem n_rng (x : Int32) : -2147483648 ≤ x.toInt ∧ x.toInt < 2147483648 := by
  have h1 := x.le_toInt
  have h2 := x.toInt_lt
  omega
theorem n_rngL (x : Int64) : -9223372036854775808 ≤ x.toInt ∧ x.toInt < 9223372036854775808 := by
  have h1 := x.le_toInt
  have h2 := x.toInt_lt
  omega
theorem n_of {z : Int} (h : -2147483648 ≤ z ∧ z < 2147483648) : (Int32.ofInt z).toInt = z := Int32.toInt_ofInt_of_le (by have := h.1; omega) (by have := h.2; omega)
theorem n_ofL {z : Int} (h : -9223372036854775808 ≤ z ∧ z < 9223372036854775808) : (Int64.ofInt z).toInt = z := Int64.toInt_ofInt_of_le (by have := h.1; omega) (by have := h.2; omega)
theorem n_to (x : Int32) : Int32.ofInt x.toInt = x := Int32.ofInt_toInt x
theorem n_toL (x : Int64) : Int64.ofInt x.toInt = x := Int64.ofInt_toInt x
theorem w32_rng (z : Int) : -2147483648 ≤ w32 z ∧ w32 z < 2147483648 := by
  unfold w32
  have h1 := Int.le_bmod (x := z) (m := 4294967296) (by decide)
  have h2 := Int.bmod_lt (x := z) (m := 4294967296) (by decide)
  omega
theorem w64_rng (z : Int) : -9223372036854775808 ≤ w64 z ∧ w64 z < 9223372036854775808 := by
  unfold w64
  have h1 := Int.le_bmod (x := z) (m := 18446744073709551616) (by decide)
  have h2 := Int.bmod_lt (x := z) (m := 18446744073709551616) (by decide)
  omega
theorem n_w32 (z : Int) : Int32.ofInt (w32 z) = Int32.ofInt z := by
  refine Int32.toInt_inj.mp ?_
  rw [n_of (w32_rng z), Int32.toInt_ofInt]
  rfl
theorem n_w64 (z : Int) : Int64.ofInt (w64 z) = Int64.ofInt z := by
  refine Int64.toInt_inj.mp ?_
  rw [n_ofL (w64_rng z), Int64.toInt_ofInt]
  rfl
theorem n_eq {a b : Int} (ha : -2147483648 ≤ a ∧ a < 2147483648) (hb : -2147483648 ≤ b ∧ b < 2147483648) : Int32.ofInt a = Int32.ofInt b ↔ a = b :=
  ⟨fun h => by have := congrArg Int32.toInt h; rwa [n_of ha, n_of hb] at this, fun h => by rw [h]⟩
theorem n_lt {a b : Int} (ha : -2147483648 ≤ a ∧ a < 2147483648) (hb : -2147483648 ≤ b ∧ b < 2147483648) : Int32.ofInt a < Int32.ofInt b ↔ a < b := by
  rw [Int32.lt_iff_toInt_lt, n_of ha, n_of hb]
theorem n_le {a b : Int} (ha : -2147483648 ≤ a ∧ a < 2147483648) (hb : -2147483648 ≤ b ∧ b < 2147483648) : Int32.ofInt a ≤ Int32.ofInt b ↔ a ≤ b := by
  rw [Int32.le_iff_toInt_le, n_of ha, n_of hb]
theorem n_eqL {a b : Int} (ha : -9223372036854775808 ≤ a ∧ a < 9223372036854775808) (hb : -9223372036854775808 ≤ b ∧ b < 9223372036854775808) : Int64.ofInt a = Int64.ofInt b ↔ a = b :=
  ⟨fun h => by have := congrArg Int64.toInt h; rwa [n_ofL ha, n_ofL hb] at this, fun h => by rw [h]⟩
theorem n_ltL {a b : Int} (ha : -9223372036854775808 ≤ a ∧ a < 9223372036854775808) (hb : -9223372036854775808 ≤ b ∧ b < 9223372036854775808) : Int64.ofInt a < Int64.ofInt b ↔ a < b := by
  rw [Int64.lt_iff_toInt_lt, n_ofL ha, n_ofL hb]
theorem n_0 : Int32.ofInt 0 = 0 := rfl
theorem n_0L : Int64.ofInt 0 = 0 := rfl
/-- an index in range -/
theorem n_ix {j : Int} {n : Nat} (h0 : 0 ≤ j) (h1 : j < n) (hn : n ≤ 1000000) : vp_in (Int32.ofInt j) n ∧ (Int32.ofInt j).toNatClampNeg = j.toNat ∧ ((j.toNat : Nat) : Int) = j := by
  have hr : -2147483648 ≤ j ∧ j < 2147483648 := by omega
  refine ⟨vp_in_iff.mpr ?_, ?_, Int.toNat_of_nonneg h0⟩
  · rw [n_of hr]; exact ⟨h0, h1⟩
  · rw [← Int32.toNat_toInt, n_of hr]
theorem n_clamp {j : Int} (h0 : 0 ≤ j) (h1 : j ≤ 1000000) : (Int32.ofInt j).toNatClampNeg = j.toNat ∧ ¬ Int32.ofInt j < 0 := by
  have hr : -2147483648 ≤ j ∧ j < 2147483648 := by omega
  refine ⟨by rw [← Int32.toNat_toInt, n_of hr], fun h => ?_⟩
  rw [← n_0, n_lt hr (by omega)] at h
  omega
/-! what is well -/
def okV (SC : Prop) (n : Nat) : PV → Prop
  | .inl z => -2147483648 ≤ z ∧ z < 2147483648
  | .inr (.inl z) => -9223372036854775808 ≤ z ∧ z < 9223372036854775808
  | .inr (.inr (.inl none)) => True
  | .inr (.inr (.inl (some a))) => a < n
  | .inr (.inr (.inr k)) => k < 21 ∨ (k = 1000 ∧ SC)
def okS (SC : Prop) (n : Nat) (st : List PV) : Prop := ∀ v ∈ st, okV SC n v
def okL (SC : Prop) (n : Nat) (ls : PLS) : Prop := ∀ (k : Nat) (v : PV), lgt ls k = some v → okV SC n v
def okC (k j : Nat) (z : Int) : Prop := (if k < 100 then fty k j else k) = 0 ∧ (-2147483648 ≤ z ∧ z < 2147483648) ∨ (if k < 100 then fty k j else k) = 1 ∧ (-9223372036854775808 ≤ z ∧ z < 9223372036854775808) ∨ (if k < 100 then fty k j else k) = 3 ∧ (0 ≤ z ∧ z < 2) ∨ (if k < 100 then fty k j else k) = 2
  ∨ (if k < 100 then fty k j else k) = 100 ∧ (-2147483648 ≤ z ∧ z < 2147483648) ∨ (if k < 100 then fty k j else k) = 101 ∧ (-9223372036854775808 ≤ z ∧ z < 9223372036854775808) ∨ (if k < 100 then fty k j else k) = 102 ∧ (-128 ≤ z ∧ z < 128) ∨ (if k < 100 then fty k j else k) = 103 ∧ (0 ≤ z ∧ z < 2) ∨ 104 ≤ (if k < 100 then fty k j else k)
def okE (n : Nat) (e : SE) : Prop := (∀ (k r : Nat), e.2.2.getD k none = some r → r < n) ∧ e.2.1 ≤ 1000000 ∧ ((e.1 < 13 ∧ e.2.1 = cN e.1 ∧ e.2.2.length = e.2.1) ∨ (100 ≤ e.1 ∧ e.1 < 104) ∨ (104 ≤ e.1 ∧ e.1 < 106 ∧ e.2.2.length = e.2.1))
def okSh (Sh : List SE) : Prop := ∀ (a : Nat) (e : SE), Sh[a]? = some e → okE Sh.length e
def okM (Sh : List SE) (M : Mem) : Prop := ∀ (a : Nat) (e : SE), Sh[a]? = some e → ∀ j : Nat, j < e.2.1 → okC e.1 j (M a j)
theorem okV.mono {SC : Prop} {n n' : Nat} (h : n ≤ n') {v : PV} (hv : okV SC n v) : okV SC n' v := by
  rcases v with z | z | q | k
  · exact hv
  · exact hv
  · cases q with
    | none => trivial
    | some a => exact Nat.lt_of_lt_of_le hv h
  · exact hv
theorem okS.cons {SC : Prop} {n : Nat} {v : PV} {st : List PV} (h1 : okV SC n v) (h2 : okS SC n st) : okS SC n (v :: st) := fun w hw => by
  rcases List.mem_cons.mp hw with rfl | h
  · exact h1
  · exact h2 w h
theorem okS.hd {SC : Prop} {n : Nat} {v : PV} {st : List PV} (h : okS SC n (v :: st)) : okV SC n v := h v List.mem_cons_self
theorem okS.tl {SC : Prop} {n : Nat} {v : PV} {st : List PV} (h : okS SC n (v :: st)) : okS SC n st := fun w hw => h w (List.mem_cons_of_mem _ hw)
theorem okS.mono {SC : Prop} {n n' : Nat} {st : List PV} (h : n ≤ n') (hs : okS SC n st) : okS SC n' st := fun v hv => (hs v hv).mono h
theorem okL.mono {SC : Prop} {n n' : Nat} {ls : PLS} (h : n ≤ n') (hs : okL SC n ls) : okL SC n' ls := fun k v hv => (hs k v hv).mono h
/-! locals -/
theorem lgt_lset {ls : PLS} {k j : Nat} {v : Option PV} : lgt (lset ls k v) j = if j = k ∧ k < ls.length then v else lgt ls j := by
  induction ls generalizing k j with
  | nil => simp [lset, lgt]
  | cons o l ih =>
    cases k with
    | zero => cases j with
      | zero => simp [lset, lgt]
      | succ j => simp [lset, lgt]
    | succ k => cases j with
      | zero => simp [lset, lgt]
      | succ j => simp [lset, lgt, ih]
theorem lset_len {ls : PLS} {k : Nat} {v : Option PV} : (lset ls k v).length = ls.length := by
  induction ls generalizing k with
  | nil => rfl
  | cons o l ih => cases k <;> simp [lset, ih]
theorem lclr_succ {ls : PLS} {k : Nat} : lclr ls (k + 1) = (match lgt ls k with | some (.inr (.inl _)) => lset ls k none | _ => ls) := rfl
theorem lclr_len {ls : PLS} {k : Nat} : (lclr ls k).length = ls.length := by
  cases k with
  | zero => rfl
  | succ k => rw [lclr_succ]; split <;> first | rfl | exact lset_len
theorem lgt_lclr {ls : PLS} {k j : Nat} {v : PV} (h : lgt (lclr ls k) j = some v) : lgt ls j = some v ∧ ¬ (j + 1 = k ∧ ∃ z, v = vL z) := by
  cases k with
  | zero => exact ⟨h, fun q => by omega⟩
  | succ k =>
    rw [lclr_succ] at h
    split at h
    · rename_i z hz
      rw [lgt_lset] at h
      split at h
      · cases h
      · rename_i hn
        refine ⟨h, fun q => hn ⟨by omega, ?_⟩⟩
        rcases Nat.lt_or_ge k ls.length with q2 | q2
        · exact q2
        · exfalso
          have : ∀ (l : PLS) (k : Nat), l.length ≤ k → lgt l k = none := by
            intro l
            induction l with
            | nil => intro k _; rfl
            | cons o l ih => intro k hk; cases k with
              | zero => simp at hk
              | succ k => exact ih k (by simpa using hk)
          rw [this ls k q2] at hz
          cases hz
    · rename_i hz
      refine ⟨h, fun q => ?_⟩
      obtain ⟨q1, z, rfl⟩ := q
      have : j = k := by omega
      subst this
      exact hz z h
theorem lst1_len {ls : PLS} {k : Nat} {v : PV} : (lst1 ls k v).length = ls.length := by simp [lst1, lset_len, lclr_len]
theorem lst2_len {ls : PLS} {k : Nat} {v : PV} : (lst2 ls k v).length = ls.length := by simp [lst2, lset_len, lclr_len]
theorem lgt_lst1 {ls : PLS} {k j : Nat} {v w : PV} (h : lgt (lst1 ls k v) j = some w) : (j = k ∧ w = v) ∨ (j ≠ k ∧ lgt ls j = some w ∧ ¬ (j + 1 = k ∧ ∃ z, w = vL z)) := by
  unfold lst1 at h
  rw [lgt_lset] at h
  split at h
  · rename_i q
    exact Or.inl ⟨q.1, (Option.some.inj h).symm⟩
  · rename_i q
    obtain ⟨h1, h2⟩ := lgt_lclr h
    by_cases e : j = k
    · exfalso
      subst e
      have : ∀ (l : PLS) (k : Nat), l.length ≤ k → lgt l k = none := by
        intro l
        induction l with
        | nil => intro k _; rfl
        | cons o l ih => intro k hk; cases k with
          | zero => simp at hk
          | succ k => exact ih k (by simpa using hk)
      rw [this ls j (by rw [lclr_len] at q; omega)] at h1
      cases h1
    · exact Or.inr ⟨e, h1, h2⟩
theorem lgt_lst2 {ls : PLS} {k j : Nat} {v w : PV} (h : lgt (lst2 ls k v) j = some w) : (j = k ∧ w = v) ∨ (j ≠ k ∧ j ≠ k + 1 ∧ lgt ls j = some w ∧ ¬ (j + 1 = k ∧ ∃ z, w = vL z)) := by
  unfold lst2 at h
  rw [lgt_lset] at h
  split at h
  · cases h
  · rename_i q
    rcases lgt_lst1 (show lgt (lst1 ls k v) j = some w from h) with h1 | ⟨h1, h2, h3⟩
    · exact Or.inl h1
    · by_cases e : j = k + 1
      · exfalso
        subst e
        have : ∀ (l : PLS) (k : Nat), l.length ≤ k → lgt l k = none := by
          intro l
          induction l with
          | nil => intro k _; rfl
          | cons o l ih => intro k hk; cases k with
            | zero => simp at hk
            | succ k => exact ih k (by simpa using hk)
        rw [lset_len, lclr_len] at q
        rw [this ls (k + 1) (by omega)] at h2
        cases h2
      · exact Or.inr ⟨h1, e, h2, h3⟩
/-! values -/
def trv (ad adK : Nat → Nat) : PV → Value
  | .inl z => .int (Int32.ofInt z)
  | .inr (.inl z) => .long (Int64.ofInt z)
  | .inr (.inr (.inl q)) => va_rf (q.map ad)
  | .inr (.inr (.inr k)) => .ref (adK k)
theorem trv_ad {SC : Prop} {n : Nat} {ad ad' adK : Nat → Nat} (h : ∀ i, i < n → ad' i = ad i) {v : PV} (hv : okV SC n v) : trv ad' adK v = trv ad adK v := by
  rcases v with z | z | q | k
  · rfl
  · rfl
  · cases q with
    | none => rfl
    | some a => show va_rf (some (ad' a)) = va_rf (some (ad a)); rw [h a hv]
  · rfl
theorem trv_map {SC : Prop} {n : Nat} {ad ad' adK : Nat → Nat} (h : ∀ i, i < n → ad' i = ad i) {st : List PV} (hv : okS SC n st) : st.map (trv ad' adK) = st.map (trv ad adK) := List.map_congr_left fun v hm => trv_ad h (hv v hm)
theorem trv_cat (ad adK : Nat → Nat) (v : PV) : (trv ad adK v).category = 2 ↔ ∃ z, v = vL z := by
  rcases v with z | z | q | k
  · simp [trv, Value.category]
  · simp [trv, Value.category]
  · cases q <;> simp [trv, va_rf, Value.category]
  · simp [trv, Value.category]
/-- the locals as the kit lists them -/
def LV (ad adK : Nat → Nat) (ls : PLS) : List (Nat × Value) := (List.range ls.length).filterMap fun k => (lgt ls k).map fun v => (k, trv ad adK v)
theorem lgt_lt {ls : PLS} {k : Nat} {v : PV} (h : lgt ls k = some v) : k < ls.length := by
  induction ls generalizing k with
  | nil => cases h
  | cons o l ih => cases k with
    | zero => simp
    | succ k => have := ih (k := k) h; simp; exact this
theorem LV_mem {ad adK : Nat → Nat} {ls : PLS} {q : Nat × Value} : q ∈ LV ad adK ls ↔ ∃ v, lgt ls q.1 = some v ∧ q.2 = trv ad adK v := by
  unfold LV
  rw [List.mem_filterMap]
  constructor
  · rintro ⟨k, -, h⟩
    cases hl : lgt ls k with
    | none => rw [hl] at h; cases h
    | some v =>
      rw [hl] at h
      cases h
      exact ⟨v, hl, rfl⟩
  · rintro ⟨v, h1, h2⟩
    exact ⟨q.1, List.mem_range.mpr (lgt_lt h1), by rw [h1]; simp [← h2]⟩
theorem lvh_mono {lsA : Array Slot} {n : Nat} {l l' : List (Nat × Value)} (h : lv_has lsA n l) (hs : ∀ q ∈ l', q ∈ l) : lv_has lsA n l' := ⟨h.1, h.2.1, fun q hq => h.2.2 q (hs q hq)⟩
theorem LV_at {lsA : Array Slot} {n : Nat} {ad adK : Nat → Nat} {ls : PLS} (h : lv_has lsA n (LV ad adK ls)) {k : Nat} {v : PV} (hk : lgt ls k = some v) : lsA[k]? = some (.val (trv ad adK v)) := h.2.2 (k, trv ad adK v) (LV_mem.mpr ⟨v, hk, rfl⟩)
theorem LV_st1 {lsA : Array Slot} {n : Nat} {ad adK : Nat → Nat} {ls : PLS} {k : Nat} {v : PV} (h : lv_has lsA n ((k, trv ad adK v) :: (LV ad adK ls).filter (fun q => !(q.1 == k) && !(q.1 + 1 == k && q.2.category == 2)))) : lv_has lsA n (LV ad adK (lst1 ls k v)) := by
  refine lvh_mono h fun q hq => ?_
  obtain ⟨w, h1, h2⟩ := LV_mem.mp hq
  rcases lgt_lst1 h1 with ⟨e1, e2⟩ | ⟨n1, e2, n3⟩
  · obtain ⟨q1, q2⟩ := q
    simp only at e1 h2
    subst e1; subst e2; subst h2
    exact List.mem_cons_self
  · refine List.mem_cons_of_mem _ (List.mem_filter.mpr ⟨LV_mem.mpr ⟨w, e2, h2⟩, ?_⟩)
    simp only [Bool.and_eq_true, Bool.not_eq_true', beq_eq_false_iff_ne, Bool.and_eq_false_iff]
    refine ⟨n1, ?_⟩
    by_cases e : q.1 + 1 = k
    · refine Or.inr fun hc => n3 ⟨e, ?_⟩
      rw [h2] at hc
      exact (trv_cat ad adK w).mp hc
    · exact Or.inl e
theorem LV_st2 {lsA : Array Slot} {n : Nat} {ad adK : Nat → Nat} {ls : PLS} {k : Nat} {v : PV} (h : lv_has lsA n ((k, trv ad adK v) :: (LV ad adK ls).filter (fun q => !(q.1 == k) && (!(q.1 == k + 1) && !(q.1 + 1 == k && q.2.category == 2))))) : lv_has lsA n (LV ad adK (lst2 ls k v)) := by
  refine lvh_mono h fun q hq => ?_
  obtain ⟨w, h1, h2⟩ := LV_mem.mp hq
  rcases lgt_lst2 h1 with ⟨e1, e2⟩ | ⟨n1, n2, e2, n3⟩
  · obtain ⟨q1, q2⟩ := q
    simp only at e1 h2
    subst e1; subst e2; subst h2
    exact List.mem_cons_self
  · refine List.mem_cons_of_mem _ (List.mem_filter.mpr ⟨LV_mem.mpr ⟨w, e2, h2⟩, ?_⟩)
    simp only [Bool.and_eq_true, Bool.not_eq_true', beq_eq_false_iff_ne, Bool.and_eq_false_iff]
    refine ⟨n1, n2, ?_⟩
    by_cases e : q.1 + 1 = k
    · refine Or.inr fun hc => n3 ⟨e, ?_⟩
      rw [h2] at hc
      exact (trv_cat ad adK w).mp hc
    · exact Or.inl e
theorem okL_st1 {SC : Prop} {n : Nat} {ls : PLS} {k : Nat} {v : PV} (h : okL SC n ls) (hv : okV SC n v) : okL SC n (lst1 ls k v) := fun j w hw => by
  rcases lgt_lst1 hw with ⟨-, rfl⟩ | ⟨-, h2, -⟩
  · exact hv
  · exact h j w h2
theorem okL_st2 {SC : Prop} {n : Nat} {ls : PLS} {k : Nat} {v : PV} (h : okL SC n ls) (hv : okV SC n v) : okL SC n (lst2 ls k v) := fun j w hw => by
  rcases lgt_lst2 hw with ⟨-, rfl⟩ | ⟨-, -, h2, -⟩
  · exact hv
  · exact h j w h2
theorem LV_ad {SC : Prop} {n : Nat} {ad ad' adK : Nat → Nat} (h : ∀ i, i < n → ad' i = ad i) {ls : PLS} (hl : okL SC n ls) : LV ad' adK ls = LV ad adK ls := by
  unfold LV
  congr 1
  funext k
  cases hk : lgt ls k with
  | none => rfl
  | some v => simp only [Option.map_some]; rw [trv_ad h (hl k v hk)]
/-! the world -/
def fvl (ad : Nat → Nat) (t : Nat) (q : Option Nat) (z : Int) : Value := match t with
  | 1 => .long (Int64.ofInt z)
  | 2 => va_rf (q.map ad)
  | _ => .int (Int32.ofInt z)
def ent (cA : Nat → ClassId) (ad : Nat → Nat) (e : SE) (m : Int → Int) : va_E :=
  if e.1 < 100 then .inr (e.1, (List.range e.2.1).map fun j => fvl ad (fty e.1 j) (e.2.2.getD j none) (m j))
  else if e.1 = 101 then .inl (cA 1, e.2.1, .inr (.inl fun j => Int64.ofInt (m j)))
  else if e.1 = 104 ∨ e.1 = 105 then .inl (cA (e.1 - 100), e.2.1, .inr (.inr (.inr (.inr fun j => (e.2.2.getD j none).map ad))))
  else .inl (cA (e.1 - 100), e.2.1, .inl fun j => Int32.ofInt (m j))
def eno : SE := (999, 0, [])
def wd (cA : Nat → ClassId) (ad : Nat → Nat) (Sh : List SE) (M : Mem) : va_W := (List.range Sh.length).map fun i => (ad i, ent cA ad (Sh.getD i eno) (M i))
theorem wd_len {cA : Nat → ClassId} {ad : Nat → Nat} {Sh : List SE} {M : Mem} : (wd cA ad Sh M).length = Sh.length := by simp [wd]
theorem wd_get {cA : Nat → ClassId} {ad : Nat → Nat} {Sh : List SE} {M : Mem} {a : Nat} {e : SE} (h : Sh[a]? = some e) : (wd cA ad Sh M)[a]? = some (ad a, ent cA ad e (M a)) := by
  have hl := (List.getElem?_eq_some_iff.mp h).1
  have h2 : Sh.getD a eno = e := by rw [List.getD_eq_getElem?_getD, h]; rfl
  unfold wd
  rw [List.getElem?_map, List.getElem?_range hl]
  show some (ad a, ent cA ad (Sh.getD a eno) (M a)) = _
  rw [h2]
theorem wd_set {cA : Nat → ClassId} {ad : Nat → Nat} {Sh Sh' : List SE} {M M' : Mem} {a : Nat} {e : SE} (hl : Sh'.length = Sh.length) (ha : a < Sh.length) (he : Sh'[a]? = some e) (ho : ∀ i, i ≠ a → Sh'[i]? = Sh[i]?) (hM : ∀ i, i ≠ a → M' i = M i) : (wd cA ad Sh M).set a (ad a, ent cA ad e (M' a)) = wd cA ad Sh' M' := by
  refine List.ext_getElem? fun i => ?_
  by_cases h : i = a
  · subst h
    rw [List.getElem?_set_self (by rw [wd_len]; exact ha), wd_get he]
  · rw [List.getElem?_set_ne (fun q => h q.symm)]
    cases hi : Sh[i]? with
    | none =>
      have h1 : Sh.length ≤ i := List.getElem?_eq_none_iff.mp hi
      rw [List.getElem?_eq_none (by rw [wd_len]; exact h1), List.getElem?_eq_none (by rw [wd_len, hl]; exact h1)]
    | some e' =>
      rw [wd_get hi, wd_get (by rw [ho i h]; exact hi), hM i h]
theorem ent_ad {cA : Nat → ClassId} {ad ad' : Nat → Nat} {n : Nat} {e : SE} (h : ∀ i, i < n → ad' i = ad i) (he : okE n e) (m : Int → Int) : ent cA ad' e m = ent cA ad e m := by
  have key : ∀ j, (e.2.2.getD j none).map ad' = (e.2.2.getD j none).map ad := fun j => by
    cases hj : e.2.2.getD j none with
    | none => rfl
    | some r => simp only [Option.map_some]; rw [h r (he.1 j r hj)]
  unfold ent
  have k2 : ∀ j, fvl ad' (fty e.1 j) (e.2.2.getD j none) (m j) = fvl ad (fty e.1 j) (e.2.2.getD j none) (m j) := fun j => by
    unfold fvl
    split
    · rfl
    · rw [key j]
    · rfl
  simp only [key, k2]
theorem wd_push {cA : Nat → ClassId} {ad ad' : Nat → Nat} {Sh : List SE} {M M' : Mem} {e : SE} (hS : okSh Sh) (h : ∀ i, i < Sh.length → ad' i = ad i) (hM : ∀ i, i < Sh.length → M' i = M i) : wd cA ad' (Sh ++ [e]) M' = wd cA ad Sh M ++ [(ad' Sh.length, ent cA ad' e (M' Sh.length))] := by
  refine List.ext_getElem? fun i => ?_
  rcases Nat.lt_trichotomy i Sh.length with q | q | q
  · have hi : Sh[i]? = some Sh[i] := List.getElem?_eq_getElem q
    rw [wd_get (e := Sh[i]) (by rw [List.getElem?_append_left q]; exact hi), List.getElem?_append_left (by rw [wd_len]; exact q), wd_get hi, h i q, hM i q, ent_ad h (hS i _ hi)]
  · subst q
    rw [wd_get (e := e) (by simp), List.getElem?_append_right (by rw [wd_len]; exact Nat.le_refl _), wd_len]
    simp
  · rw [List.getElem?_eq_none (by rw [wd_len]; simp; omega), List.getElem?_eq_none (by simp [wd_len]; omega)]
theorem wd_ad {cA : Nat → ClassId} {ad ad' : Nat → Nat} {Sh : List SE} {M : Mem} (hS : okSh Sh) (h : ∀ i, i < Sh.length → ad' i = ad i) : wd cA ad' Sh M = wd cA ad Sh M := by
  refine List.ext_getElem? fun i => ?_
  rcases Nat.lt_or_ge i Sh.length with q | q
  · have hi : Sh[i]? = some Sh[i] := List.getElem?_eq_getElem q
    rw [wd_get hi, wd_get hi, h i q, ent_ad h (hS i _ hi)]
  · rw [List.getElem?_eq_none (by rw [wd_len]; exact q), List.getElem?_eq_none (by rw [wd_len]; exact q)]
theorem knd_some {Sh : List SE} {a k : Nat} (h : knd Sh a = k) (hk : k ≠ 999) : ∃ e, Sh[a]? = some e ∧ e.1 = k ∧ len Sh a = (e.2.1 : Int) ∧ a < Sh.length := by
  unfold knd at h
  cases hs : Sh[a]? with
  | none => rw [hs] at h; exact absurd h.symm hk
  | some e => rw [hs] at h; exact ⟨e, rfl, h, by unfold len; rw [hs], (List.getElem?_eq_some_iff.mp hs).1⟩
/-- slots of all cells -/
def ssz (Sh : List SE) : Nat := (Sh.map fun e => e.2.1).sum
theorem ssz_push {Sh : List SE} {e : SE} : ssz (Sh ++ [e]) = ssz Sh + e.2.1 := by simp [ssz]
