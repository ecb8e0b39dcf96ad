/-! DIRECTIONS: the grammar, purely. -/
/-- kinds, colours, numbers by line; lines; steps -/
abbrev DD : Type := (Int → Int) × (Int → Int) × (Int → Int) × Nat × Int
def addL (d : DD) (k c v : Int) : DD := (upH d.1 d.2.2.2.1 k, upH d.2.1 d.2.2.2.1 c, upH d.2.2.1 d.2.2.2.1 v, d.2.2.2.1 + 1, d.2.2.2.2 + if k = 3 then 0 else 1)
def opn (d : DD) : List Nat := stk d.1 d.2.2.2.1
section DLN
variable (b : Int → Int) (n : Int) (NW : Int → List Int) (m : Int)
def pSk (p : Int) : Int := if tK b n p = 2 then ixF SKW (tW b n p) 0 else -1
def pNam (p : Int) : PE (Int × Int) := if tK b n p = 1 then .error (1, tQ b n p) else if nmB b n SKW p = false then .error (2, tQ b n p) else if fnF NW m (tW b n p) = -1 then .error (3, tQ b n p) else .ok (tE b n p, fnF NW m (tW b n p))
def pLine (d : DD) (p : Int) : PE (Int × DD) :=
  if pSk b n p = -1 ∨ (pSk b n p = 3 ∧ opn d = []) then .error (2, tQ b n p) else if pSk b n p ≠ 3 ∧ 40 ≤ d.2.2.2.2 then .error (6, tQ b n p) else if pSk b n p = 2 ∧ 3 ≤ (opn d).length then .error (7, tQ b n p)
  else if pSk b n p = 0 then bnd (pNam b n NW m (tE b n p)) fun c => bnd (pNum b n 1 48 c.1) fun r => bnd (pSign b n r.1) fun p' => .ok (p', addL d 0 c.2 r.2)
  else if pSk b n p = 1 then bnd (pNam b n NW m (tE b n p)) fun c => bnd (pSign b n c.1) fun p' => .ok (p', addL d 1 c.2 0)
  else if pSk b n p = 2 then bnd (pNum b n 1 48 (tE b n p)) fun r => bnd (pSign b n r.1) fun p' => .ok (p', addL d 2 (-1) r.2)
  else bnd (pSign b n (tE b n p)) fun p' => .ok (p', addL d 3 (-1) 0)
def pLns : Nat → DD → Int → PE DD
  | 0, _, _ => .error (0, 0)
  | f + 1, d, p => if tK b n p = 1 then .error (1, tQ b n p) else if tK b n p = 0 then (if opn d = [] then .ok d else .error (2, tQ b n p)) else bnd (pLine b n NW m d p) fun r => pLns f r.2 r.1
end DLN
section DLP
variable {b : Int → Int} {n : Int} {NW : Int → List Int} {m : Int} {d : DD} {p : Int} {e : Int × Int}
theorem opn_add {k c v : Int} : opn (addL d k c v) = if k = 2 then d.2.2.2.1 :: opn d else if k = 3 then (opn d).tail else opn d := by
  show stk (upH d.1 d.2.2.2.1 k) (d.2.2.2.1 + 1) = _
  have e : stk (upH d.1 d.2.2.2.1 k) d.2.2.2.1 = opn d := stk_congr fun j hj => if_neg (by omega)
  have u : upH d.1 d.2.2.2.1 k (d.2.2.2.1 : Int) = k := if_pos rfl
  rw [stk_s, e, u]
/-- what the lines keep -/
def dlI (m : Int) (d : DD) : Prop := (0 ≤ d.2.2.2.2 ∧ d.2.2.2.2 ≤ 40) ∧ ((d.2.2.2.1 : Int) + (opn d).length ≤ 2 * d.2.2.2.2) ∧ (∀ l : Nat, l < d.2.2.2.1 → (0 ≤ d.1 l ∧ d.1 l ≤ 3) ∧ (d.1 l = 0 ∨ d.1 l = 1 → 0 ≤ d.2.1 l ∧ d.2.1 l < m) ∧ (d.1 l = 0 ∨ d.1 l = 2 → 1 ≤ d.2.2.1 l ∧ d.2.2.1 l ≤ 48)) ∧ (∀ l : Nat, l < d.2.2.2.1 → d.1 l = 3 → ∃ o r, stk d.1 l = o :: r) ∧ ∀ l : Nat, l ≤ d.2.2.2.1 → (stk d.1 l).length ≤ 3
theorem dlI_add (h : dlI m d) {k c v : Int} (hk : 0 ≤ k ∧ k ≤ 3) (hc : k = 0 ∨ k = 1 → 0 ≤ c ∧ c < m) (hv : k = 0 ∨ k = 2 → 1 ≤ v ∧ v ≤ 48) (h3 : k = 3 → opn d ≠ []) (hs : k ≠ 3 → d.2.2.2.2 < 40) (h2 : k = 2 → (opn d).length < 3) : dlI m (addL d k c v) := by
  obtain ⟨i1, i2, i3, i4, i5⟩ := h
  have eo := opn_add (d := d) (k := k) (c := c) (v := v)
  have lo : ∀ l : Nat, l ≤ d.2.2.2.1 → stk (upH d.1 d.2.2.2.1 k) l = stk d.1 l := fun l hl => stk_congr fun j hj => if_neg (by omega)
  have lu : ∀ l : Nat, l < d.2.2.2.1 → upH d.1 d.2.2.2.1 k (l : Int) = d.1 l ∧ upH d.2.1 d.2.2.2.1 c (l : Int) = d.2.1 l ∧ upH d.2.2.1 d.2.2.2.1 v (l : Int) = d.2.2.1 l := fun l hl => ⟨if_neg (by omega), if_neg (by omega), if_neg (by omega)⟩
  have ln : (opn (addL d k c v)).length = (opn d).length + (if k = 2 then 1 else 0) - (if k = 3 then 1 else 0) := by
    rw [eo]
    by_cases z2 : k = 2
    · rw [if_pos z2, if_pos z2, if_neg (by omega)]
      simp only [List.length_cons]
      omega
    · rw [if_neg z2, if_neg z2]
      by_cases z3 : k = 3
      · rw [if_pos z3, if_pos z3, List.length_tail]
        omega
      · rw [if_neg z3, if_neg z3]
        omega
  have lpos : k = 3 → 0 < (opn d).length := fun z => List.length_pos_iff.mpr (h3 z)
  refine ⟨?_, ?_, fun l hl => ?_, fun l hl hl3 => ?_, fun l hl => ?_⟩
  · show 0 ≤ d.2.2.2.2 + (if k = 3 then 0 else 1) ∧ d.2.2.2.2 + (if k = 3 then 0 else 1) ≤ 40
    by_cases z : k = 3
    · rw [if_pos z]; omega
    · have := hs z
      rw [if_neg z]; omega
  · rw [ln]
    show ((d.2.2.2.1 + 1 : Nat) : Int) + _ ≤ 2 * (d.2.2.2.2 + (if k = 3 then 0 else 1))
    by_cases z : k = 3
    · have := lpos z
      rw [if_neg (by omega), if_pos z, if_pos z]
      omega
    · rw [if_neg z, if_neg z]
      split <;> omega
  · have hl' : l < d.2.2.2.1 + 1 := hl
    show (0 ≤ upH d.1 d.2.2.2.1 k (l : Int) ∧ upH d.1 d.2.2.2.1 k (l : Int) ≤ 3) ∧ (upH d.1 d.2.2.2.1 k (l : Int) = 0 ∨ upH d.1 d.2.2.2.1 k (l : Int) = 1 → 0 ≤ upH d.2.1 d.2.2.2.1 c (l : Int) ∧ upH d.2.1 d.2.2.2.1 c (l : Int) < m) ∧ (upH d.1 d.2.2.2.1 k (l : Int) = 0 ∨ upH d.1 d.2.2.2.1 k (l : Int) = 2 → 1 ≤ upH d.2.2.1 d.2.2.2.1 v (l : Int) ∧ upH d.2.2.1 d.2.2.2.1 v (l : Int) ≤ 48)
    by_cases z : l < d.2.2.2.1
    · obtain ⟨u1, u2, u3⟩ := lu l z
      rw [u1, u2, u3]
      exact i3 l z
    · have e : l = d.2.2.2.1 := by omega
      subst e
      have u1 : upH d.1 d.2.2.2.1 k (d.2.2.2.1 : Int) = k := if_pos rfl
      have u2 : upH d.2.1 d.2.2.2.1 c (d.2.2.2.1 : Int) = c := if_pos rfl
      have u3 : upH d.2.2.1 d.2.2.2.1 v (d.2.2.2.1 : Int) = v := if_pos rfl
      rw [u1, u2, u3]
      exact ⟨hk, hc, hv⟩
  · have hl' : l < d.2.2.2.1 + 1 := hl
    have hl3' : upH d.1 d.2.2.2.1 k (l : Int) = 3 := hl3
    show ∃ o r, stk (upH d.1 d.2.2.2.1 k) l = o :: r
    rw [lo l (by omega)]
    by_cases z : l < d.2.2.2.1
    · rw [(lu l z).1] at hl3'
      exact i4 l z hl3'
    · have e : l = d.2.2.2.1 := by omega
      subst e
      have u1 : upH d.1 d.2.2.2.1 k (d.2.2.2.1 : Int) = k := if_pos rfl
      rw [u1] at hl3'
      cases ho : stk d.1 d.2.2.2.1 with
      | nil => exact absurd ho (h3 hl3')
      | cons o r => exact ⟨o, r, rfl⟩
  · have hl' : l ≤ d.2.2.2.1 + 1 := hl
    show (stk (upH d.1 d.2.2.2.1 k) l).length ≤ 3
    by_cases z : l ≤ d.2.2.2.1
    · rw [lo l z]
      exact i5 l z
    · have e : l = d.2.2.2.1 + 1 := by omega
      subst e
      have e2 : (stk (upH d.1 d.2.2.2.1 k) (d.2.2.2.1 + 1)).length = (opn (addL d k c v)).length := rfl
      have o3 : (opn d).length ≤ 3 := i5 _ (Nat.le_refl _)
      rw [e2, ln]
      by_cases z2 : k = 2
      · have := h2 z2
        rw [if_pos z2, if_neg (by omega)]
        omega
      · rw [if_neg z2]
        omega
theorem pNam_ok {r : Int × Int} (h : pNam b n NW m p = .ok r) : (tK b n p = 2 ∧ (tW b n p).length ≤ 8 ∧ ixF SKW (tW b n p) 0 = -1) ∧ r = (tE b n p, fnF NW m (tW b n p)) ∧ r.2 ≠ -1 := by
  unfold pNam at h
  by_cases z1 : tK b n p = 1
  · rw [if_pos z1] at h; injection h
  rw [if_neg z1] at h
  by_cases z2 : nmB b n SKW p = false
  · rw [if_pos z2] at h; injection h
  rw [if_neg z2] at h
  by_cases z3 : fnF NW m (tW b n p) = -1
  · rw [if_pos z3] at h; injection h
  rw [if_neg z3] at h
  injection h with h
  subst h
  have z2' : nmB b n SKW p = true := by simpa using z2
  exact ⟨of_decide_eq_true z2', rfl, z3⟩
theorem pNam_er (h : pNam b n NW m p = .error e) : 0 < e.1 := by
  unfold pNam at h
  split at h
  · injection h with h; subst h; simp
  split at h
  · injection h with h; subst h; simp
  split at h
  · injection h with h; subst h; simp
  · injection h
theorem pSk_rng : -1 ≤ pSk b n p ∧ pSk b n p < 4 := by
  unfold pSk
  split
  · rcases ixF_rng (w := tW b n p) (l := SKW) (m := 0) with h | h
    · omega
    · have : ((SKW.length : Nat) : Int) = 4 := rfl
      omega
  · omega
theorem pLine_er (h : pLine b n NW m d p = .error e) : 0 < e.1 := by
  unfold pLine at h
  split at h
  · injection h with h; subst h; simp
  split at h
  · injection h with h; subst h; simp
  split at h
  · injection h with h; subst h; simp
  split at h
  · rcases bnd_er h with h | ⟨_, _, h⟩
    · exact pNam_er h
    rcases bnd_er h with h | ⟨_, _, h⟩
    · exact pNum_er h
    rcases bnd_er h with h | ⟨_, _, h⟩
    · exact pSign_er h
    · injection h
  split at h
  · rcases bnd_er h with h | ⟨_, _, h⟩
    · exact pNam_er h
    rcases bnd_er h with h | ⟨_, _, h⟩
    · exact pSign_er h
    · injection h
  split at h
  · rcases bnd_er h with h | ⟨_, _, h⟩
    · exact pNum_er h
    rcases bnd_er h with h | ⟨_, _, h⟩
    · exact pSign_er h
    · injection h
  · rcases bnd_er h with h | ⟨_, _, h⟩
    · exact pSign_er h
    · injection h
theorem pLine_I (p0 : 0 ≤ p) (p1 : p ≤ n) (hk : tK b n p ≠ 0) (hm : 0 ≤ m) (hd : dlI m d) {x : Int × DD} (h : pLine b n NW m d p = .ok x) : (p < x.1 ∧ x.1 ≤ n) ∧ dlI m x.2 := by
  have t1 := tE_on (b := b) p1 hk p0
  unfold pLine at h
  by_cases z1 : pSk b n p = -1 ∨ (pSk b n p = 3 ∧ opn d = [])
  · rw [if_pos z1] at h; injection h
  rw [if_neg z1] at h
  by_cases z2 : pSk b n p ≠ 3 ∧ 40 ≤ d.2.2.2.2
  · rw [if_pos z2] at h; injection h
  rw [if_neg z2] at h
  by_cases z3 : pSk b n p = 2 ∧ 3 ≤ (opn d).length
  · rw [if_pos z3] at h; injection h
  rw [if_neg z3] at h
  have sgn : ∀ {q q' : Int}, tE b n p ≤ q → 0 ≤ q → q ≤ n → pSign b n q = .ok q' → p < q' ∧ q' ≤ n := fun a c e f => by
    have s := pSign_ok f
    have t := tE_on (b := b) e (by rw [s.1]; omega) c
    rw [s.2]
    omega
  by_cases k0 : pSk b n p = 0
  · rw [if_pos k0] at h
    obtain ⟨c, h1, h⟩ := bnd_ok h
    obtain ⟨r, h2, h⟩ := bnd_ok h
    obtain ⟨q, h3, h⟩ := bnd_ok h
    injection h with h
    subst h
    have a1 := pNam_ok h1
    have a2 := pNum_ok h2
    have t2 := tE_on (b := b) t1.2.1 (by rw [a1.1.1]; omega) t1.1
    have e1 : c.1 = tE b n (tE b n p) := by rw [a1.2.1]
    rw [← e1] at t2
    have t3 := tE_on (b := b) t2.2.1 (by rw [a2.1]; omega) t2.1
    have e2 : r.1 = tE b n c.1 := by rw [a2.2.1]
    rw [← e2] at t3
    have c2 : c.2 = fnF NW m (tW b n (tE b n p)) := by rw [a1.2.1]
    have fr := (fnF_rng (NW := NW) (w := tW b n (tE b n p)) hm).resolve_left (by rw [← c2]; exact a1.2.2)
    exact ⟨sgn (by omega) t3.1 t3.2.1 h3, dlI_add hd (by omega) (fun _ => by rw [c2]; exact fr) (fun _ => a2.2.2) (fun z => by omega) (fun _ => by omega) (fun z => by omega)⟩
  rw [if_neg k0] at h
  by_cases k1 : pSk b n p = 1
  · rw [if_pos k1] at h
    obtain ⟨c, h1, h⟩ := bnd_ok h
    obtain ⟨q, h3, h⟩ := bnd_ok h
    injection h with h
    subst h
    have a1 := pNam_ok h1
    have t2 := tE_on (b := b) t1.2.1 (by rw [a1.1.1]; omega) t1.1
    have e1 : c.1 = tE b n (tE b n p) := by rw [a1.2.1]
    rw [← e1] at t2
    have c2 : c.2 = fnF NW m (tW b n (tE b n p)) := by rw [a1.2.1]
    have fr := (fnF_rng (NW := NW) (w := tW b n (tE b n p)) hm).resolve_left (by rw [← c2]; exact a1.2.2)
    exact ⟨sgn (by omega) t2.1 t2.2.1 h3, dlI_add hd (by omega) (fun _ => by rw [c2]; exact fr) (fun z => by omega) (fun z => by omega) (fun _ => by omega) (fun z => by omega)⟩
  rw [if_neg k1] at h
  by_cases k2 : pSk b n p = 2
  · rw [if_pos k2] at h
    obtain ⟨r, h2, h⟩ := bnd_ok h
    obtain ⟨q, h3, h⟩ := bnd_ok h
    injection h with h
    subst h
    have a2 := pNum_ok h2
    have t3 := tE_on (b := b) t1.2.1 (by rw [a2.1]; omega) t1.1
    have e2 : r.1 = tE b n (tE b n p) := by rw [a2.2.1]
    rw [← e2] at t3
    exact ⟨sgn (by omega) t3.1 t3.2.1 h3, dlI_add hd (by omega) (fun z => by omega) (fun _ => a2.2.2) (fun z => by omega) (fun _ => by omega) (fun _ => by omega)⟩
  rw [if_neg k2] at h
  have kr := pSk_rng (b := b) (n := n) (p := p)
  have k3 : pSk b n p = 3 := by omega
  obtain ⟨q, h3, h⟩ := bnd_ok h
  injection h with h
  subst h
  exact ⟨sgn (Int.le_refl _) t1.1 t1.2.1 h3, dlI_add hd (by omega) (fun z => by omega) (fun z => by omega) (fun _ y => z1 (Or.inr ⟨k3, y⟩)) (fun z => absurd rfl z) (fun z => by omega)⟩
end DLP
