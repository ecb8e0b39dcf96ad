/-! CHARTS: the grammar, purely. -/
/-- a draft: settings, names, shows, yarns, cells, rows told, settings told -/
abbrev DS : Type := (Int → Int) × (Int → List Int) × (Int → Int) × (Int → Int) × (Int → Int) × Int × (Int → Int)
def bnd {α β : Type} (x : PE α) (f : α → PE β) : PE β := match x with
  | .error e => .error e
  | .ok a => f a
theorem bnd_e {α β : Type} {e : Int × Int} {f : α → PE β} : bnd (.error e) f = .error e := rfl
theorem bnd_o {α β : Type} {a : α} {f : α → PE β} : bnd (.ok a) f = f a := rfl
def upL (f : Int → List Int) (i : Int) (w : List Int) : Int → List Int := fun k => if k = i then w else f k
def setS (d : DS) (i v : Int) : DS := (upH d.1 i v, d.2)
def setT (d : DS) (i : Int) : DS := (d.1, d.2.1, d.2.2.1, d.2.2.2.1, d.2.2.2.2.1, d.2.2.2.2.2.1, upH d.2.2.2.2.2.2 i 1)
def setR (d : DS) : DS := (d.1, d.2.1, d.2.2.1, d.2.2.2.1, d.2.2.2.2.1, d.2.2.2.2.2.1 + 1, d.2.2.2.2.2.2)
def setC (d : DS) (i v : Int) : DS := (d.1, d.2.1, d.2.2.1, d.2.2.2.1, upH d.2.2.2.2.1 i v, d.2.2.2.2.2)
def setN (d : DS) (i : Int) (w : List Int) : DS := (d.1, upL d.2.1 i w, d.2.2)
def setW (d : DS) (i v : Int) : DS := (d.1, d.2.1, upH d.2.2.1 i v, d.2.2.2)
def setY (d : DS) (i v : Int) : DS := (d.1, d.2.1, d.2.2.1, upH d.2.2.2.1 i v, d.2.2.2.2)
def fnF (NW : Int → List Int) (n : Int) (w : List Int) : Int := firstN (fun k => decide (NW k = w)) n.toNat
section PAR
variable (b : Int → Int) (n : Int)
def pSet (s lo hi : Int) (d : DS) (p : Int) : PE (Int × DS) := if d.2.2.2.2.2.2 s = 1 then .error (5, tQ b n p) else bnd (pNum b n lo hi (tE b n p)) fun r => bnd (pSign b n r.1) fun p' => .ok (p', setS (setT d s) s r.2)
def pPri (s lo hi mc : Int) (d : DS) (p : Int) : PE (Int × DS) := if d.2.2.2.2.2.2 s = 1 then .error (5, tQ b n p) else bnd (pNum b n lo hi (tE b n p)) fun r => bnd (pWord b n (kl 7) r.1) fun p2 => bnd (pNum b n 0 mc p2) fun r2 => bnd (pSign b n r2.1) fun p' => .ok (p', setS (setS (setT d s) s r.2) (s + 1) r2.2)
def pRnd (d : DS) (p : Int) : PE (Int × DS) := if d.2.2.2.2.2.2 14 = 1 then .error (5, tQ b n p) else bnd (pSign b n (tE b n p)) fun p' => .ok (p', setS (setT d 14) 14 1)
def nmB (L : List (List Int)) (p : Int) : Bool := decide (tK b n p = 2 ∧ (tW b n p).length ≤ 8 ∧ ixF L (tW b n p) 0 = -1)
def pCol2 (d : DS) (w : List Int) (p : Int) : PE (Int × DS) := bnd (pWord b n (kl 2) p) fun p2 => bnd (pNum b n 0 9 p2) fun r => bnd (pWord b n (kl 3) r.1) fun p3 => bnd (pNum b n 1 99 p3) fun r2 => bnd (pSign b n r2.1) fun p' => .ok (p', setS (setY (setW (setN d (d.1 2) w) (d.1 2) r.2) (d.1 2) r2.2) 2 (d.1 2 + 1))
def pCol1 (d : DS) (p : Int) : PE (Int × DS) := if tK b n p = 1 then .error (1, tQ b n p) else if nmB b n CK p = false then .error (2, tQ b n p) else if fnF d.2.1 (d.1 2) (tW b n p) ≠ -1 then .error (3, tQ b n p) else pCol2 b n d (tW b n p) (tE b n p)
def pCol (d : DS) (p : Int) : PE (Int × DS) := if 5 ≤ d.1 2 then .error (6, tQ b n p) else pCol1 b n d (tE b n p)
def pSts : Nat → Int → DS → Int → PE (Int × DS)
  | 0, _, _, _ => .error (0, 0)
  | f + 1, x, d, p => if tK b n p = 1 then .error (1, tQ b n p) else if tK b n p = 4 ∧ 0 < x then (if x = d.1 0 then .ok (tE b n p, setR d) else .error (7, tQ b n p))
    else if nmB b n CK p = false then .error (2, tQ b n p) else if fnF d.2.1 (d.1 2) (tW b n p) = -1 then .error (3, tQ b n p) else if d.1 0 ≤ x then .error (6, tQ b n p)
    else pSts f (x + 1) (setC d (d.2.2.2.2.2.1 * d.1 0 + x) (fnF d.2.1 (d.1 2) (tW b n p))) (tE b n p)
def pRow (d : DS) (p : Int) : PE (Int × DS) := if d.1 1 ≤ d.2.2.2.2.2.1 then .error (6, tQ b n p) else pSts b n (d.1 0 + 1).toNat 0 d (tE b n p)
def pKey (p : Int) : Int := if tK b n p = 2 then ixF CK (tW b n p) 0 else -1
def pPart (d : DS) (p : Int) : PE (Int × DS) :=
  if pKey b n p = 1 then pCol b n d p else if pKey b n p = 2 then pRow b n d p else if pKey b n p = 3 then pSet b n 3 0 99 d p else if pKey b n p = 4 then pPri b n 4 0 47 9 d p
  else if pKey b n p = 5 then pSet b n 6 0 9 d p else if pKey b n p = 6 then pPri b n 7 0 7 99 d p else if pKey b n p = 7 then pPri b n 9 1 48 99 d p else if pKey b n p = 8 then pSet b n 11 0 99 d p
  else if pKey b n p = 9 then pSet b n 12 0 999 d p else if pKey b n p = 10 then pSet b n 13 0 999 d p else if pKey b n p = 11 then pRnd b n d p else .error (2, tQ b n p)
def pLoop : Nat → DS → Int → PE DS
  | 0, _, _ => .error (0, 0)
  | f + 1, d, p => if tK b n p = 1 then .error (1, tQ b n p) else if tK b n p = 0 then (if d.2.2.2.2.2.1 < d.1 1 then .error (8, tQ b n p) else .ok d) else bnd (pPart b n d p) fun r => pLoop f r.2 r.1
def dS0 : Int → Int := fun k => if k = 3 then 10 else if k = 4 then 5 else if k = 7 then 3 else if k = 8 then 1 else if k = 9 then 48 else if k = 11 then 1 else if k = 12 then 5 else if k = 13 then 5 else 0
def pChart (NW : Int → List Int) (W Y C : Int → Int) : PE DS := bnd (pWord b n (kl 0) 0) fun p1 => bnd (pNum b n 1 8 p1) fun r => bnd (pNum b n 1 6 r.1) fun r2 => bnd (pSign b n r2.1) fun p => pLoop b n 801 (upH (upH dS0 0 r.2) 1 r2.2, NW, W, Y, C, 0, fun _ => 0) p
end PAR
section PRP
variable {b : Int → Int} {n p lo hi : Int} {w : List Int}
theorem pWord_ok {p' : Int} (h : pWord b n w p = .ok p') : tK b n p = 2 ∧ tW b n p = w ∧ p' = tE b n p := by
  unfold pWord at h
  split at h
  · injection h
  · split at h
    · rename_i z
      injection h with h
      exact ⟨z.1, z.2, h.symm⟩
    · injection h
theorem pSign_ok {p' : Int} (h : pSign b n p = .ok p') : tK b n p = 4 ∧ p' = tE b n p := by
  unfold pSign at h
  split at h
  · injection h
  · split at h
    · rename_i z
      injection h with h
      exact ⟨z, h.symm⟩
    · injection h
theorem pNum_ok {r : Int × Int} (h : pNum b n lo hi p = .ok r) : tK b n p = 3 ∧ r = (tE b n p, tV b n p) ∧ lo ≤ r.2 ∧ r.2 ≤ hi := by
  unfold pNum at h
  split at h
  · injection h
  · split at h
    · split at h
      · rename_i z y
        injection h with h
        subst h
        exact ⟨z, rfl, y.1, y.2⟩
      · injection h
    · injection h
/-- where a token was taken, the text goes on behind it -/
theorem tE_on (h : p ≤ n) (hk : tK b n p ≠ 0) (p0 : 0 ≤ p) : 0 ≤ tE b n p ∧ tE b n p ≤ n ∧ p < tE b n p := by
  have e := tE_rng (b := b) h
  have := e.2.2.2 hk
  omega
theorem bnd_ok {α β : Type} {x : PE α} {f : α → PE β} {r : β} (h : bnd x f = .ok r) : ∃ a, x = .ok a ∧ f a = .ok r := by
  cases x with
  | error e => exact absurd h (by intro h; injection h)
  | ok a => exact ⟨a, rfl, h⟩
theorem ixF_get {w : List Int} : ∀ {l : List (List Int)} {m j : Int}, ixF l w m = j → j ≠ -1 → m ≤ j ∧ l.getD (j - m).toNat [] = w
  | [], m, j, h, hj => absurd h.symm hj
  | x :: l, m, j, h, hj => by
    have h' : (if x = w then m else ixF l w (m + 1)) = j := h
    by_cases z : x = w
    · rw [if_pos z] at h'
      subst h'
      exact ⟨Int.le_refl _, by rw [Int.sub_self]; exact z⟩
    · rw [if_neg z] at h'
      have r := ixF_rng (w := w) (l := l) (m := m + 1)
      have ih := ixF_get h' hj
      refine ⟨by omega, ?_⟩
      have e : (j - m).toNat = (j - (m + 1)).toNat + 1 := by omega
      rw [e]
      exact ih.2
theorem ixF_CK : ∀ j : Nat, j < 15 → ixF CK (CK.getD j []) 0 = (j : Int) := by decide +kernel
theorem ixF_SK : ∀ j : Nat, j < 4 → ixF SKW (SKW.getD j []) 0 = (j : Int) := by decide +kernel
theorem ck_iff {w : List Int} {j : Nat} (hj : j < 15) : ixF CK w 0 = (j : Int) ↔ w = CK.getD j [] := by
  constructor
  · intro h
    have g := (ixF_get h (by omega)).2
    rw [Int.sub_zero, Int.toNat_natCast] at g
    exact g.symm
  · intro h
    rw [h]
    exact ixF_CK j hj
theorem sk_iff {w : List Int} {j : Nat} (hj : j < 4) : ixF SKW w 0 = (j : Int) ↔ w = SKW.getD j [] := by
  constructor
  · intro h
    have g := (ixF_get h (by omega)).2
    rw [Int.sub_zero, Int.toNat_natCast] at g
    exact g.symm
  · intro h
    rw [h]
    exact ixF_SK j hj
/-- the string constants are the keys -/
theorem kl_CK : kl 0 = CK.getD 0 [] ∧ kl 1 = CK.getD 1 [] ∧ kl 4 = CK.getD 2 [] ∧ kl 5 = CK.getD 3 [] ∧ kl 6 = CK.getD 4 [] ∧ kl 8 = CK.getD 5 [] ∧ kl 9 = CK.getD 6 [] ∧ kl 10 = CK.getD 7 [] ∧ kl 11 = CK.getD 8 [] ∧ kl 12 = CK.getD 9 [] ∧ kl 13 = CK.getD 10 [] ∧ kl 14 = CK.getD 11 [] ∧ kl 2 = CK.getD 12 [] ∧ kl 3 = CK.getD 13 [] ∧ kl 7 = CK.getD 14 [] := ⟨rfl, rfl, rfl, rfl, rfl, rfl, rfl, rfl, rfl, rfl, rfl, rfl, rfl, rfl, rfl⟩
theorem pKey_rng : -1 ≤ pKey b n p ∧ pKey b n p < 15 := by
  unfold pKey
  split
  · rcases ixF_rng (w := tW b n p) (l := CK) (m := 0) with h | h
    · omega
    · have : ((CK.length : Nat) : Int) = 15 := rfl
      omega
  · omega
/-- a draft that can be -/
def dI (d : DS) : Prop := goodS d.1 ∧ (1 ≤ d.1 0 ∧ 1 ≤ d.1 1) ∧ (0 ≤ d.2.2.2.2.2.1 ∧ d.2.2.2.2.2.1 ≤ d.1 1) ∧ (∀ k, d.2.2.2.2.2.2 k = 0 ∨ d.2.2.2.2.2.2 k = 1) ∧ (∀ k, 0 ≤ k → k < d.1 2 → lts (d.2.1 k) ∧ 1 ≤ (d.2.1 k).length ∧ (d.2.1 k).length ≤ 8) ∧ (∀ k, 0 ≤ k → k < 5 → (0 ≤ d.2.2.1 k ∧ d.2.2.1 k ≤ 9) ∧ 0 ≤ d.2.2.2.1 k ∧ d.2.2.2.1 k ≤ 99)
def dC (d : DS) (m : Int) : Prop := ∀ k, 0 ≤ k → k < m → 0 ≤ d.2.2.2.2.1 k ∧ d.2.2.2.2.1 k < d.1 2
def dJ (d : DS) : Prop := dI d ∧ dC d (d.2.2.2.2.2.1 * d.1 0)
theorem nmB_t (h : nmB b n CK p = true) : tK b n p = 2 ∧ (tW b n p).length ≤ 8 ∧ ixF CK (tW b n p) 0 = -1 := of_decide_eq_true h
theorem tW_pos (p1 : p ≤ n) (h : tK b n p = 2) : 1 ≤ (tW b n p).length := by
  have er := tE_rng (b := b) p1
  have tl := tW_len (b := b) p1
  have := er.2.2.2 (by omega)
  omega
theorem setS_I {d : DS} {s v : Int} (h : dJ d) (hs : 3 ≤ s ∧ s ≤ 14) (hg : goodS (upH d.1 s v)) : dJ (setS d s v) := by
  obtain ⟨⟨h1, h2, h3, h4, h5, h6⟩, h7⟩ := h
  have e : ∀ k, k < 3 → upH d.1 s v k = d.1 k := fun k hk => if_neg (by omega)
  refine ⟨⟨hg, ?_, ?_, h4, ?_, h6⟩, ?_⟩
  · show 1 ≤ upH d.1 s v 0 ∧ 1 ≤ upH d.1 s v 1
    rw [e 0 (by omega), e 1 (by omega)]
    exact h2
  · show 0 ≤ d.2.2.2.2.2.1 ∧ d.2.2.2.2.2.1 ≤ upH d.1 s v 1
    rw [e 1 (by omega)]
    exact h3
  · show ∀ k, 0 ≤ k → k < upH d.1 s v 2 → _
    rw [e 2 (by omega)]
    exact h5
  · show ∀ k, 0 ≤ k → k < d.2.2.2.2.2.1 * upH d.1 s v 0 → 0 ≤ d.2.2.2.2.1 k ∧ d.2.2.2.2.1 k < upH d.1 s v 2
    rw [e 0 (by omega), e 2 (by omega)]
    exact h7
theorem setT_I {d : DS} {s : Int} (h : dJ d) : dJ (setT d s) := by
  obtain ⟨⟨h1, h2, h3, h4, h5, h6⟩, h7⟩ := h
  refine ⟨⟨h1, h2, h3, fun k => ?_, h5, h6⟩, h7⟩
  show upH d.2.2.2.2.2.2 s 1 k = 0 ∨ upH d.2.2.2.2.2.2 s 1 k = 1
  unfold upH
  split
  · exact Or.inr rfl
  · exact h4 k
theorem goodS_up {S : Int → Int} {s v lo hi : Int} (h : goodS S) (hv : lo ≤ v ∧ v ≤ hi) (hs : (s = 3 ∧ lo = 0 ∧ hi = 99) ∨ (s = 4 ∧ lo = 0 ∧ hi = 47) ∨ (s = 5 ∧ lo = 0 ∧ hi = 9) ∨ (s = 6 ∧ lo = 0 ∧ hi = 9) ∨ (s = 7 ∧ lo = 0 ∧ hi = 7) ∨ (s = 8 ∧ lo = 0 ∧ hi = 99) ∨ (s = 9 ∧ lo = 1 ∧ hi = 48) ∨ (s = 10 ∧ lo = 0 ∧ hi = 99) ∨ (s = 11 ∧ lo = 0 ∧ hi = 99) ∨ (s = 12 ∧ lo = 0 ∧ hi = 999) ∨ (s = 13 ∧ lo = 0 ∧ hi = 999) ∨ (s = 14 ∧ lo = 0 ∧ hi = 1)) : goodS (upH S s v) := by
  unfold goodS at h ⊢
  obtain ⟨g0, g1, g2, g3, g4, g5, g6, g7, g8, g9, g10, g11, g12, g13, g14⟩ := h
  unfold upH
  rcases hs with z | z | z | z | z | z | z | z | z | z | z | z <;> obtain ⟨rfl, rfl, rfl⟩ := z <;> simp only [Int.reduceEq, ↓reduceIte] <;> refine ⟨?_, ?_, ?_, ?_, ?_, ?_, ?_, ?_, ?_, ?_, ?_, ?_, ?_, ?_, ?_⟩ <;> omega
end PRP
