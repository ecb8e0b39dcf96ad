/-! FOLLOW: the mathematics. A knitter's state: stitches knitted, balls, price, where each ball hangs, links. -/
abbrev KS : Type := Int × Int × Int × (Int → Int) × LE
def kn1 (A : Int → Int) (c : Int) (s : KS) : Int × KS :=
  if xn A ≤ s.1 then (4, s) else if xH A s.1 ≠ c then (2, s) else if s.2.2.2.1 c = -1 then (-1, s.1 + 1, s.2.1 + 1, s.2.2.1 + 2 * A 3, upH s.2.2.2.1 c s.1, s.2.2.2.2)
  else if wyA A (s.2.2.2.1 c) s.1 = 0 then (3, s) else (-1, s.1 + 1, s.2.1, s.2.2.1 + prA A (s.2.2.2.1 c) s.1, upH s.2.2.2.1 c s.1, jn s.2.2.2.2 (s.2.2.2.1 c) s.1)
def knN (A : Int → Int) (c : Int) : Nat → KS → Int × KS
  | 0, s => (-1, s)
  | m + 1, s => if (kn1 A c s).1 = -1 then knN A c m (kn1 A c s).2 else kn1 A c s
theorem knN_s {A : Int → Int} {c : Int} {m : Nat} {s : KS} : knN A c (m + 1) s = if (kn1 A c s).1 = -1 then knN A c m (kn1 A c s).2 else kn1 A c s := rfl
def kcut (c : Int) (s : KS) : KS := (s.1, s.2.1, s.2.2.1, upH s.2.2.2.1 c (-1), s.2.2.2.2)
def ksI (A : Int → Int) (s : KS) : Prop := (0 ≤ s.1 ∧ s.1 ≤ xn A) ∧ (0 ≤ s.2.1 ∧ s.2.1 ≤ s.1) ∧ (0 ≤ s.2.2.1 ∧ s.2.2.1 ≤ 1000 * s.1) ∧ (∀ c, 0 ≤ c → c < 5 → s.2.2.2.1 c = -1 ∨ ((0 ≤ s.2.2.2.1 c ∧ s.2.2.2.1 c < s.1) ∧ xH A (s.2.2.2.1 c) = c ∧ s.2.2.2.2.1 (s.2.2.2.1 c) = -1)) ∧ (∀ j, s.1 ≤ j → j < 48 → s.2.2.2.2.1 j = -1 ∧ s.2.2.2.2.2 j = -1) ∧ PLok s.2.2.2.2.1 s.2.2.2.2.2 A
theorem kn1_I {A : Int → Int} (g : gWY A) {c : Int} (hc : 0 ≤ c ∧ c < A 2) {s : KS} (h : ksI A s) : ksI A (kn1 A c s).2 := by
  obtain ⟨h1, h2, h3, h4, h5, h6⟩ := h
  have g2 := g.1.1.2.2.1
  have g3 := g.1.1.2.2.2.1
  have gn := g.1.2.1
  unfold kn1
  by_cases q1 : xn A ≤ s.1
  · rw [if_pos q1]; exact ⟨h1, h2, h3, h4, h5, h6⟩
  rw [if_neg q1]
  by_cases q2 : xH A s.1 ≠ c
  · rw [if_pos q2]; exact ⟨h1, h2, h3, h4, h5, h6⟩
  rw [if_neg q2]
  have q2' : xH A s.1 = c := Classical.not_not.mp q2
  by_cases q3 : s.2.2.2.1 c = -1
  · rw [if_pos q3]
    refine ⟨⟨by show 0 ≤ s.1 + 1; omega, by show s.1 + 1 ≤ xn A; omega⟩, ⟨by show 0 ≤ s.2.1 + 1; omega, by show s.2.1 + 1 ≤ s.1 + 1; omega⟩, ⟨by show 0 ≤ s.2.2.1 + 2 * A 3; omega, by show s.2.2.1 + 2 * A 3 ≤ 1000 * (s.1 + 1); omega⟩, fun d d0 d1 => ?_, fun j j0 j1 => h5 j (by have j0' : s.1 + 1 ≤ j := j0; omega) j1, h6⟩
    show upH s.2.2.2.1 c s.1 d = -1 ∨ ((0 ≤ upH s.2.2.2.1 c s.1 d ∧ upH s.2.2.2.1 c s.1 d < s.1 + 1) ∧ xH A (upH s.2.2.2.1 c s.1 d) = d ∧ s.2.2.2.2.1 (upH s.2.2.2.1 c s.1 d) = -1)
    unfold upH
    by_cases z : d = c
    · rw [if_pos z]
      exact Or.inr ⟨by omega, by rw [q2', z], (h5 s.1 (Int.le_refl _) (by omega)).1⟩
    · rw [if_neg z]
      rcases h4 d d0 d1 with y | y
      · exact Or.inl y
      · exact Or.inr ⟨by omega, y.2⟩
  rw [if_neg q3]
  by_cases q4 : wyA A (s.2.2.2.1 c) s.1 = 0
  · rw [if_pos q4]; exact ⟨h1, h2, h3, h4, h5, h6⟩
  rw [if_neg q4]
  have hb := (h4 c hc.1 (by omega)).resolve_left q3
  have pr := prA_rng g (i := s.2.2.2.1 c) (j := s.1)
  have e5 := h5 s.1 (Int.le_refl _) (by omega)
  refine ⟨⟨by show 0 ≤ s.1 + 1; omega, by show s.1 + 1 ≤ xn A; omega⟩, ⟨by show 0 ≤ s.2.1; omega, by show s.2.1 ≤ s.1 + 1; omega⟩, ⟨by show 0 ≤ s.2.2.1 + prA A (s.2.2.2.1 c) s.1; omega, by show s.2.2.1 + prA A (s.2.2.2.1 c) s.1 ≤ 1000 * (s.1 + 1); omega⟩, fun d d0 d1 => ?_, fun j j0 j1 => ?_, ?_⟩
  · show upH s.2.2.2.1 c s.1 d = -1 ∨ ((0 ≤ upH s.2.2.2.1 c s.1 d ∧ upH s.2.2.2.1 c s.1 d < s.1 + 1) ∧ xH A (upH s.2.2.2.1 c s.1 d) = d ∧ (jn s.2.2.2.2 (s.2.2.2.1 c) s.1).1 (upH s.2.2.2.1 c s.1 d) = -1)
    unfold upH
    by_cases z : d = c
    · rw [if_pos z]
      refine Or.inr ⟨by omega, by rw [q2', z], ?_⟩
      show (if s.1 = s.2.2.2.1 c then s.1 else s.2.2.2.2.1 s.1) = -1
      rw [if_neg (by omega)]
      exact e5.1
    · rw [if_neg z]
      rcases h4 d d0 d1 with y | y
      · exact Or.inl y
      · refine Or.inr ⟨by omega, y.2.1, ?_⟩
        show (if s.2.2.2.1 d = s.2.2.2.1 c then s.1 else s.2.2.2.2.1 (s.2.2.2.1 d)) = -1
        rw [if_neg]
        · exact y.2.2
        · intro w
          have a := y.2.1
          have b := hb.2.1
          rw [w, b] at a
          exact z a.symm
  · have j0' : s.1 + 1 ≤ j := j0
    show (if j = s.2.2.2.1 c then s.1 else s.2.2.2.2.1 j) = -1 ∧ (if j = s.1 then s.2.2.2.1 c else s.2.2.2.2.2 j) = -1
    rw [if_neg (by omega), if_neg (by omega)]
    exact h5 j (by omega) j1
  · exact jn_ok h6 gn.2 hb.1.1 hb.1.2 (by omega) q4 hb.2.2 e5.2
theorem knN_I {A : Int → Int} (g : gWY A) {c : Int} (hc : 0 ≤ c ∧ c < A 2) : ∀ {m : Nat} {s : KS}, ksI A s → ksI A (knN A c m s).2
  | 0, _, h => h
  | m + 1, s, h => by
    have k := kn1_I g hc h
    rw [knN_s]
    split
    · exact knN_I g hc k
    · exact k
theorem kcut_I {A : Int → Int} {c : Int} {s : KS} (h : ksI A s) : ksI A (kcut c s) := by
  obtain ⟨h1, h2, h3, h4, h5, h6⟩ := h
  refine ⟨h1, h2, h3, fun d d0 d1 => ?_, h5, h6⟩
  show upH s.2.2.2.1 c (-1) d = -1 ∨ ((0 ≤ upH s.2.2.2.1 c (-1) d ∧ upH s.2.2.2.1 c (-1) d < s.1) ∧ xH A (upH s.2.2.2.1 c (-1) d) = d ∧ s.2.2.2.2.1 (upH s.2.2.2.1 c (-1) d) = -1)
  unfold upH
  by_cases z : d = c
  · rw [if_pos z]; exact Or.inl rfl
  · rw [if_neg z]; exact h4 d d0 d1
def sL : List Int → Int
  | [] => 0
  | t :: T => t + sL T
/-- following on from line l with the open loops' turns T, steps st: fuel first -/
def folF (A K C N : Int → Int) (lines : Int) : Nat → Nat → List Int → Int → KS → Option (Int × Int × KS)
  | 0, _, _, _, _ => none
  | f + 1, l, T, st, s => if lines ≤ (l : Int) then some (if s.1 = xn A then 0 else 1, st, s)
    else if K l = 3 then (match T with
      | [] => none
      | t :: T' => if 0 < t - 1 then folF A K C N lines f ((stk K l).headD 0 + 1) ((t - 1) :: T') st s else folF A K C N lines f (l + 1) T' st s)
    else if 300 ≤ st then some (5, st, s)
    else if K l = 0 then (if (knN A (C l) (N l).toNat s).1 = -1 then folF A K C N lines f (l + 1) T (st + 1) (knN A (C l) (N l).toNat s).2 else some ((knN A (C l) (N l).toNat s).1, st + 1, (knN A (C l) (N l).toNat s).2))
    else if K l = 1 then folF A K C N lines f (l + 1) T (st + 1) (kcut (C l) s)
    else folF A K C N lines f (l + 1) (N l :: T) (st + 1) s
theorem stk_s {K : Int → Int} {l : Nat} : stk K (l + 1) = if K l = 2 then l :: stk K l else if K l = 3 then (stk K l).tail else stk K l := rfl
theorem stk_top {K : Int → Int} : ∀ (n l : Nat), l ≤ n → ∀ {o : Nat} {r : List Nat}, stk K l = o :: r → K o = 2 ∧ stk K o = r ∧ o < l
  | n, 0, _, o, r, h => by
    have h' : ([] : List Nat) = o :: r := h
    exact absurd h' (by simp)
  | 0, l + 1, hl, _, _, _ => by omega
  | n + 1, l + 1, hl, o, r, h => by
    rw [stk_s] at h
    by_cases q : K l = 2
    · rw [if_pos q] at h
      injection h with h1 h2
      subst h1
      exact ⟨q, h2, by omega⟩
    · rw [if_neg q] at h
      by_cases q3 : K l = 3
      · rw [if_pos q3] at h
        cases hs : stk K l with
        | nil => rw [hs] at h; exact absurd h (by simp)
        | cons x y =>
          rw [hs] at h
          have a := stk_top n l (by omega) hs
          have h' : y = o :: r := h
          have b := stk_top n x (by omega) (a.2.1.trans h')
          exact ⟨b.1, b.2.1, by omega⟩
      · rw [if_neg q3] at h
        have a := stk_top n l (by omega) h
        exact ⟨a.1, a.2.1, by omega⟩
/-- the state's loops -/
def fI (K : Int → Int) (lines : Int) (l : Nat) (T : List Int) (st : Int) : Prop := T.length = (stk K l).length ∧ (∀ t ∈ T, 1 ≤ t ∧ t ≤ 48) ∧ (l : Int) ≤ lines ∧ 0 ≤ st ∧ st ≤ 300
/-- what the lines keep -/
def lnO (K C N : Int → Int) (lines nc : Int) : Prop := (∀ l, 0 ≤ l → l < lines → (0 ≤ K l ∧ K l ≤ 3) ∧ (K l = 0 ∨ K l = 1 → 0 ≤ C l ∧ C l < nc) ∧ (K l = 0 ∨ K l = 2 → 1 ≤ N l ∧ N l ≤ 48)) ∧ ∀ l : Nat, (l : Int) < lines → K l = 3 → ∃ o r, stk K l = o :: r
theorem fI_end {K C N : Int → Int} {lines nc : Int} {l : Nat} {T : List Int} {st : Int} (hl : lnO K C N lines nc) (h : fI K lines l T st) (h1 : (l : Int) < lines) (h3 : K l = 3) : ∃ o r t T', stk K l = o :: r ∧ T = t :: T' ∧ (1 ≤ t ∧ t ≤ 48) ∧ (0 < t - 1 → fI K lines (o + 1) ((t - 1) :: T') st) ∧ (¬ 0 < t - 1 → fI K lines (l + 1) T' st) ∧ T'.length = r.length ∧ K o = 2 ∧ stk K o = r ∧ o < l := by
  obtain ⟨o, r, hs⟩ := hl.2 l h1 h3
  obtain ⟨a1, a2, a3, a4⟩ := h
  rw [hs] at a1
  cases T with
  | nil => exact absurd a1 (by simp)
  | cons t T' =>
    have tp := stk_top l l (Nat.le_refl l) hs
    have ht := a2 t (List.mem_cons_self ..)
    have el : T'.length = r.length := by
      simp only [List.length_cons] at a1
      omega
    refine ⟨o, r, t, T', hs, rfl, ht, fun q => ⟨?_, fun x hx => ?_, by omega, a4⟩, fun q => ⟨?_, fun x hx => a2 x (List.mem_cons_of_mem _ hx), by omega, a4⟩, el, tp⟩
    · rw [stk_s, if_pos tp.1, tp.2.1]
      simp only [List.length_cons]
      omega
    · rcases List.mem_cons.mp hx with y | y
      · omega
      · exact a2 x (List.mem_cons_of_mem _ y)
    · rw [stk_s, if_neg (by omega), if_pos h3, hs]
      exact el
theorem sL_nn : ∀ {T : List Int}, (∀ t ∈ T, 1 ≤ t ∧ t ≤ 48) → 0 ≤ sL T
  | [], _ => Int.le_refl _
  | t :: T, h => by
    have a := h t (List.mem_cons_self ..)
    have b := sL_nn (T := T) (fun x hx => h x (List.mem_cons_of_mem _ hx))
    show 0 ≤ t + sL T
    omega
theorem folF_ex {A K C N : Int → Int} {lines nc : Int} (hl : lnO K C N lines nc) : ∀ (f l : Nat) (T : List Int) (st : Int) (s : KS), fI K lines l T st → 49 * (300 - st) + sL T + 1 ≤ f → ∃ r, folF A K C N lines f l T st s = some r
  | 0, l, T, st, s, h, hf => by
    have := sL_nn h.2.1
    have := h.2.2.2
    omega
  | f + 1, l, T, st, s, h, hf => by
    unfold folF
    by_cases q1 : lines ≤ (l : Int)
    · rw [if_pos q1]; exact ⟨_, rfl⟩
    rw [if_neg q1]
    have q1' : (l : Int) < lines := by omega
    have lk := hl.1 l (by omega) q1'
    by_cases q3 : K l = 3
    · rw [if_pos q3]
      obtain ⟨o, r, t, T', hs, hT, ht, e1, e2, -⟩ := fI_end hl h q1' q3
      subst hT
      have sT : sL (t :: T') = t + sL T' := rfl
      show ∃ r, (if 0 < t - 1 then folF A K C N lines f ((stk K l).headD 0 + 1) ((t - 1) :: T') st s else folF A K C N lines f (l + 1) T' st s) = some r
      rw [hs]
      by_cases q : 0 < t - 1
      · rw [if_pos q]
        exact folF_ex hl f (o + 1) _ st s (e1 q) (by
          have sT' : sL ((t - 1) :: T') = t - 1 + sL T' := rfl
          omega)
      · rw [if_neg q]
        exact folF_ex hl f (l + 1) T' st s (e2 q) (by omega)
    rw [if_neg q3]
    by_cases q4 : 300 ≤ st
    · rw [if_pos q4]; exact ⟨_, rfl⟩
    rw [if_neg q4]
    obtain ⟨a1, a2, a3, a4⟩ := h
    by_cases k0 : K l = 0
    · rw [if_pos k0]
      by_cases z : (knN A (C l) (N l).toNat s).1 = -1
      · rw [if_pos z]
        exact folF_ex hl f (l + 1) T (st + 1) _ ⟨by rw [stk_s, if_neg (by omega), if_neg q3]; exact a1, a2, by omega, by omega, by omega⟩ (by omega)
      · rw [if_neg z]; exact ⟨_, rfl⟩
    rw [if_neg k0]
    by_cases k1 : K l = 1
    · rw [if_pos k1]
      exact folF_ex hl f (l + 1) T (st + 1) _ ⟨by rw [stk_s, if_neg (by omega), if_neg q3]; exact a1, a2, by omega, by omega, by omega⟩ (by omega)
    rw [if_neg k1]
    have k2 : K l = 2 := by omega
    have nl := lk.2.2 (Or.inr k2)
    exact folF_ex hl f (l + 1) (N l :: T) (st + 1) s ⟨by rw [stk_s, if_pos k2]; simp only [List.length_cons]; omega, fun x hx => by
      rcases List.mem_cons.mp hx with y | y
      · omega
      · exact a2 x y, by omega, by omega, by omega⟩ (by
      have sT : sL (N l :: T) = N l + sL T := rfl
      omega)
