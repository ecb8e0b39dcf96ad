/-! DIRECTIONS: the model's reader, its relation. -/
/-- the open lines in a memory, the latest last -/
def opR (O : Int → Int) : List Nat → Prop
  | [] => True
  | o :: r => O (r.length : Int) = (o : Int) ∧ opR O r
theorem opR_congr {O O' : Int → Int} : ∀ {s : List Nat}, (∀ k : Int, 0 ≤ k → k < s.length → O' k = O k) → opR O s → opR O' s
  | [], _, _ => trivial
  | o :: r, h, hs => ⟨by rw [h _ (by omega) (by rw [List.length_cons]; omega)]; exact hs.1, opR_congr (fun k k0 k1 => h k k0 (by rw [List.length_cons]; omega)) hs.2⟩
def mDl (M : Mem) (d : DD) : Prop := ∀ l : Nat, l < d.2.2.2.1 → M 141 (2050 + 4 * (l : Int)) = d.1 l ∧ (d.1 l = 0 ∨ d.1 l = 1 → M 141 (2051 + 4 * (l : Int)) = d.2.1 l) ∧ (d.1 l = 0 ∨ d.1 l = 2 → M 141 (2052 + 4 * (l : Int)) = d.2.2.1 l) ∧ (d.1 l = 3 → ∃ o r, stk d.1 l = o :: r ∧ M 141 (2053 + 4 * (l : Int)) = (o : Int))
def mDd (M : Mem) (d : DD) : Prop := M 140 23 = ((opn d).length : Int) ∧ M 140 24 = d.2.2.2.2 ∧ M 141 1935 = (d.2.2.2.1 : Int) ∧ mDl M d ∧ opR (M 148) (opn d)
def mNm (M : Mem) (NW : Int → List Int) (m : Int) : Prop := M 141 2 = m ∧ (0 ≤ m ∧ m ≤ 5) ∧ ∀ k, 0 ≤ k → k < m → M 142 k = c256 (NW k) ∧ lts (NW k)
/-- what the model's reader of directions may change -/
def fS (M M' : Mem) : Prop := (∀ c, c ≠ 140 → c ≠ 141 → c ≠ 148 → M' c = M c) ∧ (∀ i, (i < 12 ∨ i = 16 ∨ (18 < i ∧ i < 23) ∨ 24 < i) → M' 140 i = M 140 i) ∧ ∀ k, k < 1920 → M' 141 k = M 141 k
theorem fS_t {M M' M'' : Mem} (h : fS M M') (h' : fS M' M'') : fS M M'' := ⟨fun c a x y => by rw [h'.1 c a x y, h.1 c a x y], fun i hi => by rw [h'.2.1 i hi, h.2.1 i hi], fun k hk => by rw [h'.2.2 k hk, h.2.2 k hk]⟩
theorem fS_0 {M : Mem} : fS M M := ⟨fun _ _ _ _ => rfl, fun _ _ => rfl, fun _ _ => rfl⟩
theorem fS_A {M M' : Mem} (h : fA M M') : fS M M' := ⟨fun c a _ _ => h.1 c a, fun i hi => h.2 i (by omega), fun k _ => by rw [h.1 141 (by omega)]⟩
theorem fS_w {M M' : Mem} {w q : Int} (h : fS M M') : fS M (up (up M' 140 18 w) 140 17 q) := ⟨fun c a x y => by rw [up_ne a, up_ne a]; exact h.1 c a x y, fun i hi => by rw [up_ne2 (by omega), up_ne2 (by omega)]; exact h.2.1 i hi, fun k hk => by rw [up_ne (by omega), up_ne (by omega)]; exact h.2.2 k hk⟩
theorem fS_141 {M M' : Mem} {j v : Int} (h : fS M M') (hj : 1920 ≤ j) : fS M (up M' 141 j v) := ⟨fun c a x y => by rw [up_ne x]; exact h.1 c a x y, fun i hi => by rw [up_ne (by omega)]; exact h.2.1 i hi, fun k hk => by rw [up_ne2 (by omega)]; exact h.2.2 k hk⟩
theorem fS_140 {M M' : Mem} {j v : Int} (h : fS M M') (hj : j = 23 ∨ j = 24) : fS M (up M' 140 j v) := ⟨fun c a x y => by rw [up_ne a]; exact h.1 c a x y, fun i hi => by rw [up_ne2 (by omega)]; exact h.2.1 i hi, fun k hk => by rw [up_ne (by omega)]; exact h.2.2 k hk⟩
theorem fS_148 {M M' : Mem} {j v : Int} (h : fS M M') : fS M (up M' 148 j v) := ⟨fun c a x y => by rw [up_ne y]; exact h.1 c a x y, fun i hi => by rw [up_ne (by omega)]; exact h.2.1 i hi, fun k hk => by rw [up_ne (by omega)]; exact h.2.2 k hk⟩
theorem mNm_f {M M' : Mem} {NW : Int → List Int} {m : Int} (h : mNm M NW m) (f : fS M M') : mNm M' NW m := ⟨by rw [f.2.2 2 (by omega)]; exact h.1, h.2.1, fun k k0 k1 => by rw [f.1 142 (by omega) (by omega) (by omega)]; exact h.2.2 k k0 k1⟩
theorem mDd_A {M M' : Mem} {d : DD} (h : mDd M d) (f : fA M M') : mDd M' d := by
  unfold mDd mDl at h ⊢
  rw [f.1 141 (by omega), f.1 148 (by omega), f.2 23 (by omega), f.2 24 (by omega)]
  exact h
theorem mDl_add {M M' : Mem} {d : DD} {k c v : Int} (hd : mDl M d) (fr : ∀ j, 1935 < j → j < 2050 + 4 * (d.2.2.2.1 : Int) → M' 141 j = M 141 j) (h0 : M' 141 (2050 + 4 * (d.2.2.2.1 : Int)) = k) (h1 : k = 0 ∨ k = 1 → M' 141 (2051 + 4 * (d.2.2.2.1 : Int)) = c) (h2 : k = 0 ∨ k = 2 → M' 141 (2052 + 4 * (d.2.2.2.1 : Int)) = v) (h3 : k = 3 → ∃ o r, opn d = o :: r ∧ M' 141 (2053 + 4 * (d.2.2.2.1 : Int)) = (o : Int)) : mDl M' (addL d k c v) := by
  intro l hl
  have hl' : l < d.2.2.2.1 + 1 := hl
  have ls : stk (upH d.1 d.2.2.2.1 k) l = stk d.1 l := stk_congr fun j hj => if_neg (by omega)
  show M' 141 (2050 + 4 * (l : Int)) = upH d.1 d.2.2.2.1 k (l : Int) ∧ (upH d.1 d.2.2.2.1 k (l : Int) = 0 ∨ upH d.1 d.2.2.2.1 k (l : Int) = 1 → M' 141 (2051 + 4 * (l : Int)) = upH d.2.1 d.2.2.2.1 c (l : Int)) ∧ (upH d.1 d.2.2.2.1 k (l : Int) = 0 ∨ upH d.1 d.2.2.2.1 k (l : Int) = 2 → M' 141 (2052 + 4 * (l : Int)) = upH d.2.2.1 d.2.2.2.1 v (l : Int)) ∧ (upH d.1 d.2.2.2.1 k (l : Int) = 3 → ∃ o r, stk (upH d.1 d.2.2.2.1 k) l = o :: r ∧ M' 141 (2053 + 4 * (l : Int)) = (o : Int))
  rw [ls]
  by_cases z : l < d.2.2.2.1
  · have u1 : upH d.1 d.2.2.2.1 k (l : Int) = d.1 l := if_neg (by omega)
    have u2 : upH d.2.1 d.2.2.2.1 c (l : Int) = d.2.1 l := if_neg (by omega)
    have u3 : upH d.2.2.1 d.2.2.2.1 v (l : Int) = d.2.2.1 l := if_neg (by omega)
    rw [u1, u2, u3, fr _ (by omega) (by omega), fr _ (by omega) (by omega), fr _ (by omega) (by omega), fr _ (by omega) (by omega)]
    exact hd l z
  · have e : l = d.2.2.2.1 := by omega
    subst e
    have u1 : upH d.1 d.2.2.2.1 k (d.2.2.2.1 : Int) = k := if_pos rfl
    have u2 : upH d.2.1 d.2.2.2.1 c (d.2.2.2.1 : Int) = c := if_pos rfl
    have u3 : upH d.2.2.1 d.2.2.2.1 v (d.2.2.2.1 : Int) = v := if_pos rfl
    rw [u1, u2, u3]
    exact ⟨h0, h1, h2, h3⟩
def mRd (b : Int → Int) (n : Int) (r : PE (Int × DD)) (v : Int) (M : Mem) : Prop := (∀ e, r = .error e → v = 0 ∧ M 140 18 = e.1 ∧ M 140 17 = e.2) ∧ ∀ x, r = .ok x → v = 1 ∧ mAt M b n x.1 ∧ mCl M ∧ mDd M x.2
theorem mRd_e {b : Int → Int} {n : Int} {M : Mem} {e : Int × Int} {r : PE (Int × DD)} (hr : r = .error e) (h2 : M 140 18 = e.1) (h3 : M 140 17 = e.2) : mRd b n r 0 M := ⟨fun e' h => by
  rw [hr] at h
  injection h with h
  subst h
  exact ⟨rfl, h2, h3⟩, fun q h => by
  rw [hr] at h
  injection h⟩
theorem mRd_01 {b : Int → Int} {n : Int} {M : Mem} {r : PE (Int × DD)} {v : Int} (h : mRd b n r v M) : 0 ≤ v ∧ v < 2 := by
  cases hr : r with
  | error e => have := (h.1 e hr).1; omega
  | ok x => have := (h.2 x hr).1; omega
section LNM
variable {X : Int → Int} {M : Mem} {b : Int → Int} {n p m : Int} {d : DD} {NW : Int → List Int}
/-- behind an added line its sign -/
theorem d_fin (g : gT b n) {M1 : Mem} (f0 : fS M M1) {q k c v : Int} (ha : mAt M1 b n q) (hc : mCl M1) (q0 : 0 ≤ q) (q1 : q ≤ n) (hd : mDd M1 (addL d k c v)) : ∃ v' M', fS M M' ∧ mRd b n (bnd (pSign b n q) fun p' => .ok (p', addL d k c v)) v' M' ∧ evc X 251 [vR (some 140), vI 59] SH0 M1 = some (some (vI v'), SH0, M') := by
  obtain ⟨v', Mc, fc, ⟨se, so⟩, e⟩ := d_wantSign (X := X) g ha hc q0 q1
  refine ⟨v', Mc, ?_, ?_, e⟩
  · rcases fc with fc | ⟨w, q, fc⟩
    · exact fS_t f0 (fS_A fc)
    · rw [fc]; exact fS_w f0
  cases hs : pSign b n q with
  | error er =>
    obtain ⟨hv, h2, h3⟩ := se er hs
    subst hv
    exact mRd_e rfl h2 h3
  | ok q' =>
    obtain ⟨hv, hcq, hcl⟩ := so q' hs
    subst hv
    rw [bnd_o]
    refine ⟨fun e h => by injection h, fun x h => ?_⟩
    injection h with h
    subst h
    refine ⟨rfl, hcq, hcl, ?_⟩
    rcases fc with fc | ⟨w, q, fc⟩
    · exact mDd_A hd fc
    · unfold mDd mDl at hd ⊢
      rw [fc, up_ne (show (141 : Nat) ≠ 140 by omega), up_ne (show (141 : Nat) ≠ 140 by omega), up_ne (show (148 : Nat) ≠ 140 by omega), up_ne (show (148 : Nat) ≠ 140 by omega), up_ne2 (show (23 : Int) ≠ 17 by omega), up_ne2 (show (23 : Int) ≠ 18 by omega), up_ne2 (show (24 : Int) ≠ 17 by omega), up_ne2 (show (24 : Int) ≠ 18 by omega)]
      exact hd
end LNM
