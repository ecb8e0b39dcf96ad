/-! VIEWS: what is seen of a chart, by its text's numbers A. -/
def plF (A : Int → Int) (i : Int) : Int := A 0 * (i / A 0) + (if A 14 = 0 ∧ (i / A 0) % 2 = 1 then A 0 - 1 - i % A 0 else i % A 0)
abbrev xH (A : Int → Int) : Int → Int := fun i => A (28 + plF A i)
abbrev xP (A : Int → Int) : Int → Int := fun i => plF A i % A 0
abbrev xR (A : Int → Int) : Int → Int := fun i => i / A 0
abbrev xW (A : Int → Int) : Int → Int := fun k => A (16 + 2 * k)
abbrev xn (A : Int → Int) : Int := A 0 * A 1
def VE (S H P R W : Int → Int) (n : Int) (S' H' P' R' W' : Int → Int) (n' : Int) : Prop := n = n' ∧ (∀ k, 0 ≤ k → k < 15 → S k = S' k) ∧ (∀ i, 0 ≤ i → i < n → H i = H' i ∧ P i = P' i ∧ R i = R' i) ∧ ∀ k, 0 ≤ k → k < S 2 → W k = W' k
theorem ve_way {S H P R W S' H' P' R' W' : Int → Int} {n n' i j : Int} (h : VE S H P R W n S' H' P' R' W' n') : wayF S H P R n i j = wayF S' H' P' R' n' i j := by
  obtain ⟨h1, h2, h3, h4⟩ := h
  unfold wayF
  by_cases q : 0 ≤ i ∧ i < j ∧ j < n
  · have e1 := h3 i q.1 (by omega)
    have e2 := h3 j (by omega) q.2.2
    rw [h2 4 (by omega) (by omega), h2 6 (by omega) (by omega), h2 7 (by omega) (by omega), h2 14 (by omega) (by omega), e1.1, e1.2.1, e1.2.2, e2.1, e2.2.1, e2.2.2, h1]
  · unfold wayV
    rw [if_neg (fun z => q ⟨z.1, z.2.1, z.2.2.1⟩), if_neg (fun z => q ⟨z.1, z.2.1, by rw [h1]; exact z.2.2.1⟩)]
theorem ve_pri {S H P R W S' H' P' R' W' : Int → Int} {n n' i j : Int} (h : VE S H P R W n S' H' P' R' W' n') (g : goodN S H P R n) : priF S H W (wayF S H P R n i j) i j = priF S' H' W' (wayF S' H' P' R' n' i j) i j := by
  rw [← ve_way h]
  obtain ⟨h1, h2, h3, h4⟩ := h
  obtain ⟨gs, gn, gi⟩ := g
  generalize hw : wayF S H P R n i j = w
  unfold priF
  rw [h2 8 (by omega) (by omega), h2 5 (by omega) (by omega), h2 6 (by omega) (by omega)]
  by_cases q4 : w = 4
  · rw [if_pos q4, if_pos q4]
  · rw [if_neg q4, if_neg q4]
    by_cases q3 : w = 3
    · rw [if_pos q3, if_pos q3]
      have hin := wayF_in (S := S) (H := H) (P := P) (R := R) (n := n) (i := i) (j := j) (by omega)
      have p6 : S 6 ≠ 0 := wayF_3 (hw.trans q3)
      have g6 := gs.2.2.2.2.2.2.1
      rw [h2 6 (by omega) (by omega)] at p6 g6
      congr 1
      refine sumN_congr fun m hm => ?_
      have hd0 : 0 ≤ (j - i - 1) / S' 6 := Int.ediv_nonneg (by omega) (by omega)
      have e1 : ((m : Int) + 1) * S' 6 ≤ j - i - 1 := (Int.le_ediv_iff_mul_le (by omega)).mp (by omega)
      rw [Int.mul_comm] at e1
      have e2 : 0 ≤ S' 6 * ((m : Int) + 1) := Int.mul_nonneg (by omega) (by omega)
      have e3 := gi (i + S' 6 * ((m : Int) + 1)) (by omega) (by omega)
      rw [← (h3 (i + S' 6 * ((m : Int) + 1)) (by omega) (by omega)).1, h4 _ e3.1.1 e3.1.2]
    · rw [if_neg q3, if_neg q3]
theorem ve_str {S H P R W S' H' P' R' W' : Int → Int} {n n' i j : Int} (h : VE S H P R W n S' H' P' R' W' n') : strF S P (wayF S H P R n i j) i j = strF S' P' (wayF S' H' P' R' n' i j) i j := by
  rw [← ve_way h]
  obtain ⟨h1, h2, h3, h4⟩ := h
  by_cases q : wayF S H P R n i j = 0
  · rw [q]; rfl
  · have hin := wayF_in q
    unfold strF
    rw [h2 11 (by omega) (by omega), (h3 i hin.1 (by omega)).2.1, (h3 j (by omega) hin.2.2.1).2.1]
theorem ve_lnk {S H P R W S' H' P' R' W' : Int → Int} {n n' byc i j : Int} (h : VE S H P R W n S' H' P' R' W' n') (g : goodN S H P R n) : lnk S H P R W n byc i j = lnk S' H' P' R' W' n' byc i j := by
  unfold lnk
  rw [ve_pri h g, ve_way h]
theorem firstN_congr {f g : Int → Bool} : ∀ {n : Nat}, (∀ i : Nat, i < n → f i = g i) → firstN f n = firstN g n
  | 0, _ => rfl
  | n + 1, h => by
    unfold firstN
    rw [firstN_congr (fun i hi => h i (Nat.lt_succ_of_lt hi)), h n (Nat.lt_succ_self n)]
theorem cntB_congr {q q' : Int → Bool} {n : Nat} (h : ∀ i : Nat, i < n → q i = q' i) : cntB q n = cntB q' n := sumN_congr fun i hi => by rw [h i hi]
theorem ownB_congr {q q' : Int → Bool} {n : Nat} {x : Int} (h : ∀ i : Nat, i < n → q i = q' i) : ownB q n x = ownB q' n x := firstN_congr fun i hi => by
  rw [h i hi, Int.toNat_natCast, cntB_congr (fun j hj => h j (Nat.lt_trans hj hi))]
theorem ve_lstV {S H P R W S' H' P' R' W' : Int → Int} {n n' byc : Int} {qs qg qs' qg' : Int → Bool} (h : VE S H P R W n S' H' P' R' W' n') (g : goodN S H P R n) (h1 : ∀ i : Nat, i < n.toNat → qs i = qs' i) (h2 : ∀ i : Nat, i < n.toNat → qg i = qg' i) : lstV S H P R W n byc qs qg = lstV S' H' P' R' W' n' byc qs' qg' := by
  have e : n = n' := h.1
  unfold lstV
  rw [← e, cntB_congr h1, cntB_congr h2, h.2.1 3 (by omega) (by omega)]
  refine lstF_congr fun x k hx hk => ?_
  rw [ownB_congr h1, ownB_congr h2]
  have e2 := ve_lnk (byc := byc) (i := ownB qs' n.toNat k) (j := ownB qg' n.toNat x) h g
  rw [e2, ← e]
theorem ve_lstH {S H P R W S' H' P' R' W' : Int → Int} {n n' byc k : Int} (h : VE S H P R W n S' H' P' R' W' n') (g : goodN S H P R n) : lstH S H P R W n byc k = lstH S' H' P' R' W' n' byc k := by
  unfold lstH
  refine ve_lstV h g (fun i hi => ?_) (fun i hi => ?_) <;> rw [(h.2.2.1 i (by omega) (by omega)).1]
theorem ve_lstA {S H P R W S' H' P' R' W' : Int → Int} {n n' : Int} (h : VE S H P R W n S' H' P' R' W' n') (g : goodN S H P R n) : lstA S H P R W n = lstA S' H' P' R' W' n' := by
  unfold lstA
  rw [h.2.1 2 (by omega) (by omega)]
  exact sumN_congr fun k _ => ve_lstH h g
theorem ve_sym {S H P R W S' H' P' R' W' : Int → Int} {n n' : Int} (h : VE S H P R W n S' H' P' R' W' n') : VE S' H' P' R' W' n' S H P R W n := by
  obtain ⟨h1, h2, h3, h4⟩ := h
  refine ⟨h1.symm, fun k a b => (h2 k a b).symm, fun i a b => ?_, fun k a b => (h4 k a (by rw [h2 2 (by omega) (by omega)]; exact b)).symm⟩
  have e := h3 i a (by omega)
  exact ⟨e.1.symm, e.2.1.symm, e.2.2.symm⟩
/-- places of a chart of w by h -/
theorem plF_rng {A : Int → Int} {i : Int} (h0 : 0 ≤ i) (h1 : i < A 0 * A 1) (hw : 0 < A 0) : 0 ≤ plF A i ∧ plF A i < A 0 * A 1 ∧ plF A i / A 0 = i / A 0 ∧ 0 ≤ plF A i % A 0 ∧ plF A i % A 0 < A 0 := by
  have d0 := Int.emod_nonneg i (show A 0 ≠ 0 by omega)
  have d1 := Int.emod_lt_of_pos i hw
  have d2 := Int.mul_ediv_add_emod i (A 0)
  have d3 : 0 ≤ i / A 0 := Int.ediv_nonneg h0 (by omega)
  have d4 : i / A 0 < A 1 := Int.ediv_lt_of_lt_mul hw (by rw [Int.mul_comm]; exact h1)
  generalize hx : (if A 14 = 0 ∧ (i / A 0) % 2 = 1 then A 0 - 1 - i % A 0 else i % A 0) = x
  have x0 : 0 ≤ x ∧ x < A 0 := by rw [← hx]; split <;> omega
  have e : plF A i = A 0 * (i / A 0) + x := by unfold plF; rw [hx]
  have e1 : 0 ≤ A 0 * (i / A 0) := Int.mul_nonneg (by omega) d3
  have e2 : A 0 * (i / A 0 + 1) ≤ A 0 * A 1 := Int.mul_le_mul_of_nonneg_left (by omega) (by omega)
  rw [Int.mul_add, Int.mul_one] at e2
  have e3 : plF A i / A 0 = i / A 0 := (div_row hw).mpr ⟨by omega, by omega⟩
  have e4 := Int.mul_ediv_add_emod (plF A i) (A 0)
  rw [e3] at e4
  exact ⟨by omega, by omega, e3, by omega, by omega⟩
/-- a chart in class and model: the class's parts, the model's numbers A, names NM -/
def nmR (a b : Int) : Prop := ∃ w : List Int, 1 ≤ w.length ∧ w.length ≤ 8 ∧ (∀ c ∈ w, 1 ≤ c ∧ c ≤ 26) ∧ a = w.foldl (fun s c => s * 32 + c) 0 ∧ b = w.foldl (fun s c => s * 256 + (c + 96)) 0
def RCh (S N W Y C H P R : Int → Int) (n : Int) (A NM : Int → Int) : Prop :=
  (∀ k, 0 ≤ k → k < 15 → S k = A k) ∧ goodS A ∧ (0 < A 1 → 0 < A 0) ∧ n = A 0 * A 1 ∧ (∀ k, 0 ≤ k → k < 5 → (0 ≤ W k ∧ W k ≤ 9) ∧ (0 ≤ A (16 + 2 * k) ∧ A (16 + 2 * k) ≤ 9) ∧ (0 ≤ Y k ∧ Y k ≤ 99) ∧ 0 ≤ A (17 + 2 * k) ∧ A (17 + 2 * k) ≤ 99) ∧
  (∀ k, 0 ≤ k → k < A 2 → W k = A (16 + 2 * k) ∧ Y k = A (17 + 2 * k) ∧ nmR (N k) (NM k)) ∧ (∀ p, 0 ≤ p → p < A 0 * A 1 → C p = A (28 + p) ∧ 0 ≤ A (28 + p) ∧ A (28 + p) < A 2) ∧
  ∀ i, 0 ≤ i → i < A 0 * A 1 → H i = xH A i ∧ P i = xP A i ∧ R i = xR A i
def RNu (A PO CO : Int → Int) : Prop := ∀ i, 0 ≤ i → i < A 0 * A 1 → PO i = plF A i ∧ CO i = xH A i
def wyA (A : Int → Int) (i j : Int) : Int := wayF A (xH A) (xP A) (xR A) (xn A) i j
def PLok (L E A : Int → Int) : Prop := (∀ i, 0 ≤ i → i < 48 → L i = -1 ∨ (i < L i ∧ L i < xn A ∧ wyA A i (L i) ≠ 0)) ∧ (∀ j, 0 ≤ j → j < 48 → E j = -1 ∨ (0 ≤ E j ∧ E j < j ∧ L (E j) = j)) ∧ ∀ i, 0 ≤ i → i < 48 → L i ≠ -1 → E (L i) = i
theorem xn_pos {A : Int → Int} (gs : goodS A) (h : 0 < xn A) : 0 < A 0 := by
  have g0 := gs.1
  rcases Int.lt_or_eq_of_le g0.1 with z | z
  · exact z
  · unfold xn at h
    rw [← z, Int.zero_mul] at h
    omega
theorem good_A {A : Int → Int} (gs : goodS A) (hc : ∀ p, 0 ≤ p → p < A 0 * A 1 → 0 ≤ A (28 + p) ∧ A (28 + p) < A 2) : goodN A (xH A) (xP A) (xR A) (xn A) := by
  have g0 := gs.1
  have g1 := gs.2.1
  refine ⟨gs, ⟨Int.mul_nonneg g0.1 g1.1, Int.le_trans (Int.mul_le_mul g0.2 g1.2 g1.1 (by omega)) (by omega)⟩, fun i h0 h1 => ?_⟩
  have hw := xn_pos gs (by omega)
  have e := plF_rng h0 h1 hw
  refine ⟨hc _ e.1 e.2.1, e.2.2.2, ?_, ?_⟩
  · exact Int.ediv_nonneg h0 (by omega)
  · exact Int.ediv_lt_of_lt_mul hw (by rw [Int.mul_comm]; exact h1)
theorem rch_A {S N W Y C H P R A NM : Int → Int} {n : Int} (h : RCh S N W Y C H P R n A NM) : goodN A (xH A) (xP A) (xR A) (xn A) := good_A h.2.1 fun p a b => (h.2.2.2.2.2.2.1 p a b).2
theorem rch_ve {S N W Y C H P R A NM : Int → Int} {n : Int} (h : RCh S N W Y C H P R n A NM) : VE S H P R W n A (xH A) (xP A) (xR A) (xW A) (xn A) := by
  obtain ⟨h1, h2, h3, h4, h5, h6, h7, h8⟩ := h
  exact ⟨h4, h1, fun i a b => h8 i a (by rw [← h4]; exact b), fun k a b => (h6 k a (by rw [← h1 2 (by omega) (by omega)]; exact b)).1⟩
theorem ve_goodN {S H P R W S' H' P' R' W' : Int → Int} {n n' : Int} (h : VE S H P R W n S' H' P' R' W' n') (g : goodN S' H' P' R' n') : goodN S H P R n := by
  obtain ⟨h1, h2, h3, h4⟩ := h
  obtain ⟨gs, gn, gi⟩ := g
  have e : ∀ k, 0 ≤ k → k < 15 → S k = S' k := h2
  refine ⟨?_, by rw [h1]; exact gn, fun i a b => ?_⟩
  · unfold goodS at gs ⊢
    rw [e 0 (by omega) (by omega), e 1 (by omega) (by omega), e 2 (by omega) (by omega), e 3 (by omega) (by omega), e 4 (by omega) (by omega), e 5 (by omega) (by omega), e 6 (by omega) (by omega), e 7 (by omega) (by omega), e 8 (by omega) (by omega), e 9 (by omega) (by omega), e 10 (by omega) (by omega), e 11 (by omega) (by omega), e 12 (by omega) (by omega), e 13 (by omega) (by omega), e 14 (by omega) (by omega)]
    exact gs
  · have e2 := h3 i a b
    rw [e2.1, e2.2.1, e2.2.2, e 2 (by omega) (by omega), e 0 (by omega) (by omega), e 1 (by omega) (by omega)]
    exact gi i a (by omega)
theorem rnu_ve {A PO CO : Int → Int} (h : RNu A PO CO) : VE A CO (fun i => PO i % A 0) (fun i => i / A 0) (fun k => A (16 + 2 * k)) (A 0 * A 1) A (xH A) (xP A) (xR A) (xW A) (xn A) :=
  ⟨rfl, fun _ _ _ => rfl, fun i a b => by
    have e := h i a b
    exact ⟨e.2, by show PO i % A 0 = _; rw [e.1], rfl⟩, fun _ _ _ => rfl⟩
