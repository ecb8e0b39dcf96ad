/-! THE RELATION between class and model, in one memory. -/
/-- the chart's, the plan's, the directions' part of a slot of the model's numbers -/
def cA (A : Int → Int) (s : Int) : Int → Int := fun k => if 0 ≤ k ∧ k < 80 then A (s + k) else 0
def gA (A : Int → Int) (s : Int) : Int → Int := fun i => if 0 ≤ i ∧ i < 48 then A (s + 80 + i) else -1
def dA (A : Int → Int) (s : Int) : Int → Int := fun k => if k = 15 ∨ (130 ≤ k ∧ k < 480) then A (s + k) else 0
def nA (N : Int → Int) (s : Int) : Int → Int := fun k => if 0 ≤ k ∧ k < 5 then N (s + k) else 0
theorem cA_at {A : Int → Int} {s k : Int} (h : 0 ≤ k ∧ k < 80) : cA A s k = A (s + k) := if_pos h
theorem cA_0 {A : Int → Int} {k : Int} (h0 : 0 ≤ k) (h1 : k < 80) : cA A 0 k = A k := by
  unfold cA
  rw [if_pos ⟨h0, h1⟩, Int.zero_add]
theorem gA_0 {A : Int → Int} {k : Int} (h0 : 0 ≤ k) (h1 : k < 48) : gA A 0 k = A (80 + k) := by
  unfold gA
  rw [if_pos ⟨h0, h1⟩]
  rfl
theorem cA_c {A A' : Int → Int} {s : Int} (h : ∀ k, s ≤ k → k < s + 80 → A' k = A k) : cA A' s = cA A s := by
  funext k
  unfold cA
  by_cases q : 0 ≤ k ∧ k < 80
  · rw [if_pos q, if_pos q, h _ (by omega) (by omega)]
  · rw [if_neg q, if_neg q]
theorem gA_c {A A' : Int → Int} {s : Int} (h : ∀ k, s + 80 ≤ k → k < s + 128 → A' k = A k) : gA A' s = gA A s := by
  funext k
  unfold gA
  by_cases q : 0 ≤ k ∧ k < 48
  · rw [if_pos q, if_pos q, h _ (by omega) (by omega)]
  · rw [if_neg q, if_neg q]
theorem dA_c {A A' : Int → Int} {s : Int} (h : ∀ k, (k = s + 15 ∨ (s + 130 ≤ k ∧ k < s + 480)) → A' k = A k) : dA A' s = dA A s := by
  funext k
  unfold dA
  by_cases q : k = 15 ∨ (130 ≤ k ∧ k < 480)
  · rw [if_pos q, if_pos q, h _ (by omega)]
  · rw [if_neg q, if_neg q]
theorem nA_c {A A' : Int → Int} {s : Int} (h : ∀ k, s ≤ k → k < s + 5 → A' k = A k) : nA A' s = nA A s := by
  funext k
  unfold nA
  by_cases q : 0 ≤ k ∧ k < 5
  · rw [if_pos q, if_pos q, h _ (by omega) (by omega)]
  · rw [if_neg q, if_neg q]
/-- open loops ahead of a line -/
def stk (K : Int → Int) : Nat → List Nat
  | 0 => []
  | l + 1 => if K l = 2 then l :: stk K l else if K l = 3 then (stk K l).tail else stk K l
def RDi (K C N : Int → Int) (lines there : Int) (D : Int → Int) (nc : Int) : Prop :=
  (D 15 = -1 ∧ there = 0) ∨ (there = 1 ∧ D 15 = lines ∧ 0 ≤ lines ∧ lines ≤ 80 ∧ (∀ l, 0 ≤ l → l < lines → K l = D (130 + 4 * l) ∧ (0 ≤ K l ∧ K l ≤ 3) ∧ (K l = 0 ∨ K l = 1 → C l = D (131 + 4 * l) ∧ 0 ≤ C l ∧ C l < nc) ∧ (K l = 0 ∨ K l = 2 → N l = D (132 + 4 * l) ∧ 1 ≤ N l ∧ N l ≤ 48)) ∧
    (∀ l : Nat, (l : Int) < lines → K l = 3 → ∃ o r, stk K l = o :: r ∧ D (133 + 4 * l) = (o : Int)) ∧ (∀ l : Nat, (l : Int) ≤ lines → (stk K l).length ≤ 3) ∧ stk K lines.toNat = [])
def RT1 (T N so tm tr : Int → Int) (t : Int) : Prop := T 2 = tm t ∧ T 1 = so t ∧ (-1 ≤ tm t ∧ tm t ≤ 60) ∧ (0 ≤ so t ∧ so t ≤ 3) ∧ ∀ j, 0 ≤ j → j < tm t → N j = tr (60 * t + j)
def RTp1 (fed flt flp : Int) (B : Int → Int) (taped fk fp : Int) (MB : Int → Int) : Prop := fed = taped ∧ (0 ≤ fed ∧ fed ≤ 800) ∧ (∀ k, 0 ≤ k → k < fed → B k = MB k ∧ -128 ≤ B k ∧ B k < 128) ∧ flt = fk ∧ flp = fp
def RPl (L E G A : Int → Int) : Prop := (∀ i, 0 ≤ i → i < 48 → L i = G i) ∧ PLok L E A
/-- alterations -/
def altH (H st co : Int → Int) : Nat → Int → Int
  | 0 => H
  | k + 1 => fun i => if i = st k then co k else altH H st co k i
noncomputable def lsA (A H : Int → Int) : Int := lstA A H (xP A) (xR A) (xW A) (xn A)
noncomputable def savF (A H : Int → Int) (i c : Int) : Int := lsA A H - lsA A (fun j => if j = i then c else H j) - A 13
def isB (A H : Int → Int) (i c s : Int) : Prop := ((0 ≤ i ∧ i < xn A) ∧ (0 ≤ c ∧ c < A 2) ∧ c ≠ H i) ∧ s = savF A H i c ∧ ∀ i' c', (0 ≤ i' ∧ i' < xn A) → (0 ≤ c' ∧ c' < A 2) → c' ≠ H i' → savF A H i' c' ≤ s ∧ (i' < i ∨ (i' = i ∧ c' < c) → savF A H i' c' < s)
def RAl (found told1 : Int) (T st co sv S H P R W : Int → Int) (n : Int) (fm : Int) (ft A : Int → Int) : Prop :=
  (told1 = fm ∧ (0 ≤ fm ∧ fm ≤ 4) ∧ ∀ k, 0 ≤ k → k < 3 * fm → T k = ft k) ∧ (0 ≤ found ∧ found ≤ 4) ∧
  (0 < found → (0 < xn A ∧ 1 < A 2) ∧ VE S H P R W n A (altH (xH A) st co (found - 1).toNat) (xP A) (xR A) (xW A) (xn A) ∧ ∀ k, 0 ≤ k → k < 5 → 0 ≤ W k ∧ W k ≤ 9) ∧
  (∀ k : Nat, (k : Int) < found → isB A (altH (xH A) st co k) (st k) (co k) (sv k)) ∧ ∀ k : Nat, (k : Int) + 1 < found → 0 < sv k
def RFo1 (kn ba pr ste hr fr : Int) (L E T : Int → Int) (it ifo : Int) (laid A : Int → Int) : Prop :=
  (hr = it ∧ (it = 0 ∨ it = 1) ∧ (it = 1 → kn = T 0 ∧ ba = T 1 ∧ pr = T 2 ∧ ste = T 3)) ∧ fr = ifo ∧ (ifo = 0 ∨ ifo = 1) ∧ (ifo = 1 → RPl L E laid A)
def RTb (M : Mem) : Prop := M 0 1 = M 140 3 ∧ M 0 2 = M 140 4
def RTr (M : Mem) : Prop := RT1 (M 81) (M 82) (M (140 + 3)) (M (140 + 4)) (M (140 + 5)) 0 ∧ RT1 (M 83) (M 84) (M (140 + 3)) (M (140 + 4)) (M (140 + 5)) 1 ∧ RT1 (M 85) (M 86) (M (140 + 3)) (M (140 + 4)) (M (140 + 5)) 2 ∧ RT1 (M 87) (M 88) (M (140 + 3)) (M (140 + 4)) (M (140 + 5)) 3
/-- the reader's draft keeps what it shows and its yarns in their ranges -/
def RX (M : Mem) : Prop := ∀ k, 0 ≤ k → k < 5 → (0 ≤ M 25 k ∧ M 25 k ≤ 9) ∧ 0 ≤ M 26 k ∧ M 26 k ≤ 99
def RTp (M : Mem) : Prop := RTp1 (M 2 1) (M 2 2) (M 2 3) (M 3) (M 140 10) (M 140 16) (M 140 17) (M (140 + 6)) ∧ RX M
def RC1 (M : Mem) (c : Nat) (A NM : Int → Int) : Prop := RCh (M (c + 1)) (M (c + 2)) (M (c + 3)) (M (c + 4)) (M (c + 5)) (M (c + 6)) (M (c + 7)) (M (c + 8)) (M c 8) A NM
def RC (M : Mem) : Prop := RC1 M 4 (cA (M (140 + 1)) 0) (nA (M (140 + 2)) 0)
def RN (M : Mem) : Prop := RNu (cA (M (140 + 1)) 0) (M (140 + 9)) (M (140 + 10))
def RP (M : Mem) : Prop := RPl (M (13 + 1)) (M (13 + 2)) (gA (M (140 + 1)) 0) (cA (M (140 + 1)) 0)
def RD (M : Mem) : Prop := RDi (M 17) (M 18) (M 19) (M 16 3) (M 16 5) (dA (M (140 + 1)) 0) (cA (M (140 + 1)) 0 2)
def RM1 (M : Mem) (c p d : Nat) (s t : Int) : Prop := RC1 M c (cA (M (140 + 1)) s) (nA (M (140 + 2)) t) ∧ RPl (M (p + 1)) (M (p + 2)) (gA (M (140 + 1)) s) (cA (M (140 + 1)) s) ∧ RDi (M (d + 1)) (M (d + 2)) (M (d + 3)) (M d 3) (M d 5) (dA (M (140 + 1)) s) (cA (M (140 + 1)) s 2)
def RM (M : Mem) : Prop := M 0 9 = M 140 55 ∧ (0 ≤ M 0 9 ∧ M 0 9 ≤ 3) ∧ (0 < M 0 9 → RM1 M 90 99 102 480 5) ∧ (1 < M 0 9 → RM1 M 107 116 119 960 10) ∧ (2 < M 0 9 → RM1 M 124 133 136 1440 15)
def RF (M : Mem) : Prop := RFo1 (M 60 1) (M 60 2) (M 60 3) (M 60 4) (M 60 5) (M 60 6) (M 62) (M 63) (M 167) (M 140 54) (M 140 21) (M 166) (cA (M (140 + 1)) 0)
def RA (M : Mem) : Prop := RAl (M 46 3) (M 46 4) (M 50) (M 47) (M 48) (M 49) (M (51 + 1)) (M (51 + 6)) (M (51 + 7)) (M (51 + 8)) (M (51 + 3)) (M 51 8) (M 140 41) (M 160) (cA (M (140 + 1)) 0)
def RR' (M : Mem) : Prop := RTb M ∧ RTr M ∧ RTp M ∧ RC M ∧ RN M ∧ RP M ∧ RD M ∧ RM M ∧ RF M ∧ RA M
def RR (M : Mem) : Prop := RR' M ∧ M 0 0 = M 140 2
/-- both answer alike, and stay related -/
def OP (X : Int → Int) (kc : Nat) (ac : List PV) (km : Nat) (am : List PV) (M : Mem) : Prop := ∃ v M1 M2, evc X kc (vR (some 0) :: ac) SH0 M = some (some v, SH0, M1) ∧ evc X km (vR (some 140) :: am) SH0 M1 = some (some v, SH0, M2) ∧ RR M2
/-- a call that changes only scratch and the status -/
def RO (M M' : Mem) (st : Int) : Prop := (∀ b, 0 < b → (b < 36 ∨ 45 < b) → (b < 67 ∨ 80 < b) → M' b = M b) ∧ (∀ i, i ≠ 0 → M' 0 i = M 0 i) ∧ M' 0 0 = st
def ROm (M M' : Mem) (st : Int) : Prop := (∀ b, b ≠ 140 → (b < 151 ∨ (159 < b ∧ b < 161) ∨ 163 < b) → M' b = M b) ∧ (∀ i, (i < 36 ∨ i = 40 ∨ i = 41 ∨ 43 < i) → i ≠ 2 → M' 140 i = M 140 i) ∧ M' 140 2 = st
theorem RC1_c {M M' : Mem} {c : Nat} {A NM : Int → Int} (h : ∀ b, c ≤ b → b ≤ c + 8 → M' b = M b) (r : RC1 M c A NM) : RC1 M' c A NM := by
  unfold RC1 at r ⊢
  rw [h c (by omega) (by omega), h (c + 1) (by omega) (by omega), h (c + 2) (by omega) (by omega), h (c + 3) (by omega) (by omega), h (c + 4) (by omega) (by omega), h (c + 5) (by omega) (by omega), h (c + 6) (by omega) (by omega), h (c + 7) (by omega) (by omega), h (c + 8) (by omega) (by omega)]
  exact r
theorem RM1_c {M M' : Mem} {c p d : Nat} {s t : Int} (h : ∀ b, c ≤ b → b ≤ c + 8 → M' b = M b) (hp : M' (p + 1) = M (p + 1) ∧ M' (p + 2) = M (p + 2)) (hd : M' d = M d ∧ M' (d + 1) = M (d + 1) ∧ M' (d + 2) = M (d + 2) ∧ M' (d + 3) = M (d + 3)) (ha : ∀ k, s ≤ k → k < s + 480 → M' (140 + 1) k = M (140 + 1) k) (hn : ∀ k, t ≤ k → k < t + 5 → M' (140 + 2) k = M (140 + 2) k) (r : RM1 M c p d s t) : RM1 M' c p d s t := by
  unfold RM1 at r ⊢
  have e1 : cA (M' (140 + 1)) s = cA (M (140 + 1)) s := cA_c fun k a b => ha k a (by omega)
  have e2 : gA (M' (140 + 1)) s = gA (M (140 + 1)) s := gA_c fun k a b => ha k (by omega) (by omega)
  have e3 : dA (M' (140 + 1)) s = dA (M (140 + 1)) s := dA_c fun k a => ha k (by omega) (by omega)
  have e4 : nA (M' (140 + 2)) t = nA (M (140 + 2)) t := nA_c hn
  rw [hp.1, hp.2, hd.1, hd.2.1, hd.2.2.1, hd.2.2.2, e1, e2, e3, e4]
  exact ⟨RC1_c h r.1, r.2⟩
/-- the relation reads no scratch -/
theorem RR_c {M M' : Mem} (h0 : ∀ i, i ≠ 0 → M' 0 i = M 0 i) (h1 : ∀ b, 0 < b → (b < 27 ∨ 45 < b) → (b < 64 ∨ 80 < b) → (b < 140 ∨ (140 < b ∧ b < 147) ∨ b = 149 ∨ b = 150 ∨ b = 160 ∨ b = 166 ∨ b = 167) → M' b = M b) (h2 : ∀ i, i = 3 ∨ i = 4 ∨ i = 10 ∨ i = 16 ∨ i = 17 ∨ i = 21 ∨ i = 41 ∨ i = 54 ∨ i = 55 → M' 140 i = M 140 i) (r : RR' M) : RR' M' := by
  obtain ⟨r1, r2, r3, r4, r5, r6, r7, r8, r9, r10⟩ := r
  have a1 := h1 (140 + 1) (by omega) (by omega) (by omega) (by omega)
  have a2 := h1 (140 + 2) (by omega) (by omega) (by omega) (by omega)
  refine ⟨?_, ?_, ?_, ?_, ?_, ?_, ?_, ?_, ?_, ?_⟩
  · unfold RTb at r1 ⊢
    rw [h0 1 (by omega), h0 2 (by omega), h2 3 (by omega), h2 4 (by omega)]
    exact r1
  · unfold RTr at r2 ⊢
    rw [h1 81 (by omega) (by omega) (by omega) (by omega), h1 82 (by omega) (by omega) (by omega) (by omega), h1 83 (by omega) (by omega) (by omega) (by omega), h1 84 (by omega) (by omega) (by omega) (by omega), h1 85 (by omega) (by omega) (by omega) (by omega), h1 86 (by omega) (by omega) (by omega) (by omega), h1 87 (by omega) (by omega) (by omega) (by omega), h1 88 (by omega) (by omega) (by omega) (by omega), h1 (140 + 3) (by omega) (by omega) (by omega) (by omega), h1 (140 + 4) (by omega) (by omega) (by omega) (by omega), h1 (140 + 5) (by omega) (by omega) (by omega) (by omega)]
    exact r2
  · unfold RTp RX at r3 ⊢
    rw [h1 25 (by omega) (by omega) (by omega) (by omega), h1 26 (by omega) (by omega) (by omega) (by omega), h1 2 (by omega) (by omega) (by omega) (by omega), h1 3 (by omega) (by omega) (by omega) (by omega), h1 (140 + 6) (by omega) (by omega) (by omega) (by omega), h2 10 (by omega), h2 16 (by omega), h2 17 (by omega)]
    exact r3
  · unfold RC at r4 ⊢
    rw [a1, a2]
    exact RC1_c (fun b x y => h1 b (by omega) (by omega) (by omega) (by omega)) r4
  · unfold RN at r5 ⊢
    rw [a1, h1 (140 + 9) (by omega) (by omega) (by omega) (by omega), h1 (140 + 10) (by omega) (by omega) (by omega) (by omega)]
    exact r5
  · unfold RP at r6 ⊢
    rw [a1, h1 (13 + 1) (by omega) (by omega) (by omega) (by omega), h1 (13 + 2) (by omega) (by omega) (by omega) (by omega)]
    exact r6
  · unfold RD at r7 ⊢
    rw [a1, h1 16 (by omega) (by omega) (by omega) (by omega), h1 17 (by omega) (by omega) (by omega) (by omega), h1 18 (by omega) (by omega) (by omega) (by omega), h1 19 (by omega) (by omega) (by omega) (by omega)]
    exact r7
  · unfold RM at r8 ⊢
    rw [h0 9 (by omega), h2 55 (by omega)]
    refine ⟨r8.1, r8.2.1, fun z => RM1_c (fun b x y => h1 b (by omega) (by omega) (by omega) (by omega)) ⟨h1 _ (by omega) (by omega) (by omega) (by omega), h1 _ (by omega) (by omega) (by omega) (by omega)⟩ ⟨h1 _ (by omega) (by omega) (by omega) (by omega), h1 _ (by omega) (by omega) (by omega) (by omega), h1 _ (by omega) (by omega) (by omega) (by omega), h1 _ (by omega) (by omega) (by omega) (by omega)⟩ (fun k _ _ => by rw [a1]) (fun k _ _ => by rw [a2]) (r8.2.2.1 z),
      fun z => RM1_c (fun b x y => h1 b (by omega) (by omega) (by omega) (by omega)) ⟨h1 _ (by omega) (by omega) (by omega) (by omega), h1 _ (by omega) (by omega) (by omega) (by omega)⟩ ⟨h1 _ (by omega) (by omega) (by omega) (by omega), h1 _ (by omega) (by omega) (by omega) (by omega), h1 _ (by omega) (by omega) (by omega) (by omega), h1 _ (by omega) (by omega) (by omega) (by omega)⟩ (fun k _ _ => by rw [a1]) (fun k _ _ => by rw [a2]) (r8.2.2.2.1 z),
      fun z => RM1_c (fun b x y => h1 b (by omega) (by omega) (by omega) (by omega)) ⟨h1 _ (by omega) (by omega) (by omega) (by omega), h1 _ (by omega) (by omega) (by omega) (by omega)⟩ ⟨h1 _ (by omega) (by omega) (by omega) (by omega), h1 _ (by omega) (by omega) (by omega) (by omega), h1 _ (by omega) (by omega) (by omega) (by omega), h1 _ (by omega) (by omega) (by omega) (by omega)⟩ (fun k _ _ => by rw [a1]) (fun k _ _ => by rw [a2]) (r8.2.2.2.2 z)⟩
  · unfold RF at r9 ⊢
    rw [a1, h1 60 (by omega) (by omega) (by omega) (by omega), h1 62 (by omega) (by omega) (by omega) (by omega), h1 63 (by omega) (by omega) (by omega) (by omega), h1 166 (by omega) (by omega) (by omega) (by omega), h1 167 (by omega) (by omega) (by omega) (by omega), h2 54 (by omega), h2 21 (by omega)]
    exact r9
  · unfold RA at r10 ⊢
    rw [a1, h1 46 (by omega) (by omega) (by omega) (by omega), h1 47 (by omega) (by omega) (by omega) (by omega), h1 48 (by omega) (by omega) (by omega) (by omega), h1 49 (by omega) (by omega) (by omega) (by omega), h1 50 (by omega) (by omega) (by omega) (by omega), h1 51 (by omega) (by omega) (by omega) (by omega), h1 (51 + 1) (by omega) (by omega) (by omega) (by omega), h1 (51 + 3) (by omega) (by omega) (by omega) (by omega), h1 (51 + 6) (by omega) (by omega) (by omega) (by omega), h1 (51 + 7) (by omega) (by omega) (by omega) (by omega), h1 (51 + 8) (by omega) (by omega) (by omega) (by omega), h1 160 (by omega) (by omega) (by omega) (by omega), h2 41 (by omega)]
    exact r10
theorem RO_rr {M M' : Mem} {st : Int} (h : RO M M' st) (r : RR' M) : RR' M' := RR_c h.2.1 (fun b a b1 b2 b3 => h.1 b a (by omega) (by omega)) (fun i _ => by rw [h.1 140 (by omega) (by omega) (by omega)]) r
theorem ROm_rr {M M' : Mem} {st : Int} (h : ROm M M' st) (r : RR' M) : RR' M' := RR_c (fun i _ => by rw [h.1 0 (by omega) (by omega)]) (fun b a b1 b2 b3 => h.1 b (by omega) (by omega)) (fun i hi => h.2.1 i (by omega) (by omega)) r
theorem op_ro {X : Int → Int} {kc km : Nat} {ac am : List PV} {M M1 M2 : Mem} {v : PV} {st : Int} (h : RR' M) (e1 : evc X kc (vR (some 0) :: ac) SH0 M = some (some v, SH0, M1)) (r1 : RO M M1 st) (e2 : evc X km (vR (some 140) :: am) SH0 M1 = some (some v, SH0, M2)) (r2 : ROm M1 M2 st) : OP X kc ac km am M :=
  ⟨v, M1, M2, e1, e2, ROm_rr r2 (RO_rr r1 h), by rw [r2.1 0 (by omega) (by omega), r2.2.2, r1.2.2]⟩
